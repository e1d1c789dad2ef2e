/-! the model reads its text -/
def m_text (w : ab_W) (n : Nat) (by' : Nat → Int) : Prop := w 39 0 = n ∧ n ≤ 35 ∧ ∀ k, k < n → w 40 k = by' k ∧ 0 ≤ by' k ∧ by' k ≤ 255
def x_bt (n : Nat) (by' : Nat → Int) (a : Nat) : Int := if a < n then by' a else -1
section MText28
variable {Ls d : Nat} {w : ab_W} {q : Option ab_V → ab_W → Prop} {n : Nat} {by' : Nat → Int}
theorem q_byteAt (ht : m_text w n by') {a : Nat} : Sm Ls (d + 1) 112 [vR 39, vI a] w q = q (some (vI (x_bt n by' a))) w := by
  obtain ⟨h1, hn, hb⟩ := ht
  rw [en_112]
  simp only [↓e_iload1, ↓e_aload0, ↓g_39_0, ↓e_cmp_ge, ↓g_39_1, ↓e_goto, ↓e_iconst, ↓e_iret, ↓x_40, ↓e_nil, b_112_0, b_112_1, b_112_2, ↓ev_112_1, ↓ev_112_2, h1]
  unfold x_bt
  by_cases ha : a < n
  · have h2 : ¬ (n : Int) ≤ (a : Int) := by omega
    have h3 : 0 ≤ (a : Int) ∧ (a : Int) < 35 := by omega
    rw [if_pos ha]
    simp only [h2, h3, (hb a ha).1, and_self, true_and, false_implies, not_false_eq_true, true_implies]
  · have h2 : (n : Int) ≤ (a : Int) := by omega
    rw [if_neg ha]
    simp only [h2, not_true_eq_false, false_implies, true_implies, and_true]
theorem x_bt_in (ht : m_text w n by') (a : Nat) : -1 ≤ x_bt n by' a ∧ x_bt n by' a ≤ 255 := by
  unfold x_bt
  split
  · rename_i h; have := (ht.2.2 a h).2; omega
  · omega
theorem q_readsRunner (ht : m_text w n by') {k a : Nat} (hk : k < 16) (ha : a < 100) (h0 : x_sort (x_bt n by' a) = -1 → q (some (vI 0)) w) (h1 : x_sort (x_bt n by' a) ≠ -1 → ¬ (1 ≤ x_bt n by' (a + 1) - 48 ∧ x_bt n by' (a + 1) - 48 ≤ 9) → q (some (vI 1)) w)
    (h2 : x_sort (x_bt n by' a) ≠ -1 → (1 ≤ x_bt n by' (a + 1) - 48 ∧ x_bt n by' (a + 1) - 48 ≤ 9) → q (some (vI 2)) (ab_up (ab_up w 41 k (x_sort (x_bt n by' a))) 42 k (x_bt n by' (a + 1) - 48))) : Sm Ls (d + 2) 113 [vR 39, vI k, vI a] w q := by
  have hr1 := x_bt_in ht a
  have hr2 := x_bt_in ht (a + 1)
  have hk16 : ¬ 16 ≤ (k : Int) := by omega
  have hin : 0 ≤ (k : Int) ∧ (k : Int) < 20 := by omega
  have hbt : ∀ Q' : Option ab_V → ab_W → Prop, Sm Ls (d + 1) 112 [vR 39, vI ((a : Int) + 1)] w Q' = Q' (some (vI (x_bt n by' (a + 1)))) w := fun Q' => q_byteAt ht (a := a + 1)
  obtain ⟨w1, w2⟩ : iW ((a : Int) + 1) = (a : Int) + 1 ∧ iW (x_bt n by' (a + 1) - 48) = x_bt n by' (a + 1) - 48 := ⟨iW_id (by omega) (by omega), iW_id (by omega) (by omega)⟩
  have h4 : ∀ s : Int, s = x_sort (x_bt n by' a) → Ev Ls (Sm Ls (d + 1)) q bk_113 4 [vR 39, vI k, vI a, vI (x_bt n by' a), vX, vX] [vI s] w := fun s hs => by
    rw [ev_113_4]
    simp only [↓e_aload0, ↓e_iload2, ↓e_cv2, i_39, e_rpn, e_rps, e_few0, e_few1, e_few2, e_few3, e_few4, ↓e_istore3, e_klI, e_klR, e_klX, e_klL, ↓e_iload3, ↓e_bipush, ↓e_cmp_ne, ↓e_iconst, ↓e_goto, ↓e_istore4, ↓e_iadd, ↓e_isub, ↓e_istore5, ↓e_iload1, ↓e_cmp_ge, ↓e_iload4, ↓e_iret, ↓e_iload5, ↓e_cs3, ↓e_if_ne, ↓g_39_3, ↓g_39_4, ↓y_41, ↓y_42, ↓e_nil, b_113_0, b_113_1, b_113_2, b_113_3, b_113_4, b_113_5, b_113_6, b_113_7, ↓ev_113_5, ↓ev_113_6, ↓ev_113_7, w1, hbt, w2, hk16, hin, true_and, false_implies, not_false_eq_true, true_implies, q_in, ab_yn, and_self]
    rw [hs]
    refine ⟨fun hne => ⟨fun hp => ⟨fun _ => h2 hne hp, fun z => absurd (by decide) z⟩, fun hp => ⟨fun z => absurd trivial z, fun _ => h1 hne hp⟩⟩, fun hne => h0 (by clear w1 w2; omega)⟩
  rw [en_113]
  simp only [↓e_aload0, ↓e_iload2, ↓e_cv2, i_39, e_rpn, e_rps, e_few0, e_few1, e_few2, e_few3, e_few4, ↓e_istore3, e_klI, e_klR, e_klX, e_klL, ↓e_iload3, ↓e_bipush, ↓e_cmp_ne, ↓e_iconst, ↓e_goto, ↓e_istore4, ↓e_iadd, ↓e_isub, ↓e_istore5, ↓e_iload1, ↓e_cmp_ge, ↓e_iload4, ↓e_iret, ↓e_iload5, ↓e_cs3, ↓e_if_ne, ↓g_39_3, ↓g_39_4, ↓y_41, ↓y_42, ↓e_nil, b_113_0, b_113_1, b_113_2, b_113_3, b_113_4, b_113_5, b_113_6, b_113_7, q_byteAt ht, true_and]
  simp only [↓e_aload0, ↓e_iload2, ↓e_cv2, i_39, e_rpn, e_rps, e_few0, e_few1, e_few2, e_few3, e_few4, ↓e_istore3, e_klI, e_klR, e_klX, e_klL, ↓e_iload3, ↓e_bipush, ↓e_cmp_ne, ↓e_iconst, ↓e_goto, ↓e_istore4, ↓e_iadd, ↓e_isub, ↓e_istore5, ↓e_iload1, ↓e_cmp_ge, ↓e_iload4, ↓e_iret, ↓e_iload5, ↓e_cs3, ↓e_if_ne, ↓g_39_3, ↓g_39_4, ↓y_41, ↓y_42, ↓e_nil, b_113_0, b_113_1, b_113_2, b_113_3, b_113_4, b_113_5, b_113_6, b_113_7, ↓ev_113_1, ↓ev_113_2, ↓ev_113_3]
  unfold x_sort at h4
  refine ⟨fun g1 => ⟨fun g2 => ⟨fun g3 => h4 _ ?_, fun g3 => h4 _ ?_⟩, fun g2 => h4 _ ?_⟩, fun g1 => h4 _ ?_⟩
  · rw [if_neg g1, if_neg g2, if_neg g3]
  · rw [if_neg g1, if_neg g2, if_pos (by clear w1 w2; omega)]
  · rw [if_neg g1, if_pos (by clear w1 w2; omega)]
  · rw [if_pos (by clear w1 w2; omega)]
/-- place j of team t is well -/
def x_gb (n : Nat) (by' : Nat → Int) (t j : Nat) : Prop := 9 * t + j < n ∧ x_go by' (9 * t + j)
theorem x_gb_s {t l : Nat} (hl : l < 4) : x_gb n by' t (2 * l) ↔ x_sort (x_bt n by' (9 * t + 2 * l)) ≠ -1 := by
  unfold x_gb x_go x_bt
  rw [if_neg (by omega), if_pos (by omega)]
  by_cases h : 9 * t + 2 * l < n
  · rw [if_pos h]; exact ⟨fun z => z.2, fun z => ⟨h, z⟩⟩
  · rw [if_neg h]; exact ⟨fun z => absurd z.1 h, fun z => absurd (by decide) z⟩
theorem x_gb_p {t l : Nat} (hl : l < 4) : x_gb n by' t (2 * l + 1) ↔ (1 ≤ x_bt n by' (9 * t + 2 * l + 1) - 48 ∧ x_bt n by' (9 * t + 2 * l + 1) - 48 ≤ 9) := by
  unfold x_gb x_go x_bt
  rw [if_neg (by omega), if_neg (by omega)]
  rw [show 9 * t + (2 * l + 1) = 9 * t + 2 * l + 1 by omega]
  by_cases h : 9 * t + 2 * l + 1 < n
  · rw [if_pos h]; omega
  · rw [if_neg h]; omega
theorem q_readsTeam (ht : m_text w n by') {t : Nat} (ht4 : t < 4)
    (h : ∀ (g : Nat) (w' : ab_W), g ≤ 8 → (∀ j, j < g → x_gb n by' t j) → (g < 8 → ¬ x_gb n by' t g) → (∀ p, p ≠ 41 → p ≠ 42 → w' p = w p) → (∀ i : Int, ¬ (4 * (t : Int) ≤ i ∧ i < 4 * (t : Int) + 4) → w' 41 i = w 41 i ∧ w' 42 i = w 42 i) → (g = 8 → ∀ l : Nat, l < 4 → w' 41 (4 * (t : Int) + l) = x_so by' t l ∧ w' 42 (4 * (t : Int) + l) = x_pa by' t l) → q (some (vI g)) w') : Sm Ls (d + 3) 114 [vR 39, vI t, vI (9 * (t : Int))] w q := by
  have key : ∀ (k l : Nat), l + k = 4 → ∀ (x : ab_W) (y : ab_V), (∀ j, j < 2 * l → x_gb n by' t j) → (∀ p, p ≠ 41 → p ≠ 42 → x p = w p) → (∀ i : Int, ¬ (4 * (t : Int) ≤ i ∧ i < 4 * (t : Int) + 4) → x 41 i = w 41 i ∧ x 42 i = w 42 i) → (∀ l' : Nat, l' < l → x 41 (4 * (t : Int) + l') = x_so by' t l' ∧ x 42 (4 * (t : Int) + l') = x_pa by' t l') → Ev Ls (Sm Ls (d + 2)) q bk_114 1 [vR 39, vI t, vI (9 * (t : Int)), vI l, y] [] x := by
    intro k
    induction k with
    | zero =>
      intro l hl x y x1 x2 x3 x4
      have : l = 4 := by omega
      subst this
      have hfin := h 8 x (by omega) x1 (fun z => by omega) x2 x3 (fun _ => x4)
      rw [ev_114_1]
      simp only [↓e_iconst, ↓e_istore3, e_klI, e_klR, e_klX, e_klL, ↓e_iload3, ↓e_cmp_ge, ↓e_aload0, ↓e_iload1, ↓e_imul, ↓e_iadd, ↓e_iload2, ↓e_cv3, i_39, e_rpn, e_rps, e_few0, e_few1, e_few2, e_few3, e_few4, ↓e_istore4, ↓e_iload4, ↓e_iret, ↓e_iinc3, ↓e_goto, ↓e_bipush, ↓e_nil, b_114_0, b_114_1, b_114_2, b_114_3, ↓ev_114_3]
      exact ⟨fun _ => hfin, fun z => absurd (by decide) z⟩
    | succ k ih =>
      intro l hl x y x1 x2 x3 x4
      have hl4 : ¬ 4 ≤ (l : Int) := by omega
      have htx : m_text x n by' := ⟨by rw [x2 39 (by omega) (by omega)]; exact ht.1, ht.2.1, fun k hk => by rw [x2 40 (by omega) (by omega)]; exact ht.2.2 k hk⟩
      have hg1 := x_gb_s (n := n) (by' := by') (t := t) (l := l) (by omega)
      have hg2 := x_gb_p (n := n) (by' := by') (t := t) (l := l) (by omega)
      have e1 : ((4 * t + l : Nat) : Int) = 4 * (t : Int) + l := by omega
      have e2 : ((9 * t + 2 * l : Nat) : Int) = 9 * (t : Int) + 2 * (l : Int) := by omega
      -- a bad sort
      have b0 : ¬ x_gb n by' t (2 * l) → q (some (vI (2 * (l : Int) + 0))) x := fun hz => by
        have := h (2 * l) x (by omega) x1 (fun _ => hz) x2 x3 (fun z => by omega)
        rw [show ((2 * l : Nat) : Int) = 2 * (l : Int) + 0 by omega] at this
        exact this
      have b1 : x_gb n by' t (2 * l) → ¬ x_gb n by' t (2 * l + 1) → q (some (vI (2 * (l : Int) + 1))) x := fun hy hz => by
        have := h (2 * l + 1) x (by omega) (fun j hj => by
          by_cases hjl : j = 2 * l
          · rw [hjl]; exact hy
          · exact x1 j (by omega)) (fun _ => hz) x2 x3 (fun z => by omega)
        rw [show ((2 * l + 1 : Nat) : Int) = 2 * (l : Int) + 1 by omega] at this
        exact this
      have b2 : x_gb n by' t (2 * l) → x_gb n by' t (2 * l + 1) → ∀ z : ab_V, Ev Ls (Sm Ls (d + 2)) q bk_114 1 [vR 39, vI t, vI (9 * (t : Int)), vI ((l : Int) + 1), z] [] (ab_up (ab_up x 41 (4 * (t : Int) + l) (x_sort (x_bt n by' (9 * t + 2 * l)))) 42 (4 * (t : Int) + l) (x_bt n by' (9 * t + 2 * l + 1) - 48)) := fun hy hz z => by
        refine ih (l + 1) (by omega) _ z (fun j hj => ?_) (fun p p1 p2 => by rw [ab_up_ne p2, ab_up_ne p1]; exact x2 p p1 p2) (fun i hi => ?_) (fun l' hl' => ?_)
        · by_cases hj1 : j = 2 * l
          · rw [hj1]; exact hy
          · by_cases hj2 : j = 2 * l + 1
            · rw [hj2]; exact hz
            · exact x1 j (by omega)
        · rw [ab_up_p (by omega), ab_up_nj (by omega), ab_up_nj (by omega), ab_up_p (by omega)]; exact x3 i hi
        · by_cases hll : l' = l
          · subst hll
            rw [ab_up_p (by omega), ab_up_at, ab_up_at]
            unfold x_so x_pa x_bt
            rw [if_pos hy.1, if_pos (by have := hz.1; omega)]
            exact ⟨rfl, rfl⟩
          · rw [ab_up_p (by omega), ab_up_nj (by omega), ab_up_nj (by omega), ab_up_p (by omega)]; exact x4 l' (by omega)
      have hcall : ∀ Q' : Option ab_V → ab_W → Prop, (¬ x_gb n by' t (2 * l) → Q' (some (vI 0)) x) → (x_gb n by' t (2 * l) → ¬ x_gb n by' t (2 * l + 1) → Q' (some (vI 1)) x) → (x_gb n by' t (2 * l) → x_gb n by' t (2 * l + 1) → Q' (some (vI 2)) (ab_up (ab_up x 41 (4 * (t : Int) + l) (x_sort (x_bt n by' (9 * t + 2 * l)))) 42 (4 * (t : Int) + l) (x_bt n by' (9 * t + 2 * l + 1) - 48))) → Sm Ls (d + 2) 113 [vR 39, vI (4 * (t : Int) + l), vI (9 * (t : Int) + 2 * (l : Int))] x Q' := fun Q' q0 q1 q2 => by
        rw [← e1, ← e2]
        refine q_readsRunner htx (by omega) (by omega) (fun hz => q0 (fun hy => hg1.mp hy hz)) (fun hy hz => q1 (hg1.mpr hy) (fun hx => hz (hg2.mp hx))) (fun hy hz => ?_)
        rw [e1]
        exact q2 (hg1.mpr hy) (hg2.mpr hz)
      obtain ⟨w1, w2, w3, w4, w5, w6, w7⟩ : iW ((l : Int) + 1) = (l : Int) + 1 ∧ iW (4 * (t : Int)) = 4 * (t : Int) ∧ iW (4 * (t : Int) + l) = 4 * (t : Int) + l ∧ iW (2 * (l : Int)) = 2 * (l : Int) ∧ iW (9 * (t : Int) + 2 * (l : Int)) = 9 * (t : Int) + 2 * (l : Int) ∧ iW (2 * (l : Int) + 0) = 2 * (l : Int) + 0 ∧ iW (2 * (l : Int) + 1) = 2 * (l : Int) + 1 :=
        ⟨iW_id (by omega) (by omega), iW_id (by omega) (by omega), iW_id (by omega) (by omega), iW_id (by omega) (by omega), iW_id (by omega) (by omega), iW_id (by omega) (by omega), iW_id (by omega) (by omega)⟩
      rw [ev_114_1]
      simp only [↓e_iconst, ↓e_istore3, e_klI, e_klR, e_klX, e_klL, ↓e_iload3, ↓e_cmp_ge, ↓e_aload0, ↓e_iload1, ↓e_imul, ↓e_iadd, ↓e_iload2, ↓e_cv3, i_39, e_rpn, e_rps, e_few0, e_few1, e_few2, e_few3, e_few4, ↓e_istore4, ↓e_iload4, ↓e_iret, ↓e_iinc3, ↓e_goto, ↓e_bipush, ↓e_nil, b_114_0, b_114_1, b_114_2, b_114_3, hl4, false_implies, not_false_eq_true, true_implies, true_and, w2, w3, w4, w5]
      refine hcall _ (fun hz => ?_) (fun hy hz => ?_) (fun hy hz => ?_)
      · simp only [↓e_iconst, ↓e_istore3, e_klI, e_klR, e_klX, e_klL, ↓e_iload3, ↓e_cmp_ge, ↓e_aload0, ↓e_iload1, ↓e_imul, ↓e_iadd, ↓e_iload2, ↓e_cv3, i_39, e_rpn, e_rps, e_few0, e_few1, e_few2, e_few3, e_few4, ↓e_istore4, ↓e_iload4, ↓e_iret, ↓e_iinc3, ↓e_goto, ↓e_bipush, ↓e_nil, b_114_0, b_114_1, b_114_2, b_114_3, ↓ev_114_2, w4, w6]
        exact ⟨fun z => absurd z (by decide), fun _ => b0 hz⟩
      · simp only [↓e_iconst, ↓e_istore3, e_klI, e_klR, e_klX, e_klL, ↓e_iload3, ↓e_cmp_ge, ↓e_aload0, ↓e_iload1, ↓e_imul, ↓e_iadd, ↓e_iload2, ↓e_cv3, i_39, e_rpn, e_rps, e_few0, e_few1, e_few2, e_few3, e_few4, ↓e_istore4, ↓e_iload4, ↓e_iret, ↓e_iinc3, ↓e_goto, ↓e_bipush, ↓e_nil, b_114_0, b_114_1, b_114_2, b_114_3, ↓ev_114_2, w4, w7]
        exact ⟨fun z => absurd z (by decide), fun _ => b1 hy hz⟩
      · simp only [↓e_iconst, ↓e_istore3, e_klI, e_klR, e_klX, e_klL, ↓e_iload3, ↓e_cmp_ge, ↓e_aload0, ↓e_iload1, ↓e_imul, ↓e_iadd, ↓e_iload2, ↓e_cv3, i_39, e_rpn, e_rps, e_few0, e_few1, e_few2, e_few3, e_few4, ↓e_istore4, ↓e_iload4, ↓e_iret, ↓e_iinc3, ↓e_goto, ↓e_bipush, ↓e_nil, b_114_0, b_114_1, b_114_2, b_114_3, ↓ev_114_2, w1]
        exact ⟨fun _ => b2 hy hz _, fun z => absurd (by decide) z⟩
  have h0 := key 4 0 (by omega) w vX (fun j hj => by omega) (fun _ _ _ => rfl) (fun _ _ => ⟨rfl, rfl⟩) (fun l' hl' => by omega)
  rw [en_114]
  simp only [↓e_iconst, ↓e_istore3, e_klI, e_klR, e_klX, e_klL, ↓e_iload3, ↓e_cmp_ge, ↓e_aload0, ↓e_iload1, ↓e_imul, ↓e_iadd, ↓e_iload2, ↓e_cv3, i_39, e_rpn, e_rps, e_few0, e_few1, e_few2, e_few3, e_few4, ↓e_istore4, ↓e_iload4, ↓e_iret, ↓e_iinc3, ↓e_goto, ↓e_bipush, ↓e_nil, b_114_0, b_114_1, b_114_2, b_114_3]
  exact h0
/-- the model's runners -/
def m_run (w : ab_W) (T : Nat) (so pa : Nat → Nat → Int) : Prop := ∀ t : Nat, t < T → ∀ l : Nat, l < 4 → w 41 (4 * (t : Int) + l) = so t l ∧ w 42 (4 * (t : Int) + l) = pa t l
theorem q_faultOf (ht : m_text w n by') (h : ∀ (v : Int) (w' : ab_W), x_F n by' v → (-1 ≤ v ∧ v ≤ 35) → (∀ p, p ≠ 39 → p ≠ 41 → p ≠ 42 → w' p = w p) → (∀ j, j ≠ 2 → w' 39 j = w 39 j) → w' 39 2 = x_T n v → m_run w' (x_T n v) (x_so by') (x_pa by') → q (some (vI v)) w') : Sm Ls (d + 4) 115 [vR 39] w q := by
  obtain ⟨h1, hn, hb⟩ := id ht
  have key : ∀ (k t : Nat), t + k = 4 → ∀ (x : ab_W) (y : ab_V), (0 < t ∨ 0 < n) → (∀ j, j < 9 * t → j < n ∧ x_go by' j) → (∀ p, p ≠ 39 → p ≠ 41 → p ≠ 42 → x p = w p) → (∀ j, j ≠ 2 → x 39 j = w 39 j) → x 39 2 = 0 → m_run x t (x_so by') (x_pa by') → Ev Ls (Sm Ls (d + 3)) q bk_115 2 [vR 39, vI t, vI (9 * (t : Int)), y] [] x := by
    intro k
    induction k with
    | zero =>
      intro t htk x y _ x1
      have := (x1 35 (by omega)).1
      omega
    | succ k ih =>
      intro t htk x y hent x1 x2 x3 x4 x5
      have htx : m_text x n by' := ⟨by rw [x3 0 (by omega)]; exact h1, hn, fun k hk => by rw [x2 40 (by omega) (by omega) (by omega)]; exact hb k hk⟩
      rw [ev_115_2]
      simp only [↓e_iconst, ↓e_istore1, e_klI, e_klR, e_klX, e_klL, ↓e_istore2, ↓e_aload0, ↓p_39_2, ↓e_iload2, ↓g_39_0, ↓e_cmp_lt, ↓e_if_le, ↓e_iload1, ↓e_cv3, i_39, e_rpn, e_rps, e_few0, e_few1, e_few2, e_few3, e_few4, ↓e_istore3, ↓e_iload3, ↓e_bipush, ↓e_cmp_ge, ↓e_iadd, ↓e_iret, ↓e_iinc1, ↓e_iinc2, ↓e_cmp_ne, ↓e_cv2, ↓e_cmp_eq, ↓e_goto, ↓e_nil, b_115_0, b_115_1, b_115_2, b_115_3, b_115_4, b_115_5, b_115_6, true_and]
      refine q_readsTeam htx (by omega) (fun g x' hg8 hg1 hg2 f1 f2 f3 => ?_)
      have x0' : x' 39 0 = (n : Int) := by rw [f1 39 (by omega) (by omega), x3 0 (by omega)]; exact h1
      have hx2 : x' 39 2 = 0 := by rw [f1 39 (by omega) (by omega)]; exact x4
      have fr1 : ∀ p, p ≠ 39 → p ≠ 41 → p ≠ 42 → x' p = w p := fun p p1 p2 p3 => by rw [f1 p p2 p3]; exact x2 p p1 p2 p3
      have fr2 : ∀ j, j ≠ 2 → x' 39 j = w 39 j := fun j hj => by rw [f1 39 (by omega) (by omega)]; exact x3 j hj
      have all1 : ∀ j, j < 9 * t + g → j < n ∧ x_go by' j := fun j hj => by
        by_cases hjt : j < 9 * t
        · exact x1 j hjt
        · have := hg1 (j - 9 * t) (by omega)
          unfold x_gb at this
          rw [show 9 * t + (j - 9 * t) = j by omega] at this
          exact this
      -- a fault within the team
      have hA : g < 8 → q (some (vI (9 * (t : Int) + g))) x' := fun hlt => by
        have hb2 := hg2 hlt
        have hF : x_F n by' (((9 * t + g : Nat)) : Int) := by
          by_cases hend : 9 * t + g < n
          · exact Or.inl ⟨9 * t + g, hend, fun z => hb2 ⟨hend, z⟩, fun j hj => (all1 j hj).2, rfl⟩
          · have hne : 9 * t + g = n := by
              by_cases h00 : 9 * t + g = 0
              · omega
              · have := (all1 (9 * t + g - 1) (by omega)).1; omega
            refine Or.inr ⟨fun j hj => (all1 j (by omega)).2, ?_⟩
            rw [hne, if_neg (by omega)]
        have hle : 9 * t + g ≤ 35 := by
          by_cases h00 : 9 * t + g = 0
          · omega
          · have := (all1 (9 * t + g - 1) (by omega)).1; omega
        have hxT : x_T n (((9 * t + g : Nat)) : Int) = 0 := by unfold x_T; rw [if_neg (by omega)]
        have := h _ x' hF (by omega) fr1 fr2 (by rw [hxT]; exact hx2) (by rw [hxT]; intro t' ht'; omega)
        rw [show ((9 * t + g : Nat) : Int) = 9 * (t : Int) + g by omega] at this
        exact this
      have hrun8 : g = 8 → m_run x' (t + 1) (x_so by') (x_pa by') := fun hg => by
        intro t' ht' l hl
        by_cases htt : t' = t
        · subst htt; exact f3 hg l hl
        · have := f2 (4 * (t' : Int) + l) (by omega)
          rw [this.1, this.2]; exact x5 t' (by omega) l hl
      have hle8 : g = 8 → 9 * t + 8 ≤ n := fun hg => by have := (all1 (9 * t + 7) (by omega)).1; omega
      -- the text ends with the team
      have hB : g = 8 → 9 * (t : Int) + 8 = n → q (some (vI (-1))) (ab_up x' 39 2 ((t : Int) + 1)) := fun hg he => by
        have hF : x_F n by' (-1) := Or.inr ⟨fun j hj => (all1 j (by omega)).2, by rw [if_pos (by omega)]⟩
        have hxT : x_T n (-1) = t + 1 := by unfold x_T; rw [if_pos rfl]; omega
        refine h _ _ hF (by omega) (fun p p1 p2 p3 => by rw [ab_up_ne p1]; exact fr1 p p1 p2 p3) (fun j hj => by rw [ab_up_nj hj]; exact fr2 j hj) (by rw [ab_up_at, hxT]; rfl) ?_
        rw [hxT]
        intro t' ht' l hl
        rw [ab_up_p (by omega), ab_up_p (by omega)]
        exact hrun8 hg t' ht' l hl
      have hC : g = 8 → ¬ 9 * (t : Int) + 8 = n → x_bt n by' (9 * t + 8) ≠ 59 → q (some (vI (9 * (t : Int) + 8))) x' := fun hg he hbt => by
        have h8 := hle8 hg
        have hlt : 9 * t + 8 < n := by omega
        unfold x_bt at hbt
        rw [if_pos hlt] at hbt
        have hF : x_F n by' (((9 * t + 8 : Nat)) : Int) := Or.inl ⟨9 * t + 8, hlt, fun z => by unfold x_go at z; rw [if_pos (by omega)] at z; exact hbt z, fun j hj => (all1 j (by omega)).2, rfl⟩
        have hxT : x_T n (((9 * t + 8 : Nat)) : Int) = 0 := by unfold x_T; rw [if_neg (by omega)]
        have := h _ x' hF (by omega) fr1 fr2 (by rw [hxT]; exact hx2) (by rw [hxT]; intro t' ht'; omega)
        rw [show ((9 * t + 8 : Nat) : Int) = 9 * (t : Int) + 8 by omega] at this
        exact this
      have hD : g = 8 → ¬ 9 * (t : Int) + 8 = n → x_bt n by' (9 * t + 8) = 59 → ∀ z : ab_V, Ev Ls (Sm Ls (d + 3)) q bk_115 2 [vR 39, vI ((t : Int) + 1), vI (9 * (t : Int) + 8 + 1), z] [] x' := fun hg he hbt z => by
        have h8 := hle8 hg
        have hlt : 9 * t + 8 < n := by omega
        unfold x_bt at hbt
        rw [if_pos hlt] at hbt
        have := ih (t + 1) (by omega) x' z (Or.inl (by omega)) (fun j hj => by
          by_cases hj8 : j = 9 * t + 8
          · subst hj8
            refine ⟨hlt, ?_⟩
            unfold x_go; rw [if_pos (by omega)]; exact hbt
          · exact all1 j (by omega)) fr1 fr2 hx2 (hrun8 hg)
        rw [show 9 * (((t + 1 : Nat)) : Int) = 9 * (t : Int) + 8 + 1 by omega] at this
        exact this
      have htx' : m_text x' n by' := ⟨x0', hn, fun k hk => by rw [fr1 40 (by omega) (by omega) (by omega)]; exact hb k hk⟩
      have hbt : ∀ Q' : Option ab_V → ab_W → Prop, Sm Ls (d + 3) 112 [vR 39, vI (9 * (t : Int) + 8)] x' Q' = Q' (some (vI (x_bt n by' (9 * t + 8)))) x' := fun Q' => by
        rw [show 9 * (t : Int) + 8 = ((9 * t + 8 : Nat) : Int) by omega]
        exact q_byteAt htx'
      have hg9 : ¬ 8 ≤ (g : Int) → g < 8 := by omega
      have hg10 : 8 ≤ (g : Int) → g = 8 := by omega
      have hpos : 9 * (t : Int) + 8 + 1 ≤ 0 → False := by omega
      obtain ⟨w1, w2, w3, w4⟩ : iW (9 * (t : Int) + g) = 9 * (t : Int) + g ∧ iW ((t : Int) + 1) = (t : Int) + 1 ∧ iW (9 * (t : Int) + 8) = 9 * (t : Int) + 8 ∧ iW (9 * (t : Int) + 8 + 1) = 9 * (t : Int) + 8 + 1 :=
        ⟨iW_id (by omega) (by omega), iW_id (by omega) (by omega), iW_id (by omega) (by omega), iW_id (by omega) (by omega)⟩
      simp only [↓e_iconst, ↓e_istore1, e_klI, e_klR, e_klX, e_klL, ↓e_istore2, ↓e_aload0, ↓p_39_2, ↓e_iload2, ↓g_39_0, ↓e_cmp_lt, ↓e_if_le, ↓e_iload1, ↓e_cv3, i_39, e_rpn, e_rps, e_few0, e_few1, e_few2, e_few3, e_few4, ↓e_istore3, ↓e_iload3, ↓e_bipush, ↓e_cmp_ge, ↓e_iadd, ↓e_iret, ↓e_iinc1, ↓e_iinc2, ↓e_cmp_ne, ↓e_cv2, ↓e_cmp_eq, ↓e_goto, ↓e_nil, b_115_0, b_115_1, b_115_2, b_115_3, b_115_4, b_115_5, b_115_6, ↓ev_115_3, ↓ev_115_4, ↓ev_115_5, w1, w2, w3, x0', hbt]
      refine ⟨fun hge => ⟨fun hne => ⟨trivial, trivial, fun hz => ?_, fun hz => hC (hg10 hge) hne hz⟩, fun hne => hB (hg10 hge) (Classical.not_not.mp hne)⟩, fun hge => hA (hg9 hge)⟩
      rw [ev_115_1]
      simp only [↓e_iconst, ↓e_istore1, e_klI, e_klR, e_klX, e_klL, ↓e_istore2, ↓e_aload0, ↓p_39_2, ↓e_iload2, ↓g_39_0, ↓e_cmp_lt, ↓e_if_le, ↓e_iload1, ↓e_cv3, i_39, e_rpn, e_rps, e_few0, e_few1, e_few2, e_few3, e_few4, ↓e_istore3, ↓e_iload3, ↓e_bipush, ↓e_cmp_ge, ↓e_iadd, ↓e_iret, ↓e_iinc1, ↓e_iinc2, ↓e_cmp_ne, ↓e_cv2, ↓e_cmp_eq, ↓e_goto, ↓e_nil, b_115_0, b_115_1, b_115_2, b_115_3, b_115_4, b_115_5, b_115_6, x0', w4]
      refine ⟨fun _ => hD (hg10 hge) hne hz _, fun _ => ⟨fun hp => absurd hp (fun z => hpos z), fun _ => hD (hg10 hge) hne hz _⟩⟩
  have hrow : ∀ p, p ≠ 39 → p ≠ 41 → p ≠ 42 → ab_up w 39 2 0 p = w p := fun p p1 _ _ => ab_up_ne p1
  have hrow2 : ∀ j, j ≠ 2 → ab_up w 39 2 0 39 j = w 39 j := fun j hj => ab_up_nj hj
  have hz0 : ab_up w 39 2 0 39 0 = (n : Int) := by rw [hrow2 0 (by omega)]; exact h1
  have hgo : 0 < (n : Int) → Ev Ls (Sm Ls (d + 3)) q bk_115 2 [vR 39, vI 0, vI 0, vX] [] (ab_up w 39 2 0) := fun hpos => key 4 0 (by omega) _ vX (Or.inr (by omega)) (fun j hj => by omega) hrow hrow2 ab_up_at (fun t' ht' => by omega)
  have hend : ¬ 0 < (n : Int) → q (some (vI (-1))) (ab_up w 39 2 0) := fun hpos => by
    have hn0 : n = 0 := by omega
    have hF : x_F n by' (-1) := Or.inr ⟨fun j hj => by omega, by rw [if_pos (by omega)]⟩
    have hxT : x_T n (-1) = 0 := by unfold x_T; rw [if_pos rfl]; omega
    exact h _ _ hF (by omega) hrow hrow2 (by rw [hxT, ab_up_at]; rfl) (by rw [hxT]; intro t' ht'; omega)
  rw [en_115]
  simp only [↓e_iconst, ↓e_istore1, e_klI, e_klR, e_klX, e_klL, ↓e_istore2, ↓e_aload0, ↓p_39_2, ↓e_iload2, ↓g_39_0, ↓e_cmp_lt, ↓e_if_le, ↓e_iload1, ↓e_cv3, i_39, e_rpn, e_rps, e_few0, e_few1, e_few2, e_few3, e_few4, ↓e_istore3, ↓e_iload3, ↓e_bipush, ↓e_cmp_ge, ↓e_iadd, ↓e_iret, ↓e_iinc1, ↓e_iinc2, ↓e_cmp_ne, ↓e_cv2, ↓e_cmp_eq, ↓e_goto, ↓e_nil, b_115_0, b_115_1, b_115_2, b_115_3, b_115_4, b_115_5, b_115_6]
  rw [ev_115_1]
  simp only [↓e_iconst, ↓e_istore1, e_klI, e_klR, e_klX, e_klL, ↓e_istore2, ↓e_aload0, ↓p_39_2, ↓e_iload2, ↓g_39_0, ↓e_cmp_lt, ↓e_if_le, ↓e_iload1, ↓e_cv3, i_39, e_rpn, e_rps, e_few0, e_few1, e_few2, e_few3, e_few4, ↓e_istore3, ↓e_iload3, ↓e_bipush, ↓e_cmp_ge, ↓e_iadd, ↓e_iret, ↓e_iinc1, ↓e_iinc2, ↓e_cmp_ne, ↓e_cv2, ↓e_cmp_eq, ↓e_goto, ↓e_nil, b_115_0, b_115_1, b_115_2, b_115_3, b_115_4, b_115_5, b_115_6, ↓ev_115_6, hz0]
  exact ⟨fun hp => hgo hp, fun hp => ⟨fun _ => hend hp, fun z => absurd (Int.le_refl _) z⟩⟩
end MText28
