/-! the text: MATHEMATICS, and the class's way -/
theorem b_rem {a k : Nat} (ha : a < 2 ^ 31) (h0 : 0 < k) (hk : k < 2 ^ 31) : i_rem (a : Int) (k : Int) = ((a % k : Nat) : Int) := by
  unfold i_rem
  rw [i_of, i_of, pk_rem ha h0 hk, nI_T (Nat.lt_of_le_of_lt (Nat.mod_le _ _) ha)]
theorem b_div {a k : Nat} (ha : a < 2 ^ 31) (h0 : 0 < k) (hk : k < 2 ^ 31) : i_div (a : Int) (k : Int) = ((a / k : Nat) : Int) := by
  unfold i_div
  rw [i_of, i_of, pk_div ha h0 hk, nI_T (Nat.lt_of_le_of_lt (Nat.div_le_self _ _) ha)]
def x_sort (b : Int) : Int := if b = 115 then 0 else if b = 100 then 1 else if b = 110 then 2 else -1
/-- the byte at place k can stand there -/
def x_go (by' : Nat → Int) (k : Nat) : Prop := if k % 9 = 8 then by' k = 59 else if k % 9 % 2 = 0 then x_sort (by' k) ≠ -1 else 49 ≤ by' k ∧ by' k ≤ 57
/-- v is the fault of the text of n bytes; -1: it is well -/
def x_F (n : Nat) (by' : Nat → Int) (v : Int) : Prop := (∃ k : Nat, k < n ∧ ¬ x_go by' k ∧ (∀ j, j < k → x_go by' j) ∧ v = k) ∨ ((∀ j, j < n → x_go by' j) ∧ v = if n = 0 ∨ n % 9 = 8 then (-1 : Int) else (n : Int))
theorem x_F_uniq {n : Nat} {b1 : Nat → Int} {v u : Int} (h : x_F n b1 v) (h2 : x_F n b1 u) : v = u := by
  rcases h with ⟨k, k1, k2, k3, k4⟩ | ⟨a1, a2⟩
  · rcases h2 with ⟨j, j1, j2, j3, j4⟩ | ⟨c1, c2⟩
    · have : k = j := by
        rcases Nat.lt_trichotomy k j with z | z | z
        · exact absurd (j3 k z) k2
        · exact z
        · exact absurd (k3 j z) j2
      rw [k4, j4, this]
    · exact absurd (c1 k k1) k2
  · rcases h2 with ⟨j, j1, j2, j3, j4⟩ | ⟨c1, c2⟩
    · exact absurd (a1 j j1) j2
    · rw [a2, c2]
/-- teams -/
def x_T (n : Nat) (v : Int) : Nat := if v = -1 then (n + 1) / 9 else 0
def x_so (by' : Nat → Int) (t l : Nat) : Int := x_sort (by' (9 * t + 2 * l))
def x_pa (by' : Nat → Int) (t l : Nat) : Int := by' (9 * t + 2 * l + 1) - 48
/-- where there is no fault all runners are well -/
theorem x_run {n : Nat} {b1 : Nat → Int} {v : Int} (hn : n ≤ 35) (h : x_F n b1 v) : x_T n v ≤ 4 ∧ ∀ t, t < x_T n v → ∀ l, l < 4 → 9 * t + 2 * l + 1 < n ∧ (0 ≤ x_so b1 t l ∧ x_so b1 t l ≤ 2) ∧ (1 ≤ x_pa b1 t l ∧ x_pa b1 t l ≤ 9) := by
  unfold x_T
  by_cases hv : v = -1
  · rw [if_pos hv]
    rcases h with ⟨k, k1, k2, k3, k4⟩ | ⟨a1, a2⟩
    · omega
    · by_cases hz : n = 0 ∨ n % 9 = 8
      · refine ⟨by omega, fun t ht l hl => ?_⟩
        have hlt : 9 * t + 2 * l + 1 < n := by omega
        have g1 := a1 (9 * t + 2 * l) (by omega)
        have g2 := a1 (9 * t + 2 * l + 1) hlt
        unfold x_go at g1 g2
        rw [if_neg (by omega), if_pos (by omega)] at g1
        rw [if_neg (by omega), if_neg (by omega)] at g2
        refine ⟨hlt, ?_, ?_⟩
        · unfold x_so
          unfold x_sort at g1 ⊢
          repeat' split
          all_goals first | omega | (exfalso; simp_all)
        · unfold x_pa; omega
      · rw [if_neg hz] at a2; omega
  · rw [if_neg hv]
    exact ⟨by omega, fun t ht => by omega⟩
/-- the class's text: n bytes -/
def c_text (w : ab_W) (n : Nat) (by' : Nat → Int) : Prop := w 1 1 = n ∧ n ≤ 35 ∧ ∀ k, k < n → w 2 k = by' k ∧ 0 ≤ by' k ∧ by' k ≤ 255
section Text26
variable {Ls d : Nat} {w : ab_W} {q : Option ab_V → ab_W → Prop} {n : Nat} {by' : Nat → Int}
theorem q_sortAt {a : Int} (ha : 0 ≤ a ∧ a < 35) : Sm Ls (d + 1) 29 [vR 1, vI a] w q = q (some (vI (x_sort (w 2 a)))) w := by
  rw [en_29]
  simp only [↓e_aload0, ↓g_1_0, ↓e_iload1, ↓e_lsw, ↓e_iconst, ↓e_iret, ↓x_2, ↓e_nil, b_29_0, b_29_1, b_29_2, b_29_3, b_29_4, ha, and_self, true_and, ab_lsw]
  unfold x_sort
  by_cases h1 : w 2 a = 100
  · simp only [h1, if_true, ↓e_aload0, ↓g_1_0, ↓e_iload1, ↓e_lsw, ↓e_iconst, ↓e_iret, ↓x_2, ↓e_nil, b_29_0, b_29_1, b_29_2, b_29_3, b_29_4, ↓ev_29_1, ↓ev_29_2, ↓ev_29_3, ↓ev_29_4]
    simp
  · by_cases h2 : w 2 a = 110
    · simp only [h2, if_true, ↓e_aload0, ↓g_1_0, ↓e_iload1, ↓e_lsw, ↓e_iconst, ↓e_iret, ↓x_2, ↓e_nil, b_29_0, b_29_1, b_29_2, b_29_3, b_29_4, ↓ev_29_1, ↓ev_29_2, ↓ev_29_3, ↓ev_29_4]
      simp [↓e_aload0, ↓g_1_0, ↓e_iload1, ↓e_lsw, ↓e_iconst, ↓e_iret, ↓x_2, ↓e_nil, b_29_0, b_29_1, b_29_2, b_29_3, b_29_4, ↓ev_29_1, ↓ev_29_2, ↓ev_29_3, ↓ev_29_4]
    · by_cases h3 : w 2 a = 115
      · simp only [h3, if_true, ↓e_aload0, ↓g_1_0, ↓e_iload1, ↓e_lsw, ↓e_iconst, ↓e_iret, ↓x_2, ↓e_nil, b_29_0, b_29_1, b_29_2, b_29_3, b_29_4, ↓ev_29_1, ↓ev_29_2, ↓ev_29_3, ↓ev_29_4]
        simp [↓e_aload0, ↓g_1_0, ↓e_iload1, ↓e_lsw, ↓e_iconst, ↓e_iret, ↓x_2, ↓e_nil, b_29_0, b_29_1, b_29_2, b_29_3, b_29_4, ↓ev_29_1, ↓ev_29_2, ↓ev_29_3, ↓ev_29_4]
      · simp only [h1, h2, h3, if_false, ↓e_aload0, ↓g_1_0, ↓e_iload1, ↓e_lsw, ↓e_iconst, ↓e_iret, ↓x_2, ↓e_nil, b_29_0, b_29_1, b_29_2, b_29_3, b_29_4, ↓ev_29_1, ↓ev_29_2, ↓ev_29_3, ↓ev_29_4]
theorem q_goesOn {k : Nat} (hk : k < 35) (hb : w 2 k = by' k) : Sm Ls (d + 2) 28 [vR 1, vI k] w q = ab_yn (x_go by' k) q w := by
  have hin : 0 ≤ (k : Int) ∧ (k : Int) < 35 := by omega
  have r1 : i_rem (k : Int) 9 = ((k % 9 : Nat) : Int) := b_rem (k := 9) (by omega) (by omega) (by omega)
  have r2 : i_rem ((k % 9 : Nat) : Int) 2 = ((k % 9 % 2 : Nat) : Int) := b_rem (k := 2) (by omega) (by omega) (by omega)
  rw [en_28]
  simp only [↓e_iload1, ↓e_bipush, ↓e_irem, ↓e_istore2, e_klI, e_klR, e_klX, e_klL, ↓e_iload2, ↓e_cmp_ne, ↓e_aload0, ↓g_1_0, ↓e_iconst, ↓e_goto, ↓e_zret, ↓e_if_ne, ↓e_cv2, i_1, e_rpn, e_rps, e_few0, e_few1, e_few2, e_few3, e_few4, ↓e_cmp_eq, ↓e_cmp_lt, ↓e_cmp_gt, ↓x_2, ↓e_nil, b_28_0, b_28_1, b_28_2, b_28_3, b_28_4, b_28_5, b_28_6, b_28_7, b_28_8, ↓ev_28_1, ↓ev_28_2, ↓ev_28_3, ↓ev_28_4, ↓ev_28_5, ↓ev_28_6, ↓ev_28_7, ↓ev_28_8, q_sortAt hin, hin, r1, r2, hb, and_self, true_and]
  unfold x_go
  by_cases h1 : k % 9 = 8
  · rw [h1]
    by_cases h2 : by' k = 59
    · rw [yn_t (by rw [if_pos rfl]; exact h2)]; simp [h2]
    · rw [yn_f (by rw [if_pos rfl]; exact h2)]; simp [h2]
  · have h1' : ¬ (k : Int) % 9 = 8 := by omega
    by_cases h3 : k % 9 % 2 = 0
    · have h3' : (k : Int) % 9 % 2 = 0 := by omega
      by_cases h2 : x_sort (by' k) = -1
      · rw [yn_f (by rw [if_neg h1, if_pos h3]; exact fun z => z h2)]; simp [h1', h3', h2]
      · rw [yn_t (by rw [if_neg h1, if_pos h3]; exact h2)]; simp [h1', h3', h2]
    · have h3' : ¬ (k : Int) % 9 % 2 = 0 := by omega
      by_cases h2 : by' k < 49
      · rw [yn_f (by rw [if_neg h1, if_neg h3]; omega)]; simp [h1', h3', h2]
      · by_cases h4 : 57 < by' k
        · rw [yn_f (by rw [if_neg h1, if_neg h3]; omega)]; simp [h1', h3', h2, h4]
        · rw [yn_t (by rw [if_neg h1, if_neg h3]; omega)]; simp [h1', h3', h2, h4]
theorem q_firstFault (ht : c_text w n by') (h : ∀ v, x_F n by' v → (-1 ≤ v ∧ v ≤ 35) → q (some (vI v)) w) : Sm Ls (d + 3) 27 [vR 1] w q := by
  obtain ⟨h1, hn, hb⟩ := ht
  have key : ∀ (k o : Nat), o + k = n → (∀ j, j < o → x_go by' j) → Ev Ls (Sm Ls (d + 2)) q bk_27 1 [vR 1, vI o] [] w := by
    intro k
    induction k with
    | zero =>
      intro o ho hall
      have : o = n := by omega
      subst this
      have r1 : i_rem (o : Int) 9 = ((o % 9 : Nat) : Int) := b_rem (k := 9) (by omega) (by omega) (by omega)
      rw [ev_27_1]
      simp only [↓e_iconst, ↓e_istore1, e_klI, e_klR, e_klX, e_klL, ↓e_iload1, ↓e_aload0, ↓g_1_1, ↓e_cmp_ge, ↓e_cv2, i_1, e_rpn, e_rps, e_few0, e_few1, e_few2, e_few3, e_few4, ↓e_if_ne, ↓e_iret, ↓e_iinc1, ↓e_goto, ↓e_if_eq, ↓e_bipush, ↓e_irem, ↓e_cmp_ne, ↓e_nil, b_27_0, b_27_1, b_27_2, b_27_3, b_27_4, b_27_5, b_27_6, ↓ev_27_3, ↓ev_27_4, ↓ev_27_5, ↓ev_27_6, h1, r1]
      have hF : x_F o by' (if o = 0 ∨ o % 9 = 8 then (-1 : Int) else (o : Int)) := Or.inr ⟨hall, rfl⟩
      have hq := h _ hF (by split <;> omega)
      refine ⟨fun _ => ⟨fun h0 => ?_, fun h0 => ⟨by decide, fun h8 => ?_, fun h8 => ?_⟩⟩, fun z => absurd (Int.le_refl _) z⟩
      · rw [if_pos (Or.inl (by omega))] at hq; exact hq
      · rw [if_neg (by omega)] at hq; exact hq
      · rw [if_pos (Or.inr (by omega))] at hq; exact hq
    | succ k ih =>
      intro o ho hall
      have hno : ¬ (n : Int) ≤ (o : Int) := by omega
      have w1 : iW ((o : Int) + 1) = (o : Int) + 1 := iW_id (by omega) (by omega)
      rw [ev_27_1]
      simp only [↓e_iconst, ↓e_istore1, e_klI, e_klR, e_klX, e_klL, ↓e_iload1, ↓e_aload0, ↓g_1_1, ↓e_cmp_ge, ↓e_cv2, i_1, e_rpn, e_rps, e_few0, e_few1, e_few2, e_few3, e_few4, ↓e_if_ne, ↓e_iret, ↓e_iinc1, ↓e_goto, ↓e_if_eq, ↓e_bipush, ↓e_irem, ↓e_cmp_ne, ↓e_nil, b_27_0, b_27_1, b_27_2, b_27_3, b_27_4, b_27_5, b_27_6, ↓ev_27_2, h1, hno, false_implies, not_false_eq_true, true_implies, true_and, q_goesOn (by clear w1; omega) (hb o (by clear w1; omega)).1, ab_yn, w1]
      refine ⟨fun hg => ⟨fun _ => ih (o + 1) (by clear w1; omega) (fun j hj => ?_), fun z => absurd (by decide) z⟩, fun hg => ⟨fun z => absurd trivial z, fun _ => h _ (Or.inl ⟨o, by clear w1; omega, hg, hall, rfl⟩) (by clear w1; omega)⟩⟩
      by_cases hjo : j = o
      · subst hjo; exact hg
      · exact hall j (by clear w1; omega)
  rw [en_27]
  simp only [↓e_iconst, ↓e_istore1, e_klI, e_klR, e_klX, e_klL, ↓e_iload1, ↓e_aload0, ↓g_1_1, ↓e_cmp_ge, ↓e_cv2, i_1, e_rpn, e_rps, e_few0, e_few1, e_few2, e_few3, e_few4, ↓e_if_ne, ↓e_iret, ↓e_iinc1, ↓e_goto, ↓e_if_eq, ↓e_bipush, ↓e_irem, ↓e_cmp_ne, ↓e_nil, b_27_0, b_27_1, b_27_2, b_27_3, b_27_4, b_27_5, b_27_6]
  exact key n 0 (by omega) (fun j hj => by omega)
end Text26
