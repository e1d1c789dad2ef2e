/-! the model: sorts, was, ask -/
section MWas40
variable {Ls d : Nat} {w : ab_W} {q : Option ab_V → ab_W → Prop} {D : Td} {c : Cf}
theorem m_as.srt {x : ab_W} (h : m_as x D) (hok : D.ok) {t l : Nat} (htT : t < D.T) (hl : l < 4) {v : Int} : m_ready (ab_up x 41 (4 * (t : Int) + l) v) ((D.cf 255).sc t l v) := by
  have hT4 := Td.T4 hok
  have e49 : ∀ u l' : Nat, u < 4 → l' < 4 → x 49 (4 * (u : Int) + l') = l' := fun u l' hu hl' => by
    have := h.2.2.2.2.1 (4 * u + l') (by omega)
    rw [show ((4 * u + l' : Nat) : Int) = 4 * (u : Int) + l' by omega, show (4 * u + l') % 4 = l' by omega] at this
    exact this
  refine m_sub_ready ?_ (by rw [ab_up_p (by omega)]; exact h.2.2.2.2.2.1) (fun u hu hut l' hl' => ?_) (fun l' hl' => ?_) (fun l' hl' => ?_) hok
  · obtain ⟨a1, a2, a3, a4⟩ := h.now
    unfold m_now
    rw [ab_up_p (by omega), ab_up_p (by omega), ab_up_p (by omega)]
    refine ⟨a1, a2, a3, fun e he => ?_⟩
    rw [ab_up_p (by omega), ab_up_p (by omega), ab_up_p (by omega)]
    exact a4 e he
  · rw [ab_up_p (by omega), ab_up_nj (by omega), ab_up_p (by omega), e49 u l' (by omega) hl']
    exact ⟨rfl, h.2.2.2.2.2.2 u hu l' hl'⟩
  · rw [ab_up_p (show (49 : Nat) ≠ 41 by omega), e49 t l' (by omega) hl', ab_up_p (show (42 : Nat) ≠ 41 by omega)]
    obtain ⟨b1, b2⟩ := h.2.2.2.2.2.2 t htT l' hl'
    refine ⟨by omega, ?_, b2⟩
    show _ = p_at' (D.so t) l v l'
    unfold p_at'
    by_cases hll : l' = l
    · rw [hll, if_pos rfl, ab_up_at]
    · rw [if_neg hll, ab_up_nj (by omega)]; exact b1
  · exact (Td.cok hok 255).2.2.2 t htT l' hl'
theorem m_as.srt2 {x : ab_W} {t l : Nat} (h : m_as (ab_up x 41 (4 * (t : Int) + l) (D.so t l)) D) (hok : D.ok) (htT : t < D.T) (hl : l < 4) {v : Int} : m_ready (ab_up x 41 (4 * (t : Int) + l) v) ((D.cf 255).sc t l v) := by
  have := h.srt hok htT hl (v := v)
  rw [ab_up_up] at this
  exact this
theorem q_sortsBy (ht : m_told w D) {t l : Nat} (htT : t < D.T) (hl : l < 4) (h : ∀ w', m_post D w w' → q (some (vI (nb (D.sbb t l) 3 : Nat))) w') : Sm Ls (d + 7) 169 [vR 39, vI (4 * (t : Int) + l)] w q := by
  have hT4 := Td.T4 ht.ok
  have hin : 0 ≤ 4 * (t : Int) + l ∧ 4 * (t : Int) + l < 20 := by omega
  have hsc : ∀ (x : ab_W) (v : Int), m_scr x (ab_up x 41 (4 * (t : Int) + l) v) := fun x v => ⟨fun p hp => by rw [ab_up_ne (by omega)], fun j _ _ _ _ => by rw [ab_up_p (by omega)]⟩
  have key : ∀ (k v : Nat), v + k = 3 → ∀ x : ab_W, m_scr w x → m_as (ab_up x 41 (4 * (t : Int) + l) (D.so t l)) D → Ev Ls (Sm Ls (d + 6)) q bk_169 1 [vR 39, vI (4 * (t : Int) + l), vI (D.so t l), vI (nb (D.sbb t l) v : Nat), vI v] [] x := by
    intro k
    induction k with
    | zero =>
      intro v hv x x0 x1
      have : v = 3 := by omega
      subst this
      have hfin := h (ab_up x 41 (4 * (t : Int) + l) (D.so t l)) ⟨x0.trans (hsc x _), x1.rd⟩
      rw [ev_169_1]
      simp only [↓e_aload0, ↓e_cv1, i_39, e_rpn, e_rps, e_few0, e_few1, e_few2, e_few3, e_few4, ↓g_39_3, ↓e_iload1, ↓e_istore2, e_klI, e_klR, e_klX, e_klL, ↓e_iconst, ↓e_istore3, ↓e_istore4, ↓e_iload4, ↓e_cmp_ge, ↓e_iload3, ↓e_if_eq, ↓e_ishl, ↓e_goto, ↓e_ior, ↓e_iinc4, ↓e_iload2, ↓e_iret, ↓x_41, ↓y_41, ↓e_nil, b_169_0, b_169_1, b_169_2, b_169_3, b_169_4, ↓ev_169_4, hin, one0, eq_self, ne_eq, not_true_eq_false, not_false_eq_true, true_implies, false_implies, true_and, and_true, and_self]
      exact ⟨fun _ => hfin, fun z => absurd (by decide) z⟩
    | succ k ih =>
      intro v hv x x0 x1
      have hno : ¬ 3 ≤ (v : Int) := by omega
      have hr := x1.srt2 ht.ok htT hl (v := v)
      have htx : m_told (ab_up x 41 (4 * (t : Int) + l) v) D := (ht.scr x0).scr (hsc x _)
      have hor := b_or1 (nb_lt (P := D.sbb t l) v) (show v < 12 by omega) (b := D.sbb t l v)
      have p1 := b_2pw (a := v) (by omega)
      have w1 : iW ((v : Int) + 1) = (v : Int) + 1 := iW_id (by omega) (by omega)
      rw [ev_169_1]
      simp only [↓e_aload0, ↓e_cv1, i_39, e_rpn, e_rps, e_few0, e_few1, e_few2, e_few3, e_few4, ↓g_39_3, ↓e_iload1, ↓e_istore2, e_klI, e_klR, e_klX, e_klL, ↓e_iconst, ↓e_istore3, ↓e_istore4, ↓e_iload4, ↓e_cmp_ge, ↓e_iload3, ↓e_if_eq, ↓e_ishl, ↓e_goto, ↓e_ior, ↓e_iinc4, ↓e_iload2, ↓e_iret, ↓x_41, ↓y_41, ↓e_nil, b_169_0, b_169_1, b_169_2, b_169_3, b_169_4, hno, hin, one0, eq_self, ne_eq, not_true_eq_false, not_false_eq_true, true_implies, false_implies, true_and, and_true, and_self]
      refine q_isSeen hr htx (fun y0 hd => ?_)
      have yas : m_as (ab_up y0 41 (4 * (t : Int) + l) (D.so t l)) D := by
        refine x1.frame (fun p hp => ?_)
        by_cases h42 : p = 41
        · subst h42
          funext j
          by_cases hj : j = 4 * (t : Int) + l
          · subst hj; rw [ab_up_at, ab_up_at]
          · rw [ab_up_nj hj, ab_up_nj hj, hd.1 41 (by clear w1; omega), ab_up_nj hj]
        · rw [ab_up_ne h42, ab_up_ne h42, hd.1 p (Or.inl hp), ab_up_ne h42]
      have hI := ih (v + 1) (by clear w1; omega) y0 (x0.trans ((hsc x v).trans hd.scr)) yas
      rw [nb_s, ← hor] at hI
      rw [show ((D.cf 255).sc t l v).sb D = D.sbb t l v from rfl]
      cases hb : D.sbb t l v
      · rw [hb] at hI
        simp only [↓e_aload0, ↓e_cv1, i_39, e_rpn, e_rps, e_few0, e_few1, e_few2, e_few3, e_few4, ↓g_39_3, ↓e_iload1, ↓e_istore2, e_klI, e_klR, e_klX, e_klL, ↓e_iconst, ↓e_istore3, ↓e_istore4, ↓e_iload4, ↓e_cmp_ge, ↓e_iload3, ↓e_if_eq, ↓e_ishl, ↓e_goto, ↓e_ior, ↓e_iinc4, ↓e_iload2, ↓e_iret, ↓x_41, ↓y_41, ↓e_nil, b_169_0, b_169_1, b_169_2, b_169_3, b_169_4, ↓ev_169_2, ↓ev_169_3, p1, w1, bI, Bool.false_eq_true, if_false, one0, eq_self, ne_eq, not_true_eq_false, not_false_eq_true, true_implies, false_implies, true_and, and_true, and_self]
        exact hI
      · rw [hb] at hI
        simp only [↓e_aload0, ↓e_cv1, i_39, e_rpn, e_rps, e_few0, e_few1, e_few2, e_few3, e_few4, ↓g_39_3, ↓e_iload1, ↓e_istore2, e_klI, e_klR, e_klX, e_klL, ↓e_iconst, ↓e_istore3, ↓e_istore4, ↓e_iload4, ↓e_cmp_ge, ↓e_iload3, ↓e_if_eq, ↓e_ishl, ↓e_goto, ↓e_ior, ↓e_iinc4, ↓e_iload2, ↓e_iret, ↓x_41, ↓y_41, ↓e_nil, b_169_0, b_169_1, b_169_2, b_169_3, b_169_4, ↓ev_169_2, ↓ev_169_3, p1, w1, bI, if_true, one0, eq_self, ne_eq, not_true_eq_false, not_false_eq_true, true_implies, false_implies, true_and, and_true, and_self]
        exact hI
  rw [en_169]
  simp only [↓e_aload0, ↓e_cv1, i_39, e_rpn, e_rps, e_few0, e_few1, e_few2, e_few3, e_few4, ↓g_39_3, ↓e_iload1, ↓e_istore2, e_klI, e_klR, e_klX, e_klL, ↓e_iconst, ↓e_istore3, ↓e_istore4, ↓e_iload4, ↓e_cmp_ge, ↓e_iload3, ↓e_if_eq, ↓e_ishl, ↓e_goto, ↓e_ior, ↓e_iinc4, ↓e_iload2, ↓e_iret, ↓x_41, ↓y_41, ↓e_nil, b_169_0, b_169_1, b_169_2, b_169_3, b_169_4, one0, eq_self, ne_eq, not_true_eq_false, not_false_eq_true, true_implies, false_implies, true_and, and_true, and_self]
  refine q_asTold ht (fun x x0 x1 => ?_)
  have e41 : x 41 (4 * (t : Int) + l) = D.so t l := (x1.rd.2 t htT l hl).1
  have hk := key 3 0 (by omega) x x0.1 (by rw [ab_up_same e41]; exact x1)
  simp only [↓e_aload0, ↓e_cv1, i_39, e_rpn, e_rps, e_few0, e_few1, e_few2, e_few3, e_few4, ↓g_39_3, ↓e_iload1, ↓e_istore2, e_klI, e_klR, e_klX, e_klL, ↓e_iconst, ↓e_istore3, ↓e_istore4, ↓e_iload4, ↓e_cmp_ge, ↓e_iload3, ↓e_if_eq, ↓e_ishl, ↓e_goto, ↓e_ior, ↓e_iinc4, ↓e_iload2, ↓e_iret, ↓x_41, ↓y_41, ↓e_nil, b_169_0, b_169_1, b_169_2, b_169_3, b_169_4, hin, e41, one0, eq_self, ne_eq, not_true_eq_false, not_false_eq_true, true_implies, false_implies, true_and, and_true, and_self]
  exact hk
noncomputable def p_was (D : Td) (a b x : Int) : Int := if (0 ≤ a ∧ a < D.T) ∧ (0 ≤ b ∧ b < 4) ∧ (x = 0 ∨ x = 1) then (if x = 0 then (nb (D.pb a.toNat b.toNat) 10 : Nat) else (nb (D.sbb a.toNat b.toNat) 3 : Nat)) else -2
theorem q_wasM (ht : m_told w D) {a b x : Int} (h : ∀ w', m_scr w w' → q (some (vI (p_was D a b x))) w') : Sm Ls (d + 8) 170 [vR 39, vI a, vI b, vI x] w q := by
  unfold p_was at h
  have hT4 := Td.T4 ht.ok
  rw [en_170]
  simp only [↓e_aload0, ↓e_iload1, ↓e_cv2, i_39, e_rpn, e_rps, e_few0, e_few1, e_few2, e_few3, e_few4, ↓e_if_eq, ↓e_iload2, ↓e_cs1, ↓e_iload3, ↓e_if_ne, ↓e_iconst, ↓e_imul, ↓e_iadd, ↓e_goto, ↓e_bipush, ↓e_iret, ↓e_nil, b_170_0, b_170_1, b_170_2, b_170_3, one0, eq_self, ne_eq, not_true_eq_false, not_false_eq_true, true_implies, false_implies, true_and, and_true, and_self]
  refine q_isTeamM ht (fun w1 h1 => ?_)
  simp only [↓e_aload0, ↓e_iload1, ↓e_cv2, i_39, e_rpn, e_rps, e_few0, e_few1, e_few2, e_few3, e_few4, ↓e_if_eq, ↓e_iload2, ↓e_cs1, ↓e_iload3, ↓e_if_ne, ↓e_iconst, ↓e_imul, ↓e_iadd, ↓e_goto, ↓e_bipush, ↓e_iret, ↓e_nil, b_170_0, b_170_1, b_170_2, b_170_3, ↓ev_170_1, ↓ev_170_2, ↓ev_170_3, q_isFour, q_isTwo, ab_yn, one0, eq_self, ne_eq, not_true_eq_false, not_false_eq_true, true_implies, false_implies, true_and, and_true, and_self]
  refine ⟨fun g2 => ⟨fun g3 => ⟨fun g4 => ⟨fun g5 => ?_, fun g5 => ?_⟩, fun g4 => ?_⟩, fun g3 => ?_⟩, fun g2 => ?_⟩
  · obtain ⟨t, rfl⟩ : ∃ t : Nat, a = t := ⟨a.toNat, by omega⟩
    obtain ⟨l, rfl⟩ : ∃ l : Nat, b = l := ⟨b.toNat, by omega⟩
    obtain ⟨u1, u2⟩ : iW (4 * (t : Int)) = 4 * (t : Int) ∧ iW (4 * (t : Int) + l) = 4 * (t : Int) + l := ⟨iW_id (by omega) (by omega), iW_id (by omega) (by omega)⟩
    rw [u1, u2]
    clear u1 u2
    refine q_sortsBy (h1.told ht) (by omega) (by omega) (fun w2 h2 => ?_)
    have := h w2 (h1.1.trans h2.1)
    rw [if_pos (by omega), if_neg g5, Int.toNat_natCast, Int.toNat_natCast] at this
    simp only [↓e_aload0, ↓e_iload1, ↓e_cv2, i_39, e_rpn, e_rps, e_few0, e_few1, e_few2, e_few3, e_few4, ↓e_if_eq, ↓e_iload2, ↓e_cs1, ↓e_iload3, ↓e_if_ne, ↓e_iconst, ↓e_imul, ↓e_iadd, ↓e_goto, ↓e_bipush, ↓e_iret, ↓e_nil, b_170_0, b_170_1, b_170_2, b_170_3, ↓ev_170_3]
    exact this
  · obtain ⟨t, rfl⟩ : ∃ t : Nat, a = t := ⟨a.toNat, by omega⟩
    obtain ⟨l, rfl⟩ : ∃ l : Nat, b = l := ⟨b.toNat, by omega⟩
    obtain ⟨u1, u2⟩ : iW (4 * (t : Int)) = 4 * (t : Int) ∧ iW (4 * (t : Int) + l) = 4 * (t : Int) + l := ⟨iW_id (by omega) (by omega), iW_id (by omega) (by omega)⟩
    rw [u1, u2]
    clear u1 u2
    refine q_pacesBy (h1.told ht) (by omega) (by omega) (fun w2 h2 _ => ?_)
    have := h w2 (h1.1.trans h2.1)
    rw [if_pos (by omega), if_pos (Classical.not_not.mp g5), Int.toNat_natCast, Int.toNat_natCast] at this
    simp only [↓e_aload0, ↓e_iload1, ↓e_cv2, i_39, e_rpn, e_rps, e_few0, e_few1, e_few2, e_few3, e_few4, ↓e_if_eq, ↓e_iload2, ↓e_cs1, ↓e_iload3, ↓e_if_ne, ↓e_iconst, ↓e_imul, ↓e_iadd, ↓e_goto, ↓e_bipush, ↓e_iret, ↓e_nil, b_170_0, b_170_1, b_170_2, b_170_3, ↓ev_170_3]
    exact this
  · have := h w1 h1.1; rw [if_neg (by omega)] at this; exact this
  · have := h w1 h1.1; rw [if_neg (by omega)] at this; exact this
  · have := h w1 h1.1; rw [if_neg (by omega)] at this; exact this
end MWas40
/-- how many of the first n are alike with a -/
def ak_n (P : Nat → Bool) (r : Nat → Int) (a : Nat) : Nat → Int
  | 0 => 0
  | b + 1 => ak_n P r a b + (if P a = true ∧ P b = true ∧ r a = r b then 1 else 0)
theorem ak_n_s {P : Nat → Bool} {r : Nat → Int} {a b : Nat} : ak_n P r a (b + 1) = ak_n P r a b + (if P a = true ∧ P b = true ∧ r a = r b then 1 else 0) := rfl
theorem ak_n_in {P : Nat → Bool} {r : Nat → Int} {a : Nat} : ∀ b, 0 ≤ ak_n P r a b ∧ ak_n P r a b ≤ b
  | 0 => ⟨Int.le_refl _, Int.le_refl _⟩
  | b + 1 => by have := ak_n_in (P := P) (r := r) (a := a) b; rw [ak_n_s]; split <;> omega
theorem ak_n_0 {P : Nat → Bool} {r : Nat → Int} {a : Nat} (h : P a = false) : ∀ b, ak_n P r a b = 0
  | 0 => rfl
  | b + 1 => by rw [ak_n_s, ak_n_0 h b, if_neg (by simp [h])]; rfl
def ak_m (P : Nat → Bool) (r : Nat → Int) : Nat → Int
  | 0 => 0
  | a + 1 => if ak_m P r a < ak_n P r a 10 then ak_n P r a 10 else ak_m P r a
theorem ak_m_s {P : Nat → Bool} {r : Nat → Int} {a : Nat} : ak_m P r (a + 1) = if ak_m P r a < ak_n P r a 10 then ak_n P r a 10 else ak_m P r a := rfl
/-- the first with the least, and that -/
def ak_b (M : Nat → Int) : Nat → Int × Int
  | 0 => (-1, 0)
  | m + 1 => if (ak_b M m).1 = -1 ∨ M m < (ak_b M m).2 then ((m : Int), M m) else ak_b M m
theorem ak_b_s {M : Nat → Int} {m : Nat} : ak_b M (m + 1) = if (ak_b M m).1 = -1 ∨ M m < (ak_b M m).2 then ((m : Int), M m) else ak_b M m := rfl
noncomputable def Td.ro (D : Td) (t l m : Nat) (v : Nat) : Int := ((D.cf 255).pc t l v).rw' m D.T
noncomputable def Td.ask (D : Td) (t l : Nat) : Int := (ak_b (fun m => ak_m (D.pb t l) (D.ro t l m) 10) 48).1
section MAsk40
variable {Ls d : Nat} {w : ab_W} {q : Option ab_V → ab_W → Prop} {D : Td} {c : Cf}
set_option maxHeartbeats 2000000 in
theorem q_askOf (ht : m_told w D) {t l : Nat} (htT : t < D.T) (hl : l < 4) (h : ∀ w', m_post D w w' → q (some (vI (D.ask t l))) w') : Sm Ls (d + 8) 171 [vR 39, vI (4 * (t : Int) + l)] w q := by
  rw [en_171]
  simp only [↓e_aload0, ↓e_iload1, ↓e_cv2, i_39, e_rpn, e_rps, e_few0, e_few1, e_few2, e_few3, e_few4, ↓e_istore2, e_klI, e_klR, e_klX, e_klL, ↓e_iconst, ↓e_istore3, ↓e_istore4, ↓e_istore5, ↓e_iload5, ↓e_bipush, ↓e_cmp_ge, ↓e_istore6, ↓e_istore7, ↓e_iload7, ↓e_istore8, ↓e_istore9, ↓e_iload9, ↓e_iload8, ↓e_iload2, ↓e_cs2, ↓e_if_eq, ↓g_39_31, ↓e_imul, ↓e_iadd, ↓e_cmp_ne, ↓e_goto, ↓e_iinc9, ↓e_iload6, ↓e_cmp_le, ↓e_iinc7, ↓e_iload3, ↓e_cmp_eq, ↓e_iload4, ↓e_iinc5, ↓e_iret, ↓x_63, ↓e_nil, b_171_0, b_171_1, b_171_2, b_171_3, b_171_4, b_171_5, b_171_6, b_171_7, b_171_8, b_171_9, b_171_10, b_171_11, b_171_12, b_171_13, b_171_14, b_171_15, b_171_16, b_171_17, one0, eq_self, ne_eq, not_true_eq_false, not_false_eq_true, true_implies, false_implies, true_and, and_true, and_self]
  refine q_pacesBy ht htT hl (fun x x0 x1 => ?_)
  have hfin := h x x0
  have hr : ∀ v m : Nat, 1 ≤ v → v < 10 → m < 48 → x 63 (48 * (v : Int) + m) = D.ro t l m v := x1
  unfold Td.ask at hfin
  have hP0 : D.pb t l 0 = false := rfl
  have hbit : ∀ v : Nat, v < 10 → i_and (i_shr ((nb (D.pb t l) 10 : Nat) : Int) (v : Int)) 1 = (if D.pb t l v = true then 1 else 0) := fun v hv => by
    rw [b_ibit (by omega) (Nat.lt_trans (nb_lt 10) (by decide)), nb_bit]
    simp [hv]
  generalize hB : nb (D.pb t l) 10 = B at hbit
  generalize D.pb t l = P at hfin hbit hP0
  generalize D.ro t l = ro at hfin hr
  generalize 4 * (t : Int) + l = kk
  have hisin : ∀ v : Nat, v < 10 → ∀ Q' : Option ab_V → ab_W → Prop, Sm Ls (d + 7) 102 [vI (B : Int), vI (v : Int)] x Q' = Q' (some (vI (if P v = true then 1 else 0))) x := fun v hv Q' => by
    rw [q_isIn, hbit v hv]
    cases P v
    · simp [ab_yn]
    · simp [ab_yn]
  have outer : ∀ (k m : Nat), m + k = 48 → ∀ a b c e : ab_V, Ev Ls (Sm Ls (d + 7)) q bk_171 1 [vR 39, vI kk, vI B, vI (ak_b (fun m => ak_m P (ro m) 10) m).1, vI (ak_b (fun m => ak_m P (ro m) 10) m).2, vI m, a, b, c, e] [] x := by
    intro k
    induction k with
    | zero =>
      intro m hm a b c e
      have : m = 48 := by omega
      subst this
      rw [ev_171_1]
      simp only [↓e_aload0, ↓e_iload1, ↓e_cv2, i_39, e_rpn, e_rps, e_few0, e_few1, e_few2, e_few3, e_few4, ↓e_istore2, e_klI, e_klR, e_klX, e_klL, ↓e_iconst, ↓e_istore3, ↓e_istore4, ↓e_istore5, ↓e_iload5, ↓e_bipush, ↓e_cmp_ge, ↓e_istore6, ↓e_istore7, ↓e_iload7, ↓e_istore8, ↓e_istore9, ↓e_iload9, ↓e_iload8, ↓e_iload2, ↓e_cs2, ↓e_if_eq, ↓g_39_31, ↓e_imul, ↓e_iadd, ↓e_cmp_ne, ↓e_goto, ↓e_iinc9, ↓e_iload6, ↓e_cmp_le, ↓e_iinc7, ↓e_iload3, ↓e_cmp_eq, ↓e_iload4, ↓e_iinc5, ↓e_iret, ↓x_63, ↓e_nil, b_171_0, b_171_1, b_171_2, b_171_3, b_171_4, b_171_5, b_171_6, b_171_7, b_171_8, b_171_9, b_171_10, b_171_11, b_171_12, b_171_13, b_171_14, b_171_15, b_171_16, b_171_17, ↓ev_171_17]
      exact ⟨fun _ => hfin, fun z => absurd (by decide) z⟩
    | succ k ih =>
      intro m hm a0 b0 c0 e0
      have hno : ¬ 48 ≤ (m : Int) := by omega
      have mid : ∀ (k2 a : Nat), a + k2 = 10 → 1 ≤ a → ∀ c e : ab_V, Ev Ls (Sm Ls (d + 7)) q bk_171 2 [vR 39, vI kk, vI B, vI (ak_b (fun m => ak_m P (ro m) 10) m).1, vI (ak_b (fun m => ak_m P (ro m) 10) m).2, vI m, vI (ak_m P (ro m) a), vI a, c, e] [] x := by
        intro k2
        induction k2 with
        | zero =>
          intro a ha _ c e
          have : a = 10 := by omega
          subst this
          have hI : ∀ y z : Int, (y, z) = ak_b (fun m => ak_m P (ro m) 10) (m + 1) → ∀ a b c e : ab_V, Ev Ls (Sm Ls (d + 7)) q bk_171 1 [vR 39, vI kk, vI B, vI y, vI z, vI ((m : Int) + 1), a, b, c, e] [] x := fun y z hyz a b c e => by
            have := ih (m + 1) (by omega) a b c e
            rw [← hyz] at this
            exact this
          rw [ak_b_s] at hI
          have w1 : iW ((m : Int) + 1) = (m : Int) + 1 := iW_id (by omega) (by omega)
          rw [ev_171_2]
          simp only [↓e_aload0, ↓e_iload1, ↓e_cv2, i_39, e_rpn, e_rps, e_few0, e_few1, e_few2, e_few3, e_few4, ↓e_istore2, e_klI, e_klR, e_klX, e_klL, ↓e_iconst, ↓e_istore3, ↓e_istore4, ↓e_istore5, ↓e_iload5, ↓e_bipush, ↓e_cmp_ge, ↓e_istore6, ↓e_istore7, ↓e_iload7, ↓e_istore8, ↓e_istore9, ↓e_iload9, ↓e_iload8, ↓e_iload2, ↓e_cs2, ↓e_if_eq, ↓g_39_31, ↓e_imul, ↓e_iadd, ↓e_cmp_ne, ↓e_goto, ↓e_iinc9, ↓e_iload6, ↓e_cmp_le, ↓e_iinc7, ↓e_iload3, ↓e_cmp_eq, ↓e_iload4, ↓e_iinc5, ↓e_iret, ↓x_63, ↓e_nil, b_171_0, b_171_1, b_171_2, b_171_3, b_171_4, b_171_5, b_171_6, b_171_7, b_171_8, b_171_9, b_171_10, b_171_11, b_171_12, b_171_13, b_171_14, b_171_15, b_171_16, b_171_17, ↓ev_171_9, ↓ev_171_10, ↓ev_171_11, ↓ev_171_12, ↓ev_171_13, ↓ev_171_14, ↓ev_171_15, ↓ev_171_16, w1, one0, eq_self, ne_eq, not_true_eq_false, not_false_eq_true, true_implies, false_implies, true_and, and_true, and_self]
          clear w1
          refine ⟨fun _ => ⟨fun g => ?_, fun g => ⟨fun g2 => ?_, fun g2 => ?_⟩⟩, fun z => absurd (by decide) z⟩
          · exact hI _ _ (by rw [if_pos (Or.inl g)]) _ _ _ _
          · exact hI _ _ (by rw [if_neg (fun z => z.elim g (fun z => Int.not_lt.mpr g2 z))]) _ _ _ _
          · exact hI _ _ (by rw [if_pos (Or.inr (Int.not_le.mp g2))]) _ _ _ _
        | succ k2 ih2 =>
          intro a ha ha1 c e
          have hno2 : ¬ 10 ≤ (a : Int) := by omega
          have inner : ∀ (k3 b : Nat), b + k3 = 10 → 1 ≤ b → Ev Ls (Sm Ls (d + 7)) q bk_171 3 [vR 39, vI kk, vI B, vI (ak_b (fun m => ak_m P (ro m) 10) m).1, vI (ak_b (fun m => ak_m P (ro m) 10) m).2, vI m, vI (ak_m P (ro m) a), vI a, vI (ak_n P (ro m) a b), vI b] [] x := by
            intro k3
            induction k3 with
            | zero =>
              intro b hb _
              have : b = 10 := by omega
              subst this
              have hI : ∀ y : Int, y = ak_m P (ro m) (a + 1) → ∀ c e : ab_V, Ev Ls (Sm Ls (d + 7)) q bk_171 2 [vR 39, vI kk, vI B, vI (ak_b (fun m => ak_m P (ro m) 10) m).1, vI (ak_b (fun m => ak_m P (ro m) 10) m).2, vI m, vI y, vI ((a : Int) + 1), c, e] [] x := fun y hy c e => by rw [hy]; exact ih2 (a + 1) (by omega) (by omega) c e
              rw [ak_m_s] at hI
              have w1 : iW ((a : Int) + 1) = (a : Int) + 1 := iW_id (by omega) (by omega)
              rw [ev_171_3]
              simp only [↓e_aload0, ↓e_iload1, ↓e_cv2, i_39, e_rpn, e_rps, e_few0, e_few1, e_few2, e_few3, e_few4, ↓e_istore2, e_klI, e_klR, e_klX, e_klL, ↓e_iconst, ↓e_istore3, ↓e_istore4, ↓e_istore5, ↓e_iload5, ↓e_bipush, ↓e_cmp_ge, ↓e_istore6, ↓e_istore7, ↓e_iload7, ↓e_istore8, ↓e_istore9, ↓e_iload9, ↓e_iload8, ↓e_iload2, ↓e_cs2, ↓e_if_eq, ↓g_39_31, ↓e_imul, ↓e_iadd, ↓e_cmp_ne, ↓e_goto, ↓e_iinc9, ↓e_iload6, ↓e_cmp_le, ↓e_iinc7, ↓e_iload3, ↓e_cmp_eq, ↓e_iload4, ↓e_iinc5, ↓e_iret, ↓x_63, ↓e_nil, b_171_0, b_171_1, b_171_2, b_171_3, b_171_4, b_171_5, b_171_6, b_171_7, b_171_8, b_171_9, b_171_10, b_171_11, b_171_12, b_171_13, b_171_14, b_171_15, b_171_16, b_171_17, ↓ev_171_6, ↓ev_171_7, ↓ev_171_8, w1, one0, eq_self, ne_eq, not_true_eq_false, not_false_eq_true, true_implies, false_implies, true_and, and_true, and_self]
              clear w1
              refine ⟨fun _ => ⟨fun g => hI _ ?_ _ _, fun g => hI _ ?_ _ _⟩, fun z => absurd (by decide) z⟩
              · rw [if_neg (by omega)]
              · rw [if_pos (by omega)]
            | succ k3 ih3 =>
              intro b hb hb1
              have hno3 : ¬ 10 ≤ (b : Int) := by omega
              have hn := ak_n_in (P := P) (r := ro m) (a := a) b
              have hI : ∀ y : Int, y = ak_n P (ro m) a (b + 1) → Ev Ls (Sm Ls (d + 7)) q bk_171 3 [vR 39, vI kk, vI B, vI (ak_b (fun m => ak_m P (ro m) 10) m).1, vI (ak_b (fun m => ak_m P (ro m) 10) m).2, vI m, vI (ak_m P (ro m) a), vI a, vI y, vI ((b : Int) + 1)] [] x := fun y hy => by rw [hy]; exact ih3 (b + 1) (by omega) (by omega)
              rw [ak_n_s] at hI
              have i1 : 0 ≤ 48 * (a : Int) + m ∧ 48 * (a : Int) + m < 480 := by omega
              have i2 : 0 ≤ 48 * (b : Int) + m ∧ 48 * (b : Int) + m < 480 := by omega
              have e1 := hr a m ha1 (by omega) (by omega)
              have e2 := hr b m hb1 (by omega) (by omega)
              have s1 := hisin a (by omega)
              have s2 := hisin b (by omega)
              obtain ⟨w1, w2, w3, w4, w5, w6, w7⟩ : iW ((b : Int) + 1) = (b : Int) + 1 ∧ iW (48 * (a : Int)) = 48 * (a : Int) ∧ iW (48 * (a : Int) + m) = 48 * (a : Int) + m ∧ iW (48 * (b : Int)) = 48 * (b : Int) ∧ iW (48 * (b : Int) + m) = 48 * (b : Int) + m ∧ iW (ak_n P (ro m) a b + 1) = ak_n P (ro m) a b + 1 ∧ iW (ak_n P (ro m) a b + 0) = ak_n P (ro m) a b + 0 := ⟨iW_id (by omega) (by omega), iW_id (by omega) (by omega), iW_id (by omega) (by omega), iW_id (by omega) (by omega), iW_id (by omega) (by omega), iW_id (by omega) (by omega), iW_id (by omega) (by omega)⟩
              rw [ev_171_3]
              cases hPa : P a
              · rw [hPa] at s1 hI
                simp only [↓e_aload0, ↓e_iload1, ↓e_cv2, i_39, e_rpn, e_rps, e_few0, e_few1, e_few2, e_few3, e_few4, ↓e_istore2, e_klI, e_klR, e_klX, e_klL, ↓e_iconst, ↓e_istore3, ↓e_istore4, ↓e_istore5, ↓e_iload5, ↓e_bipush, ↓e_cmp_ge, ↓e_istore6, ↓e_istore7, ↓e_iload7, ↓e_istore8, ↓e_istore9, ↓e_iload9, ↓e_iload8, ↓e_iload2, ↓e_cs2, ↓e_if_eq, ↓g_39_31, ↓e_imul, ↓e_iadd, ↓e_cmp_ne, ↓e_goto, ↓e_iinc9, ↓e_iload6, ↓e_cmp_le, ↓e_iinc7, ↓e_iload3, ↓e_cmp_eq, ↓e_iload4, ↓e_iinc5, ↓e_iret, ↓x_63, ↓e_nil, b_171_0, b_171_1, b_171_2, b_171_3, b_171_4, b_171_5, b_171_6, b_171_7, b_171_8, b_171_9, b_171_10, b_171_11, b_171_12, b_171_13, b_171_14, b_171_15, b_171_16, b_171_17, ↓ev_171_4, ↓ev_171_5, hno3, s1, w1, w7, Bool.false_eq_true, if_false, false_and, one0, eq_self, ne_eq, not_true_eq_false, not_false_eq_true, true_implies, false_implies, true_and, and_true, and_self] at hI ⊢
                exact hI _ rfl
              · rw [hPa] at s1 hI
                cases hPb : P b
                · rw [hPb] at s2 hI
                  simp only [↓e_aload0, ↓e_iload1, ↓e_cv2, i_39, e_rpn, e_rps, e_few0, e_few1, e_few2, e_few3, e_few4, ↓e_istore2, e_klI, e_klR, e_klX, e_klL, ↓e_iconst, ↓e_istore3, ↓e_istore4, ↓e_istore5, ↓e_iload5, ↓e_bipush, ↓e_cmp_ge, ↓e_istore6, ↓e_istore7, ↓e_iload7, ↓e_istore8, ↓e_istore9, ↓e_iload9, ↓e_iload8, ↓e_iload2, ↓e_cs2, ↓e_if_eq, ↓g_39_31, ↓e_imul, ↓e_iadd, ↓e_cmp_ne, ↓e_goto, ↓e_iinc9, ↓e_iload6, ↓e_cmp_le, ↓e_iinc7, ↓e_iload3, ↓e_cmp_eq, ↓e_iload4, ↓e_iinc5, ↓e_iret, ↓x_63, ↓e_nil, b_171_0, b_171_1, b_171_2, b_171_3, b_171_4, b_171_5, b_171_6, b_171_7, b_171_8, b_171_9, b_171_10, b_171_11, b_171_12, b_171_13, b_171_14, b_171_15, b_171_16, b_171_17, ↓ev_171_4, ↓ev_171_5, hno3, s1, s2, w1, w7, Bool.false_eq_true, if_false, if_true, false_and, and_false, one0, eq_self, ne_eq, not_true_eq_false, not_false_eq_true, true_implies, false_implies, true_and, and_true, and_self] at hI ⊢
                  exact hI _ rfl
                · rw [hPb] at s2 hI
                  simp only [↓e_aload0, ↓e_iload1, ↓e_cv2, i_39, e_rpn, e_rps, e_few0, e_few1, e_few2, e_few3, e_few4, ↓e_istore2, e_klI, e_klR, e_klX, e_klL, ↓e_iconst, ↓e_istore3, ↓e_istore4, ↓e_istore5, ↓e_iload5, ↓e_bipush, ↓e_cmp_ge, ↓e_istore6, ↓e_istore7, ↓e_iload7, ↓e_istore8, ↓e_istore9, ↓e_iload9, ↓e_iload8, ↓e_iload2, ↓e_cs2, ↓e_if_eq, ↓g_39_31, ↓e_imul, ↓e_iadd, ↓e_cmp_ne, ↓e_goto, ↓e_iinc9, ↓e_iload6, ↓e_cmp_le, ↓e_iinc7, ↓e_iload3, ↓e_cmp_eq, ↓e_iload4, ↓e_iinc5, ↓e_iret, ↓x_63, ↓e_nil, b_171_0, b_171_1, b_171_2, b_171_3, b_171_4, b_171_5, b_171_6, b_171_7, b_171_8, b_171_9, b_171_10, b_171_11, b_171_12, b_171_13, b_171_14, b_171_15, b_171_16, b_171_17, ↓ev_171_4, ↓ev_171_5, hno3, s1, s2, w1, w2, w3, w4, w5, w6, w7, i1, i2, e1, e2, if_true, one0, eq_self, ne_eq, not_true_eq_false, not_false_eq_true, true_implies, false_implies, true_and, and_true, and_self] at hI ⊢
                  refine ⟨fun g => hI _ ?_, fun g => hI _ ?_⟩
                  · rw [if_neg g]
                  · rw [if_pos (Classical.not_not.mp g)]
          have hin := inner 9 1 (by omega) (by omega)
          have h1 : ak_n P (ro m) a 1 = 0 := by rw [ak_n_s, if_neg (by simp [hP0])]; rfl
          rw [h1] at hin
          rw [ev_171_2]
          simp only [↓e_aload0, ↓e_iload1, ↓e_cv2, i_39, e_rpn, e_rps, e_few0, e_few1, e_few2, e_few3, e_few4, ↓e_istore2, e_klI, e_klR, e_klX, e_klL, ↓e_iconst, ↓e_istore3, ↓e_istore4, ↓e_istore5, ↓e_iload5, ↓e_bipush, ↓e_cmp_ge, ↓e_istore6, ↓e_istore7, ↓e_iload7, ↓e_istore8, ↓e_istore9, ↓e_iload9, ↓e_iload8, ↓e_iload2, ↓e_cs2, ↓e_if_eq, ↓g_39_31, ↓e_imul, ↓e_iadd, ↓e_cmp_ne, ↓e_goto, ↓e_iinc9, ↓e_iload6, ↓e_cmp_le, ↓e_iinc7, ↓e_iload3, ↓e_cmp_eq, ↓e_iload4, ↓e_iinc5, ↓e_iret, ↓x_63, ↓e_nil, b_171_0, b_171_1, b_171_2, b_171_3, b_171_4, b_171_5, b_171_6, b_171_7, b_171_8, b_171_9, b_171_10, b_171_11, b_171_12, b_171_13, b_171_14, b_171_15, b_171_16, b_171_17, hno2, one0, eq_self, ne_eq, not_true_eq_false, not_false_eq_true, true_implies, false_implies, true_and, and_true, and_self]
          exact hin
      have hm2 := fun c e => mid 9 1 (by omega) (by omega) c e
      have h1 : ak_m P (ro m) 1 = 0 := by rw [ak_m_s, ak_n_0 hP0]; rfl
      rw [h1] at hm2
      rw [ev_171_1]
      simp only [↓e_aload0, ↓e_iload1, ↓e_cv2, i_39, e_rpn, e_rps, e_few0, e_few1, e_few2, e_few3, e_few4, ↓e_istore2, e_klI, e_klR, e_klX, e_klL, ↓e_iconst, ↓e_istore3, ↓e_istore4, ↓e_istore5, ↓e_iload5, ↓e_bipush, ↓e_cmp_ge, ↓e_istore6, ↓e_istore7, ↓e_iload7, ↓e_istore8, ↓e_istore9, ↓e_iload9, ↓e_iload8, ↓e_iload2, ↓e_cs2, ↓e_if_eq, ↓g_39_31, ↓e_imul, ↓e_iadd, ↓e_cmp_ne, ↓e_goto, ↓e_iinc9, ↓e_iload6, ↓e_cmp_le, ↓e_iinc7, ↓e_iload3, ↓e_cmp_eq, ↓e_iload4, ↓e_iinc5, ↓e_iret, ↓x_63, ↓e_nil, b_171_0, b_171_1, b_171_2, b_171_3, b_171_4, b_171_5, b_171_6, b_171_7, b_171_8, b_171_9, b_171_10, b_171_11, b_171_12, b_171_13, b_171_14, b_171_15, b_171_16, b_171_17, hno, one0, eq_self, ne_eq, not_true_eq_false, not_false_eq_true, true_implies, false_implies, true_and, and_true, and_self]
      exact hm2 _ _
  simp only [↓e_aload0, ↓e_iload1, ↓e_cv2, i_39, e_rpn, e_rps, e_few0, e_few1, e_few2, e_few3, e_few4, ↓e_istore2, e_klI, e_klR, e_klX, e_klL, ↓e_iconst, ↓e_istore3, ↓e_istore4, ↓e_istore5, ↓e_iload5, ↓e_bipush, ↓e_cmp_ge, ↓e_istore6, ↓e_istore7, ↓e_iload7, ↓e_istore8, ↓e_istore9, ↓e_iload9, ↓e_iload8, ↓e_iload2, ↓e_cs2, ↓e_if_eq, ↓g_39_31, ↓e_imul, ↓e_iadd, ↓e_cmp_ne, ↓e_goto, ↓e_iinc9, ↓e_iload6, ↓e_cmp_le, ↓e_iinc7, ↓e_iload3, ↓e_cmp_eq, ↓e_iload4, ↓e_iinc5, ↓e_iret, ↓x_63, ↓e_nil, b_171_0, b_171_1, b_171_2, b_171_3, b_171_4, b_171_5, b_171_6, b_171_7, b_171_8, b_171_9, b_171_10, b_171_11, b_171_12, b_171_13, b_171_14, b_171_15, b_171_16, b_171_17, one0, eq_self, ne_eq, not_true_eq_false, not_false_eq_true, true_implies, false_implies, true_and, and_true, and_self]
  exact outer 48 0 (by omega) _ _ _ _
theorem q_askM (ht : m_told w D) {a b : Int} (h : ∀ w', m_scr w w' → q (some (vI (p_tl D a b D.ask))) w') : Sm Ls (d + 9) 172 [vR 39, vI a, vI b] w q := by
  unfold p_tl at h
  have hT4 := Td.T4 ht.ok
  rw [en_172]
  simp only [↓e_aload0, ↓e_iload1, ↓e_cv2, i_39, e_rpn, e_rps, e_few0, e_few1, e_few2, e_few3, e_few4, ↓e_if_eq, ↓e_iload2, ↓e_cs1, ↓e_iconst, ↓e_imul, ↓e_iadd, ↓e_goto, ↓e_bipush, ↓e_iret, ↓e_nil, b_172_0, b_172_1, b_172_2, one0, eq_self, ne_eq, not_true_eq_false, not_false_eq_true, true_implies, false_implies, true_and, and_true, and_self]
  refine q_isTeamM ht (fun w1 h1 => ?_)
  simp only [↓e_aload0, ↓e_iload1, ↓e_cv2, i_39, e_rpn, e_rps, e_few0, e_few1, e_few2, e_few3, e_few4, ↓e_if_eq, ↓e_iload2, ↓e_cs1, ↓e_iconst, ↓e_imul, ↓e_iadd, ↓e_goto, ↓e_bipush, ↓e_iret, ↓e_nil, b_172_0, b_172_1, b_172_2, ↓ev_172_1, ↓ev_172_2, q_isFour, ab_yn, one0, eq_self, ne_eq, not_true_eq_false, not_false_eq_true, true_implies, false_implies, true_and, and_true, and_self]
  refine ⟨fun g2 => ⟨fun g3 => ?_, fun g3 => ?_⟩, fun g2 => ?_⟩
  · obtain ⟨t, rfl⟩ : ∃ t : Nat, a = t := ⟨a.toNat, by omega⟩
    obtain ⟨l, rfl⟩ : ∃ l : Nat, b = l := ⟨b.toNat, by omega⟩
    obtain ⟨u1, u2⟩ : iW (4 * (t : Int)) = 4 * (t : Int) ∧ iW (4 * (t : Int) + l) = 4 * (t : Int) + l := ⟨iW_id (by omega) (by omega), iW_id (by omega) (by omega)⟩
    rw [u1, u2]
    clear u1 u2
    refine q_askOf (h1.told ht) (by omega) (by omega) (fun w2 h2 => ?_)
    have := h w2 (h1.1.trans h2.1)
    rw [if_pos (by omega), Int.toNat_natCast, Int.toNat_natCast] at this
    simp only [↓e_aload0, ↓e_iload1, ↓e_cv2, i_39, e_rpn, e_rps, e_few0, e_few1, e_few2, e_few3, e_few4, ↓e_if_eq, ↓e_iload2, ↓e_cs1, ↓e_iconst, ↓e_imul, ↓e_iadd, ↓e_goto, ↓e_bipush, ↓e_iret, ↓e_nil, b_172_0, b_172_1, b_172_2, ↓ev_172_2]
    exact this
  · have := h w1 h1.1; rw [if_neg (by omega)] at this; exact this
  · have := h w1 h1.1; rw [if_neg (by omega)] at this; exact this
end MAsk40
