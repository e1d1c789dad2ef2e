/-! the class: was -/
section CWas48
variable {Ls d : Nat} {w : ab_W} {q : Option ab_V → ab_W → Prop} {D : Td} {c : Cf}
/-- a pace set: own runners -/
theorem c_own_p {v : ab_W} {t l : Nat} {p : Int} (h : (∀ l' : Nat, l' < 4 → v 22 ((t : Int) * 4 + l') = D.so t l') ∧ ∀ l' : Nat, l' < 4 → l' ≠ l → v 23 ((t : Int) * 4 + l') = D.pa t l') : ∀ l' : Nat, l' < 4 → ab_up v 23 ((t : Int) * 4 + l) p 22 ((t : Int) * 4 + l') = D.so t l' ∧ ab_up v 23 ((t : Int) * 4 + l) p 23 ((t : Int) * 4 + l') = p_at' (D.pa t) l p l' := fun l' hl' => by
  rw [ab_up_p (by decide)]
  refine ⟨h.1 l' hl', ?_⟩
  unfold p_at'
  by_cases hll : l' = l
  · subst hll; rw [if_pos rfl, ab_up_at]
  · rw [if_neg hll, ab_up_nj (by omega)]; exact h.2 l' hl' hll
theorem c_own_s {v : ab_W} {t l : Nat} {p : Int} (h : (∀ l' : Nat, l' < 4 → v 23 ((t : Int) * 4 + l') = D.pa t l') ∧ ∀ l' : Nat, l' < 4 → l' ≠ l → v 22 ((t : Int) * 4 + l') = D.so t l') : ∀ l' : Nat, l' < 4 → ab_up v 22 ((t : Int) * 4 + l) p 22 ((t : Int) * 4 + l') = p_at' (D.so t) l p l' ∧ ab_up v 22 ((t : Int) * 4 + l) p 23 ((t : Int) * 4 + l') = D.pa t l' := fun l' hl' => by
  refine ⟨?_, by rw [ab_up_p (by decide)]; exact h.1 l' hl'⟩
  unfold p_at'
  by_cases hll : l' = l
  · subst hll; rw [if_pos rfl, ab_up_at]
  · rw [if_neg hll, ab_up_nj (by omega)]; exact h.2 l' hl' hll
theorem c_ox.up {v : ab_W} {t l : Nat} {r : Nat} {p : Int} (h : c_ox t v c) (hl : l < 4) (hr : r = 22 ∨ r = 23) : c_ox t (ab_up v r ((t : Int) * 4 + l) p) c := by
  refine h.kept ⟨ab_up_ne (by omega), ab_up_ne (by omega), ab_up_ne (by omega), ab_up_ne (by omega)⟩ (fun i hi => ?_)
  rcases hr with rfl | rfl
  · rw [ab_up_nj (by omega), ab_up_p (by decide)]; exact ⟨rfl, rfl⟩
  · rw [ab_up_p (by decide), ab_up_nj (by omega)]; exact ⟨rfl, rfl⟩
theorem p_at_in {pa : Nat → Int} {l : Nat} {p : Int} (h : ∀ l, l < 4 → 1 ≤ pa l ∧ pa l ≤ 9) (hp : 1 ≤ p ∧ p ≤ 9) : ∀ l', l' < 4 → 1 ≤ p_at' pa l p l' ∧ p_at' pa l p l' ≤ 9 := fun l' hl' => by
  unfold p_at'; split
  · exact hp
  · exact h l' hl'
/-- one pace tried -/
theorem q_tryPace (ht : c_told w D) {t l p : Nat} (htT : t < D.T) (hl : l < 4) (hp : 1 ≤ p ∧ p ≤ 9) {v : ab_W} (v0 : c_tr w v) (v1 : c_ox t v (D.cf 255)) (v2 : (∀ l' : Nat, l' < 4 → v 22 ((t : Int) * 4 + l') = D.so t l') ∧ ∀ l' : Nat, l' < 4 → l' ≠ l → v 23 ((t : Int) * 4 + l') = D.pa t l') {Q' : Option ab_V → ab_W → Prop}
    (h : ∀ x, c_tr w x → c_ox t x (D.cf 255) → ((∀ l' : Nat, l' < 4 → x 22 ((t : Int) * 4 + l') = D.so t l') ∧ ∀ l' : Nat, l' < 4 → l' ≠ l → x 23 ((t : Int) * 4 + l') = D.pa t l') → c_rc 21 x ((D.cf 255).pc t l p) → x 29 = v 29 → Q' none x) : Sm Ls (d + 3) 12 [vR 21, vI t] (ab_up v 23 ((t : Int) * 4 + l) p) Q' := by
  refine q_again (c := D.cf 255) (v1.up hl (Or.inr rfl)) htT (c_own_p v2) (p_at_in ((Td.cok ht.ok 255).2.2.2 t htT) (by omega)) (fun x f1 f2 f3 => h x ?_ f3 ⟨fun l' hl' => ?_, fun l' hl' hne => ?_⟩ f2 ?_)
  · exact v0.trans (fun r hr => by rw [f1 r (by omega) (by omega), ab_up_ne (by omega)])
  · rw [f1 22 (by decide) (by decide), ab_up_p (by decide)]; exact v2.1 l' hl'
  · rw [f1 23 (by decide) (by decide), ab_up_nj (by omega)]; exact v2.2 l' hl' hne
  · rw [f1 29 (by decide) (by decide), ab_up_ne (by decide)]
theorem q_trySort (ht : c_told w D) {t l : Nat} {p : Int} (htT : t < D.T) (hl : l < 4) {v : ab_W} (v0 : c_tr w v) (v1 : c_ox t v (D.cf 255)) (v2 : (∀ l' : Nat, l' < 4 → v 23 ((t : Int) * 4 + l') = D.pa t l') ∧ ∀ l' : Nat, l' < 4 → l' ≠ l → v 22 ((t : Int) * 4 + l') = D.so t l') {Q' : Option ab_V → ab_W → Prop}
    (h : ∀ x, c_tr w x → c_ox t x (D.cf 255) → ((∀ l' : Nat, l' < 4 → x 23 ((t : Int) * 4 + l') = D.pa t l') ∧ ∀ l' : Nat, l' < 4 → l' ≠ l → x 22 ((t : Int) * 4 + l') = D.so t l') → c_rc 21 x ((D.cf 255).sc t l p) → Q' none x) : Sm Ls (d + 3) 12 [vR 21, vI t] (ab_up v 22 ((t : Int) * 4 + l) p) Q' := by
  refine q_again (c := D.cf 255) (v1.up hl (Or.inl rfl)) htT (c_own_s v2) ((Td.cok ht.ok 255).2.2.2 t htT) (fun x f1 f2 f3 => h x ?_ f3 ⟨fun l' hl' => ?_, fun l' hl' hne => ?_⟩ f2)
  · exact v0.trans (fun r hr => by rw [f1 r (by omega) (by omega), ab_up_ne (by omega)])
  · rw [f1 23 (by decide) (by decide), ab_up_p (by decide)]; exact v2.1 l' hl'
  · rw [f1 22 (by decide) (by decide), ab_up_nj (by omega)]; exact v2.2 l' hl' hne
theorem q_pacesC (ht : c_told w D) {t l : Nat} (htT : t < D.T) (hl : l < 4) {v : ab_W} (v0 : c_tr w v) (v1 : c_ox t v (D.cf 255)) (v2 : (∀ l' : Nat, l' < 4 → v 22 ((t : Int) * 4 + l') = D.so t l') ∧ ∀ l' : Nat, l' < 4 → l' ≠ l → v 23 ((t : Int) * 4 + l') = D.pa t l') {Q' : Option ab_V → ab_W → Prop} (h : ∀ x, c_tr w x → Q' (some (vI (nb (D.pb t l) 10 : Nat))) x) : Sm Ls (d + 5) 67 [vR 0, vI t, vI l] v Q' := by
  have hT4 := Td.T4 ht.ok
  have hin : 0 ≤ (t : Int) * 4 + l ∧ (t : Int) * 4 + l < 16 := by omega
  have key : ∀ (k p : Nat), p + k = 10 → 1 ≤ p → ∀ v : ab_W, c_tr w v → c_ox t v (D.cf 255) → ((∀ l' : Nat, l' < 4 → v 22 ((t : Int) * 4 + l') = D.so t l') ∧ ∀ l' : Nat, l' < 4 → l' ≠ l → v 23 ((t : Int) * 4 + l') = D.pa t l') → Ev Ls (Sm Ls (d + 4)) Q' bk_67 1 [vR 0, vI t, vI l, vI (nb (D.pb t l) p : Nat), vI p] [] v := by
    intro k
    induction k with
    | zero =>
      intro p hp hp1 v v0 v1 v2
      have : p = 10 := by omega
      subst this
      have hfin := h v v0
      rw [ev_67_1]
      simp only [↓e_iconst, ↓e_istore3, e_klI, e_klR, e_klX, e_klL, ↓e_istore4, ↓e_iload4, ↓e_bipush, ↓e_cmp_gt, ↓e_aload0, ↓g_0_5, ↓g_15_1, ↓g_21_1, ↓e_iload1, ↓e_imul, ↓e_iload2, ↓e_iadd, ↓e_cv2, i_15, i_21, e_rpn, e_rps, e_few0, e_few1, e_few2, e_few3, e_few4, ↓g_0_2, ↓e_if_eq, ↓e_iload3, ↓e_ishl, ↓e_ior, ↓e_iinc4, ↓e_goto, ↓e_iret, ↓y_17, ↓y_23, ↓e_nil, b_67_0, b_67_1, b_67_2, b_67_3, ↓ev_67_3]
      exact ⟨fun _ => hfin, fun z => absurd (by decide) z⟩
    | succ k ih =>
      intro p hp hp1 v v0 v1 v2
      have hno : ¬ 9 < (p : Int) := by omega
      have p1 := b_2pw (a := p) (by omega)
      have hor := b_or1 (nb_lt (P := D.pb t l) p) (show p < 12 by omega) (b := D.pb t l p)
      obtain ⟨w1, w2, w3⟩ : iW ((p : Int) + 1) = (p : Int) + 1 ∧ iW ((t : Int) * 4) = (t : Int) * 4 ∧ iW ((t : Int) * 4 + l) = (t : Int) * 4 + l := ⟨iW_id (by omega) (by omega), iW_id (by omega) (by omega), iW_id (by omega) (by omega)⟩
      rw [ev_67_1]
      simp only [↓e_iconst, ↓e_istore3, e_klI, e_klR, e_klX, e_klL, ↓e_istore4, ↓e_iload4, ↓e_bipush, ↓e_cmp_gt, ↓e_aload0, ↓g_0_5, ↓g_15_1, ↓g_21_1, ↓e_iload1, ↓e_imul, ↓e_iload2, ↓e_iadd, ↓e_cv2, i_15, i_21, e_rpn, e_rps, e_few0, e_few1, e_few2, e_few3, e_few4, ↓g_0_2, ↓e_if_eq, ↓e_iload3, ↓e_ishl, ↓e_ior, ↓e_iinc4, ↓e_goto, ↓e_iret, ↓y_17, ↓y_23, ↓e_nil, b_67_0, b_67_1, b_67_2, b_67_3, hno, hin, w2, w3, one0, eq_self, ne_eq, not_true_eq_false, not_false_eq_true, true_implies, false_implies, true_and, and_true, and_self]
      refine q_tryPace ht htT hl (by clear w1 w2 w3; omega) v0 v1 v2 (fun x f0 f1 f2 f3 _ => ?_)
      have hI := ih (p + 1) (by clear w1 w2 w3; omega) (by clear w1 w2 w3; omega) x f0 f1 f2
      rw [nb_s, ← hor] at hI
      simp only [↓e_iconst, ↓e_istore3, e_klI, e_klR, e_klX, e_klL, ↓e_istore4, ↓e_iload4, ↓e_bipush, ↓e_cmp_gt, ↓e_aload0, ↓g_0_5, ↓g_15_1, ↓g_21_1, ↓e_iload1, ↓e_imul, ↓e_iload2, ↓e_iadd, ↓e_cv2, i_15, i_21, e_rpn, e_rps, e_few0, e_few1, e_few2, e_few3, e_few4, ↓g_0_2, ↓e_if_eq, ↓e_iload3, ↓e_ishl, ↓e_ior, ↓e_iinc4, ↓e_goto, ↓e_iret, ↓y_17, ↓y_23, ↓e_nil, b_67_0, b_67_1, b_67_2, b_67_3, one0, eq_self, ne_eq, not_true_eq_false, not_false_eq_true, true_implies, false_implies, true_and, and_true, and_self]
      refine q_seenC f3 (f0.told ht) ?_
      rw [m_pb_s hp1]
      cases hb : D.pb t l p
      · rw [hb] at hI hor
        simp only [Bool.false_eq_true, if_false, Nat.or_zero] at hI hor
        rw [hor] at hI
        simp only [↓e_iconst, ↓e_istore3, e_klI, e_klR, e_klX, e_klL, ↓e_istore4, ↓e_iload4, ↓e_bipush, ↓e_cmp_gt, ↓e_aload0, ↓g_0_5, ↓g_15_1, ↓g_21_1, ↓e_iload1, ↓e_imul, ↓e_iload2, ↓e_iadd, ↓e_cv2, i_15, i_21, e_rpn, e_rps, e_few0, e_few1, e_few2, e_few3, e_few4, ↓g_0_2, ↓e_if_eq, ↓e_iload3, ↓e_ishl, ↓e_ior, ↓e_iinc4, ↓e_goto, ↓e_iret, ↓y_17, ↓y_23, ↓e_nil, b_67_0, b_67_1, b_67_2, b_67_3, ↓ev_67_2, w1, bI, Bool.false_eq_true, if_false, one0, eq_self, ne_eq, not_true_eq_false, not_false_eq_true, true_implies, false_implies, true_and, and_true, and_self]
        exact hI
      · rw [hb] at hI
        simp only [if_true] at hI
        simp only [↓e_iconst, ↓e_istore3, e_klI, e_klR, e_klX, e_klL, ↓e_istore4, ↓e_iload4, ↓e_bipush, ↓e_cmp_gt, ↓e_aload0, ↓g_0_5, ↓g_15_1, ↓g_21_1, ↓e_iload1, ↓e_imul, ↓e_iload2, ↓e_iadd, ↓e_cv2, i_15, i_21, e_rpn, e_rps, e_few0, e_few1, e_few2, e_few3, e_few4, ↓g_0_2, ↓e_if_eq, ↓e_iload3, ↓e_ishl, ↓e_ior, ↓e_iinc4, ↓e_goto, ↓e_iret, ↓y_17, ↓y_23, ↓e_nil, b_67_0, b_67_1, b_67_2, b_67_3, ↓ev_67_2, w1, p1, bI, if_true, one0, eq_self, ne_eq, not_true_eq_false, not_false_eq_true, true_implies, false_implies, true_and, and_true, and_self]
        exact hI
  have hnb : nb (D.pb t l) 1 = 0 := by rw [nb_s]; simp [nb, Td.pb]
  have hk := key 9 1 (by omega) (by omega) v v0 v1 v2
  rw [hnb] at hk
  rw [en_67]
  simp only [↓e_iconst, ↓e_istore3, e_klI, e_klR, e_klX, e_klL, ↓e_istore4, ↓e_iload4, ↓e_bipush, ↓e_cmp_gt, ↓e_aload0, ↓g_0_5, ↓g_15_1, ↓g_21_1, ↓e_iload1, ↓e_imul, ↓e_iload2, ↓e_iadd, ↓e_cv2, i_15, i_21, e_rpn, e_rps, e_few0, e_few1, e_few2, e_few3, e_few4, ↓g_0_2, ↓e_if_eq, ↓e_iload3, ↓e_ishl, ↓e_ior, ↓e_iinc4, ↓e_goto, ↓e_iret, ↓y_17, ↓y_23, ↓e_nil, b_67_0, b_67_1, b_67_2, b_67_3]
  exact hk
theorem q_sortsC (ht : c_told w D) {t l : Nat} (htT : t < D.T) (hl : l < 4) {v : ab_W} (v0 : c_tr w v) (v1 : c_ox t v (D.cf 255)) (v2 : (∀ l' : Nat, l' < 4 → v 23 ((t : Int) * 4 + l') = D.pa t l') ∧ ∀ l' : Nat, l' < 4 → l' ≠ l → v 22 ((t : Int) * 4 + l') = D.so t l') {Q' : Option ab_V → ab_W → Prop} (h : ∀ x, c_tr w x → Q' (some (vI (nb (D.sbb t l) 3 : Nat))) x) : Sm Ls (d + 5) 68 [vR 0, vI t, vI l] v Q' := by
  have hT4 := Td.T4 ht.ok
  have hin : 0 ≤ (t : Int) * 4 + l ∧ (t : Int) * 4 + l < 16 := by omega
  have key : ∀ (k p : Nat), p + k = 3 → ∀ v : ab_W, c_tr w v → c_ox t v (D.cf 255) → ((∀ l' : Nat, l' < 4 → v 23 ((t : Int) * 4 + l') = D.pa t l') ∧ ∀ l' : Nat, l' < 4 → l' ≠ l → v 22 ((t : Int) * 4 + l') = D.so t l') → Ev Ls (Sm Ls (d + 4)) Q' bk_68 1 [vR 0, vI t, vI l, vI (nb (D.sbb t l) p : Nat), vI p] [] v := by
    intro k
    induction k with
    | zero =>
      intro p hp v v0 v1 v2
      have : p = 3 := by omega
      subst this
      have hfin := h v v0
      rw [ev_68_1]
      simp only [↓e_iconst, ↓e_istore3, e_klI, e_klR, e_klX, e_klL, ↓e_istore4, ↓e_iload4, ↓e_cmp_ge, ↓e_aload0, ↓g_0_5, ↓g_15_0, ↓g_21_0, ↓e_iload1, ↓e_imul, ↓e_iload2, ↓e_iadd, ↓e_cv2, i_15, i_21, e_rpn, e_rps, e_few0, e_few1, e_few2, e_few3, e_few4, ↓g_0_2, ↓e_if_eq, ↓e_iload3, ↓e_ishl, ↓e_ior, ↓e_iinc4, ↓e_goto, ↓e_iret, ↓y_16, ↓y_22, ↓e_nil, b_68_0, b_68_1, b_68_2, b_68_3, ↓ev_68_3]
      exact ⟨fun _ => hfin, fun z => absurd (by decide) z⟩
    | succ k ih =>
      intro p hp v v0 v1 v2
      have hno : ¬ 3 ≤ (p : Int) := by omega
      have p1 := b_2pw (a := p) (by omega)
      have hor := b_or1 (nb_lt (P := D.sbb t l) p) (show p < 12 by omega) (b := D.sbb t l p)
      obtain ⟨w1, w2, w3⟩ : iW ((p : Int) + 1) = (p : Int) + 1 ∧ iW ((t : Int) * 4) = (t : Int) * 4 ∧ iW ((t : Int) * 4 + l) = (t : Int) * 4 + l := ⟨iW_id (by omega) (by omega), iW_id (by omega) (by omega), iW_id (by omega) (by omega)⟩
      rw [ev_68_1]
      simp only [↓e_iconst, ↓e_istore3, e_klI, e_klR, e_klX, e_klL, ↓e_istore4, ↓e_iload4, ↓e_cmp_ge, ↓e_aload0, ↓g_0_5, ↓g_15_0, ↓g_21_0, ↓e_iload1, ↓e_imul, ↓e_iload2, ↓e_iadd, ↓e_cv2, i_15, i_21, e_rpn, e_rps, e_few0, e_few1, e_few2, e_few3, e_few4, ↓g_0_2, ↓e_if_eq, ↓e_iload3, ↓e_ishl, ↓e_ior, ↓e_iinc4, ↓e_goto, ↓e_iret, ↓y_16, ↓y_22, ↓e_nil, b_68_0, b_68_1, b_68_2, b_68_3, hno, hin, w2, w3, one0, eq_self, ne_eq, not_true_eq_false, not_false_eq_true, true_implies, false_implies, true_and, and_true, and_self]
      refine q_trySort ht htT hl v0 v1 v2 (fun x f0 f1 f2 f3 => ?_)
      have hI := ih (p + 1) (by clear w1 w2 w3; omega) x f0 f1 f2
      rw [nb_s, ← hor] at hI
      simp only [↓e_iconst, ↓e_istore3, e_klI, e_klR, e_klX, e_klL, ↓e_istore4, ↓e_iload4, ↓e_cmp_ge, ↓e_aload0, ↓g_0_5, ↓g_15_0, ↓g_21_0, ↓e_iload1, ↓e_imul, ↓e_iload2, ↓e_iadd, ↓e_cv2, i_15, i_21, e_rpn, e_rps, e_few0, e_few1, e_few2, e_few3, e_few4, ↓g_0_2, ↓e_if_eq, ↓e_iload3, ↓e_ishl, ↓e_ior, ↓e_iinc4, ↓e_goto, ↓e_iret, ↓y_16, ↓y_22, ↓e_nil, b_68_0, b_68_1, b_68_2, b_68_3, one0, eq_self, ne_eq, not_true_eq_false, not_false_eq_true, true_implies, false_implies, true_and, and_true, and_self]
      refine q_seenC f3 (f0.told ht) ?_
      rw [show ((D.cf 255).sc t l p).sb D = D.sbb t l p from rfl]
      cases hb : D.sbb t l p
      · rw [hb] at hI hor
        simp only [Bool.false_eq_true, if_false, Nat.or_zero] at hI hor
        rw [hor] at hI
        simp only [↓e_iconst, ↓e_istore3, e_klI, e_klR, e_klX, e_klL, ↓e_istore4, ↓e_iload4, ↓e_cmp_ge, ↓e_aload0, ↓g_0_5, ↓g_15_0, ↓g_21_0, ↓e_iload1, ↓e_imul, ↓e_iload2, ↓e_iadd, ↓e_cv2, i_15, i_21, e_rpn, e_rps, e_few0, e_few1, e_few2, e_few3, e_few4, ↓g_0_2, ↓e_if_eq, ↓e_iload3, ↓e_ishl, ↓e_ior, ↓e_iinc4, ↓e_goto, ↓e_iret, ↓y_16, ↓y_22, ↓e_nil, b_68_0, b_68_1, b_68_2, b_68_3, ↓ev_68_2, w1, bI, Bool.false_eq_true, if_false, one0, eq_self, ne_eq, not_true_eq_false, not_false_eq_true, true_implies, false_implies, true_and, and_true, and_self]
        exact hI
      · rw [hb] at hI
        simp only [if_true] at hI
        simp only [↓e_iconst, ↓e_istore3, e_klI, e_klR, e_klX, e_klL, ↓e_istore4, ↓e_iload4, ↓e_cmp_ge, ↓e_aload0, ↓g_0_5, ↓g_15_0, ↓g_21_0, ↓e_iload1, ↓e_imul, ↓e_iload2, ↓e_iadd, ↓e_cv2, i_15, i_21, e_rpn, e_rps, e_few0, e_few1, e_few2, e_few3, e_few4, ↓g_0_2, ↓e_if_eq, ↓e_iload3, ↓e_ishl, ↓e_ior, ↓e_iinc4, ↓e_goto, ↓e_iret, ↓y_16, ↓y_22, ↓e_nil, b_68_0, b_68_1, b_68_2, b_68_3, ↓ev_68_2, w1, p1, bI, if_true, one0, eq_self, ne_eq, not_true_eq_false, not_false_eq_true, true_implies, false_implies, true_and, and_true, and_self]
        exact hI
  have hk := key 3 0 (by omega) v v0 v1 v2
  rw [en_68]
  simp only [↓e_iconst, ↓e_istore3, e_klI, e_klR, e_klX, e_klL, ↓e_istore4, ↓e_iload4, ↓e_cmp_ge, ↓e_aload0, ↓g_0_5, ↓g_15_0, ↓g_21_0, ↓e_iload1, ↓e_imul, ↓e_iload2, ↓e_iadd, ↓e_cv2, i_15, i_21, e_rpn, e_rps, e_few0, e_few1, e_few2, e_few3, e_few4, ↓g_0_2, ↓e_if_eq, ↓e_iload3, ↓e_ishl, ↓e_ior, ↓e_iinc4, ↓e_goto, ↓e_iret, ↓y_16, ↓y_22, ↓e_nil, b_68_0, b_68_1, b_68_2, b_68_3]
  exact hk
theorem q_wasC (ht : c_told w D) {a b x : Int} (h : ∀ v, c_tr w v → q (some (vI (p_was D a b x))) v) : Sm Ls (d + 6) 66 [vR 0, vI a, vI b, vI x] w q := by
  have hT4 := Td.T4 ht.ok
  have h5 : w 15 5 = (D.T : Int) := ht.rc.2.2.2.1
  unfold p_was at h
  rw [en_66]
  simp only [↓e_aload0, ↓e_iload1, ↓e_cv2, i_0, e_rpn, e_rps, e_few0, e_few1, e_few2, e_few3, e_few4, ↓e_if_eq, ↓e_iload2, ↓e_cs1, ↓e_iload3, ↓e_if_ne, ↓e_bipush, ↓e_iret, ↓g_0_5, ↓g_0_4, i_15, i_21, ↓e_cv3, ↓e_goto, ↓e_nil, b_66_0, b_66_1, b_66_2, b_66_3, b_66_4, ↓ev_66_1, q_isTeam, q_isLeg, q_isEither, h5, ab_yn, one0, eq_self, ne_eq, not_true_eq_false, not_false_eq_true, true_implies, false_implies, true_and, and_true, and_self]
  refine ⟨fun g1 => ⟨fun g2 => ⟨fun g3 => ?_, fun g3 => ?_⟩, fun g2 => ?_⟩, fun g1 => ?_⟩
  · obtain ⟨t, rfl⟩ : ∃ t : Nat, a = t := ⟨a.toNat, by omega⟩
    obtain ⟨l, rfl⟩ : ∃ l : Nat, b = l := ⟨b.toNat, by omega⟩
    rw [if_pos ⟨g1, g2, g3⟩, Int.toNat_natCast, Int.toNat_natCast] at h
    have htT : t < D.T := by omega
    rw [ev_66_2]
    simp only [↓e_aload0, ↓e_iload1, ↓e_cv2, i_0, e_rpn, e_rps, e_few0, e_few1, e_few2, e_few3, e_few4, ↓e_if_eq, ↓e_iload2, ↓e_cs1, ↓e_iload3, ↓e_if_ne, ↓e_bipush, ↓e_iret, ↓g_0_5, ↓g_0_4, i_15, i_21, ↓e_cv3, ↓e_goto, ↓e_nil, b_66_0, b_66_1, b_66_2, b_66_3, b_66_4, one0, eq_self, ne_eq, not_true_eq_false, not_false_eq_true, true_implies, false_implies, true_and, and_true, and_self]
    refine q_takeRace (fun v v0 => ?_)
    have hr := v0.rc ht.rc
    have own := hr.2.1 t htT
    simp only [↓e_aload0, ↓e_iload1, ↓e_cv2, i_0, e_rpn, e_rps, e_few0, e_few1, e_few2, e_few3, e_few4, ↓e_if_eq, ↓e_iload2, ↓e_cs1, ↓e_iload3, ↓e_if_ne, ↓e_bipush, ↓e_iret, ↓g_0_5, ↓g_0_4, i_15, i_21, ↓e_cv3, ↓e_goto, ↓e_nil, b_66_0, b_66_1, b_66_2, b_66_3, b_66_4, ↓ev_66_3, one0, eq_self, ne_eq, not_true_eq_false, not_false_eq_true, true_implies, false_implies, true_and, and_true, and_self]
    refine ⟨fun g => q_sortsC ht htT (by omega) v0.tr (hr.ox htT) ⟨fun l' hl' => (own l' hl').2, fun l' hl' _ => (own l' hl').1⟩ (fun x f0 => ?_), fun g => q_pacesC ht htT (by omega) v0.tr (hr.ox htT) ⟨fun l' hl' => (own l' hl').1, fun l' hl' _ => (own l' hl').2⟩ (fun x f0 => ?_)⟩
    · have := h x f0
      rw [if_neg g] at this
      simp only [↓e_aload0, ↓e_iload1, ↓e_cv2, i_0, e_rpn, e_rps, e_few0, e_few1, e_few2, e_few3, e_few4, ↓e_if_eq, ↓e_iload2, ↓e_cs1, ↓e_iload3, ↓e_if_ne, ↓e_bipush, ↓e_iret, ↓g_0_5, ↓g_0_4, i_15, i_21, ↓e_cv3, ↓e_goto, ↓e_nil, b_66_0, b_66_1, b_66_2, b_66_3, b_66_4, ↓ev_66_4]
      exact this
    · have := h x f0
      rw [if_pos (Classical.not_not.mp g)] at this
      simp only [↓e_aload0, ↓e_iload1, ↓e_cv2, i_0, e_rpn, e_rps, e_few0, e_few1, e_few2, e_few3, e_few4, ↓e_if_eq, ↓e_iload2, ↓e_cs1, ↓e_iload3, ↓e_if_ne, ↓e_bipush, ↓e_iret, ↓g_0_5, ↓g_0_4, i_15, i_21, ↓e_cv3, ↓e_goto, ↓e_nil, b_66_0, b_66_1, b_66_2, b_66_3, b_66_4, ↓ev_66_4]
      exact this
  · have := h w (c_tr.refl w); rw [if_neg (fun z => g3 z.2.2)] at this; exact this
  · have := h w (c_tr.refl w); rw [if_neg (fun z => g2 z.2.1)] at this; exact this
  · have := h w (c_tr.refl w); rw [if_neg (fun z => g1 z.1)] at this; exact this
end CWas48
