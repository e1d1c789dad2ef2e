/-! the class's plans: train, order -/
theorem tr_min {p : Int} (h : 1 ≤ p ∧ p ≤ 9) : i_min 9 (p + 1) = if p = 9 then 9 else p + 1 := by
  unfold i_min
  split <;> split <;> omega
section CPlans44
variable {Ls d : Nat} {w : ab_W} {q : Option ab_V → ab_W → Prop} {D : Td} {c : Cf}
theorem c_tr.told {x : ab_W} (h : c_tr w x) (ht : c_told w D) : c_told x D := ht.scr h.scr
set_option maxHeartbeats 2000000 in
theorem q_trainC (ht : c_told w D) {a x : Int} (h : ∀ v, c_tr w v → q (some (vI (p_train D a x))) v) : Sm Ls (d + 4) 54 [vR 0, vI a, vI x] w q := by
  have hT4 := Td.T4 ht.ok
  have h5 : w 15 5 = (D.T : Int) := ht.rc.2.2.2.1
  unfold p_train at h
  rw [en_54]
  simp only [↓e_aload0, ↓e_iload1, ↓e_cv2, i_0, e_rpn, e_rps, e_few0, e_few1, e_few2, e_few3, e_few4, ↓e_if_eq, ↓e_iload2, ↓e_cs1, ↓e_if_ne, ↓e_bipush, ↓e_iret, ↓e_iconst, ↓e_istore3, e_klI, e_klR, e_klX, e_klL, ↓e_istore4, ↓g_0_5, ↓g_0_4, i_15, i_21, ↓e_istore5, ↓e_iload5, ↓e_cmp_ge, ↓e_imul, ↓e_iadd, ↓e_istore6, ↓g_15_1, ↓g_21_1, ↓e_iload6, ↓e_mmin, ↓e_999, ↓e_iload4, ↓e_cs2, ↓e_iinc5, ↓e_goto, ↓e_iload3, ↓x_17, ↓y_17, ↓x_23, ↓y_23, ↓e_nil, b_54_0, b_54_1, b_54_2, b_54_3, b_54_4, b_54_5, b_54_6, b_54_7, ↓ev_54_1, q_isTeam, q_isEither, h5, ab_yn, one0, eq_self, ne_eq, not_true_eq_false, not_false_eq_true, true_implies, false_implies, true_and, and_true, and_self]
  refine ⟨fun g1 => ⟨fun g2 => ?_, fun g2 => ?_⟩, fun g1 => ?_⟩
  · obtain ⟨t, rfl⟩ : ∃ t : Nat, a = t := ⟨a.toNat, by omega⟩
    rw [if_pos ⟨g1, g2⟩, Int.toNat_natCast] at h
    have htT : t < D.T := by omega
    have hpa : ∀ l, l < 4 → 1 ≤ D.pa t l ∧ D.pa t l ≤ 9 := (Td.cok ht.ok 255).2.2.2 t htT
    have key : ∀ (k l : Nat), l + k = 4 → ∀ v : ab_W, c_tr w v → c_ox t v (D.cf 255) → (∀ l' : Nat, l' < 4 → v 22 ((t : Int) * 4 + l') = D.so t l' ∧ v 23 ((t : Int) * 4 + l') = D.pa t l') → ∀ y : ab_V, Ev Ls (Sm Ls (d + 3)) q bk_54 3 [vR 0, vI t, vI x, vI (so_st (fun _ => true) ((D.cf 255).th t) l).1, vI (so_st (fun _ => true) ((D.cf 255).th t) l).2, vI l, y] [] v := by
      intro k
      induction k with
      | zero =>
        intro l hl v v0 v1 v2 y
        have : l = 4 := by omega
        subst this
        have hfin := h v v0
        rw [show so_st (fun _ => true) ((D.cf 255).th t) 4 = (D.cf 255).tra t from rfl]
        rw [ev_54_3]
        simp only [↓e_aload0, ↓e_iload1, ↓e_cv2, i_0, e_rpn, e_rps, e_few0, e_few1, e_few2, e_few3, e_few4, ↓e_if_eq, ↓e_iload2, ↓e_cs1, ↓e_if_ne, ↓e_bipush, ↓e_iret, ↓e_iconst, ↓e_istore3, e_klI, e_klR, e_klX, e_klL, ↓e_istore4, ↓g_0_5, ↓g_0_4, i_15, i_21, ↓e_istore5, ↓e_iload5, ↓e_cmp_ge, ↓e_imul, ↓e_iadd, ↓e_istore6, ↓g_15_1, ↓g_21_1, ↓e_iload6, ↓e_mmin, ↓e_999, ↓e_iload4, ↓e_cs2, ↓e_iinc5, ↓e_goto, ↓e_iload3, ↓x_17, ↓y_17, ↓x_23, ↓y_23, ↓e_nil, b_54_0, b_54_1, b_54_2, b_54_3, b_54_4, b_54_5, b_54_6, b_54_7, ↓ev_54_5, ↓ev_54_6, ↓ev_54_7]
        refine ⟨fun _ => ⟨fun g => ?_, fun g => ?_⟩, fun z => absurd (by decide) z⟩
        · rw [if_neg g] at hfin; exact hfin
        · rw [if_pos (Classical.not_not.mp g)] at hfin; exact hfin
      | succ k ih =>
        intro l hl v v0 v1 v2 y
        have hno : ¬ 4 ≤ (l : Int) := by omega
        have hI : ∀ (v : ab_W) (a b : Int), c_tr w v → c_ox t v (D.cf 255) → (∀ l' : Nat, l' < 4 → v 22 ((t : Int) * 4 + l') = D.so t l' ∧ v 23 ((t : Int) * 4 + l') = D.pa t l') → (a, b) = so_st (fun _ => true) ((D.cf 255).th t) (l + 1) → ∀ y : ab_V, Ev Ls (Sm Ls (d + 3)) q bk_54 3 [vR 0, vI t, vI x, vI a, vI b, vI ((l : Int) + 1), y] [] v := fun v a b y0 y1 y2 hab y => by
          have := ih (l + 1) (by omega) v y0 y1 y2 y
          rw [← hab] at this
          exact this
        rw [so_st_s] at hI
        have hpl := hpa l (by omega)
        have hvt := v0.told ht
        have e17 : v 17 ((t : Int) * 4 + l) = D.pa t l := (hvt.rc.2.1 t htT l (by omega)).2
        have hin2 : 0 ≤ (t : Int) * 4 + l ∧ (t : Int) * 4 + l < 16 := by omega
        obtain ⟨w1, w2, w3, w4⟩ : iW ((l : Int) + 1) = (l : Int) + 1 ∧ iW ((t : Int) * 4) = (t : Int) * 4 ∧ iW ((t : Int) * 4 + l) = (t : Int) * 4 + l ∧ iW (D.pa t l + 1) = D.pa t l + 1 := ⟨iW_id (by omega) (by omega), iW_id (by omega) (by omega), iW_id (by omega) (by omega), iW_id (by omega) (by omega)⟩
        rw [ev_54_3]
        simp only [↓e_aload0, ↓e_iload1, ↓e_cv2, i_0, e_rpn, e_rps, e_few0, e_few1, e_few2, e_few3, e_few4, ↓e_if_eq, ↓e_iload2, ↓e_cs1, ↓e_if_ne, ↓e_bipush, ↓e_iret, ↓e_iconst, ↓e_istore3, e_klI, e_klR, e_klX, e_klL, ↓e_istore4, ↓g_0_5, ↓g_0_4, i_15, i_21, ↓e_istore5, ↓e_iload5, ↓e_cmp_ge, ↓e_imul, ↓e_iadd, ↓e_istore6, ↓g_15_1, ↓g_21_1, ↓e_iload6, ↓e_mmin, ↓e_999, ↓e_iload4, ↓e_cs2, ↓e_iinc5, ↓e_goto, ↓e_iload3, ↓x_17, ↓y_17, ↓x_23, ↓y_23, ↓e_nil, b_54_0, b_54_1, b_54_2, b_54_3, b_54_4, b_54_5, b_54_6, b_54_7, hno, hin2, w2, w3, w4, e17, tr_min hpl, one0, eq_self, ne_eq, not_true_eq_false, not_false_eq_true, true_implies, false_implies, true_and, and_true, and_self]
        refine q_again (s := D.so t) (p := tr_pa (D.pa t) l) (c := D.cf 255) (v1.kept ⟨by rw [ab_up_ne (by decide)], by rw [ab_up_ne (by decide)], by rw [ab_up_ne (by decide)], by rw [ab_up_ne (by decide)]⟩ (fun i hi => ?_)) htT (fun l' hl' => ?_) (tr_pa_in (by clear w1 w2 w3 w4; omega) hpa) (fun x2 f1 f2 f3 => ?_)
        · rw [ab_up_p (by decide), ab_up_nj (by clear w1 w2 w3 w4; omega)]; exact ⟨rfl, rfl⟩
        · rw [ab_up_p (by decide)]
          refine ⟨(v2 l' hl').1, ?_⟩
          unfold tr_pa
          by_cases hll : l' = l
          · subst hll; rw [if_pos rfl, ab_up_at]
          · rw [if_neg hll, ab_up_nj (by clear w1 w2 w3 w4; omega)]; exact (v2 l' hl').2
        have x2tr : c_tr w x2 := v0.trans (fun p hp => by rw [f1 p (by clear w1 w2 w3 w4; omega) (by clear w1 w2 w3 w4; omega), ab_up_ne (by clear w1 w2 w3 w4; omega)])
        have e17b : x2 17 ((t : Int) * 4 + l) = D.pa t l := ((x2tr.told ht).rc.2.1 t htT l (by clear w1 w2 w3 w4; omega)).2
        have x3tr : c_tr w (ab_up x2 23 ((t : Int) * 4 + l) (D.pa t l)) := x2tr.trans (c_tr.up (by decide))
        have x3ox : c_ox t (ab_up x2 23 ((t : Int) * 4 + l) (D.pa t l)) (D.cf 255) := f3.kept ⟨by rw [ab_up_ne (by decide)], by rw [ab_up_ne (by decide)], by rw [ab_up_ne (by decide)], by rw [ab_up_ne (by decide)]⟩ (fun i hi => by rw [ab_up_p (by decide), ab_up_nj (by clear w1 w2 w3 w4; omega)]; exact ⟨rfl, rfl⟩)
        have x3own : ∀ l' : Nat, l' < 4 → ab_up x2 23 ((t : Int) * 4 + l) (D.pa t l) 22 ((t : Int) * 4 + l') = D.so t l' ∧ ab_up x2 23 ((t : Int) * 4 + l) (D.pa t l) 23 ((t : Int) * 4 + l') = D.pa t l' := fun l' hl' => by
          rw [ab_up_p (by decide), f1 22 (by decide) (by decide), ab_up_p (by decide)]
          refine ⟨(v2 l' hl').1, ?_⟩
          by_cases hll : l' = l
          · subst hll; rw [ab_up_at]
          · rw [ab_up_nj (by clear w1 w2 w3 w4; omega), f1 23 (by decide) (by decide), ab_up_nj (by clear w1 w2 w3 w4; omega)]; exact (v2 l' hl').2
        have hH : ab_up x2 23 ((t : Int) * 4 + l) (D.pa t l) (21 + 5) ((t : Int) * 4 + 3) = (D.cf 255).th t l := by
          rw [ab_up_p (by decide), f2.home htT, Cf.sub_H]; rfl
        have hhome : ∀ Q' : Option ab_V → ab_W → Prop, Q' (some (vI ((D.cf 255).th t l))) (ab_up x2 23 ((t : Int) * 4 + l) (D.pa t l)) → Sm Ls (d + 3) 15 [vR 21, vI t] (ab_up x2 23 ((t : Int) * 4 + l) (D.pa t l)) Q' := fun Q' hQ => q_homeOf (Or.inr rfl) (by clear w1 w2 w3 w4; omega) (by rw [hH]; exact hQ)
        have hI2 := fun a b hab y => hI _ a b x3tr x3ox x3own hab y
        simp only [↓e_aload0, ↓e_iload1, ↓e_cv2, i_0, e_rpn, e_rps, e_few0, e_few1, e_few2, e_few3, e_few4, ↓e_if_eq, ↓e_iload2, ↓e_cs1, ↓e_if_ne, ↓e_bipush, ↓e_iret, ↓e_iconst, ↓e_istore3, e_klI, e_klR, e_klX, e_klL, ↓e_istore4, ↓g_0_5, ↓g_0_4, i_15, i_21, ↓e_istore5, ↓e_iload5, ↓e_cmp_ge, ↓e_imul, ↓e_iadd, ↓e_istore6, ↓g_15_1, ↓g_21_1, ↓e_iload6, ↓e_mmin, ↓e_999, ↓e_iload4, ↓e_cs2, ↓e_iinc5, ↓e_goto, ↓e_iload3, ↓x_17, ↓y_17, ↓x_23, ↓y_23, ↓e_nil, b_54_0, b_54_1, b_54_2, b_54_3, b_54_4, b_54_5, b_54_6, b_54_7, hin2, e17b, one0, eq_self, ne_eq, not_true_eq_false, not_false_eq_true, true_implies, false_implies, true_and, and_true, and_self]
        refine hhome _ ?_
        simp only [↓e_aload0, ↓e_iload1, ↓e_cv2, i_0, e_rpn, e_rps, e_few0, e_few1, e_few2, e_few3, e_few4, ↓e_if_eq, ↓e_iload2, ↓e_cs1, ↓e_if_ne, ↓e_bipush, ↓e_iret, ↓e_iconst, ↓e_istore3, e_klI, e_klR, e_klX, e_klL, ↓e_istore4, ↓g_0_5, ↓g_0_4, i_15, i_21, ↓e_istore5, ↓e_iload5, ↓e_cmp_ge, ↓e_imul, ↓e_iadd, ↓e_istore6, ↓g_15_1, ↓g_21_1, ↓e_iload6, ↓e_mmin, ↓e_999, ↓e_iload4, ↓e_cs2, ↓e_iinc5, ↓e_goto, ↓e_iload3, ↓x_17, ↓y_17, ↓x_23, ↓y_23, ↓e_nil, b_54_0, b_54_1, b_54_2, b_54_3, b_54_4, b_54_5, b_54_6, b_54_7, ↓ev_54_4, q_isSooner, w1, ab_yn, one0, eq_self, ne_eq, not_true_eq_false, not_false_eq_true, true_implies, false_implies, true_and, and_true, and_self]
        refine ⟨fun g => hhome _ ?_, fun g => hI2 _ _ ?_ _⟩
        · simp only [↓e_aload0, ↓e_iload1, ↓e_cv2, i_0, e_rpn, e_rps, e_few0, e_few1, e_few2, e_few3, e_few4, ↓e_if_eq, ↓e_iload2, ↓e_cs1, ↓e_if_ne, ↓e_bipush, ↓e_iret, ↓e_iconst, ↓e_istore3, e_klI, e_klR, e_klX, e_klL, ↓e_istore4, ↓g_0_5, ↓g_0_4, i_15, i_21, ↓e_istore5, ↓e_iload5, ↓e_cmp_ge, ↓e_imul, ↓e_iadd, ↓e_istore6, ↓g_15_1, ↓g_21_1, ↓e_iload6, ↓e_mmin, ↓e_999, ↓e_iload4, ↓e_cs2, ↓e_iinc5, ↓e_goto, ↓e_iload3, ↓x_17, ↓y_17, ↓x_23, ↓y_23, ↓e_nil, b_54_0, b_54_1, b_54_2, b_54_3, b_54_4, b_54_5, b_54_6, b_54_7, ↓ev_54_4, w1]
          exact hI2 _ _ (by rw [if_pos ⟨rfl, g⟩]) _
        · rw [if_neg (fun z => g z.2)]
    rw [ev_54_2]
    simp only [↓e_aload0, ↓e_iload1, ↓e_cv2, i_0, e_rpn, e_rps, e_few0, e_few1, e_few2, e_few3, e_few4, ↓e_if_eq, ↓e_iload2, ↓e_cs1, ↓e_if_ne, ↓e_bipush, ↓e_iret, ↓e_iconst, ↓e_istore3, e_klI, e_klR, e_klX, e_klL, ↓e_istore4, ↓g_0_5, ↓g_0_4, i_15, i_21, ↓e_istore5, ↓e_iload5, ↓e_cmp_ge, ↓e_imul, ↓e_iadd, ↓e_istore6, ↓g_15_1, ↓g_21_1, ↓e_iload6, ↓e_mmin, ↓e_999, ↓e_iload4, ↓e_cs2, ↓e_iinc5, ↓e_goto, ↓e_iload3, ↓x_17, ↓y_17, ↓x_23, ↓y_23, ↓e_nil, b_54_0, b_54_1, b_54_2, b_54_3, b_54_4, b_54_5, b_54_6, b_54_7, one0, eq_self, ne_eq, not_true_eq_false, not_false_eq_true, true_implies, false_implies, true_and, and_true, and_self]
    refine q_takeRace (fun v v0 => ?_)
    have hr := v0.rc ht.rc
    simp only [↓e_aload0, ↓e_iload1, ↓e_cv2, i_0, e_rpn, e_rps, e_few0, e_few1, e_few2, e_few3, e_few4, ↓e_if_eq, ↓e_iload2, ↓e_cs1, ↓e_if_ne, ↓e_bipush, ↓e_iret, ↓e_iconst, ↓e_istore3, e_klI, e_klR, e_klX, e_klL, ↓e_istore4, ↓g_0_5, ↓g_0_4, i_15, i_21, ↓e_istore5, ↓e_iload5, ↓e_cmp_ge, ↓e_imul, ↓e_iadd, ↓e_istore6, ↓g_15_1, ↓g_21_1, ↓e_iload6, ↓e_mmin, ↓e_999, ↓e_iload4, ↓e_cs2, ↓e_iinc5, ↓e_goto, ↓e_iload3, ↓x_17, ↓y_17, ↓x_23, ↓y_23, ↓e_nil, b_54_0, b_54_1, b_54_2, b_54_3, b_54_4, b_54_5, b_54_6, b_54_7]
    exact key 4 0 (by omega) v v0.tr (hr.ox htT) (hr.2.1 t htT) _
  · have := h w (c_tr.refl w); rw [if_neg (fun z => g2 z.2)] at this; exact this
  · have := h w (c_tr.refl w); rw [if_neg (fun z => g1 z.1)] at this; exact this
end CPlans44
