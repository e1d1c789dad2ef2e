/-! the class: copy, write, read -/
section CSheets61
variable {Ls d : Nat} {w : ab_W} {q : Option ab_V → ab_W → Prop} {D : Td} {S : Sh}
theorem cp_ne {p r u : Nat} {a b n : Int} (h : u ≠ r) : ab_cp w p r a b n u = w u := by funext j; simp [ab_cp, h]
theorem cp_in {p r : Nat} {a b n k : Int} (h : b ≤ k ∧ k < b + n) : ab_cp w p r a b n r k = w p (a + (k - b)) := by simp [ab_cp, h]
theorem cp_out {p r : Nat} {a b n k : Int} (h : ¬ (b ≤ k ∧ k < b + n)) : ab_cp w p r a b n r k = w r k := by simp only [ab_cp, if_pos, if_neg h]
theorem q_copyC (hi : c_inv w D S) {a i b j n : Int} (h : ∀ v, c_fra w v → c_inv v D (p_copy S a i b j n).2 → q (some (vI (p_copy S a i b j n).1)) v) : Sm Ls (d + 3) 83 [vR 0, vI a, vI i, vI b, vI j, vI n] w q := by
  unfold p_copy at h
  have w11 : iW (-10 - 1) = -11 := by decide
  have w14 : iW (-10 - 4) = -14 := by decide
  have w12 : iW (-10 - 2) = -12 := by decide
  rw [en_83]
  simp only [↓e_iload1, e_rpn, e_rps, e_few0, e_few1, e_few2, e_few3, e_few4, ↓e_cs1, ↓e_if_eq, ↓e_iload3, ↓e_if_ne, ↓e_bipush, ↓e_iret, ↓e_aload0, ↓g_0_10, ↓e_astore6, e_klI, e_klR, e_klX, e_klL, ↓e_astore7, ↓e_aload6, ↓g_31_1, ↓g_33_1, ↓g_35_1, ↓g_37_1, ↓e_aload7, ↓e_iconst, ↓e_cv2, i_0, ↓g_31_2, ↓g_33_2, ↓g_35_2, ↓g_37_2, ↓e_cmp_eq, ↓e_iload2, ↓e_iload5, ↓e_cv3, i_31, i_33, i_35, i_37, ↓e_iload4, ↓g_31_0, ↓g_33_0, ↓g_35_0, ↓g_37_0, ↓e_copy, ↓e_999, ↓e_nil, b_83_0, b_83_1, b_83_2, b_83_3, b_83_4, b_83_5, b_83_6, b_83_7, ↓ev_83_1, q_isSheet, ab_yn, one0, eq_self, ne_eq, not_true_eq_false, not_false_eq_true, true_implies, false_implies, true_and, and_true, and_self]
  refine ⟨fun g1 => ⟨fun g2 => ?_, fun g2 => ?_⟩, fun g1 => ?_⟩
  · obtain ⟨s, rfl⟩ : ∃ s : Nat, a = s := ⟨a.toNat, by omega⟩
    obtain ⟨t, rfl⟩ : ∃ t : Nat, b = t := ⟨b.toNat, by omega⟩
    have hs : s < 4 := by omega
    have ht : t < 4 := by omega
    obtain ⟨e1, e2, e3, e4⟩ := hi.2.2.1.2 s hs
    obtain ⟨f1, f2, f3, f4⟩ := hi.2.2.1.2 t ht
    have z1 := (hi.2.2.2.1 s hs).2
    have z2 := (hi.2.2.2.1 t ht).2
    rw [if_pos ⟨g1, g2⟩, Int.toNat_natCast, Int.toNat_natCast] at h
    have hnull : ¬ (S.th s = true ∧ S.th t = true) → q (some (vI (-11))) (ab_up w 0 12 1) := fun g => by
      rw [if_neg g] at h; exact h _ c_fra.met hi.met
    rw [ev_83_2]
    cases hb : S.th s
    · rw [hb] at e1
      have e1 : w (31 + 2 * s) 1 = 1 := e1
      simp only [↓e_iload1, e_rpn, e_rps, e_few0, e_few1, e_few2, e_few3, e_few4, ↓e_cs1, ↓e_if_eq, ↓e_iload3, ↓e_if_ne, ↓e_bipush, ↓e_iret, ↓e_aload0, ↓g_0_10, ↓e_astore6, e_klI, e_klR, e_klX, e_klL, ↓e_astore7, ↓e_aload6, ↓g_31_1, ↓g_33_1, ↓g_35_1, ↓g_37_1, ↓e_aload7, ↓e_iconst, ↓e_cv2, i_0, ↓g_31_2, ↓g_33_2, ↓g_35_2, ↓g_37_2, ↓e_cmp_eq, ↓e_iload2, ↓e_iload5, ↓e_cv3, i_31, i_33, i_35, i_37, ↓e_iload4, ↓g_31_0, ↓g_33_0, ↓g_35_0, ↓g_37_0, ↓e_copy, ↓e_999, ↓e_nil, b_83_0, b_83_1, b_83_2, b_83_3, b_83_4, b_83_5, b_83_6, b_83_7, ↓ev_83_3, x30s hs, x30s ht, gs_1 hs, gs_1 ht, e1, q_found, w11, one0, eq_self, ne_eq, not_true_eq_false, not_false_eq_true, true_implies, false_implies, true_and, and_true, and_self]
      exact hnull (by rw [hb]; simp)
    · rw [hb] at e1
      have e1 : w (31 + 2 * s) 1 = 0 := e1
      cases hb2 : S.th t
      · rw [hb2] at f1
        have f1 : w (31 + 2 * t) 1 = 1 := f1
        simp only [↓e_iload1, e_rpn, e_rps, e_few0, e_few1, e_few2, e_few3, e_few4, ↓e_cs1, ↓e_if_eq, ↓e_iload3, ↓e_if_ne, ↓e_bipush, ↓e_iret, ↓e_aload0, ↓g_0_10, ↓e_astore6, e_klI, e_klR, e_klX, e_klL, ↓e_astore7, ↓e_aload6, ↓g_31_1, ↓g_33_1, ↓g_35_1, ↓g_37_1, ↓e_aload7, ↓e_iconst, ↓e_cv2, i_0, ↓g_31_2, ↓g_33_2, ↓g_35_2, ↓g_37_2, ↓e_cmp_eq, ↓e_iload2, ↓e_iload5, ↓e_cv3, i_31, i_33, i_35, i_37, ↓e_iload4, ↓g_31_0, ↓g_33_0, ↓g_35_0, ↓g_37_0, ↓e_copy, ↓e_999, ↓e_nil, b_83_0, b_83_1, b_83_2, b_83_3, b_83_4, b_83_5, b_83_6, b_83_7, ↓ev_83_3, x30s hs, x30s ht, gs_1 hs, gs_1 ht, e1, f1, q_found, w11, one0, eq_self, ne_eq, not_true_eq_false, not_false_eq_true, true_implies, false_implies, true_and, and_true, and_self]
        exact hnull (by rw [hb2]; simp)
      · rw [hb2] at f1
        have f1 : w (31 + 2 * t) 1 = 0 := f1
        rw [if_pos ⟨hb, hb2⟩] at h
        simp only [↓e_iload1, e_rpn, e_rps, e_few0, e_few1, e_few2, e_few3, e_few4, ↓e_cs1, ↓e_if_eq, ↓e_iload3, ↓e_if_ne, ↓e_bipush, ↓e_iret, ↓e_aload0, ↓g_0_10, ↓e_astore6, e_klI, e_klR, e_klX, e_klL, ↓e_astore7, ↓e_aload6, ↓g_31_1, ↓g_33_1, ↓g_35_1, ↓g_37_1, ↓e_aload7, ↓e_iconst, ↓e_cv2, i_0, ↓g_31_2, ↓g_33_2, ↓g_35_2, ↓g_37_2, ↓e_cmp_eq, ↓e_iload2, ↓e_iload5, ↓e_cv3, i_31, i_33, i_35, i_37, ↓e_iload4, ↓g_31_0, ↓g_33_0, ↓g_35_0, ↓g_37_0, ↓e_copy, ↓e_999, ↓e_nil, b_83_0, b_83_1, b_83_2, b_83_3, b_83_4, b_83_5, b_83_6, b_83_7, ↓ev_83_4, x30s hs, x30s ht, gs_1 hs, gs_1 ht, gs_2 hs, gs_2 ht, e1, f1, e2, f2, q_found, w14, one0, eq_self, ne_eq, not_true_eq_false, not_false_eq_true, true_implies, false_implies, true_and, and_true, and_self]
        refine ⟨fun g3 => ?_, fun g3 => ?_⟩
        · rw [if_pos g3] at h
          have hno : ¬ (0 ≤ i ∧ 0 ≤ j ∧ 0 ≤ n ∧ i + n ≤ S.sz s ∧ j + n ≤ S.sz t) → q (some (vI (-12))) (ab_up w 0 12 2) := fun g => by
            rw [if_neg g] at h; exact h _ c_fra.met hi.met
          rw [ev_83_5]
          simp only [↓e_iload1, e_rpn, e_rps, e_few0, e_few1, e_few2, e_few3, e_few4, ↓e_cs1, ↓e_if_eq, ↓e_iload3, ↓e_if_ne, ↓e_bipush, ↓e_iret, ↓e_aload0, ↓g_0_10, ↓e_astore6, e_klI, e_klR, e_klX, e_klL, ↓e_astore7, ↓e_aload6, ↓g_31_1, ↓g_33_1, ↓g_35_1, ↓g_37_1, ↓e_aload7, ↓e_iconst, ↓e_cv2, i_0, ↓g_31_2, ↓g_33_2, ↓g_35_2, ↓g_37_2, ↓e_cmp_eq, ↓e_iload2, ↓e_iload5, ↓e_cv3, i_31, i_33, i_35, i_37, ↓e_iload4, ↓g_31_0, ↓g_33_0, ↓g_35_0, ↓g_37_0, ↓e_copy, ↓e_999, ↓e_nil, b_83_0, b_83_1, b_83_2, b_83_3, b_83_4, b_83_5, b_83_6, b_83_7, is_ hs, one0, eq_self, ne_eq, not_true_eq_false, not_false_eq_true, true_implies, false_implies, true_and, and_true, and_self]
          refine q_hasItems hs e3 z1 ⟨fun g4 => ?_, fun g4 => ?_⟩
          · simp only [↓e_iload1, e_rpn, e_rps, e_few0, e_few1, e_few2, e_few3, e_few4, ↓e_cs1, ↓e_if_eq, ↓e_iload3, ↓e_if_ne, ↓e_bipush, ↓e_iret, ↓e_aload0, ↓g_0_10, ↓e_astore6, e_klI, e_klR, e_klX, e_klL, ↓e_astore7, ↓e_aload6, ↓g_31_1, ↓g_33_1, ↓g_35_1, ↓g_37_1, ↓e_aload7, ↓e_iconst, ↓e_cv2, i_0, ↓g_31_2, ↓g_33_2, ↓g_35_2, ↓g_37_2, ↓e_cmp_eq, ↓e_iload2, ↓e_iload5, ↓e_cv3, i_31, i_33, i_35, i_37, ↓e_iload4, ↓g_31_0, ↓g_33_0, ↓g_35_0, ↓g_37_0, ↓e_copy, ↓e_999, ↓e_nil, b_83_0, b_83_1, b_83_2, b_83_3, b_83_4, b_83_5, b_83_6, b_83_7, is_ ht, one0, eq_self, ne_eq, not_true_eq_false, not_false_eq_true, true_implies, false_implies, true_and, and_true, and_self]
            refine q_hasItems ht f3 z2 ⟨fun g5 => ?_, fun g5 => ?_⟩
            · rw [if_pos (by omega)] at h
              obtain ⟨i, rfl⟩ : ∃ z : Nat, i = z := ⟨i.toNat, by omega⟩
              obtain ⟨j, rfl⟩ : ∃ z : Nat, j = z := ⟨j.toNat, by omega⟩
              obtain ⟨n, rfl⟩ : ∃ z : Nat, n = z := ⟨n.toNat, by omega⟩
              rw [Int.toNat_natCast, Int.toNat_natCast, Int.toNat_natCast] at h
              simp only [↓e_iload1, e_rpn, e_rps, e_few0, e_few1, e_few2, e_few3, e_few4, ↓e_cs1, ↓e_if_eq, ↓e_iload3, ↓e_if_ne, ↓e_bipush, ↓e_iret, ↓e_aload0, ↓g_0_10, ↓e_astore6, e_klI, e_klR, e_klX, e_klL, ↓e_astore7, ↓e_aload6, ↓g_31_1, ↓g_33_1, ↓g_35_1, ↓g_37_1, ↓e_aload7, ↓e_iconst, ↓e_cv2, i_0, ↓g_31_2, ↓g_33_2, ↓g_35_2, ↓g_37_2, ↓e_cmp_eq, ↓e_iload2, ↓e_iload5, ↓e_cv3, i_31, i_33, i_35, i_37, ↓e_iload4, ↓g_31_0, ↓g_33_0, ↓g_35_0, ↓g_37_0, ↓e_copy, ↓e_999, ↓e_nil, b_83_0, b_83_1, b_83_2, b_83_3, b_83_4, b_83_5, b_83_6, b_83_7, ↓ev_83_7, gs_0 hs, gs_0 ht, one0, eq_self, ne_eq, not_true_eq_false, not_false_eq_true, true_implies, false_implies, true_and, and_true, and_self]
              refine ⟨⟨0, 60, 60, Or.inl rfl, as_ hs, as_ ht, by omega, by omega, by omega, by omega, by omega⟩, ?_⟩
              have hv : ∀ p, p ≠ 32 + 2 * t → ab_cp w (32 + 2 * s) (32 + 2 * t) i j n p = w p := fun p h1 => cp_ne h1
              refine h _ (c_fra.sht ht (fun p _ h2 => hv p h2)) (hi.itm ht hv (fun k hk => ?_))
              unfold cpi
              by_cases hkk : j ≤ k ∧ k < j + n
              · rw [if_pos hkk, cp_in (by omega), show (i : Int) + ((k : Int) - (j : Int)) = ((i + (k - j) : Nat) : Int) by omega]
                exact e4 _ (by omega)
              · rw [if_neg hkk, cp_out (by omega)]; exact f4 k hk
            · simp only [↓e_iload1, e_rpn, e_rps, e_few0, e_few1, e_few2, e_few3, e_few4, ↓e_cs1, ↓e_if_eq, ↓e_iload3, ↓e_if_ne, ↓e_bipush, ↓e_iret, ↓e_aload0, ↓g_0_10, ↓e_astore6, e_klI, e_klR, e_klX, e_klL, ↓e_astore7, ↓e_aload6, ↓g_31_1, ↓g_33_1, ↓g_35_1, ↓g_37_1, ↓e_aload7, ↓e_iconst, ↓e_cv2, i_0, ↓g_31_2, ↓g_33_2, ↓g_35_2, ↓g_37_2, ↓e_cmp_eq, ↓e_iload2, ↓e_iload5, ↓e_cv3, i_31, i_33, i_35, i_37, ↓e_iload4, ↓g_31_0, ↓g_33_0, ↓g_35_0, ↓g_37_0, ↓e_copy, ↓e_999, ↓e_nil, b_83_0, b_83_1, b_83_2, b_83_3, b_83_4, b_83_5, b_83_6, b_83_7, ↓ev_83_6, q_found, w12, one0, eq_self, ne_eq, not_true_eq_false, not_false_eq_true, true_implies, false_implies, true_and, and_true, and_self]
              exact hno (by omega)
          · simp only [↓e_iload1, e_rpn, e_rps, e_few0, e_few1, e_few2, e_few3, e_few4, ↓e_cs1, ↓e_if_eq, ↓e_iload3, ↓e_if_ne, ↓e_bipush, ↓e_iret, ↓e_aload0, ↓g_0_10, ↓e_astore6, e_klI, e_klR, e_klX, e_klL, ↓e_astore7, ↓e_aload6, ↓g_31_1, ↓g_33_1, ↓g_35_1, ↓g_37_1, ↓e_aload7, ↓e_iconst, ↓e_cv2, i_0, ↓g_31_2, ↓g_33_2, ↓g_35_2, ↓g_37_2, ↓e_cmp_eq, ↓e_iload2, ↓e_iload5, ↓e_cv3, i_31, i_33, i_35, i_37, ↓e_iload4, ↓g_31_0, ↓g_33_0, ↓g_35_0, ↓g_37_0, ↓e_copy, ↓e_999, ↓e_nil, b_83_0, b_83_1, b_83_2, b_83_3, b_83_4, b_83_5, b_83_6, b_83_7, ↓ev_83_6, q_found, w12, one0, eq_self, ne_eq, not_true_eq_false, not_false_eq_true, true_implies, false_implies, true_and, and_true, and_self]
            exact hno (by omega)
        · rw [if_neg g3] at h; exact h _ c_fra.met hi.met
  · rw [if_neg (by omega)] at h; exact h w (c_fra.refl w) hi
  · rw [if_neg (by omega)] at h; exact h w (c_fra.refl w) hi
theorem q_writeC (hi : c_inv w D S) {b a : Int} (h : ∀ v, c_fra w v → c_inv v D (p_write D S b a).2 → q (some (vI (p_write D S b a).1)) v) : Sm Ls (d + 3) 84 [vR 0, vI b, vI a] w q := by
  unfold p_write at h
  have hT4 := Td.T4 hi.1.ok
  have h5 : w 15 5 = (D.T : Int) := hi.1.rc.2.2.2.1
  have w11 : iW (-10 - 1) = -11 := by decide
  rw [en_84]
  simp only [↓e_aload0, ↓e_iload1, ↓e_cv2, i_0, e_rpn, e_rps, e_few0, e_few1, e_few2, e_few3, e_few4, ↓e_if_eq, ↓e_iload2, ↓e_cs1, ↓e_if_ne, ↓e_bipush, ↓e_iret, ↓g_0_10, ↓e_astore3, e_klI, e_klR, e_klX, e_klL, ↓e_aload3, ↓g_31_1, ↓g_33_1, ↓g_35_1, ↓g_37_1, ↓e_iconst, ↓g_31_3, ↓g_33_3, ↓g_35_3, ↓g_37_3, ↓e_mmin, ↓e_999, ↓e_istore4, ↓e_istore5, ↓e_iload5, ↓e_iload4, ↓e_cmp_ge, ↓g_0_4, ↓e_cv3, i_15, i_21, i_31, i_33, i_35, i_37, ↓e_iinc5, ↓e_goto, ↓e_nil, b_84_0, b_84_1, b_84_2, b_84_3, b_84_4, b_84_5, ↓ev_84_1, q_isTeam, q_isSheet, h5, ab_yn, one0, eq_self, ne_eq, not_true_eq_false, not_false_eq_true, true_implies, false_implies, true_and, and_true, and_self]
  refine ⟨fun g1 => ⟨fun g2 => ?_, fun g2 => ?_⟩, fun g1 => ?_⟩
  · obtain ⟨s, rfl⟩ : ∃ s : Nat, a = s := ⟨a.toNat, by omega⟩
    obtain ⟨t, rfl⟩ : ∃ t : Nat, b = t := ⟨b.toNat, by omega⟩
    have hs : s < 4 := by omega
    have htT : t < D.T := by omega
    obtain ⟨e1, e2, e3, e4⟩ := hi.2.2.1.2 s hs
    have z1 := (hi.2.2.2.1 s hs).2
    rw [if_pos ⟨g1, g2⟩, Int.toNat_natCast, Int.toNat_natCast] at h
    rw [ev_84_2]
    cases hb : S.th s
    · rw [hb] at e1 h
      have e1 : w (31 + 2 * s) 1 = 1 := e1
      rw [if_neg (by decide)] at h
      simp only [↓e_aload0, ↓e_iload1, ↓e_cv2, i_0, e_rpn, e_rps, e_few0, e_few1, e_few2, e_few3, e_few4, ↓e_if_eq, ↓e_iload2, ↓e_cs1, ↓e_if_ne, ↓e_bipush, ↓e_iret, ↓g_0_10, ↓e_astore3, e_klI, e_klR, e_klX, e_klL, ↓e_aload3, ↓g_31_1, ↓g_33_1, ↓g_35_1, ↓g_37_1, ↓e_iconst, ↓g_31_3, ↓g_33_3, ↓g_35_3, ↓g_37_3, ↓e_mmin, ↓e_999, ↓e_istore4, ↓e_istore5, ↓e_iload5, ↓e_iload4, ↓e_cmp_ge, ↓g_0_4, ↓e_cv3, i_15, i_21, i_31, i_33, i_35, i_37, ↓e_iinc5, ↓e_goto, ↓e_nil, b_84_0, b_84_1, b_84_2, b_84_3, b_84_4, b_84_5, x30s hs, gs_1 hs, e1, q_found, w11, one0, eq_self, ne_eq, not_true_eq_false, not_false_eq_true, true_implies, false_implies, true_and, and_true, and_self]
      exact h _ c_fra.met hi.met
    · rw [hb] at e1 h
      have e1 : w (31 + 2 * s) 1 = 0 := e1
      rw [if_pos rfl] at h
      have hm : i_min (S.sz s : Int) 48 = (wn S s : Int) := by
        unfold i_min wn
        split <;> split <;> omega
      have hwn : wn S s ≤ 48 ∧ wn S s ≤ S.sz s := by unfold wn; split <;> omega
      have key : ∀ (k m : Nat), m + k = wn S s → ∀ v : ab_W, (∀ p, p ≠ 32 + 2 * s → v p = w p) → (∀ i : Nat, i < 60 → v (32 + 2 * s) i = wri (S.fo s) ((D.cf 255).F t) (S.it s) m i) → Ev Ls (Sm Ls (d + 2)) q bk_84 4 [vR 0, vI t, vI s, vR (31 + 2 * s), vI (wn S s : Nat), vI m] [] v := by
        intro k
        induction k with
        | zero =>
          intro m hm v v0 v1
          have : m = wn S s := by omega
          subst this
          have hfin := h v (c_fra.sht hs (fun p _ h2 => v0 p h2)) (hi.itm hs v0 v1)
          rw [ev_84_4]
          simp only [↓e_aload0, ↓e_iload1, ↓e_cv2, i_0, e_rpn, e_rps, e_few0, e_few1, e_few2, e_few3, e_few4, ↓e_if_eq, ↓e_iload2, ↓e_cs1, ↓e_if_ne, ↓e_bipush, ↓e_iret, ↓g_0_10, ↓e_astore3, e_klI, e_klR, e_klX, e_klL, ↓e_aload3, ↓g_31_1, ↓g_33_1, ↓g_35_1, ↓g_37_1, ↓e_iconst, ↓g_31_3, ↓g_33_3, ↓g_35_3, ↓g_37_3, ↓e_mmin, ↓e_999, ↓e_istore4, ↓e_istore5, ↓e_iload5, ↓e_iload4, ↓e_cmp_ge, ↓g_0_4, ↓e_cv3, i_15, i_21, i_31, i_33, i_35, i_37, ↓e_iinc5, ↓e_goto, ↓e_nil, b_84_0, b_84_1, b_84_2, b_84_3, b_84_4, b_84_5, ↓ev_84_5]
          exact ⟨fun _ => hfin, fun z => absurd (Int.le_refl _) z⟩
        | succ k ih =>
          intro m hm v v0 v1
          have hno : ¬ (wn S s : Int) ≤ (m : Int) := by omega
          have hF : v (15 + 4) ((t : Int) * 48 + m) = (D.cf 255).F t m := by rw [v0 (15 + 4) (by omega)]; exact (hi.1.rc.2.2.2.2 t htT).1 m (by omega)
          have h2 : v (31 + 2 * s) 2 = S.fo s := by rw [v0 _ (by omega)]; exact e2
          have hnext := ih (m + 1) (by omega) (ab_up v (32 + 2 * s) m (kv (S.fo s) ((D.cf 255).F t m))) (fun p hp => by rw [ab_up_ne hp]; exact v0 p hp) (fun i hi => by
            by_cases him : i = m
            · subst him
              unfold wri
              rw [ab_up_at, if_pos (by omega)]
            · rw [ab_up_nj (by omega), v1 i hi]
              unfold wri
              by_cases him2 : i < m
              · rw [if_pos him2, if_pos (by omega)]
              · rw [if_neg him2, if_neg (by omega)])
          have w1 : iW ((m : Int) + 1) = (m : Int) + 1 := iW_id (by omega) (by omega)
          rw [ev_84_4]
          simp only [↓e_aload0, ↓e_iload1, ↓e_cv2, i_0, e_rpn, e_rps, e_few0, e_few1, e_few2, e_few3, e_few4, ↓e_if_eq, ↓e_iload2, ↓e_cs1, ↓e_if_ne, ↓e_bipush, ↓e_iret, ↓g_0_10, ↓e_astore3, e_klI, e_klR, e_klX, e_klL, ↓e_aload3, ↓g_31_1, ↓g_33_1, ↓g_35_1, ↓g_37_1, ↓e_iconst, ↓g_31_3, ↓g_33_3, ↓g_35_3, ↓g_37_3, ↓e_mmin, ↓e_999, ↓e_istore4, ↓e_istore5, ↓e_iload5, ↓e_iload4, ↓e_cmp_ge, ↓g_0_4, ↓e_cv3, i_15, i_21, i_31, i_33, i_35, i_37, ↓e_iinc5, ↓e_goto, ↓e_nil, b_84_0, b_84_1, b_84_2, b_84_3, b_84_4, b_84_5, hno, one0, eq_self, ne_eq, not_true_eq_false, not_false_eq_true, true_implies, false_implies, true_and, and_true, and_self]
          refine q_metresAt (Or.inl rfl) (by clear w1; omega) (by clear w1; omega) ?_
          rw [hF]
          simp only [↓e_aload0, ↓e_iload1, ↓e_cv2, i_0, e_rpn, e_rps, e_few0, e_few1, e_few2, e_few3, e_few4, ↓e_if_eq, ↓e_iload2, ↓e_cs1, ↓e_if_ne, ↓e_bipush, ↓e_iret, ↓g_0_10, ↓e_astore3, e_klI, e_klR, e_klX, e_klL, ↓e_aload3, ↓g_31_1, ↓g_33_1, ↓g_35_1, ↓g_37_1, ↓e_iconst, ↓g_31_3, ↓g_33_3, ↓g_35_3, ↓g_37_3, ↓e_mmin, ↓e_999, ↓e_istore4, ↓e_istore5, ↓e_iload5, ↓e_iload4, ↓e_cmp_ge, ↓g_0_4, ↓e_cv3, i_15, i_21, i_31, i_33, i_35, i_37, ↓e_iinc5, ↓e_goto, ↓e_nil, b_84_0, b_84_1, b_84_2, b_84_3, b_84_4, b_84_5, is_ hs, one0, eq_self, ne_eq, not_true_eq_false, not_false_eq_true, true_implies, false_implies, true_and, and_true, and_self]
          refine q_store hs (by clear w1; omega) ?_
          simp only [↓e_aload0, ↓e_iload1, ↓e_cv2, i_0, e_rpn, e_rps, e_few0, e_few1, e_few2, e_few3, e_few4, ↓e_if_eq, ↓e_iload2, ↓e_cs1, ↓e_if_ne, ↓e_bipush, ↓e_iret, ↓g_0_10, ↓e_astore3, e_klI, e_klR, e_klX, e_klL, ↓e_aload3, ↓g_31_1, ↓g_33_1, ↓g_35_1, ↓g_37_1, ↓e_iconst, ↓g_31_3, ↓g_33_3, ↓g_35_3, ↓g_37_3, ↓e_mmin, ↓e_999, ↓e_istore4, ↓e_istore5, ↓e_iload5, ↓e_iload4, ↓e_cmp_ge, ↓g_0_4, ↓e_cv3, i_15, i_21, i_31, i_33, i_35, i_37, ↓e_iinc5, ↓e_goto, ↓e_nil, b_84_0, b_84_1, b_84_2, b_84_3, b_84_4, b_84_5, h2, w1]
          exact hnext
      have h0 := key (wn S s) 0 (by omega) w (fun _ _ => rfl) (fun i hi => by unfold wri; rw [if_neg (by omega)]; exact e4 i hi)
      simp only [↓e_aload0, ↓e_iload1, ↓e_cv2, i_0, e_rpn, e_rps, e_few0, e_few1, e_few2, e_few3, e_few4, ↓e_if_eq, ↓e_iload2, ↓e_cs1, ↓e_if_ne, ↓e_bipush, ↓e_iret, ↓g_0_10, ↓e_astore3, e_klI, e_klR, e_klX, e_klL, ↓e_aload3, ↓g_31_1, ↓g_33_1, ↓g_35_1, ↓g_37_1, ↓e_iconst, ↓g_31_3, ↓g_33_3, ↓g_35_3, ↓g_37_3, ↓e_mmin, ↓e_999, ↓e_istore4, ↓e_istore5, ↓e_iload5, ↓e_iload4, ↓e_cmp_ge, ↓g_0_4, ↓e_cv3, i_15, i_21, i_31, i_33, i_35, i_37, ↓e_iinc5, ↓e_goto, ↓e_nil, b_84_0, b_84_1, b_84_2, b_84_3, b_84_4, b_84_5, ↓ev_84_3, x30s hs, gs_1 hs, gs_3 hs, e1, e3, hm, one0, eq_self, ne_eq, not_true_eq_false, not_false_eq_true, true_implies, false_implies, true_and, and_true, and_self]
      exact h0
  · rw [if_neg (by omega)] at h; exact h w (c_fra.refl w) hi
  · rw [if_neg (by omega)] at h; exact h w (c_fra.refl w) hi
theorem rd_s {it : Nat → Int} {z f n : Nat} {D : Td} : rd it z (f + 1) n D = if 3 * n + 2 < z ∧ D.k < 8 ∧ ev_ok (it (3 * n)) (it (3 * n + 1)) (it (3 * n + 2)) then rd it z f (n + 1) (D.ev (it (3 * n)) (it (3 * n + 1)) (it (3 * n + 2))) else D := rfl
set_option maxHeartbeats 2000000 in
theorem q_readC (hi : c_inv w D S) {a : Int} (h : ∀ v, c_fra w v → c_inv v (p_read D S a).2.1 (p_read D S a).2.2 → q (some (vI (p_read D S a).1)) v) : Sm Ls (d + 6) 39 [vR 0, vI a] w q := by
  unfold p_read at h
  have w11 : iW (-10 - 1) = -11 := by decide
  rw [en_39]
  simp only [↓e_iload1, e_rpn, e_rps, e_few0, e_few1, e_few2, e_few3, e_few4, ↓e_cs1, ↓e_if_ne, ↓e_bipush, ↓e_iret, ↓e_aload0, ↓g_0_10, ↓e_astore2, e_klI, e_klR, e_klX, e_klL, ↓e_aload2, ↓g_31_1, ↓g_33_1, ↓g_35_1, ↓g_37_1, ↓e_if_eq, ↓e_iconst, ↓e_cv2, i_0, ↓g_0_1, ↓g_3_3, ↓g_7_3, ↓g_11_3, ↓e_istore3, ↓e_istore4, ↓e_iload4, ↓e_iadd, ↓g_31_3, ↓g_33_3, ↓g_35_3, ↓g_37_3, ↓e_cmp_gt, ↓e_cmp_ge, ↓g_31_0, ↓g_33_0, ↓g_35_0, ↓g_37_0, ↓e_astore5, ↓e_aload5, ↓e_cs3, ↓e_goto, ↓e_cv4, i_3, i_7, i_11, ↓e_iinc4, ↓e_cv1, ↓e_iload3, ↓e_isub, ↓x_32, ↓x_34, ↓x_36, ↓x_38, ↓e_nil, b_39_0, b_39_1, b_39_2, b_39_3, b_39_4, b_39_5, q_isSheet, ab_yn, one0, eq_self, ne_eq, not_true_eq_false, not_false_eq_true, true_implies, false_implies, true_and, and_true, and_self]
  refine ⟨fun g1 => ?_, fun g1 => ?_⟩
  · obtain ⟨s, rfl⟩ : ∃ s : Nat, a = s := ⟨a.toNat, by omega⟩
    have hs : s < 4 := by omega
    obtain ⟨e1, e2, e3, e4⟩ := hi.2.2.1.2 s hs
    have z1 := (hi.2.2.2.1 s hs).2
    have h33 : w 3 3 = (D.k : Int) := hi.1.2.2.1.1
    have hk8 : D.k ≤ 8 := hi.1.ok.2.2.2.1.1
    rw [if_pos g1, Int.toNat_natCast] at h
    rw [ev_39_1]
    cases hb : S.th s
    · rw [hb] at e1 h
      have e1 : w (31 + 2 * s) 1 = 1 := e1
      rw [if_neg (by decide)] at h
      simp only [↓e_iload1, e_rpn, e_rps, e_few0, e_few1, e_few2, e_few3, e_few4, ↓e_cs1, ↓e_if_ne, ↓e_bipush, ↓e_iret, ↓e_aload0, ↓g_0_10, ↓e_astore2, e_klI, e_klR, e_klX, e_klL, ↓e_aload2, ↓g_31_1, ↓g_33_1, ↓g_35_1, ↓g_37_1, ↓e_if_eq, ↓e_iconst, ↓e_cv2, i_0, ↓g_0_1, ↓g_3_3, ↓g_7_3, ↓g_11_3, ↓e_istore3, ↓e_istore4, ↓e_iload4, ↓e_iadd, ↓g_31_3, ↓g_33_3, ↓g_35_3, ↓g_37_3, ↓e_cmp_gt, ↓e_cmp_ge, ↓g_31_0, ↓g_33_0, ↓g_35_0, ↓g_37_0, ↓e_astore5, ↓e_aload5, ↓e_cs3, ↓e_goto, ↓e_cv4, i_3, i_7, i_11, ↓e_iinc4, ↓e_cv1, ↓e_iload3, ↓e_isub, ↓x_32, ↓x_34, ↓x_36, ↓x_38, ↓e_nil, b_39_0, b_39_1, b_39_2, b_39_3, b_39_4, b_39_5, x30s hs, gs_1 hs, e1, q_found, w11, one0, eq_self, ne_eq, not_true_eq_false, not_false_eq_true, true_implies, false_implies, true_and, and_true, and_self]
      exact h _ c_fra.met hi.met
    · rw [hb] at e1 h
      have e1 : w (31 + 2 * s) 1 = 0 := e1
      rw [if_pos rfl] at h
      generalize hD' : rd (S.it s) (S.sz s) 20 0 D = D' at h
      have hexit : ∀ v : ab_W, c_pre v D' → (∀ p, ¬ (3 ≤ p ∧ p ≤ 6) → v p = w p) → ∀ x y : ab_V, Ev Ls (Sm Ls (d + 5)) q bk_39 5 [vR 0, vI s, vR (31 + 2 * s), vI D.k, x, y] [] v := fun v v0 v1 x y => by
        rw [ev_39_5]
        simp only [↓e_iload1, e_rpn, e_rps, e_few0, e_few1, e_few2, e_few3, e_few4, ↓e_cs1, ↓e_if_ne, ↓e_bipush, ↓e_iret, ↓e_aload0, ↓g_0_10, ↓e_astore2, e_klI, e_klR, e_klX, e_klL, ↓e_aload2, ↓g_31_1, ↓g_33_1, ↓g_35_1, ↓g_37_1, ↓e_if_eq, ↓e_iconst, ↓e_cv2, i_0, ↓g_0_1, ↓g_3_3, ↓g_7_3, ↓g_11_3, ↓e_istore3, ↓e_istore4, ↓e_iload4, ↓e_iadd, ↓g_31_3, ↓g_33_3, ↓g_35_3, ↓g_37_3, ↓e_cmp_gt, ↓e_cmp_ge, ↓g_31_0, ↓g_33_0, ↓g_35_0, ↓g_37_0, ↓e_astore5, ↓e_aload5, ↓e_cs3, ↓e_goto, ↓e_cv4, i_3, i_7, i_11, ↓e_iinc4, ↓e_cv1, ↓e_iload3, ↓e_isub, ↓x_32, ↓x_34, ↓x_36, ↓x_38, ↓e_nil, b_39_0, b_39_1, b_39_2, b_39_3, b_39_4, b_39_5, one0, eq_self, ne_eq, not_true_eq_false, not_false_eq_true, true_implies, false_implies, true_and, and_true, and_self]
        refine q_runTold v0 (S := S) (hi.2.2.1.kept (by rw [v1 0 (by omega)]) (fun p h1 h2 => v1 p (by omega))) hi.2.2.2.1 (hi.2.2.2.2.kept (v1 100 (by omega))) (fun u u0 u1 => ?_)
        have e1 : u 3 3 = (D'.k : Int) := u1.1.2.2.1.1
        have hk : D'.k ≤ 8 := u1.1.ok.2.2.2.1.1
        have w1 : iW ((D'.k : Int) - D.k) = (D'.k : Int) - D.k := iW_id (by omega) (by omega)
        simp only [↓e_iload1, e_rpn, e_rps, e_few0, e_few1, e_few2, e_few3, e_few4, ↓e_cs1, ↓e_if_ne, ↓e_bipush, ↓e_iret, ↓e_aload0, ↓g_0_10, ↓e_astore2, e_klI, e_klR, e_klX, e_klL, ↓e_aload2, ↓g_31_1, ↓g_33_1, ↓g_35_1, ↓g_37_1, ↓e_if_eq, ↓e_iconst, ↓e_cv2, i_0, ↓g_0_1, ↓g_3_3, ↓g_7_3, ↓g_11_3, ↓e_istore3, ↓e_istore4, ↓e_iload4, ↓e_iadd, ↓g_31_3, ↓g_33_3, ↓g_35_3, ↓g_37_3, ↓e_cmp_gt, ↓e_cmp_ge, ↓g_31_0, ↓g_33_0, ↓g_35_0, ↓g_37_0, ↓e_astore5, ↓e_aload5, ↓e_cs3, ↓e_goto, ↓e_cv4, i_3, i_7, i_11, ↓e_iinc4, ↓e_cv1, ↓e_iload3, ↓e_isub, ↓x_32, ↓x_34, ↓x_36, ↓x_38, ↓e_nil, b_39_0, b_39_1, b_39_2, b_39_3, b_39_4, b_39_5, e1, w1]
        exact h u (fun p hp => by rw [u0 p hp, v1 p (by clear w1; omega)]) u1
      have key : ∀ (f n : Nat), n + f = 20 → ∀ (E : Td) (v : ab_W), rd (S.it s) (S.sz s) f n E = D' → c_pre v E → (∀ p, ¬ (3 ≤ p ∧ p ≤ 6) → v p = w p) → ∀ y : ab_V, Ev Ls (Sm Ls (d + 5)) q bk_39 3 [vR 0, vI s, vR (31 + 2 * s), vI D.k, vI ((3 * n : Nat) : Int), y] [] v := by
        intro f
        induction f with
        | zero =>
          intro n hn E v hE v0 v1 y
          have : n = 20 := by omega
          subst this
          have hE : E = D' := hE
          subst hE
          have hx := hexit v v0 v1
          have h3 : v (31 + 2 * s) 3 = S.sz s := by rw [v1 _ (by omega)]; exact e3
          have hgt : (S.sz s : Int) < ((3 * 20 : Nat) : Int) + 3 := by omega
          have w1 : iW (((3 * 20 : Nat) : Int) + 3) = ((3 * 20 : Nat) : Int) + 3 := iW_id (by omega) (by omega)
          rw [ev_39_3]
          simp only [↓e_iload1, e_rpn, e_rps, e_few0, e_few1, e_few2, e_few3, e_few4, ↓e_cs1, ↓e_if_ne, ↓e_bipush, ↓e_iret, ↓e_aload0, ↓g_0_10, ↓e_astore2, e_klI, e_klR, e_klX, e_klL, ↓e_aload2, ↓g_31_1, ↓g_33_1, ↓g_35_1, ↓g_37_1, ↓e_if_eq, ↓e_iconst, ↓e_cv2, i_0, ↓g_0_1, ↓g_3_3, ↓g_7_3, ↓g_11_3, ↓e_istore3, ↓e_istore4, ↓e_iload4, ↓e_iadd, ↓g_31_3, ↓g_33_3, ↓g_35_3, ↓g_37_3, ↓e_cmp_gt, ↓e_cmp_ge, ↓g_31_0, ↓g_33_0, ↓g_35_0, ↓g_37_0, ↓e_astore5, ↓e_aload5, ↓e_cs3, ↓e_goto, ↓e_cv4, i_3, i_7, i_11, ↓e_iinc4, ↓e_cv1, ↓e_iload3, ↓e_isub, ↓x_32, ↓x_34, ↓x_36, ↓x_38, ↓e_nil, b_39_0, b_39_1, b_39_2, b_39_3, b_39_4, b_39_5, gs_3 hs, h3, w1, hgt, one0, eq_self, ne_eq, not_true_eq_false, not_false_eq_true, true_implies, false_implies, true_and, and_true, and_self]
          exact hx _ _
        | succ f ih =>
          intro n hn E v hE v0 v1 y
          rw [rd_s] at hE
          have hx := fun (g : E = D') => hexit v (by rw [← g]; exact v0) v1
          have h3 : v (31 + 2 * s) 3 = S.sz s := by rw [v1 _ (by omega)]; exact e3
          have hE3 : v 3 3 = (E.k : Int) := v0.2.2.1.1
          have hEk : E.k ≤ 8 := v0.2.2.2.2.2.2.2.2.2.1.1
          obtain ⟨w1, w2, w3, w4⟩ : iW (((3 * n : Nat) : Int) + 3) = ((3 * n : Nat) : Int) + 3 ∧ iW (((3 * n : Nat) : Int) + 1) = ((3 * n + 1 : Nat) : Int) ∧ iW (((3 * n : Nat) : Int) + 2) = ((3 * n + 2 : Nat) : Int) ∧ ((3 * n : Nat) : Int) + 3 = ((3 * (n + 1) : Nat) : Int) := ⟨iW_id (by omega) (by omega), (iW_id (by omega) (by omega)).trans (by omega), (iW_id (by omega) (by omega)).trans (by omega), by omega⟩
          rw [ev_39_3]
          simp only [↓e_iload1, e_rpn, e_rps, e_few0, e_few1, e_few2, e_few3, e_few4, ↓e_cs1, ↓e_if_ne, ↓e_bipush, ↓e_iret, ↓e_aload0, ↓g_0_10, ↓e_astore2, e_klI, e_klR, e_klX, e_klL, ↓e_aload2, ↓g_31_1, ↓g_33_1, ↓g_35_1, ↓g_37_1, ↓e_if_eq, ↓e_iconst, ↓e_cv2, i_0, ↓g_0_1, ↓g_3_3, ↓g_7_3, ↓g_11_3, ↓e_istore3, ↓e_istore4, ↓e_iload4, ↓e_iadd, ↓g_31_3, ↓g_33_3, ↓g_35_3, ↓g_37_3, ↓e_cmp_gt, ↓e_cmp_ge, ↓g_31_0, ↓g_33_0, ↓g_35_0, ↓g_37_0, ↓e_astore5, ↓e_aload5, ↓e_cs3, ↓e_goto, ↓e_cv4, i_3, i_7, i_11, ↓e_iinc4, ↓e_cv1, ↓e_iload3, ↓e_isub, ↓x_32, ↓x_34, ↓x_36, ↓x_38, ↓e_nil, b_39_0, b_39_1, b_39_2, b_39_3, b_39_4, b_39_5, gs_3 hs, gs_0 hs, xs_ hs, h3, hE3, w1, w2, w3, one0, eq_self, ne_eq, not_true_eq_false, not_false_eq_true, true_implies, false_implies, true_and, and_true, and_self]
          refine ⟨fun g => hx (by rw [if_neg (by clear w1 w2 w3; omega)] at hE; exact hE) _ _, fun g => ⟨fun g2 => hx (by rw [if_neg (by clear w1 w2 w3; omega)] at hE; exact hE) _ _, fun g2 => ?_⟩⟩
          have i0 : v (32 + 2 * s) ((3 * n : Nat) : Int) = S.it s (3 * n) := by rw [v1 _ (by clear w1 w2 w3; omega)]; exact e4 _ (by clear w1 w2 w3; omega)
          have i1 : v (32 + 2 * s) ((3 * n + 1 : Nat) : Int) = S.it s (3 * n + 1) := by rw [v1 _ (by clear w1 w2 w3; omega)]; exact e4 _ (by clear w1 w2 w3; omega)
          have i2 : v (32 + 2 * s) ((3 * n + 2 : Nat) : Int) = S.it s (3 * n + 2) := by rw [v1 _ (by clear w1 w2 w3; omega)]; exact e4 _ (by clear w1 w2 w3; omega)
          have n0 : 0 ≤ ((3 * n : Nat) : Int) ∧ ((3 * n : Nat) : Int) < 60 := by clear w1 w2 w3; omega
          have n1 : 0 ≤ ((3 * n + 1 : Nat) : Int) ∧ ((3 * n + 1 : Nat) : Int) < 60 := by clear w1 w2 w3; omega
          have n2 : 0 ≤ ((3 * n + 2 : Nat) : Int) ∧ ((3 * n + 2 : Nat) : Int) < 60 := by clear w1 w2 w3; omega
          simp only [↓e_iload1, e_rpn, e_rps, e_few0, e_few1, e_few2, e_few3, e_few4, ↓e_cs1, ↓e_if_ne, ↓e_bipush, ↓e_iret, ↓e_aload0, ↓g_0_10, ↓e_astore2, e_klI, e_klR, e_klX, e_klL, ↓e_aload2, ↓g_31_1, ↓g_33_1, ↓g_35_1, ↓g_37_1, ↓e_if_eq, ↓e_iconst, ↓e_cv2, i_0, ↓g_0_1, ↓g_3_3, ↓g_7_3, ↓g_11_3, ↓e_istore3, ↓e_istore4, ↓e_iload4, ↓e_iadd, ↓g_31_3, ↓g_33_3, ↓g_35_3, ↓g_37_3, ↓e_cmp_gt, ↓e_cmp_ge, ↓g_31_0, ↓g_33_0, ↓g_35_0, ↓g_37_0, ↓e_astore5, ↓e_aload5, ↓e_cs3, ↓e_goto, ↓e_cv4, i_3, i_7, i_11, ↓e_iinc4, ↓e_cv1, ↓e_iload3, ↓e_isub, ↓x_32, ↓x_34, ↓x_36, ↓x_38, ↓e_nil, b_39_0, b_39_1, b_39_2, b_39_3, b_39_4, b_39_5, ↓ev_39_4, n0, n1, n2, i0, i1, i2, q_isEvent, ab_yn, gs_0 hs, xs_ hs, w1, w2, w3, one0, eq_self, ne_eq, not_true_eq_false, not_false_eq_true, true_implies, false_implies, true_and, and_true, and_self]
          refine ⟨fun g3 => ?_, fun g3 => hx (by rw [if_neg (fun z => g3 z.2.2)] at hE; exact hE) _ _⟩
          rw [if_pos ⟨by clear w1 w2 w3; omega, by clear w1 w2 w3; omega, g3⟩] at hE
          refine q_append (Or.inl rfl) (by clear w1 w2 w3; omega) hE3 ?_
          simp only [↓e_iload1, e_rpn, e_rps, e_few0, e_few1, e_few2, e_few3, e_few4, ↓e_cs1, ↓e_if_ne, ↓e_bipush, ↓e_iret, ↓e_aload0, ↓g_0_10, ↓e_astore2, e_klI, e_klR, e_klX, e_klL, ↓e_aload2, ↓g_31_1, ↓g_33_1, ↓g_35_1, ↓g_37_1, ↓e_if_eq, ↓e_iconst, ↓e_cv2, i_0, ↓g_0_1, ↓g_3_3, ↓g_7_3, ↓g_11_3, ↓e_istore3, ↓e_istore4, ↓e_iload4, ↓e_iadd, ↓g_31_3, ↓g_33_3, ↓g_35_3, ↓g_37_3, ↓e_cmp_gt, ↓e_cmp_ge, ↓g_31_0, ↓g_33_0, ↓g_35_0, ↓g_37_0, ↓e_astore5, ↓e_aload5, ↓e_cs3, ↓e_goto, ↓e_cv4, i_3, i_7, i_11, ↓e_iinc4, ↓e_cv1, ↓e_iload3, ↓e_isub, ↓x_32, ↓x_34, ↓x_36, ↓x_38, ↓e_nil, b_39_0, b_39_1, b_39_2, b_39_3, b_39_4, b_39_5, w1, w4, one0, eq_self, ne_eq, not_true_eq_false, not_false_eq_true, true_implies, false_implies, true_and, and_true, and_self]
          exact ih (n + 1) (by clear w1 w2 w3; omega) _ _ hE (v0.app g3.1 g3.2.1 g3.2.2 (by clear w1 w2 w3; omega)) (fun p hp => by rw [c_ap_ne (by clear w1 w2 w3; omega)]; exact v1 p hp) _
      simp only [↓e_iload1, e_rpn, e_rps, e_few0, e_few1, e_few2, e_few3, e_few4, ↓e_cs1, ↓e_if_ne, ↓e_bipush, ↓e_iret, ↓e_aload0, ↓g_0_10, ↓e_astore2, e_klI, e_klR, e_klX, e_klL, ↓e_aload2, ↓g_31_1, ↓g_33_1, ↓g_35_1, ↓g_37_1, ↓e_if_eq, ↓e_iconst, ↓e_cv2, i_0, ↓g_0_1, ↓g_3_3, ↓g_7_3, ↓g_11_3, ↓e_istore3, ↓e_istore4, ↓e_iload4, ↓e_iadd, ↓g_31_3, ↓g_33_3, ↓g_35_3, ↓g_37_3, ↓e_cmp_gt, ↓e_cmp_ge, ↓g_31_0, ↓g_33_0, ↓g_35_0, ↓g_37_0, ↓e_astore5, ↓e_aload5, ↓e_cs3, ↓e_goto, ↓e_cv4, i_3, i_7, i_11, ↓e_iinc4, ↓e_cv1, ↓e_iload3, ↓e_isub, ↓x_32, ↓x_34, ↓x_36, ↓x_38, ↓e_nil, b_39_0, b_39_1, b_39_2, b_39_3, b_39_4, b_39_5, ↓ev_39_2, x30s hs, gs_1 hs, e1, h33, one0, eq_self, ne_eq, not_true_eq_false, not_false_eq_true, true_implies, false_implies, true_and, and_true, and_self]
      exact key 20 0 (by omega) D w hD' hi.1.pre (fun _ _ => rfl) _
  · rw [if_neg g1] at h; exact h w (c_fra.refl w) hi
end CSheets61
