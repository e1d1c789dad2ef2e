/-! the model: copy, write -/
section MCopy63
variable {Ls d : Nat} {w : ab_W} {q : Option ab_V → ab_W → Prop} {D : Td} {S : Sh}
theorem lc_gt {x y : Int} : (0 < l_cmp x y) = (y < x) := by
  unfold l_cmp
  apply propext
  split
  · omega
  · split <;> omega
theorem lc_le {x y : Int} : (l_cmp x y ≤ 0) = (x ≤ y) := by
  unfold l_cmp
  apply propext
  split
  · omega
  · split <;> omega
set_option maxHeartbeats 1000000 in
theorem q_copyM (hi : m_inv w D S) {a i b j n : Int} (ri : i < 2147483648) (rj : j < 2147483648) (rn : n < 2147483648) (h : ∀ v, m_fra w v → m_inv v D (p_copy S a i b j n).2 → q (some (vI (p_copy S a i b j n).1)) v) : Sm Ls (d + 3) 185 [vR 39, vI a, vI i, vI b, vI j, vI n] w q := by
  unfold p_copy at h
  have w11 : iW (-10 - 1) = -11 := by decide
  have w14 : iW (-10 - 4) = -14 := by decide
  have w12 : iW (-10 - 2) = -12 := by decide
  rw [en_185]
  simp only [↓e_iload1, e_rpn, e_rps, e_few0, e_few1, e_few2, e_few3, e_few4, ↓e_cs1, ↓e_if_eq, ↓e_iload3, ↓e_if_ne, ↓e_bipush, ↓e_iret, ↓e_aload0, ↓g_39_32, ↓e_iconst, ↓e_cv2, i_39, ↓g_39_33, ↓e_cmp_eq, ↓e_iload2, ↓e_if_lt, ↓e_iload4, ↓e_iload5, ↓e_i2l, ↓e_ladd, ↓g_39_34, ↓e_lcmp, ↓e_if_gt, ↓e_if_le, ↓e_istore6, e_klI, e_klR, e_klX, e_klL, ↓e_iload6, ↓e_cmp_ge, ↓g_39_36, ↓g_39_35, ↓e_imul, ↓e_iadd, ↓e_iinc6, ↓e_goto, ↓x_64, ↓x_65, ↓y_65, ↓x_66, ↓y_66, ↓x_67, ↓y_67, ↓x_68, ↓y_68, ↓e_nil, b_185_0, b_185_1, b_185_2, b_185_3, b_185_4, b_185_5, b_185_6, b_185_7, b_185_8, b_185_9, b_185_10, b_185_11, ↓ev_185_1, q_isSheetM, ab_yn, one0, eq_self, ne_eq, not_true_eq_false, not_false_eq_true, true_implies, false_implies, true_and, and_true, and_self]
  refine ⟨fun g1 => ⟨fun g2 => ?_, fun g2 => ?_⟩, fun g1 => ?_⟩
  · obtain ⟨s, rfl⟩ : ∃ s : Nat, a = s := ⟨a.toNat, by omega⟩
    obtain ⟨t, rfl⟩ : ∃ t : Nat, b = t := ⟨b.toNat, by omega⟩
    have hs : s < 4 := by omega
    have ht : t < 4 := by omega
    have his : 0 ≤ (s : Int) ∧ (s : Int) < 4 := by omega
    have hit : 0 ≤ (t : Int) ∧ (t : Int) < 4 := by omega
    obtain ⟨e1, e2, e3, e4⟩ := hi.2.1.2 s hs
    obtain ⟨f1, f2, f3, f4⟩ := hi.2.1.2 t ht
    have z1 := (hi.2.2 s hs).2
    have z2 := (hi.2.2 t ht).2
    rw [if_pos (by omega), Int.toNat_natCast, Int.toNat_natCast] at h
    have hnull : ¬ (S.th s = true ∧ S.th t = true) → q (some (vI (-11))) (ab_up w 39 37 1) := fun g => by
      rw [if_neg g] at h; exact h _ m_fra.met hi.met
    rw [ev_185_2]
    cases hb : S.th s
    · rw [hb] at e1
      have e1 : w 64 s = 0 := e1
      simp only [↓e_iload1, e_rpn, e_rps, e_few0, e_few1, e_few2, e_few3, e_few4, ↓e_cs1, ↓e_if_eq, ↓e_iload3, ↓e_if_ne, ↓e_bipush, ↓e_iret, ↓e_aload0, ↓g_39_32, ↓e_iconst, ↓e_cv2, i_39, ↓g_39_33, ↓e_cmp_eq, ↓e_iload2, ↓e_if_lt, ↓e_iload4, ↓e_iload5, ↓e_i2l, ↓e_ladd, ↓g_39_34, ↓e_lcmp, ↓e_if_gt, ↓e_if_le, ↓e_istore6, e_klI, e_klR, e_klX, e_klL, ↓e_iload6, ↓e_cmp_ge, ↓g_39_36, ↓g_39_35, ↓e_imul, ↓e_iadd, ↓e_iinc6, ↓e_goto, ↓x_64, ↓x_65, ↓y_65, ↓x_66, ↓y_66, ↓x_67, ↓y_67, ↓x_68, ↓y_68, ↓e_nil, b_185_0, b_185_1, b_185_2, b_185_3, b_185_4, b_185_5, b_185_6, b_185_7, b_185_8, b_185_9, b_185_10, b_185_11, ↓ev_185_3, his, e1, q_meets, w11, one0, eq_self, ne_eq, not_true_eq_false, not_false_eq_true, true_implies, false_implies, true_and, and_true, and_self]
      exact hnull (by rw [hb]; simp)
    · rw [hb] at e1
      have e1 : w 64 s = 1 := e1
      cases hb2 : S.th t
      · rw [hb2] at f1
        have f1 : w 64 t = 0 := f1
        simp only [↓e_iload1, e_rpn, e_rps, e_few0, e_few1, e_few2, e_few3, e_few4, ↓e_cs1, ↓e_if_eq, ↓e_iload3, ↓e_if_ne, ↓e_bipush, ↓e_iret, ↓e_aload0, ↓g_39_32, ↓e_iconst, ↓e_cv2, i_39, ↓g_39_33, ↓e_cmp_eq, ↓e_iload2, ↓e_if_lt, ↓e_iload4, ↓e_iload5, ↓e_i2l, ↓e_ladd, ↓g_39_34, ↓e_lcmp, ↓e_if_gt, ↓e_if_le, ↓e_istore6, e_klI, e_klR, e_klX, e_klL, ↓e_iload6, ↓e_cmp_ge, ↓g_39_36, ↓g_39_35, ↓e_imul, ↓e_iadd, ↓e_iinc6, ↓e_goto, ↓x_64, ↓x_65, ↓y_65, ↓x_66, ↓y_66, ↓x_67, ↓y_67, ↓x_68, ↓y_68, ↓e_nil, b_185_0, b_185_1, b_185_2, b_185_3, b_185_4, b_185_5, b_185_6, b_185_7, b_185_8, b_185_9, b_185_10, b_185_11, ↓ev_185_3, his, hit, e1, f1, q_meets, w11, one0, eq_self, ne_eq, not_true_eq_false, not_false_eq_true, true_implies, false_implies, true_and, and_true, and_self]
        exact hnull (by rw [hb2]; simp)
      · rw [hb2] at f1
        have f1 : w 64 t = 1 := f1
        rw [if_pos ⟨hb, hb2⟩] at h
        simp only [↓e_iload1, e_rpn, e_rps, e_few0, e_few1, e_few2, e_few3, e_few4, ↓e_cs1, ↓e_if_eq, ↓e_iload3, ↓e_if_ne, ↓e_bipush, ↓e_iret, ↓e_aload0, ↓g_39_32, ↓e_iconst, ↓e_cv2, i_39, ↓g_39_33, ↓e_cmp_eq, ↓e_iload2, ↓e_if_lt, ↓e_iload4, ↓e_iload5, ↓e_i2l, ↓e_ladd, ↓g_39_34, ↓e_lcmp, ↓e_if_gt, ↓e_if_le, ↓e_istore6, e_klI, e_klR, e_klX, e_klL, ↓e_iload6, ↓e_cmp_ge, ↓g_39_36, ↓g_39_35, ↓e_imul, ↓e_iadd, ↓e_iinc6, ↓e_goto, ↓x_64, ↓x_65, ↓y_65, ↓x_66, ↓y_66, ↓x_67, ↓y_67, ↓x_68, ↓y_68, ↓e_nil, b_185_0, b_185_1, b_185_2, b_185_3, b_185_4, b_185_5, b_185_6, b_185_7, b_185_8, b_185_9, b_185_10, b_185_11, ↓ev_185_4, his, hit, e1, f1, e2, f2, q_meets, w14, one0, eq_self, ne_eq, not_true_eq_false, not_false_eq_true, true_implies, false_implies, true_and, and_true, and_self]
        refine ⟨fun g3 => ?_, fun g3 => ?_⟩
        · rw [if_pos g3] at h
          have hno : ¬ (0 ≤ i ∧ 0 ≤ j ∧ 0 ≤ n ∧ i + n ≤ S.sz s ∧ j + n ≤ S.sz t) → q (some (vI (-12))) (ab_up w 39 37 2) := fun g => by
            rw [if_neg g] at h; exact h _ m_fra.met hi.met
          rw [ev_185_5]
          simp only [↓e_iload1, e_rpn, e_rps, e_few0, e_few1, e_few2, e_few3, e_few4, ↓e_cs1, ↓e_if_eq, ↓e_iload3, ↓e_if_ne, ↓e_bipush, ↓e_iret, ↓e_aload0, ↓g_39_32, ↓e_iconst, ↓e_cv2, i_39, ↓g_39_33, ↓e_cmp_eq, ↓e_iload2, ↓e_if_lt, ↓e_iload4, ↓e_iload5, ↓e_i2l, ↓e_ladd, ↓g_39_34, ↓e_lcmp, ↓e_if_gt, ↓e_if_le, ↓e_istore6, e_klI, e_klR, e_klX, e_klL, ↓e_iload6, ↓e_cmp_ge, ↓g_39_36, ↓g_39_35, ↓e_imul, ↓e_iadd, ↓e_iinc6, ↓e_goto, ↓x_64, ↓x_65, ↓y_65, ↓x_66, ↓y_66, ↓x_67, ↓y_67, ↓x_68, ↓y_68, ↓e_nil, b_185_0, b_185_1, b_185_2, b_185_3, b_185_4, b_185_5, b_185_6, b_185_7, b_185_8, b_185_9, b_185_10, b_185_11, ↓ev_185_6, his, hit, e3, f3, q_meets, w12, lc_gt, lc_le, one0, eq_self, ne_eq, not_true_eq_false, not_false_eq_true, true_implies, false_implies, true_and, and_true, and_self]
          refine ⟨fun g4 => hno (by omega), fun g4 => ⟨fun g5 => hno (by omega), fun g5 => ⟨fun g6 => hno (by omega), fun g6 => ?_⟩⟩⟩
          obtain ⟨w1, w2⟩ : lW (i + n) = i + n ∧ lW (j + n) = j + n := ⟨lW_id (by omega) (by omega), lW_id (by omega) (by omega)⟩
          rw [w1, w2]
          clear w1 w2
          refine ⟨fun g7 => hno (by omega), fun g7 => ⟨fun g8 => ?_, fun g8 => hno (by omega)⟩⟩
          rw [if_pos (by omega)] at h
          obtain ⟨i, rfl⟩ : ∃ z : Nat, i = z := ⟨i.toNat, by omega⟩
          obtain ⟨j, rfl⟩ : ∃ z : Nat, j = z := ⟨j.toNat, by omega⟩
          obtain ⟨n, rfl⟩ : ∃ z : Nat, n = z := ⟨n.toNat, by omega⟩
          rw [Int.toNat_natCast, Int.toNat_natCast, Int.toNat_natCast] at h
          have second : ∀ (k m : Nat), m + k = n → ∀ v : ab_W, (∀ p, p ≠ 67 → p ≠ 68 → v p = w p) → (∀ x : Nat, x < n → v 68 x = S.it s (i + x)) → (∀ x : Nat, x < 60 → v 67 (60 * (t : Int) + x) = if j ≤ x ∧ x < j + m then S.it s (i + (x - j)) else S.it t x) → (∀ u : Nat, u < 4 → u ≠ t → ∀ i : Nat, i < 60 → v 67 (60 * (u : Int) + i) = w 67 (60 * (u : Int) + i)) → Ev Ls (Sm Ls (d + 2)) q bk_185 10 [vR 39, vI s, vI i, vI t, vI j, vI n, vI m] [] v := by
            intro k
            induction k with
            | zero =>
              intro m hm v v0 v1 v2 v3
              have : m = n := by omega
              subst this
              have hfin := h v (m_fra.sht (fun p hp => v0 p (by omega) (by omega))) (hi.itm ht v0 v2 v3)
              rw [ev_185_10]
              simp only [↓e_iload1, e_rpn, e_rps, e_few0, e_few1, e_few2, e_few3, e_few4, ↓e_cs1, ↓e_if_eq, ↓e_iload3, ↓e_if_ne, ↓e_bipush, ↓e_iret, ↓e_aload0, ↓g_39_32, ↓e_iconst, ↓e_cv2, i_39, ↓g_39_33, ↓e_cmp_eq, ↓e_iload2, ↓e_if_lt, ↓e_iload4, ↓e_iload5, ↓e_i2l, ↓e_ladd, ↓g_39_34, ↓e_lcmp, ↓e_if_gt, ↓e_if_le, ↓e_istore6, e_klI, e_klR, e_klX, e_klL, ↓e_iload6, ↓e_cmp_ge, ↓g_39_36, ↓g_39_35, ↓e_imul, ↓e_iadd, ↓e_iinc6, ↓e_goto, ↓x_64, ↓x_65, ↓y_65, ↓x_66, ↓y_66, ↓x_67, ↓y_67, ↓x_68, ↓y_68, ↓e_nil, b_185_0, b_185_1, b_185_2, b_185_3, b_185_4, b_185_5, b_185_6, b_185_7, b_185_8, b_185_9, b_185_10, b_185_11, ↓ev_185_11]
              exact ⟨fun _ => hfin, fun z => absurd (Int.le_refl _) z⟩
            | succ k ih =>
              intro m hm v v0 v1 v2 v3
              have hno2 : ¬ (n : Int) ≤ (m : Int) := by omega
              have hin : 0 ≤ (m : Int) ∧ (m : Int) < 60 := by omega
              have hin2 : 0 ≤ 60 * (t : Int) + ((j + m : Nat) : Int) ∧ 60 * (t : Int) + ((j + m : Nat) : Int) < 240 := by omega
              have hnext := ih (m + 1) (by omega) (ab_up v 67 (60 * (t : Int) + ((j + m : Nat) : Int)) (S.it s (i + m))) (fun p h1 h2 => by rw [ab_up_ne h1]; exact v0 p h1 h2) (fun x hx => by rw [ab_up_p (by decide)]; exact v1 x hx) (fun x hx => by
                by_cases hxm : x = j + m
                · subst hxm
                  rw [ab_up_at, if_pos (by omega), show j + m - j = m by omega]
                · rw [ab_up_nj (by omega), v2 x hx]
                  by_cases hx2 : j ≤ x ∧ x < j + m
                  · rw [if_pos hx2, if_pos (by omega)]
                  · rw [if_neg hx2, if_neg (by omega)]) (fun u hu hut x hx => by rw [ab_up_nj (by omega)]; exact v3 u hu hut x hx)
              have hm68 := v1 m (by omega)
              obtain ⟨w1, w2, w3, w4⟩ : iW (60 * (t : Int)) = 60 * (t : Int) ∧ iW (60 * (t : Int) + j) = 60 * (t : Int) + j ∧ iW (60 * (t : Int) + j + m) = 60 * (t : Int) + ((j + m : Nat) : Int) ∧ iW ((m : Int) + 1) = (m : Int) + 1 := ⟨iW_id (by omega) (by omega), iW_id (by omega) (by omega), (iW_id (by omega) (by omega)).trans (by omega), iW_id (by omega) (by omega)⟩
              rw [ev_185_10]
              simp only [↓e_iload1, e_rpn, e_rps, e_few0, e_few1, e_few2, e_few3, e_few4, ↓e_cs1, ↓e_if_eq, ↓e_iload3, ↓e_if_ne, ↓e_bipush, ↓e_iret, ↓e_aload0, ↓g_39_32, ↓e_iconst, ↓e_cv2, i_39, ↓g_39_33, ↓e_cmp_eq, ↓e_iload2, ↓e_if_lt, ↓e_iload4, ↓e_iload5, ↓e_i2l, ↓e_ladd, ↓g_39_34, ↓e_lcmp, ↓e_if_gt, ↓e_if_le, ↓e_istore6, e_klI, e_klR, e_klX, e_klL, ↓e_iload6, ↓e_cmp_ge, ↓g_39_36, ↓g_39_35, ↓e_imul, ↓e_iadd, ↓e_iinc6, ↓e_goto, ↓x_64, ↓x_65, ↓y_65, ↓x_66, ↓y_66, ↓x_67, ↓y_67, ↓x_68, ↓y_68, ↓e_nil, b_185_0, b_185_1, b_185_2, b_185_3, b_185_4, b_185_5, b_185_6, b_185_7, b_185_8, b_185_9, b_185_10, b_185_11, hno2, hin, hin2, hm68, w1, w2, w3, w4, one0, eq_self, ne_eq, not_true_eq_false, not_false_eq_true, true_implies, false_implies, true_and, and_true, and_self]
              exact hnext
          have first : ∀ (k m : Nat), m + k = n → ∀ v : ab_W, (∀ p, p ≠ 68 → v p = w p) → (∀ x : Nat, x < m → v 68 x = S.it s (i + x)) → Ev Ls (Sm Ls (d + 2)) q bk_185 8 [vR 39, vI s, vI i, vI t, vI j, vI n, vI m] [] v := by
            intro k
            induction k with
            | zero =>
              intro m hm v v0 v1
              have : m = n := by omega
              subst this
              have hsec := second m 0 (by omega) v (fun p _ h2 => v0 p h2) v1 (fun x hx => by rw [if_neg (by omega), v0 67 (by decide)]; exact f4 x hx) (fun u hu hut x hx => by rw [v0 67 (by decide)])
              rw [ev_185_8]
              simp only [↓e_iload1, e_rpn, e_rps, e_few0, e_few1, e_few2, e_few3, e_few4, ↓e_cs1, ↓e_if_eq, ↓e_iload3, ↓e_if_ne, ↓e_bipush, ↓e_iret, ↓e_aload0, ↓g_39_32, ↓e_iconst, ↓e_cv2, i_39, ↓g_39_33, ↓e_cmp_eq, ↓e_iload2, ↓e_if_lt, ↓e_iload4, ↓e_iload5, ↓e_i2l, ↓e_ladd, ↓g_39_34, ↓e_lcmp, ↓e_if_gt, ↓e_if_le, ↓e_istore6, e_klI, e_klR, e_klX, e_klL, ↓e_iload6, ↓e_cmp_ge, ↓g_39_36, ↓g_39_35, ↓e_imul, ↓e_iadd, ↓e_iinc6, ↓e_goto, ↓x_64, ↓x_65, ↓y_65, ↓x_66, ↓y_66, ↓x_67, ↓y_67, ↓x_68, ↓y_68, ↓e_nil, b_185_0, b_185_1, b_185_2, b_185_3, b_185_4, b_185_5, b_185_6, b_185_7, b_185_8, b_185_9, b_185_10, b_185_11, ↓ev_185_9]
              exact ⟨fun _ => hsec, fun z => absurd (Int.le_refl _) z⟩
            | succ k ih =>
              intro m hm v v0 v1
              have hno2 : ¬ (n : Int) ≤ (m : Int) := by omega
              have hin : 0 ≤ (m : Int) ∧ (m : Int) < 60 := by omega
              have hin2 : 0 ≤ 60 * (s : Int) + ((i + m : Nat) : Int) ∧ 60 * (s : Int) + ((i + m : Nat) : Int) < 240 := by omega
              have h67 : v 67 (60 * (s : Int) + ((i + m : Nat) : Int)) = S.it s (i + m) := by rw [v0 67 (by decide)]; exact e4 _ (by omega)
              have hnext := ih (m + 1) (by omega) (ab_up v 68 m (S.it s (i + m))) (fun p h1 => by rw [ab_up_ne h1]; exact v0 p h1) (fun x hx => by
                by_cases hxm : x = m
                · subst hxm; rw [ab_up_at]
                · rw [ab_up_nj (by omega)]; exact v1 x (by omega))
              obtain ⟨w1, w2, w3, w4⟩ : iW (60 * (s : Int)) = 60 * (s : Int) ∧ iW (60 * (s : Int) + i) = 60 * (s : Int) + i ∧ iW (60 * (s : Int) + i + m) = 60 * (s : Int) + ((i + m : Nat) : Int) ∧ iW ((m : Int) + 1) = (m : Int) + 1 := ⟨iW_id (by omega) (by omega), iW_id (by omega) (by omega), (iW_id (by omega) (by omega)).trans (by omega), iW_id (by omega) (by omega)⟩
              rw [ev_185_8]
              simp only [↓e_iload1, e_rpn, e_rps, e_few0, e_few1, e_few2, e_few3, e_few4, ↓e_cs1, ↓e_if_eq, ↓e_iload3, ↓e_if_ne, ↓e_bipush, ↓e_iret, ↓e_aload0, ↓g_39_32, ↓e_iconst, ↓e_cv2, i_39, ↓g_39_33, ↓e_cmp_eq, ↓e_iload2, ↓e_if_lt, ↓e_iload4, ↓e_iload5, ↓e_i2l, ↓e_ladd, ↓g_39_34, ↓e_lcmp, ↓e_if_gt, ↓e_if_le, ↓e_istore6, e_klI, e_klR, e_klX, e_klL, ↓e_iload6, ↓e_cmp_ge, ↓g_39_36, ↓g_39_35, ↓e_imul, ↓e_iadd, ↓e_iinc6, ↓e_goto, ↓x_64, ↓x_65, ↓y_65, ↓x_66, ↓y_66, ↓x_67, ↓y_67, ↓x_68, ↓y_68, ↓e_nil, b_185_0, b_185_1, b_185_2, b_185_3, b_185_4, b_185_5, b_185_6, b_185_7, b_185_8, b_185_9, b_185_10, b_185_11, hno2, hin, hin2, h67, w1, w2, w3, w4, one0, eq_self, ne_eq, not_true_eq_false, not_false_eq_true, true_implies, false_implies, true_and, and_true, and_self]
              exact hnext
          have h0 := first n 0 (by omega) w (fun _ _ => rfl) (fun x hx => by omega)
          rw [ev_185_7]
          simp only [↓e_iload1, e_rpn, e_rps, e_few0, e_few1, e_few2, e_few3, e_few4, ↓e_cs1, ↓e_if_eq, ↓e_iload3, ↓e_if_ne, ↓e_bipush, ↓e_iret, ↓e_aload0, ↓g_39_32, ↓e_iconst, ↓e_cv2, i_39, ↓g_39_33, ↓e_cmp_eq, ↓e_iload2, ↓e_if_lt, ↓e_iload4, ↓e_iload5, ↓e_i2l, ↓e_ladd, ↓g_39_34, ↓e_lcmp, ↓e_if_gt, ↓e_if_le, ↓e_istore6, e_klI, e_klR, e_klX, e_klL, ↓e_iload6, ↓e_cmp_ge, ↓g_39_36, ↓g_39_35, ↓e_imul, ↓e_iadd, ↓e_iinc6, ↓e_goto, ↓x_64, ↓x_65, ↓y_65, ↓x_66, ↓y_66, ↓x_67, ↓y_67, ↓x_68, ↓y_68, ↓e_nil, b_185_0, b_185_1, b_185_2, b_185_3, b_185_4, b_185_5, b_185_6, b_185_7, b_185_8, b_185_9, b_185_10, b_185_11]
          exact h0
        · rw [if_neg g3] at h; exact h _ m_fra.met hi.met
  · rw [if_neg (by omega)] at h; exact h w (m_fra.refl w) hi
  · rw [if_neg (by omega)] at h; exact h w (m_fra.refl w) hi
theorem q_writeM (hi : m_inv w D S) {b a : Int} (h : ∀ v, m_fra w v → m_inv v D (p_write D S b a).2 → q (some (vI (p_write D S b a).1)) v) : Sm Ls (d + 8) 186 [vR 39, vI b, vI a] w q := by
  unfold p_write at h
  have hT4 := Td.T4 hi.1.ok
  have w11 : iW (-10 - 1) = -11 := by decide
  rw [en_186]
  simp only [↓e_aload0, ↓e_iload1, ↓e_cv2, i_39, e_rpn, e_rps, e_few0, e_few1, e_few2, e_few3, e_few4, ↓e_if_eq, ↓e_iload2, ↓e_cs1, ↓e_if_ne, ↓e_bipush, ↓e_iret, ↓g_39_32, ↓e_iconst, ↓e_cv1, ↓e_istore3, e_klI, e_klR, e_klX, e_klL, ↓e_iload3, ↓g_39_34, ↓e_cmp_ge, ↓g_39_23, ↓e_imul, ↓e_iadd, ↓e_cv4, ↓e_iinc3, ↓e_goto, ↓x_56, ↓x_64, ↓x_66, ↓e_nil, b_186_0, b_186_1, b_186_2, b_186_3, b_186_4, b_186_5, one0, eq_self, ne_eq, not_true_eq_false, not_false_eq_true, true_implies, false_implies, true_and, and_true, and_self]
  refine q_isTeamM hi.1 (fun y y0 => ?_)
  have hiy := hi.scr y0.1
  have yf : m_fra w y := y0.1.fra
  simp only [↓e_aload0, ↓e_iload1, ↓e_cv2, i_39, e_rpn, e_rps, e_few0, e_few1, e_few2, e_few3, e_few4, ↓e_if_eq, ↓e_iload2, ↓e_cs1, ↓e_if_ne, ↓e_bipush, ↓e_iret, ↓g_39_32, ↓e_iconst, ↓e_cv1, ↓e_istore3, e_klI, e_klR, e_klX, e_klL, ↓e_iload3, ↓g_39_34, ↓e_cmp_ge, ↓g_39_23, ↓e_imul, ↓e_iadd, ↓e_cv4, ↓e_iinc3, ↓e_goto, ↓x_56, ↓x_64, ↓x_66, ↓e_nil, b_186_0, b_186_1, b_186_2, b_186_3, b_186_4, b_186_5, ↓ev_186_1, q_isSheetM, ab_yn, one0, eq_self, ne_eq, not_true_eq_false, not_false_eq_true, true_implies, false_implies, true_and, and_true, and_self]
  refine ⟨fun g1 => ⟨fun g2 => ?_, fun g2 => ?_⟩, fun g1 => ?_⟩
  · obtain ⟨s, rfl⟩ : ∃ s : Nat, a = s := ⟨a.toNat, by omega⟩
    obtain ⟨t, rfl⟩ : ∃ t : Nat, b = t := ⟨b.toNat, by omega⟩
    have hs : s < 4 := by omega
    have his : 0 ≤ (s : Int) ∧ (s : Int) < 4 := by omega
    have htT : t < D.T := by omega
    obtain ⟨e1, e2, e3, e4⟩ := hiy.2.1.2 s hs
    have z1 := (hi.2.2 s hs).2
    rw [if_pos (by omega), Int.toNat_natCast, Int.toNat_natCast] at h
    rw [ev_186_2]
    cases hb : S.th s
    · rw [hb] at e1 h
      have e1 : y 64 s = 0 := e1
      rw [if_neg (by decide)] at h
      simp only [↓e_aload0, ↓e_iload1, ↓e_cv2, i_39, e_rpn, e_rps, e_few0, e_few1, e_few2, e_few3, e_few4, ↓e_if_eq, ↓e_iload2, ↓e_cs1, ↓e_if_ne, ↓e_bipush, ↓e_iret, ↓g_39_32, ↓e_iconst, ↓e_cv1, ↓e_istore3, e_klI, e_klR, e_klX, e_klL, ↓e_iload3, ↓g_39_34, ↓e_cmp_ge, ↓g_39_23, ↓e_imul, ↓e_iadd, ↓e_cv4, ↓e_iinc3, ↓e_goto, ↓x_56, ↓x_64, ↓x_66, ↓e_nil, b_186_0, b_186_1, b_186_2, b_186_3, b_186_4, b_186_5, his, e1, q_meets, w11, one0, eq_self, ne_eq, not_true_eq_false, not_false_eq_true, true_implies, false_implies, true_and, and_true, and_self]
      exact h _ (yf.trans m_fra.met) hiy.met
    · rw [hb] at e1 h
      have e1 : y 64 s = 1 := e1
      rw [if_pos rfl] at h
      simp only [↓e_aload0, ↓e_iload1, ↓e_cv2, i_39, e_rpn, e_rps, e_few0, e_few1, e_few2, e_few3, e_few4, ↓e_if_eq, ↓e_iload2, ↓e_cs1, ↓e_if_ne, ↓e_bipush, ↓e_iret, ↓g_39_32, ↓e_iconst, ↓e_cv1, ↓e_istore3, e_klI, e_klR, e_klX, e_klL, ↓e_iload3, ↓g_39_34, ↓e_cmp_ge, ↓g_39_23, ↓e_imul, ↓e_iadd, ↓e_cv4, ↓e_iinc3, ↓e_goto, ↓x_56, ↓x_64, ↓x_66, ↓e_nil, b_186_0, b_186_1, b_186_2, b_186_3, b_186_4, b_186_5, ↓ev_186_3, his, e1, one0, eq_self, ne_eq, not_true_eq_false, not_false_eq_true, true_implies, false_implies, true_and, and_true, and_self]
      refine q_runsTold hiy.1 (fun u0 u x0 x1 => ?_)
      have hiu := hiy.scr x0.1
      have uf : m_fra w u := yf.trans x0.1.fra
      obtain ⟨e1, e2, e3, e4⟩ := hiu.2.1.2 s hs
      have hwn : wn S s ≤ 48 ∧ wn S s ≤ S.sz s ∧ (wn S s = 48 ∨ wn S s = S.sz s) := by unfold wn; split <;> omega
      have key : ∀ (k m : Nat), m + k = wn S s → ∀ v : ab_W, (∀ p, p ≠ 67 → p ≠ 68 → v p = u p) → (∀ i : Nat, i < 60 → v 67 (60 * (s : Int) + i) = wri (S.fo s) ((D.cf 255).F t) (S.it s) m i) → (∀ x : Nat, x < 4 → x ≠ s → ∀ i : Nat, i < 60 → v 67 (60 * (x : Int) + i) = u 67 (60 * (x : Int) + i)) → Ev Ls (Sm Ls (d + 7)) q bk_186 4 [vR 39, vI t, vI s, vI m] [] v := by
        intro k
        induction k with
        | zero =>
          intro m hm v v0 v1 v2
          have : m = wn S s := by omega
          subst this
          have h66 : v 66 s = S.sz s := by rw [v0 66 (by decide) (by decide)]; exact e3
          have hfin := h v (uf.trans (m_fra.sht (fun p hp => v0 p (by omega) (by omega)))) (hiu.itm hs v0 v1 v2)
          rw [ev_186_4]
          simp only [↓e_aload0, ↓e_iload1, ↓e_cv2, i_39, e_rpn, e_rps, e_few0, e_few1, e_few2, e_few3, e_few4, ↓e_if_eq, ↓e_iload2, ↓e_cs1, ↓e_if_ne, ↓e_bipush, ↓e_iret, ↓g_39_32, ↓e_iconst, ↓e_cv1, ↓e_istore3, e_klI, e_klR, e_klX, e_klL, ↓e_iload3, ↓g_39_34, ↓e_cmp_ge, ↓g_39_23, ↓e_imul, ↓e_iadd, ↓e_cv4, ↓e_iinc3, ↓e_goto, ↓x_56, ↓x_64, ↓x_66, ↓e_nil, b_186_0, b_186_1, b_186_2, b_186_3, b_186_4, b_186_5, ↓ev_186_5, his, h66, one0, eq_self, ne_eq, not_true_eq_false, not_false_eq_true, true_implies, false_implies, true_and, and_true, and_self]
          exact ⟨fun _ => hfin, fun g => ⟨fun _ => hfin, fun z => absurd (by omega) z⟩⟩
        | succ k ih =>
          intro m hm v v0 v1 v2
          have h66 : v 66 s = S.sz s := by rw [v0 66 (by decide) (by decide)]; exact e3
          have h65 : v 65 s = S.fo s := by rw [v0 65 (by decide) (by decide)]; exact e2
          have hn1 : ¬ (S.sz s : Int) ≤ (m : Int) := by omega
          have hn2 : ¬ 48 ≤ (m : Int) := by omega
          have h56 : v 56 (4 * (m : Int) + t) = (D.cf 255).F t m := by rw [v0 56 (by decide) (by decide)]; exact x1.F htT (by omega)
          have hin : 0 ≤ 4 * (m : Int) + t ∧ 4 * (m : Int) + t < 192 := by omega
          have hnext := ih (m + 1) (by omega) (ab_up v 67 (60 * (s : Int) + m) (kv (S.fo s) ((D.cf 255).F t m))) (fun p h1 h2 => by rw [ab_up_ne h1]; exact v0 p h1 h2) (fun i hi => by
            by_cases him : i = m
            · subst him
              unfold wri
              rw [ab_up_at, if_pos (by omega)]
            · rw [ab_up_nj (by omega), v1 i hi]
              unfold wri
              by_cases him2 : i < m
              · rw [if_pos him2, if_pos (by omega)]
              · rw [if_neg him2, if_neg (by omega)]) (fun x hx hxs i hi => by rw [ab_up_nj (by omega)]; exact v2 x hx hxs i hi)
          obtain ⟨w1, w2, w3⟩ : iW ((m : Int) + 1) = (m : Int) + 1 ∧ iW (4 * (m : Int)) = 4 * (m : Int) ∧ iW (4 * (m : Int) + t) = 4 * (m : Int) + t := ⟨iW_id (by omega) (by omega), iW_id (by omega) (by omega), iW_id (by omega) (by omega)⟩
          rw [ev_186_4]
          simp only [↓e_aload0, ↓e_iload1, ↓e_cv2, i_39, e_rpn, e_rps, e_few0, e_few1, e_few2, e_few3, e_few4, ↓e_if_eq, ↓e_iload2, ↓e_cs1, ↓e_if_ne, ↓e_bipush, ↓e_iret, ↓g_39_32, ↓e_iconst, ↓e_cv1, ↓e_istore3, e_klI, e_klR, e_klX, e_klL, ↓e_iload3, ↓g_39_34, ↓e_cmp_ge, ↓g_39_23, ↓e_imul, ↓e_iadd, ↓e_cv4, ↓e_iinc3, ↓e_goto, ↓x_56, ↓x_64, ↓x_66, ↓e_nil, b_186_0, b_186_1, b_186_2, b_186_3, b_186_4, b_186_5, his, h66, hn1, hn2, hin, h56, w2, w3, one0, eq_self, ne_eq, not_true_eq_false, not_false_eq_true, true_implies, false_implies, true_and, and_true, and_self]
          refine q_keep hs (by clear w1 w2 w3; omega) ?_
          simp only [↓e_aload0, ↓e_iload1, ↓e_cv2, i_39, e_rpn, e_rps, e_few0, e_few1, e_few2, e_few3, e_few4, ↓e_if_eq, ↓e_iload2, ↓e_cs1, ↓e_if_ne, ↓e_bipush, ↓e_iret, ↓g_39_32, ↓e_iconst, ↓e_cv1, ↓e_istore3, e_klI, e_klR, e_klX, e_klL, ↓e_iload3, ↓g_39_34, ↓e_cmp_ge, ↓g_39_23, ↓e_imul, ↓e_iadd, ↓e_cv4, ↓e_iinc3, ↓e_goto, ↓x_56, ↓x_64, ↓x_66, ↓e_nil, b_186_0, b_186_1, b_186_2, b_186_3, b_186_4, b_186_5, h65, w1]
          exact hnext
      have h0 := key (wn S s) 0 (by omega) u (fun _ _ _ => rfl) (fun i hi => by unfold wri; rw [if_neg (by omega)]; exact e4 i hi) (fun _ _ _ _ _ => rfl)
      simp only [↓e_aload0, ↓e_iload1, ↓e_cv2, i_39, e_rpn, e_rps, e_few0, e_few1, e_few2, e_few3, e_few4, ↓e_if_eq, ↓e_iload2, ↓e_cs1, ↓e_if_ne, ↓e_bipush, ↓e_iret, ↓g_39_32, ↓e_iconst, ↓e_cv1, ↓e_istore3, e_klI, e_klR, e_klX, e_klL, ↓e_iload3, ↓g_39_34, ↓e_cmp_ge, ↓g_39_23, ↓e_imul, ↓e_iadd, ↓e_cv4, ↓e_iinc3, ↓e_goto, ↓x_56, ↓x_64, ↓x_66, ↓e_nil, b_186_0, b_186_1, b_186_2, b_186_3, b_186_4, b_186_5]
      exact h0
  · rw [if_neg (by omega)] at h; exact h y yf hiy
  · rw [if_neg (by omega)] at h; exact h y yf hiy
end MCopy63
