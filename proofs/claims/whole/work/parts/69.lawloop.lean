/-! the law's loop -/
section Law69
variable {Ls : Nat} {q : Option ab_V → ab_W → Prop} {f : Int → Int}
theorem lsw_out {x : Int} (h : x < 0 ∨ 34 < x) : ab_sw 0 [2, 3, 4, 5, 6, 7, 8, 9, 10, 11, 12, 13, 14, 15, 16, 17, 18, 19, 20, 21, 22, 23, 24, 25, 26, 27, 28, 29, 30, 31, 32, 33, 34, 35, 36] 37 x = 37 := by
  unfold ab_sw
  by_cases h0 : 0 ≤ x
  · rw [if_pos h0, List.getElem?_eq_none (by simp; omega)]; rfl
  · rw [if_neg h0]
theorem lw_sw {x : Int} {i : Nat} {w : ab_W} {D : Td} {S : Sh} (h6 : i + 6 ≤ Ls) (hL : Ls ≤ 3072) (hr : ∀ j, f j < 2147483648) (hf : ∀ j, w 101 j = f j) (ci : c_inv w D S) (mi : m_inv w D S) (hn : lw_next Ls i f q) : Ev Ls (Sm Ls 13) q bk_L (ab_sw 0 [2, 3, 4, 5, 6, 7, 8, 9, 10, 11, 12, 13, 14, 15, 16, 17, 18, 19, 20, 21, 22, 23, 24, 25, 26, 27, 28, 29, 30, 31, 32, 33, 34, 35, 36] 37 x) [vR 101, vR 0, vR 39, vI i] [] w := by
  rcases (show x = 0 ∨ x = 1 ∨ x = 2 ∨ x = 3 ∨ x = 4 ∨ x = 5 ∨ x = 6 ∨ x = 7 ∨ x = 8 ∨ x = 9 ∨ x = 10 ∨ x = 11 ∨ x = 12 ∨ x = 13 ∨ x = 14 ∨ x = 15 ∨ x = 16 ∨ x = 17 ∨ x = 18 ∨ x = 19 ∨ x = 20 ∨ x = 21 ∨ x = 22 ∨ x = 23 ∨ x = 24 ∨ x = 25 ∨ x = 26 ∨ x = 27 ∨ x = 28 ∨ x = 29 ∨ x = 30 ∨ x = 31 ∨ x = 32 ∨ x = 33 ∨ x = 34 ∨ (x < 0 ∨ 34 < x) by omega) with rfl | rfl | rfl | rfl | rfl | rfl | rfl | rfl | rfl | rfl | rfl | rfl | rfl | rfl | rfl | rfl | rfl | rfl | rfl | rfl | rfl | rfl | rfl | rfl | rfl | rfl | rfl | rfl | rfl | rfl | rfl | rfl | rfl | rfl | rfl | hx
  · exact lw_b2 h6 hL hr hf ci mi hn
  · exact lw_b3 h6 hL hr hf ci mi hn
  · exact lw_b4 h6 hL hr hf ci mi hn
  · exact lw_b5 h6 hL hr hf ci mi hn
  · exact lw_b6 h6 hL hr hf ci mi hn
  · exact lw_b7 h6 hL hr hf ci mi hn
  · exact lw_b8 h6 hL hr hf ci mi hn
  · exact lw_b9 h6 hL hr hf ci mi hn
  · exact lw_b10 h6 hL hr hf ci mi hn
  · exact lw_b11 h6 hL hr hf ci mi hn
  · exact lw_b12 h6 hL hr hf ci mi hn
  · exact lw_b13 h6 hL hr hf ci mi hn
  · exact lw_b14 h6 hL hr hf ci mi hn
  · exact lw_b15 h6 hL hr hf ci mi hn
  · exact lw_b16 h6 hL hr hf ci mi hn
  · exact lw_b17 h6 hL hr hf ci mi hn
  · exact lw_b18 h6 hL hr hf ci mi hn
  · exact lw_b19 h6 hL hr hf ci mi hn
  · exact lw_b20 h6 hL hr hf ci mi hn
  · exact lw_b21 h6 hL hr hf ci mi hn
  · exact lw_b22 h6 hL hr hf ci mi hn
  · exact lw_b23 h6 hL hr hf ci mi hn
  · exact lw_b24 h6 hL hr hf ci mi hn
  · exact lw_b25 h6 hL hr hf ci mi hn
  · exact lw_b26 h6 hL hr hf ci mi hn
  · exact lw_b27 h6 hL hr hf ci mi hn
  · exact lw_b28 h6 hL hr hf ci mi hn
  · exact lw_b29 h6 hL hr hf ci mi hn
  · exact lw_b30 h6 hL hr hf ci mi hn
  · exact lw_b31 h6 hL hr hf ci mi hn
  · exact lw_b32 h6 hL hr hf ci mi hn
  · exact lw_b33 h6 hL hr hf ci mi hn
  · exact lw_b34 h6 hL hr hf ci mi hn
  · exact lw_b35 h6 hL hr hf ci mi hn
  · exact lw_b36 h6 hL hr hf ci mi hn
  · rw [lsw_out hx]; exact hn w D S hf ci mi
theorem lw_loop (hL : Ls ≤ 3072) (hr : ∀ j, f j < 2147483648) (hq : ∀ w, q (some (vI 1)) w) : ∀ (k i : Nat), Ls ≤ i + k → i ≤ 3078 → ∀ (w : ab_W) (D : Td) (S : Sh), (∀ j, w 101 j = f j) → c_inv w D S → m_inv w D S → Ev Ls (Sm Ls 13) q bk_L 1 [vR 101, vR 0, vR 39, vI i] [] w := by
  intro k
  induction k with
  | zero =>
    intro i hi hi2 w D S hf ci mi
    have hgt : (Ls : Int) - 6 < (i : Int) := by omega
    have w1 : iW ((Ls : Int) - 6) = (Ls : Int) - 6 := iW_id (by omega) (by omega)
    rw [ev_L_1]
    simp only [↓e_iload3, ↓e_aload0, ↓e_aload1, ↓e_aload2, ↓n_101, ↓x_101, ↓e_bipush, ↓e_isub, ↓e_iadd, ↓e_iand, ↓e_iconst, ↓e_cmp_gt, ↓e_cmp_eq, ↓e_if_eq, ↓e_lcmp, ↓e_tsw, ↓e_zret, ↓e_iinc3, e_klI, e_klR, e_klX, e_klL, ↓e_goto, ↓e_cv1, ↓e_cv2, ↓e_cv3, ↓e_cv4, ↓e_cv5, ↓e_cv6, i_0, i_39, e_rpn, e_rps, e_few0, e_few1, e_few2, e_few3, e_few4, ↓e_nil, b_L_1, w1, hgt, one0, eq_self, ne_eq, not_true_eq_false, not_false_eq_true, true_implies, false_implies, true_and, and_true, and_self]
    rw [ev_L_38]
    simp only [↓e_iload3, ↓e_aload0, ↓e_aload1, ↓e_aload2, ↓n_101, ↓x_101, ↓e_bipush, ↓e_isub, ↓e_iadd, ↓e_iand, ↓e_iconst, ↓e_cmp_gt, ↓e_cmp_eq, ↓e_if_eq, ↓e_lcmp, ↓e_tsw, ↓e_zret, ↓e_iinc3, e_klI, e_klR, e_klX, e_klL, ↓e_goto, ↓e_cv1, ↓e_cv2, ↓e_cv3, ↓e_cv4, ↓e_cv5, ↓e_cv6, i_0, i_39, e_rpn, e_rps, e_few0, e_few1, e_few2, e_few3, e_few4, ↓e_nil, b_L_38, one0, eq_self, ne_eq, not_true_eq_false, not_false_eq_true, true_implies, false_implies, true_and, and_true, and_self]
    exact ⟨Or.inr trivial, hq w⟩
  | succ k ih =>
    intro i hi hi2 w D S hf ci mi
    by_cases hgt : (Ls : Int) - 6 < (i : Int)
    · have w1 : iW ((Ls : Int) - 6) = (Ls : Int) - 6 := iW_id (by omega) (by omega)
      rw [ev_L_1]
      simp only [↓e_iload3, ↓e_aload0, ↓e_aload1, ↓e_aload2, ↓n_101, ↓x_101, ↓e_bipush, ↓e_isub, ↓e_iadd, ↓e_iand, ↓e_iconst, ↓e_cmp_gt, ↓e_cmp_eq, ↓e_if_eq, ↓e_lcmp, ↓e_tsw, ↓e_zret, ↓e_iinc3, e_klI, e_klR, e_klX, e_klL, ↓e_goto, ↓e_cv1, ↓e_cv2, ↓e_cv3, ↓e_cv4, ↓e_cv5, ↓e_cv6, i_0, i_39, e_rpn, e_rps, e_few0, e_few1, e_few2, e_few3, e_few4, ↓e_nil, b_L_1, w1, hgt, one0, eq_self, ne_eq, not_true_eq_false, not_false_eq_true, true_implies, false_implies, true_and, and_true, and_self]
      rw [ev_L_38]
      simp only [↓e_iload3, ↓e_aload0, ↓e_aload1, ↓e_aload2, ↓n_101, ↓x_101, ↓e_bipush, ↓e_isub, ↓e_iadd, ↓e_iand, ↓e_iconst, ↓e_cmp_gt, ↓e_cmp_eq, ↓e_if_eq, ↓e_lcmp, ↓e_tsw, ↓e_zret, ↓e_iinc3, e_klI, e_klR, e_klX, e_klL, ↓e_goto, ↓e_cv1, ↓e_cv2, ↓e_cv3, ↓e_cv4, ↓e_cv5, ↓e_cv6, i_0, i_39, e_rpn, e_rps, e_few0, e_few1, e_few2, e_few3, e_few4, ↓e_nil, b_L_38, one0, eq_self, ne_eq, not_true_eq_false, not_false_eq_true, true_implies, false_implies, true_and, and_true, and_self]
      exact ⟨Or.inr trivial, hq w⟩
    · have hin : 0 ≤ (i : Int) ∧ (i : Int) < (Ls : Int) := by omega
      have hn : lw_next Ls i f q := fun u D S hf ci mi => by
        have hI := ih (i + 6) (by omega) (by omega) u D S hf ci mi
        have w1 : iW ((i : Int) + 6) = (i : Int) + 6 := iW_id (by omega) (by omega)
        rw [ev_L_37]
        simp only [↓e_iload3, ↓e_aload0, ↓e_aload1, ↓e_aload2, ↓n_101, ↓x_101, ↓e_bipush, ↓e_isub, ↓e_iadd, ↓e_iand, ↓e_iconst, ↓e_cmp_gt, ↓e_cmp_eq, ↓e_if_eq, ↓e_lcmp, ↓e_tsw, ↓e_zret, ↓e_iinc3, e_klI, e_klR, e_klX, e_klL, ↓e_goto, ↓e_cv1, ↓e_cv2, ↓e_cv3, ↓e_cv4, ↓e_cv5, ↓e_cv6, i_0, i_39, e_rpn, e_rps, e_few0, e_few1, e_few2, e_few3, e_few4, ↓e_nil, b_L_37, w1, one0, eq_self, ne_eq, not_true_eq_false, not_false_eq_true, true_implies, false_implies, true_and, and_true, and_self]
        exact hI
      have hsw := lw_sw (x := i_and (f i) 63) (by omega) hL hr hf ci mi hn
      have w1 : iW ((Ls : Int) - 6) = (Ls : Int) - 6 := iW_id (by omega) (by omega)
      rw [ev_L_1]
      simp only [↓e_iload3, ↓e_aload0, ↓e_aload1, ↓e_aload2, ↓n_101, ↓x_101, ↓e_bipush, ↓e_isub, ↓e_iadd, ↓e_iand, ↓e_iconst, ↓e_cmp_gt, ↓e_cmp_eq, ↓e_if_eq, ↓e_lcmp, ↓e_tsw, ↓e_zret, ↓e_iinc3, e_klI, e_klR, e_klX, e_klL, ↓e_goto, ↓e_cv1, ↓e_cv2, ↓e_cv3, ↓e_cv4, ↓e_cv5, ↓e_cv6, i_0, i_39, e_rpn, e_rps, e_few0, e_few1, e_few2, e_few3, e_few4, ↓e_nil, b_L_1, w1, hgt, hin, hf, one0, eq_self, ne_eq, not_true_eq_false, not_false_eq_true, true_implies, false_implies, true_and, and_true, and_self]
      exact hsw
end Law69
