/-! the law's cases: both sides answer alike and keep what has been told (printed by wip/whole/emit4.py) -/
section Law68
variable {Ls i : Nat} {w : ab_W} {q : Option ab_V → ab_W → Prop} {D : Td} {S : Sh} {f : Int → Int}
def lw_next (Ls i : Nat) (f : Int → Int) (q : Option ab_V → ab_W → Prop) : Prop := ∀ (u : ab_W) (D : Td) (S : Sh), (∀ j, u 101 j = f j) → c_inv u D S → m_inv u D S → Ev Ls (Sm Ls 13) q bk_L 37 [vR 101, vR 0, vR 39, vI i] [] u
set_option maxHeartbeats 1000000 in
theorem lw_b2 (h6 : i + 6 ≤ Ls) (hL : Ls ≤ 3072) (hr : ∀ j, f j < 2147483648) (hf : ∀ j, w 101 j = f j) (ci : c_inv w D S) (mi : m_inv w D S) (hn : lw_next Ls i f q) : Ev Ls (Sm Ls 13) q bk_L 2 [vR 101, vR 0, vR 39, vI i] [] w := by
  have n1 : 0 ≤ (i : Int) + 1 ∧ (i : Int) + 1 < (Ls : Int) := by omega
  obtain ⟨w1, _⟩ : iW ((i : Int) + 1) = (i : Int) + 1 ∧ True := ⟨iW_id (by omega) (by omega), trivial⟩
  rw [ev_L_2]
  simp only [↓e_iload3, ↓e_aload0, ↓e_aload1, ↓e_aload2, ↓n_101, ↓x_101, ↓e_bipush, ↓e_isub, ↓e_iadd, ↓e_iand, ↓e_iconst, ↓e_cmp_gt, ↓e_cmp_eq, ↓e_if_eq, ↓e_lcmp, ↓e_tsw, ↓e_zret, ↓e_iinc3, e_klI, e_klR, e_klX, e_klL, ↓e_goto, ↓e_cv1, ↓e_cv2, ↓e_cv3, ↓e_cv4, ↓e_cv5, ↓e_cv6, i_0, i_39, e_rpn, e_rps, e_few0, e_few1, e_few2, e_few3, e_few4, ↓e_nil, b_L_2, n1, w1, hf, one0, eq_self, ne_eq, not_true_eq_false, not_false_eq_true, true_implies, false_implies, true_and, and_true, and_self]
  refine q_typeC ci (fun v v0 v1 => ?_)
  have mv := mi.oth v0
  have fv : ∀ j, v 101 j = f j := fun j => by rw [v0 101 (by decide)]; exact hf j
  simp only [↓e_iload3, ↓e_aload0, ↓e_aload1, ↓e_aload2, ↓n_101, ↓x_101, ↓e_bipush, ↓e_isub, ↓e_iadd, ↓e_iand, ↓e_iconst, ↓e_cmp_gt, ↓e_cmp_eq, ↓e_if_eq, ↓e_lcmp, ↓e_tsw, ↓e_zret, ↓e_iinc3, e_klI, e_klR, e_klX, e_klL, ↓e_goto, ↓e_cv1, ↓e_cv2, ↓e_cv3, ↓e_cv4, ↓e_cv5, ↓e_cv6, i_0, i_39, e_rpn, e_rps, e_few0, e_few1, e_few2, e_few3, e_few4, ↓e_nil, n1, w1, fv, one0, eq_self, ne_eq, not_true_eq_false, not_false_eq_true, true_implies, false_implies, true_and, and_true, and_self]
  refine q_typeM mv (fun u u0 u1 => ?_)
  simp only [↓e_iload3, ↓e_aload0, ↓e_aload1, ↓e_aload2, ↓n_101, ↓x_101, ↓e_bipush, ↓e_isub, ↓e_iadd, ↓e_iand, ↓e_iconst, ↓e_cmp_gt, ↓e_cmp_eq, ↓e_if_eq, ↓e_lcmp, ↓e_tsw, ↓e_zret, ↓e_iinc3, e_klI, e_klR, e_klX, e_klL, ↓e_goto, ↓e_cv1, ↓e_cv2, ↓e_cv3, ↓e_cv4, ↓e_cv5, ↓e_cv6, i_0, i_39, e_rpn, e_rps, e_few0, e_few1, e_few2, e_few3, e_few4, ↓e_nil, one0, eq_self, ne_eq, not_true_eq_false, not_false_eq_true, true_implies, false_implies, true_and, and_true, and_self]
  exact hn u _ _ (fun j => by rw [u0 101 (by decide)]; exact fv j) (v1.oth u0) u1
set_option maxHeartbeats 1000000 in
theorem lw_b3 (h6 : i + 6 ≤ Ls) (hL : Ls ≤ 3072) (hr : ∀ j, f j < 2147483648) (hf : ∀ j, w 101 j = f j) (ci : c_inv w D S) (mi : m_inv w D S) (hn : lw_next Ls i f q) : Ev Ls (Sm Ls 13) q bk_L 3 [vR 101, vR 0, vR 39, vI i] [] w := by
  rw [ev_L_3]
  simp only [↓e_iload3, ↓e_aload0, ↓e_aload1, ↓e_aload2, ↓n_101, ↓x_101, ↓e_bipush, ↓e_isub, ↓e_iadd, ↓e_iand, ↓e_iconst, ↓e_cmp_gt, ↓e_cmp_eq, ↓e_if_eq, ↓e_lcmp, ↓e_tsw, ↓e_zret, ↓e_iinc3, e_klI, e_klR, e_klX, e_klL, ↓e_goto, ↓e_cv1, ↓e_cv2, ↓e_cv3, ↓e_cv4, ↓e_cv5, ↓e_cv6, i_0, i_39, e_rpn, e_rps, e_few0, e_few1, e_few2, e_few3, e_few4, ↓e_nil, b_L_3, hf, one0, eq_self, ne_eq, not_true_eq_false, not_false_eq_true, true_implies, false_implies, true_and, and_true, and_self]
  refine q_wipeC ci (fun v v0 v1 => ?_)
  have mv := mi.oth v0
  have fv : ∀ j, v 101 j = f j := fun j => by rw [v0 101 (by decide)]; exact hf j
  simp only [↓e_iload3, ↓e_aload0, ↓e_aload1, ↓e_aload2, ↓n_101, ↓x_101, ↓e_bipush, ↓e_isub, ↓e_iadd, ↓e_iand, ↓e_iconst, ↓e_cmp_gt, ↓e_cmp_eq, ↓e_if_eq, ↓e_lcmp, ↓e_tsw, ↓e_zret, ↓e_iinc3, e_klI, e_klR, e_klX, e_klL, ↓e_goto, ↓e_cv1, ↓e_cv2, ↓e_cv3, ↓e_cv4, ↓e_cv5, ↓e_cv6, i_0, i_39, e_rpn, e_rps, e_few0, e_few1, e_few2, e_few3, e_few4, ↓e_nil, fv, one0, eq_self, ne_eq, not_true_eq_false, not_false_eq_true, true_implies, false_implies, true_and, and_true, and_self]
  refine q_wipeM mv (fun u u0 u1 => ?_)
  simp only [↓e_iload3, ↓e_aload0, ↓e_aload1, ↓e_aload2, ↓n_101, ↓x_101, ↓e_bipush, ↓e_isub, ↓e_iadd, ↓e_iand, ↓e_iconst, ↓e_cmp_gt, ↓e_cmp_eq, ↓e_if_eq, ↓e_lcmp, ↓e_tsw, ↓e_zret, ↓e_iinc3, e_klI, e_klR, e_klX, e_klL, ↓e_goto, ↓e_cv1, ↓e_cv2, ↓e_cv3, ↓e_cv4, ↓e_cv5, ↓e_cv6, i_0, i_39, e_rpn, e_rps, e_few0, e_few1, e_few2, e_few3, e_few4, ↓e_nil, one0, eq_self, ne_eq, not_true_eq_false, not_false_eq_true, true_implies, false_implies, true_and, and_true, and_self]
  exact hn u _ _ (fun j => by rw [u0 101 (by decide)]; exact fv j) (v1.oth u0) u1
set_option maxHeartbeats 1000000 in
theorem lw_b4 (h6 : i + 6 ≤ Ls) (hL : Ls ≤ 3072) (hr : ∀ j, f j < 2147483648) (hf : ∀ j, w 101 j = f j) (ci : c_inv w D S) (mi : m_inv w D S) (hn : lw_next Ls i f q) : Ev Ls (Sm Ls 13) q bk_L 4 [vR 101, vR 0, vR 39, vI i] [] w := by
  rw [ev_L_4]
  simp only [↓e_iload3, ↓e_aload0, ↓e_aload1, ↓e_aload2, ↓n_101, ↓x_101, ↓e_bipush, ↓e_isub, ↓e_iadd, ↓e_iand, ↓e_iconst, ↓e_cmp_gt, ↓e_cmp_eq, ↓e_if_eq, ↓e_lcmp, ↓e_tsw, ↓e_zret, ↓e_iinc3, e_klI, e_klR, e_klX, e_klL, ↓e_goto, ↓e_cv1, ↓e_cv2, ↓e_cv3, ↓e_cv4, ↓e_cv5, ↓e_cv6, i_0, i_39, e_rpn, e_rps, e_few0, e_few1, e_few2, e_few3, e_few4, ↓e_nil, b_L_4, hf, one0, eq_self, ne_eq, not_true_eq_false, not_false_eq_true, true_implies, false_implies, true_and, and_true, and_self]
  refine q_undoC ci (fun v v0 v1 => ?_)
  have mv := mi.oth v0
  have fv : ∀ j, v 101 j = f j := fun j => by rw [v0 101 (by decide)]; exact hf j
  simp only [↓e_iload3, ↓e_aload0, ↓e_aload1, ↓e_aload2, ↓n_101, ↓x_101, ↓e_bipush, ↓e_isub, ↓e_iadd, ↓e_iand, ↓e_iconst, ↓e_cmp_gt, ↓e_cmp_eq, ↓e_if_eq, ↓e_lcmp, ↓e_tsw, ↓e_zret, ↓e_iinc3, e_klI, e_klR, e_klX, e_klL, ↓e_goto, ↓e_cv1, ↓e_cv2, ↓e_cv3, ↓e_cv4, ↓e_cv5, ↓e_cv6, i_0, i_39, e_rpn, e_rps, e_few0, e_few1, e_few2, e_few3, e_few4, ↓e_nil, fv, one0, eq_self, ne_eq, not_true_eq_false, not_false_eq_true, true_implies, false_implies, true_and, and_true, and_self]
  refine q_undoM mv (fun u u0 u1 => ?_)
  simp only [↓e_iload3, ↓e_aload0, ↓e_aload1, ↓e_aload2, ↓n_101, ↓x_101, ↓e_bipush, ↓e_isub, ↓e_iadd, ↓e_iand, ↓e_iconst, ↓e_cmp_gt, ↓e_cmp_eq, ↓e_if_eq, ↓e_lcmp, ↓e_tsw, ↓e_zret, ↓e_iinc3, e_klI, e_klR, e_klX, e_klL, ↓e_goto, ↓e_cv1, ↓e_cv2, ↓e_cv3, ↓e_cv4, ↓e_cv5, ↓e_cv6, i_0, i_39, e_rpn, e_rps, e_few0, e_few1, e_few2, e_few3, e_few4, ↓e_nil, one0, eq_self, ne_eq, not_true_eq_false, not_false_eq_true, true_implies, false_implies, true_and, and_true, and_self]
  exact hn u _ _ (fun j => by rw [u0 101 (by decide)]; exact fv j) (v1.oth u0) u1
set_option maxHeartbeats 1000000 in
theorem lw_b5 (h6 : i + 6 ≤ Ls) (hL : Ls ≤ 3072) (hr : ∀ j, f j < 2147483648) (hf : ∀ j, w 101 j = f j) (ci : c_inv w D S) (mi : m_inv w D S) (hn : lw_next Ls i f q) : Ev Ls (Sm Ls 13) q bk_L 5 [vR 101, vR 0, vR 39, vI i] [] w := by
  rw [ev_L_5]
  simp only [↓e_iload3, ↓e_aload0, ↓e_aload1, ↓e_aload2, ↓n_101, ↓x_101, ↓e_bipush, ↓e_isub, ↓e_iadd, ↓e_iand, ↓e_iconst, ↓e_cmp_gt, ↓e_cmp_eq, ↓e_if_eq, ↓e_lcmp, ↓e_tsw, ↓e_zret, ↓e_iinc3, e_klI, e_klR, e_klX, e_klL, ↓e_goto, ↓e_cv1, ↓e_cv2, ↓e_cv3, ↓e_cv4, ↓e_cv5, ↓e_cv6, i_0, i_39, e_rpn, e_rps, e_few0, e_few1, e_few2, e_few3, e_few4, ↓e_nil, b_L_5, hf, one0, eq_self, ne_eq, not_true_eq_false, not_false_eq_true, true_implies, false_implies, true_and, and_true, and_self]
  refine q_faultC ci.1 ?_
  have v1 := ci
  have mv := mi
  have fv := hf
  simp only [↓e_iload3, ↓e_aload0, ↓e_aload1, ↓e_aload2, ↓n_101, ↓x_101, ↓e_bipush, ↓e_isub, ↓e_iadd, ↓e_iand, ↓e_iconst, ↓e_cmp_gt, ↓e_cmp_eq, ↓e_if_eq, ↓e_lcmp, ↓e_tsw, ↓e_zret, ↓e_iinc3, e_klI, e_klR, e_klX, e_klL, ↓e_goto, ↓e_cv1, ↓e_cv2, ↓e_cv3, ↓e_cv4, ↓e_cv5, ↓e_cv6, i_0, i_39, e_rpn, e_rps, e_few0, e_few1, e_few2, e_few3, e_few4, ↓e_nil, fv, one0, eq_self, ne_eq, not_true_eq_false, not_false_eq_true, true_implies, false_implies, true_and, and_true, and_self]
  refine q_fault mv.1 (fun u u0 => ?_)
  have u0 := u0.1
  have u1 := mv.scr u0
  have u0 := u0.fra
  simp only [↓e_iload3, ↓e_aload0, ↓e_aload1, ↓e_aload2, ↓n_101, ↓x_101, ↓e_bipush, ↓e_isub, ↓e_iadd, ↓e_iand, ↓e_iconst, ↓e_cmp_gt, ↓e_cmp_eq, ↓e_if_eq, ↓e_lcmp, ↓e_tsw, ↓e_zret, ↓e_iinc3, e_klI, e_klR, e_klX, e_klL, ↓e_goto, ↓e_cv1, ↓e_cv2, ↓e_cv3, ↓e_cv4, ↓e_cv5, ↓e_cv6, i_0, i_39, e_rpn, e_rps, e_few0, e_few1, e_few2, e_few3, e_few4, ↓e_nil, one0, eq_self, ne_eq, not_true_eq_false, not_false_eq_true, true_implies, false_implies, true_and, and_true, and_self]
  exact hn u _ _ (fun j => by rw [u0 101 (by decide)]; exact fv j) (v1.oth u0) u1
set_option maxHeartbeats 1000000 in
theorem lw_b6 (h6 : i + 6 ≤ Ls) (hL : Ls ≤ 3072) (hr : ∀ j, f j < 2147483648) (hf : ∀ j, w 101 j = f j) (ci : c_inv w D S) (mi : m_inv w D S) (hn : lw_next Ls i f q) : Ev Ls (Sm Ls 13) q bk_L 6 [vR 101, vR 0, vR 39, vI i] [] w := by
  have n1 : 0 ≤ (i : Int) + 1 ∧ (i : Int) + 1 < (Ls : Int) := by omega
  have n2 : 0 ≤ (i : Int) + 2 ∧ (i : Int) + 2 < (Ls : Int) := by omega
  have n3 : 0 ≤ (i : Int) + 3 ∧ (i : Int) + 3 < (Ls : Int) := by omega
  obtain ⟨w1, w2, w3, _⟩ : iW ((i : Int) + 1) = (i : Int) + 1 ∧ iW ((i : Int) + 2) = (i : Int) + 2 ∧ iW ((i : Int) + 3) = (i : Int) + 3 ∧ True := ⟨iW_id (by omega) (by omega), iW_id (by omega) (by omega), iW_id (by omega) (by omega), trivial⟩
  rw [ev_L_6]
  simp only [↓e_iload3, ↓e_aload0, ↓e_aload1, ↓e_aload2, ↓n_101, ↓x_101, ↓e_bipush, ↓e_isub, ↓e_iadd, ↓e_iand, ↓e_iconst, ↓e_cmp_gt, ↓e_cmp_eq, ↓e_if_eq, ↓e_lcmp, ↓e_tsw, ↓e_zret, ↓e_iinc3, e_klI, e_klR, e_klX, e_klL, ↓e_goto, ↓e_cv1, ↓e_cv2, ↓e_cv3, ↓e_cv4, ↓e_cv5, ↓e_cv6, i_0, i_39, e_rpn, e_rps, e_few0, e_few1, e_few2, e_few3, e_few4, ↓e_nil, b_L_6, n1, w1, n2, w2, n3, w3, hf, one0, eq_self, ne_eq, not_true_eq_false, not_false_eq_true, true_implies, false_implies, true_and, and_true, and_self]
  refine q_runnerC ci.1 ?_
  have v1 := ci
  have mv := mi
  have fv := hf
  simp only [↓e_iload3, ↓e_aload0, ↓e_aload1, ↓e_aload2, ↓n_101, ↓x_101, ↓e_bipush, ↓e_isub, ↓e_iadd, ↓e_iand, ↓e_iconst, ↓e_cmp_gt, ↓e_cmp_eq, ↓e_if_eq, ↓e_lcmp, ↓e_tsw, ↓e_zret, ↓e_iinc3, e_klI, e_klR, e_klX, e_klL, ↓e_goto, ↓e_cv1, ↓e_cv2, ↓e_cv3, ↓e_cv4, ↓e_cv5, ↓e_cv6, i_0, i_39, e_rpn, e_rps, e_few0, e_few1, e_few2, e_few3, e_few4, ↓e_nil, n1, w1, n2, w2, n3, w3, fv, one0, eq_self, ne_eq, not_true_eq_false, not_false_eq_true, true_implies, false_implies, true_and, and_true, and_self]
  refine q_runnerM mv.1 (fun u u0 => ?_)
  have u1 := mv.scr u0
  have u0 := u0.fra
  simp only [↓e_iload3, ↓e_aload0, ↓e_aload1, ↓e_aload2, ↓n_101, ↓x_101, ↓e_bipush, ↓e_isub, ↓e_iadd, ↓e_iand, ↓e_iconst, ↓e_cmp_gt, ↓e_cmp_eq, ↓e_if_eq, ↓e_lcmp, ↓e_tsw, ↓e_zret, ↓e_iinc3, e_klI, e_klR, e_klX, e_klL, ↓e_goto, ↓e_cv1, ↓e_cv2, ↓e_cv3, ↓e_cv4, ↓e_cv5, ↓e_cv6, i_0, i_39, e_rpn, e_rps, e_few0, e_few1, e_few2, e_few3, e_few4, ↓e_nil, one0, eq_self, ne_eq, not_true_eq_false, not_false_eq_true, true_implies, false_implies, true_and, and_true, and_self]
  exact hn u _ _ (fun j => by rw [u0 101 (by decide)]; exact fv j) (v1.oth u0) u1
set_option maxHeartbeats 1000000 in
theorem lw_b7 (h6 : i + 6 ≤ Ls) (hL : Ls ≤ 3072) (hr : ∀ j, f j < 2147483648) (hf : ∀ j, w 101 j = f j) (ci : c_inv w D S) (mi : m_inv w D S) (hn : lw_next Ls i f q) : Ev Ls (Sm Ls 13) q bk_L 7 [vR 101, vR 0, vR 39, vI i] [] w := by
  have n1 : 0 ≤ (i : Int) + 1 ∧ (i : Int) + 1 < (Ls : Int) := by omega
  obtain ⟨w1, _⟩ : iW ((i : Int) + 1) = (i : Int) + 1 ∧ True := ⟨iW_id (by omega) (by omega), trivial⟩
  rw [ev_L_7]
  simp only [↓e_iload3, ↓e_aload0, ↓e_aload1, ↓e_aload2, ↓n_101, ↓x_101, ↓e_bipush, ↓e_isub, ↓e_iadd, ↓e_iand, ↓e_iconst, ↓e_cmp_gt, ↓e_cmp_eq, ↓e_if_eq, ↓e_lcmp, ↓e_tsw, ↓e_zret, ↓e_iinc3, e_klI, e_klR, e_klX, e_klL, ↓e_goto, ↓e_cv1, ↓e_cv2, ↓e_cv3, ↓e_cv4, ↓e_cv5, ↓e_cv6, i_0, i_39, e_rpn, e_rps, e_few0, e_few1, e_few2, e_few3, e_few4, ↓e_nil, b_L_7, n1, w1, hf, one0, eq_self, ne_eq, not_true_eq_false, not_false_eq_true, true_implies, false_implies, true_and, and_true, and_self]
  refine q_alongC ci (fun v v0 v1 => ?_)
  have mv := mi.oth v0
  have fv : ∀ j, v 101 j = f j := fun j => by rw [v0 101 (by decide)]; exact hf j
  simp only [↓e_iload3, ↓e_aload0, ↓e_aload1, ↓e_aload2, ↓n_101, ↓x_101, ↓e_bipush, ↓e_isub, ↓e_iadd, ↓e_iand, ↓e_iconst, ↓e_cmp_gt, ↓e_cmp_eq, ↓e_if_eq, ↓e_lcmp, ↓e_tsw, ↓e_zret, ↓e_iinc3, e_klI, e_klR, e_klX, e_klL, ↓e_goto, ↓e_cv1, ↓e_cv2, ↓e_cv3, ↓e_cv4, ↓e_cv5, ↓e_cv6, i_0, i_39, e_rpn, e_rps, e_few0, e_few1, e_few2, e_few3, e_few4, ↓e_nil, n1, w1, fv, one0, eq_self, ne_eq, not_true_eq_false, not_false_eq_true, true_implies, false_implies, true_and, and_true, and_self]
  refine q_alongM mv (fun u u0 u1 => ?_)
  simp only [↓e_iload3, ↓e_aload0, ↓e_aload1, ↓e_aload2, ↓n_101, ↓x_101, ↓e_bipush, ↓e_isub, ↓e_iadd, ↓e_iand, ↓e_iconst, ↓e_cmp_gt, ↓e_cmp_eq, ↓e_if_eq, ↓e_lcmp, ↓e_tsw, ↓e_zret, ↓e_iinc3, e_klI, e_klR, e_klX, e_klL, ↓e_goto, ↓e_cv1, ↓e_cv2, ↓e_cv3, ↓e_cv4, ↓e_cv5, ↓e_cv6, i_0, i_39, e_rpn, e_rps, e_few0, e_few1, e_few2, e_few3, e_few4, ↓e_nil, one0, eq_self, ne_eq, not_true_eq_false, not_false_eq_true, true_implies, false_implies, true_and, and_true, and_self]
  exact hn u _ _ (fun j => by rw [u0 101 (by decide)]; exact fv j) (v1.oth u0) u1
set_option maxHeartbeats 1000000 in
theorem lw_b8 (h6 : i + 6 ≤ Ls) (hL : Ls ≤ 3072) (hr : ∀ j, f j < 2147483648) (hf : ∀ j, w 101 j = f j) (ci : c_inv w D S) (mi : m_inv w D S) (hn : lw_next Ls i f q) : Ev Ls (Sm Ls 13) q bk_L 8 [vR 101, vR 0, vR 39, vI i] [] w := by
  have n1 : 0 ≤ (i : Int) + 1 ∧ (i : Int) + 1 < (Ls : Int) := by omega
  have n2 : 0 ≤ (i : Int) + 2 ∧ (i : Int) + 2 < (Ls : Int) := by omega
  have n3 : 0 ≤ (i : Int) + 3 ∧ (i : Int) + 3 < (Ls : Int) := by omega
  obtain ⟨w1, w2, w3, _⟩ : iW ((i : Int) + 1) = (i : Int) + 1 ∧ iW ((i : Int) + 2) = (i : Int) + 2 ∧ iW ((i : Int) + 3) = (i : Int) + 3 ∧ True := ⟨iW_id (by omega) (by omega), iW_id (by omega) (by omega), iW_id (by omega) (by omega), trivial⟩
  rw [ev_L_8]
  simp only [↓e_iload3, ↓e_aload0, ↓e_aload1, ↓e_aload2, ↓n_101, ↓x_101, ↓e_bipush, ↓e_isub, ↓e_iadd, ↓e_iand, ↓e_iconst, ↓e_cmp_gt, ↓e_cmp_eq, ↓e_if_eq, ↓e_lcmp, ↓e_tsw, ↓e_zret, ↓e_iinc3, e_klI, e_klR, e_klX, e_klL, ↓e_goto, ↓e_cv1, ↓e_cv2, ↓e_cv3, ↓e_cv4, ↓e_cv5, ↓e_cv6, i_0, i_39, e_rpn, e_rps, e_few0, e_few1, e_few2, e_few3, e_few4, ↓e_nil, b_L_8, n1, w1, n2, w2, n3, w3, hf, one0, eq_self, ne_eq, not_true_eq_false, not_false_eq_true, true_implies, false_implies, true_and, and_true, and_self]
  refine q_eventC ci (fun v v0 v1 => ?_)
  have mv := mi.oth v0
  have fv : ∀ j, v 101 j = f j := fun j => by rw [v0 101 (by decide)]; exact hf j
  simp only [↓e_iload3, ↓e_aload0, ↓e_aload1, ↓e_aload2, ↓n_101, ↓x_101, ↓e_bipush, ↓e_isub, ↓e_iadd, ↓e_iand, ↓e_iconst, ↓e_cmp_gt, ↓e_cmp_eq, ↓e_if_eq, ↓e_lcmp, ↓e_tsw, ↓e_zret, ↓e_iinc3, e_klI, e_klR, e_klX, e_klL, ↓e_goto, ↓e_cv1, ↓e_cv2, ↓e_cv3, ↓e_cv4, ↓e_cv5, ↓e_cv6, i_0, i_39, e_rpn, e_rps, e_few0, e_few1, e_few2, e_few3, e_few4, ↓e_nil, n1, w1, n2, w2, n3, w3, fv, one0, eq_self, ne_eq, not_true_eq_false, not_false_eq_true, true_implies, false_implies, true_and, and_true, and_self]
  refine q_eventM mv (fun u u0 u1 => ?_)
  simp only [↓e_iload3, ↓e_aload0, ↓e_aload1, ↓e_aload2, ↓n_101, ↓x_101, ↓e_bipush, ↓e_isub, ↓e_iadd, ↓e_iand, ↓e_iconst, ↓e_cmp_gt, ↓e_cmp_eq, ↓e_if_eq, ↓e_lcmp, ↓e_tsw, ↓e_zret, ↓e_iinc3, e_klI, e_klR, e_klX, e_klL, ↓e_goto, ↓e_cv1, ↓e_cv2, ↓e_cv3, ↓e_cv4, ↓e_cv5, ↓e_cv6, i_0, i_39, e_rpn, e_rps, e_few0, e_few1, e_few2, e_few3, e_few4, ↓e_nil, one0, eq_self, ne_eq, not_true_eq_false, not_false_eq_true, true_implies, false_implies, true_and, and_true, and_self]
  exact hn u _ _ (fun j => by rw [u0 101 (by decide)]; exact fv j) (v1.oth u0) u1
set_option maxHeartbeats 1000000 in
theorem lw_b9 (h6 : i + 6 ≤ Ls) (hL : Ls ≤ 3072) (hr : ∀ j, f j < 2147483648) (hf : ∀ j, w 101 j = f j) (ci : c_inv w D S) (mi : m_inv w D S) (hn : lw_next Ls i f q) : Ev Ls (Sm Ls 13) q bk_L 9 [vR 101, vR 0, vR 39, vI i] [] w := by
  rw [ev_L_9]
  simp only [↓e_iload3, ↓e_aload0, ↓e_aload1, ↓e_aload2, ↓n_101, ↓x_101, ↓e_bipush, ↓e_isub, ↓e_iadd, ↓e_iand, ↓e_iconst, ↓e_cmp_gt, ↓e_cmp_eq, ↓e_if_eq, ↓e_lcmp, ↓e_tsw, ↓e_zret, ↓e_iinc3, e_klI, e_klR, e_klX, e_klL, ↓e_goto, ↓e_cv1, ↓e_cv2, ↓e_cv3, ↓e_cv4, ↓e_cv5, ↓e_cv6, i_0, i_39, e_rpn, e_rps, e_few0, e_few1, e_few2, e_few3, e_few4, ↓e_nil, b_L_9, hf, one0, eq_self, ne_eq, not_true_eq_false, not_false_eq_true, true_implies, false_implies, true_and, and_true, and_self]
  refine q_backC ci (fun v v0 v1 => ?_)
  have mv := mi.oth v0
  have fv : ∀ j, v 101 j = f j := fun j => by rw [v0 101 (by decide)]; exact hf j
  simp only [↓e_iload3, ↓e_aload0, ↓e_aload1, ↓e_aload2, ↓n_101, ↓x_101, ↓e_bipush, ↓e_isub, ↓e_iadd, ↓e_iand, ↓e_iconst, ↓e_cmp_gt, ↓e_cmp_eq, ↓e_if_eq, ↓e_lcmp, ↓e_tsw, ↓e_zret, ↓e_iinc3, e_klI, e_klR, e_klX, e_klL, ↓e_goto, ↓e_cv1, ↓e_cv2, ↓e_cv3, ↓e_cv4, ↓e_cv5, ↓e_cv6, i_0, i_39, e_rpn, e_rps, e_few0, e_few1, e_few2, e_few3, e_few4, ↓e_nil, fv, one0, eq_self, ne_eq, not_true_eq_false, not_false_eq_true, true_implies, false_implies, true_and, and_true, and_self]
  refine q_backM mv (fun u u0 u1 => ?_)
  simp only [↓e_iload3, ↓e_aload0, ↓e_aload1, ↓e_aload2, ↓n_101, ↓x_101, ↓e_bipush, ↓e_isub, ↓e_iadd, ↓e_iand, ↓e_iconst, ↓e_cmp_gt, ↓e_cmp_eq, ↓e_if_eq, ↓e_lcmp, ↓e_tsw, ↓e_zret, ↓e_iinc3, e_klI, e_klR, e_klX, e_klL, ↓e_goto, ↓e_cv1, ↓e_cv2, ↓e_cv3, ↓e_cv4, ↓e_cv5, ↓e_cv6, i_0, i_39, e_rpn, e_rps, e_few0, e_few1, e_few2, e_few3, e_few4, ↓e_nil, one0, eq_self, ne_eq, not_true_eq_false, not_false_eq_true, true_implies, false_implies, true_and, and_true, and_self]
  exact hn u _ _ (fun j => by rw [u0 101 (by decide)]; exact fv j) (v1.oth u0) u1
set_option maxHeartbeats 1000000 in
theorem lw_b10 (h6 : i + 6 ≤ Ls) (hL : Ls ≤ 3072) (hr : ∀ j, f j < 2147483648) (hf : ∀ j, w 101 j = f j) (ci : c_inv w D S) (mi : m_inv w D S) (hn : lw_next Ls i f q) : Ev Ls (Sm Ls 13) q bk_L 10 [vR 101, vR 0, vR 39, vI i] [] w := by
  have n1 : 0 ≤ (i : Int) + 1 ∧ (i : Int) + 1 < (Ls : Int) := by omega
  obtain ⟨w1, _⟩ : iW ((i : Int) + 1) = (i : Int) + 1 ∧ True := ⟨iW_id (by omega) (by omega), trivial⟩
  rw [ev_L_10]
  simp only [↓e_iload3, ↓e_aload0, ↓e_aload1, ↓e_aload2, ↓n_101, ↓x_101, ↓e_bipush, ↓e_isub, ↓e_iadd, ↓e_iand, ↓e_iconst, ↓e_cmp_gt, ↓e_cmp_eq, ↓e_if_eq, ↓e_lcmp, ↓e_tsw, ↓e_zret, ↓e_iinc3, e_klI, e_klR, e_klX, e_klL, ↓e_goto, ↓e_cv1, ↓e_cv2, ↓e_cv3, ↓e_cv4, ↓e_cv5, ↓e_cv6, i_0, i_39, e_rpn, e_rps, e_few0, e_few1, e_few2, e_few3, e_few4, ↓e_nil, b_L_10, n1, w1, hf, one0, eq_self, ne_eq, not_true_eq_false, not_false_eq_true, true_implies, false_implies, true_and, and_true, and_self]
  refine q_readC ci (fun v v0 v1 => ?_)
  have mv := mi.oth v0
  have fv : ∀ j, v 101 j = f j := fun j => by rw [v0 101 (by decide)]; exact hf j
  simp only [↓e_iload3, ↓e_aload0, ↓e_aload1, ↓e_aload2, ↓n_101, ↓x_101, ↓e_bipush, ↓e_isub, ↓e_iadd, ↓e_iand, ↓e_iconst, ↓e_cmp_gt, ↓e_cmp_eq, ↓e_if_eq, ↓e_lcmp, ↓e_tsw, ↓e_zret, ↓e_iinc3, e_klI, e_klR, e_klX, e_klL, ↓e_goto, ↓e_cv1, ↓e_cv2, ↓e_cv3, ↓e_cv4, ↓e_cv5, ↓e_cv6, i_0, i_39, e_rpn, e_rps, e_few0, e_few1, e_few2, e_few3, e_few4, ↓e_nil, n1, w1, fv, one0, eq_self, ne_eq, not_true_eq_false, not_false_eq_true, true_implies, false_implies, true_and, and_true, and_self]
  refine q_readM mv (fun u u0 u1 => ?_)
  simp only [↓e_iload3, ↓e_aload0, ↓e_aload1, ↓e_aload2, ↓n_101, ↓x_101, ↓e_bipush, ↓e_isub, ↓e_iadd, ↓e_iand, ↓e_iconst, ↓e_cmp_gt, ↓e_cmp_eq, ↓e_if_eq, ↓e_lcmp, ↓e_tsw, ↓e_zret, ↓e_iinc3, e_klI, e_klR, e_klX, e_klL, ↓e_goto, ↓e_cv1, ↓e_cv2, ↓e_cv3, ↓e_cv4, ↓e_cv5, ↓e_cv6, i_0, i_39, e_rpn, e_rps, e_few0, e_few1, e_few2, e_few3, e_few4, ↓e_nil, one0, eq_self, ne_eq, not_true_eq_false, not_false_eq_true, true_implies, false_implies, true_and, and_true, and_self]
  exact hn u _ _ (fun j => by rw [u0 101 (by decide)]; exact fv j) (v1.oth u0) u1
set_option maxHeartbeats 1000000 in
theorem lw_b11 (h6 : i + 6 ≤ Ls) (hL : Ls ≤ 3072) (hr : ∀ j, f j < 2147483648) (hf : ∀ j, w 101 j = f j) (ci : c_inv w D S) (mi : m_inv w D S) (hn : lw_next Ls i f q) : Ev Ls (Sm Ls 13) q bk_L 11 [vR 101, vR 0, vR 39, vI i] [] w := by
  have n1 : 0 ≤ (i : Int) + 1 ∧ (i : Int) + 1 < (Ls : Int) := by omega
  have n2 : 0 ≤ (i : Int) + 2 ∧ (i : Int) + 2 < (Ls : Int) := by omega
  have n3 : 0 ≤ (i : Int) + 3 ∧ (i : Int) + 3 < (Ls : Int) := by omega
  obtain ⟨w1, w2, w3, _⟩ : iW ((i : Int) + 1) = (i : Int) + 1 ∧ iW ((i : Int) + 2) = (i : Int) + 2 ∧ iW ((i : Int) + 3) = (i : Int) + 3 ∧ True := ⟨iW_id (by omega) (by omega), iW_id (by omega) (by omega), iW_id (by omega) (by omega), trivial⟩
  rw [ev_L_11]
  simp only [↓e_iload3, ↓e_aload0, ↓e_aload1, ↓e_aload2, ↓n_101, ↓x_101, ↓e_bipush, ↓e_isub, ↓e_iadd, ↓e_iand, ↓e_iconst, ↓e_cmp_gt, ↓e_cmp_eq, ↓e_if_eq, ↓e_lcmp, ↓e_tsw, ↓e_zret, ↓e_iinc3, e_klI, e_klR, e_klX, e_klL, ↓e_goto, ↓e_cv1, ↓e_cv2, ↓e_cv3, ↓e_cv4, ↓e_cv5, ↓e_cv6, i_0, i_39, e_rpn, e_rps, e_few0, e_few1, e_few2, e_few3, e_few4, ↓e_nil, b_L_11, n1, w1, n2, w2, n3, w3, hf, one0, eq_self, ne_eq, not_true_eq_false, not_false_eq_true, true_implies, false_implies, true_and, and_true, and_self]
  refine q_atC ci.1 ?_
  have v1 := ci
  have mv := mi
  have fv := hf
  simp only [↓e_iload3, ↓e_aload0, ↓e_aload1, ↓e_aload2, ↓n_101, ↓x_101, ↓e_bipush, ↓e_isub, ↓e_iadd, ↓e_iand, ↓e_iconst, ↓e_cmp_gt, ↓e_cmp_eq, ↓e_if_eq, ↓e_lcmp, ↓e_tsw, ↓e_zret, ↓e_iinc3, e_klI, e_klR, e_klX, e_klL, ↓e_goto, ↓e_cv1, ↓e_cv2, ↓e_cv3, ↓e_cv4, ↓e_cv5, ↓e_cv6, i_0, i_39, e_rpn, e_rps, e_few0, e_few1, e_few2, e_few3, e_few4, ↓e_nil, n1, w1, n2, w2, n3, w3, fv, one0, eq_self, ne_eq, not_true_eq_false, not_false_eq_true, true_implies, false_implies, true_and, and_true, and_self]
  refine q_atM mv.1 (fun u u0 => ?_)
  have u1 := mv.scr u0
  have u0 := u0.fra
  simp only [↓e_iload3, ↓e_aload0, ↓e_aload1, ↓e_aload2, ↓n_101, ↓x_101, ↓e_bipush, ↓e_isub, ↓e_iadd, ↓e_iand, ↓e_iconst, ↓e_cmp_gt, ↓e_cmp_eq, ↓e_if_eq, ↓e_lcmp, ↓e_tsw, ↓e_zret, ↓e_iinc3, e_klI, e_klR, e_klX, e_klL, ↓e_goto, ↓e_cv1, ↓e_cv2, ↓e_cv3, ↓e_cv4, ↓e_cv5, ↓e_cv6, i_0, i_39, e_rpn, e_rps, e_few0, e_few1, e_few2, e_few3, e_few4, ↓e_nil, one0, eq_self, ne_eq, not_true_eq_false, not_false_eq_true, true_implies, false_implies, true_and, and_true, and_self]
  exact hn u _ _ (fun j => by rw [u0 101 (by decide)]; exact fv j) (v1.oth u0) u1
set_option maxHeartbeats 1000000 in
theorem lw_b12 (h6 : i + 6 ≤ Ls) (hL : Ls ≤ 3072) (hr : ∀ j, f j < 2147483648) (hf : ∀ j, w 101 j = f j) (ci : c_inv w D S) (mi : m_inv w D S) (hn : lw_next Ls i f q) : Ev Ls (Sm Ls 13) q bk_L 12 [vR 101, vR 0, vR 39, vI i] [] w := by
  have n1 : 0 ≤ (i : Int) + 1 ∧ (i : Int) + 1 < (Ls : Int) := by omega
  obtain ⟨w1, _⟩ : iW ((i : Int) + 1) = (i : Int) + 1 ∧ True := ⟨iW_id (by omega) (by omega), trivial⟩
  rw [ev_L_12]
  simp only [↓e_iload3, ↓e_aload0, ↓e_aload1, ↓e_aload2, ↓n_101, ↓x_101, ↓e_bipush, ↓e_isub, ↓e_iadd, ↓e_iand, ↓e_iconst, ↓e_cmp_gt, ↓e_cmp_eq, ↓e_if_eq, ↓e_lcmp, ↓e_tsw, ↓e_zret, ↓e_iinc3, e_klI, e_klR, e_klX, e_klL, ↓e_goto, ↓e_cv1, ↓e_cv2, ↓e_cv3, ↓e_cv4, ↓e_cv5, ↓e_cv6, i_0, i_39, e_rpn, e_rps, e_few0, e_few1, e_few2, e_few3, e_few4, ↓e_nil, b_L_12, n1, w1, hf, one0, eq_self, ne_eq, not_true_eq_false, not_false_eq_true, true_implies, false_implies, true_and, and_true, and_self]
  refine q_homeC ci.1 ?_
  have v1 := ci
  have mv := mi
  have fv := hf
  simp only [↓e_iload3, ↓e_aload0, ↓e_aload1, ↓e_aload2, ↓n_101, ↓x_101, ↓e_bipush, ↓e_isub, ↓e_iadd, ↓e_iand, ↓e_iconst, ↓e_cmp_gt, ↓e_cmp_eq, ↓e_if_eq, ↓e_lcmp, ↓e_tsw, ↓e_zret, ↓e_iinc3, e_klI, e_klR, e_klX, e_klL, ↓e_goto, ↓e_cv1, ↓e_cv2, ↓e_cv3, ↓e_cv4, ↓e_cv5, ↓e_cv6, i_0, i_39, e_rpn, e_rps, e_few0, e_few1, e_few2, e_few3, e_few4, ↓e_nil, n1, w1, fv, one0, eq_self, ne_eq, not_true_eq_false, not_false_eq_true, true_implies, false_implies, true_and, and_true, and_self]
  refine q_homeM mv.1 (fun u u0 => ?_)
  have u1 := mv.scr u0
  have u0 := u0.fra
  simp only [↓e_iload3, ↓e_aload0, ↓e_aload1, ↓e_aload2, ↓n_101, ↓x_101, ↓e_bipush, ↓e_isub, ↓e_iadd, ↓e_iand, ↓e_iconst, ↓e_cmp_gt, ↓e_cmp_eq, ↓e_if_eq, ↓e_lcmp, ↓e_tsw, ↓e_zret, ↓e_iinc3, e_klI, e_klR, e_klX, e_klL, ↓e_goto, ↓e_cv1, ↓e_cv2, ↓e_cv3, ↓e_cv4, ↓e_cv5, ↓e_cv6, i_0, i_39, e_rpn, e_rps, e_few0, e_few1, e_few2, e_few3, e_few4, ↓e_nil, one0, eq_self, ne_eq, not_true_eq_false, not_false_eq_true, true_implies, false_implies, true_and, and_true, and_self]
  exact hn u _ _ (fun j => by rw [u0 101 (by decide)]; exact fv j) (v1.oth u0) u1
set_option maxHeartbeats 1000000 in
theorem lw_b13 (h6 : i + 6 ≤ Ls) (hL : Ls ≤ 3072) (hr : ∀ j, f j < 2147483648) (hf : ∀ j, w 101 j = f j) (ci : c_inv w D S) (mi : m_inv w D S) (hn : lw_next Ls i f q) : Ev Ls (Sm Ls 13) q bk_L 13 [vR 101, vR 0, vR 39, vI i] [] w := by
  have n1 : 0 ≤ (i : Int) + 1 ∧ (i : Int) + 1 < (Ls : Int) := by omega
  have n2 : 0 ≤ (i : Int) + 2 ∧ (i : Int) + 2 < (Ls : Int) := by omega
  obtain ⟨w1, w2, _⟩ : iW ((i : Int) + 1) = (i : Int) + 1 ∧ iW ((i : Int) + 2) = (i : Int) + 2 ∧ True := ⟨iW_id (by omega) (by omega), iW_id (by omega) (by omega), trivial⟩
  rw [ev_L_13]
  simp only [↓e_iload3, ↓e_aload0, ↓e_aload1, ↓e_aload2, ↓n_101, ↓x_101, ↓e_bipush, ↓e_isub, ↓e_iadd, ↓e_iand, ↓e_iconst, ↓e_cmp_gt, ↓e_cmp_eq, ↓e_if_eq, ↓e_lcmp, ↓e_tsw, ↓e_zret, ↓e_iinc3, e_klI, e_klR, e_klX, e_klL, ↓e_goto, ↓e_cv1, ↓e_cv2, ↓e_cv3, ↓e_cv4, ↓e_cv5, ↓e_cv6, i_0, i_39, e_rpn, e_rps, e_few0, e_few1, e_few2, e_few3, e_few4, ↓e_nil, b_L_13, n1, w1, n2, w2, hf, one0, eq_self, ne_eq, not_true_eq_false, not_false_eq_true, true_implies, false_implies, true_and, and_true, and_self]
  refine q_lastedC ci.1 ?_
  have v1 := ci
  have mv := mi
  have fv := hf
  simp only [↓e_iload3, ↓e_aload0, ↓e_aload1, ↓e_aload2, ↓n_101, ↓x_101, ↓e_bipush, ↓e_isub, ↓e_iadd, ↓e_iand, ↓e_iconst, ↓e_cmp_gt, ↓e_cmp_eq, ↓e_if_eq, ↓e_lcmp, ↓e_tsw, ↓e_zret, ↓e_iinc3, e_klI, e_klR, e_klX, e_klL, ↓e_goto, ↓e_cv1, ↓e_cv2, ↓e_cv3, ↓e_cv4, ↓e_cv5, ↓e_cv6, i_0, i_39, e_rpn, e_rps, e_few0, e_few1, e_few2, e_few3, e_few4, ↓e_nil, n1, w1, n2, w2, fv, one0, eq_self, ne_eq, not_true_eq_false, not_false_eq_true, true_implies, false_implies, true_and, and_true, and_self]
  refine q_lastedM mv.1 (fun u u0 => ?_)
  have u1 := mv.scr u0
  have u0 := u0.fra
  simp only [↓e_iload3, ↓e_aload0, ↓e_aload1, ↓e_aload2, ↓n_101, ↓x_101, ↓e_bipush, ↓e_isub, ↓e_iadd, ↓e_iand, ↓e_iconst, ↓e_cmp_gt, ↓e_cmp_eq, ↓e_if_eq, ↓e_lcmp, ↓e_tsw, ↓e_zret, ↓e_iinc3, e_klI, e_klR, e_klX, e_klL, ↓e_goto, ↓e_cv1, ↓e_cv2, ↓e_cv3, ↓e_cv4, ↓e_cv5, ↓e_cv6, i_0, i_39, e_rpn, e_rps, e_few0, e_few1, e_few2, e_few3, e_few4, ↓e_nil, one0, eq_self, ne_eq, not_true_eq_false, not_false_eq_true, true_implies, false_implies, true_and, and_true, and_self]
  exact hn u _ _ (fun j => by rw [u0 101 (by decide)]; exact fv j) (v1.oth u0) u1
set_option maxHeartbeats 1000000 in
theorem lw_b14 (h6 : i + 6 ≤ Ls) (hL : Ls ≤ 3072) (hr : ∀ j, f j < 2147483648) (hf : ∀ j, w 101 j = f j) (ci : c_inv w D S) (mi : m_inv w D S) (hn : lw_next Ls i f q) : Ev Ls (Sm Ls 13) q bk_L 14 [vR 101, vR 0, vR 39, vI i] [] w := by
  have n1 : 0 ≤ (i : Int) + 1 ∧ (i : Int) + 1 < (Ls : Int) := by omega
  obtain ⟨w1, _⟩ : iW ((i : Int) + 1) = (i : Int) + 1 ∧ True := ⟨iW_id (by omega) (by omega), trivial⟩
  rw [ev_L_14]
  simp only [↓e_iload3, ↓e_aload0, ↓e_aload1, ↓e_aload2, ↓n_101, ↓x_101, ↓e_bipush, ↓e_isub, ↓e_iadd, ↓e_iand, ↓e_iconst, ↓e_cmp_gt, ↓e_cmp_eq, ↓e_if_eq, ↓e_lcmp, ↓e_tsw, ↓e_zret, ↓e_iinc3, e_klI, e_klR, e_klX, e_klL, ↓e_goto, ↓e_cv1, ↓e_cv2, ↓e_cv3, ↓e_cv4, ↓e_cv5, ↓e_cv6, i_0, i_39, e_rpn, e_rps, e_few0, e_few1, e_few2, e_few3, e_few4, ↓e_nil, b_L_14, n1, w1, hf, one0, eq_self, ne_eq, not_true_eq_false, not_false_eq_true, true_implies, false_implies, true_and, and_true, and_self]
  refine q_wonC ci.1 ?_
  have v1 := ci
  have mv := mi
  have fv := hf
  simp only [↓e_iload3, ↓e_aload0, ↓e_aload1, ↓e_aload2, ↓n_101, ↓x_101, ↓e_bipush, ↓e_isub, ↓e_iadd, ↓e_iand, ↓e_iconst, ↓e_cmp_gt, ↓e_cmp_eq, ↓e_if_eq, ↓e_lcmp, ↓e_tsw, ↓e_zret, ↓e_iinc3, e_klI, e_klR, e_klX, e_klL, ↓e_goto, ↓e_cv1, ↓e_cv2, ↓e_cv3, ↓e_cv4, ↓e_cv5, ↓e_cv6, i_0, i_39, e_rpn, e_rps, e_few0, e_few1, e_few2, e_few3, e_few4, ↓e_nil, n1, w1, fv, one0, eq_self, ne_eq, not_true_eq_false, not_false_eq_true, true_implies, false_implies, true_and, and_true, and_self]
  refine q_wonM mv.1 (fun u u0 => ?_)
  have u1 := mv.scr u0
  have u0 := u0.fra
  simp only [↓e_iload3, ↓e_aload0, ↓e_aload1, ↓e_aload2, ↓n_101, ↓x_101, ↓e_bipush, ↓e_isub, ↓e_iadd, ↓e_iand, ↓e_iconst, ↓e_cmp_gt, ↓e_cmp_eq, ↓e_if_eq, ↓e_lcmp, ↓e_tsw, ↓e_zret, ↓e_iinc3, e_klI, e_klR, e_klX, e_klL, ↓e_goto, ↓e_cv1, ↓e_cv2, ↓e_cv3, ↓e_cv4, ↓e_cv5, ↓e_cv6, i_0, i_39, e_rpn, e_rps, e_few0, e_few1, e_few2, e_few3, e_few4, ↓e_nil, one0, eq_self, ne_eq, not_true_eq_false, not_false_eq_true, true_implies, false_implies, true_and, and_true, and_self]
  exact hn u _ _ (fun j => by rw [u0 101 (by decide)]; exact fv j) (v1.oth u0) u1
set_option maxHeartbeats 1000000 in
theorem lw_b15 (h6 : i + 6 ≤ Ls) (hL : Ls ≤ 3072) (hr : ∀ j, f j < 2147483648) (hf : ∀ j, w 101 j = f j) (ci : c_inv w D S) (mi : m_inv w D S) (hn : lw_next Ls i f q) : Ev Ls (Sm Ls 13) q bk_L 15 [vR 101, vR 0, vR 39, vI i] [] w := by
  rw [ev_L_15]
  simp only [↓e_iload3, ↓e_aload0, ↓e_aload1, ↓e_aload2, ↓n_101, ↓x_101, ↓e_bipush, ↓e_isub, ↓e_iadd, ↓e_iand, ↓e_iconst, ↓e_cmp_gt, ↓e_cmp_eq, ↓e_if_eq, ↓e_lcmp, ↓e_tsw, ↓e_zret, ↓e_iinc3, e_klI, e_klR, e_klX, e_klL, ↓e_goto, ↓e_cv1, ↓e_cv2, ↓e_cv3, ↓e_cv4, ↓e_cv5, ↓e_cv6, i_0, i_39, e_rpn, e_rps, e_few0, e_few1, e_few2, e_few3, e_few4, ↓e_nil, b_L_15, hf, one0, eq_self, ne_eq, not_true_eq_false, not_false_eq_true, true_implies, false_implies, true_and, and_true, and_self]
  refine q_changesC ci.1.rc ?_
  have v1 := ci
  have mv := mi
  have fv := hf
  simp only [↓e_iload3, ↓e_aload0, ↓e_aload1, ↓e_aload2, ↓n_101, ↓x_101, ↓e_bipush, ↓e_isub, ↓e_iadd, ↓e_iand, ↓e_iconst, ↓e_cmp_gt, ↓e_cmp_eq, ↓e_if_eq, ↓e_lcmp, ↓e_tsw, ↓e_zret, ↓e_iinc3, e_klI, e_klR, e_klX, e_klL, ↓e_goto, ↓e_cv1, ↓e_cv2, ↓e_cv3, ↓e_cv4, ↓e_cv5, ↓e_cv6, i_0, i_39, e_rpn, e_rps, e_few0, e_few1, e_few2, e_few3, e_few4, ↓e_nil, fv, one0, eq_self, ne_eq, not_true_eq_false, not_false_eq_true, true_implies, false_implies, true_and, and_true, and_self]
  refine q_changesM mv.1 (fun u u0 => ?_)
  have u1 := mv.scr u0
  have u0 := u0.fra
  simp only [↓e_iload3, ↓e_aload0, ↓e_aload1, ↓e_aload2, ↓n_101, ↓x_101, ↓e_bipush, ↓e_isub, ↓e_iadd, ↓e_iand, ↓e_iconst, ↓e_cmp_gt, ↓e_cmp_eq, ↓e_if_eq, ↓e_lcmp, ↓e_tsw, ↓e_zret, ↓e_iinc3, e_klI, e_klR, e_klX, e_klL, ↓e_goto, ↓e_cv1, ↓e_cv2, ↓e_cv3, ↓e_cv4, ↓e_cv5, ↓e_cv6, i_0, i_39, e_rpn, e_rps, e_few0, e_few1, e_few2, e_few3, e_few4, ↓e_nil, one0, eq_self, ne_eq, not_true_eq_false, not_false_eq_true, true_implies, false_implies, true_and, and_true, and_self]
  exact hn u _ _ (fun j => by rw [u0 101 (by decide)]; exact fv j) (v1.oth u0) u1
set_option maxHeartbeats 1000000 in
theorem lw_b16 (h6 : i + 6 ≤ Ls) (hL : Ls ≤ 3072) (hr : ∀ j, f j < 2147483648) (hf : ∀ j, w 101 j = f j) (ci : c_inv w D S) (mi : m_inv w D S) (hn : lw_next Ls i f q) : Ev Ls (Sm Ls 13) q bk_L 16 [vR 101, vR 0, vR 39, vI i] [] w := by
  have n1 : 0 ≤ (i : Int) + 1 ∧ (i : Int) + 1 < (Ls : Int) := by omega
  obtain ⟨w1, _⟩ : iW ((i : Int) + 1) = (i : Int) + 1 ∧ True := ⟨iW_id (by omega) (by omega), trivial⟩
  rw [ev_L_16]
  simp only [↓e_iload3, ↓e_aload0, ↓e_aload1, ↓e_aload2, ↓n_101, ↓x_101, ↓e_bipush, ↓e_isub, ↓e_iadd, ↓e_iand, ↓e_iconst, ↓e_cmp_gt, ↓e_cmp_eq, ↓e_if_eq, ↓e_lcmp, ↓e_tsw, ↓e_zret, ↓e_iinc3, e_klI, e_klR, e_klX, e_klL, ↓e_goto, ↓e_cv1, ↓e_cv2, ↓e_cv3, ↓e_cv4, ↓e_cv5, ↓e_cv6, i_0, i_39, e_rpn, e_rps, e_few0, e_few1, e_few2, e_few3, e_few4, ↓e_nil, b_L_16, n1, w1, hf, one0, eq_self, ne_eq, not_true_eq_false, not_false_eq_true, true_implies, false_implies, true_and, and_true, and_self]
  refine q_leaderC ci.1 ?_
  have v1 := ci
  have mv := mi
  have fv := hf
  simp only [↓e_iload3, ↓e_aload0, ↓e_aload1, ↓e_aload2, ↓n_101, ↓x_101, ↓e_bipush, ↓e_isub, ↓e_iadd, ↓e_iand, ↓e_iconst, ↓e_cmp_gt, ↓e_cmp_eq, ↓e_if_eq, ↓e_lcmp, ↓e_tsw, ↓e_zret, ↓e_iinc3, e_klI, e_klR, e_klX, e_klL, ↓e_goto, ↓e_cv1, ↓e_cv2, ↓e_cv3, ↓e_cv4, ↓e_cv5, ↓e_cv6, i_0, i_39, e_rpn, e_rps, e_few0, e_few1, e_few2, e_few3, e_few4, ↓e_nil, n1, w1, fv, one0, eq_self, ne_eq, not_true_eq_false, not_false_eq_true, true_implies, false_implies, true_and, and_true, and_self]
  refine q_leaderM mv.1 (fun u u0 => ?_)
  have u1 := mv.scr u0
  have u0 := u0.fra
  simp only [↓e_iload3, ↓e_aload0, ↓e_aload1, ↓e_aload2, ↓n_101, ↓x_101, ↓e_bipush, ↓e_isub, ↓e_iadd, ↓e_iand, ↓e_iconst, ↓e_cmp_gt, ↓e_cmp_eq, ↓e_if_eq, ↓e_lcmp, ↓e_tsw, ↓e_zret, ↓e_iinc3, e_klI, e_klR, e_klX, e_klL, ↓e_goto, ↓e_cv1, ↓e_cv2, ↓e_cv3, ↓e_cv4, ↓e_cv5, ↓e_cv6, i_0, i_39, e_rpn, e_rps, e_few0, e_few1, e_few2, e_few3, e_few4, ↓e_nil, one0, eq_self, ne_eq, not_true_eq_false, not_false_eq_true, true_implies, false_implies, true_and, and_true, and_self]
  exact hn u _ _ (fun j => by rw [u0 101 (by decide)]; exact fv j) (v1.oth u0) u1
set_option maxHeartbeats 1000000 in
theorem lw_b17 (h6 : i + 6 ≤ Ls) (hL : Ls ≤ 3072) (hr : ∀ j, f j < 2147483648) (hf : ∀ j, w 101 j = f j) (ci : c_inv w D S) (mi : m_inv w D S) (hn : lw_next Ls i f q) : Ev Ls (Sm Ls 13) q bk_L 17 [vR 101, vR 0, vR 39, vI i] [] w := by
  have n1 : 0 ≤ (i : Int) + 1 ∧ (i : Int) + 1 < (Ls : Int) := by omega
  obtain ⟨w1, _⟩ : iW ((i : Int) + 1) = (i : Int) + 1 ∧ True := ⟨iW_id (by omega) (by omega), trivial⟩
  rw [ev_L_17]
  simp only [↓e_iload3, ↓e_aload0, ↓e_aload1, ↓e_aload2, ↓n_101, ↓x_101, ↓e_bipush, ↓e_isub, ↓e_iadd, ↓e_iand, ↓e_iconst, ↓e_cmp_gt, ↓e_cmp_eq, ↓e_if_eq, ↓e_lcmp, ↓e_tsw, ↓e_zret, ↓e_iinc3, e_klI, e_klR, e_klX, e_klL, ↓e_goto, ↓e_cv1, ↓e_cv2, ↓e_cv3, ↓e_cv4, ↓e_cv5, ↓e_cv6, i_0, i_39, e_rpn, e_rps, e_few0, e_few1, e_few2, e_few3, e_few4, ↓e_nil, b_L_17, n1, w1, hf, one0, eq_self, ne_eq, not_true_eq_false, not_false_eq_true, true_implies, false_implies, true_and, and_true, and_self]
  refine q_stoodC ci.1 ?_
  have v1 := ci
  have mv := mi
  have fv := hf
  simp only [↓e_iload3, ↓e_aload0, ↓e_aload1, ↓e_aload2, ↓n_101, ↓x_101, ↓e_bipush, ↓e_isub, ↓e_iadd, ↓e_iand, ↓e_iconst, ↓e_cmp_gt, ↓e_cmp_eq, ↓e_if_eq, ↓e_lcmp, ↓e_tsw, ↓e_zret, ↓e_iinc3, e_klI, e_klR, e_klX, e_klL, ↓e_goto, ↓e_cv1, ↓e_cv2, ↓e_cv3, ↓e_cv4, ↓e_cv5, ↓e_cv6, i_0, i_39, e_rpn, e_rps, e_few0, e_few1, e_few2, e_few3, e_few4, ↓e_nil, n1, w1, fv, one0, eq_self, ne_eq, not_true_eq_false, not_false_eq_true, true_implies, false_implies, true_and, and_true, and_self]
  refine q_stoodM mv.1 (fun u u0 => ?_)
  have u1 := mv.scr u0
  have u0 := u0.fra
  simp only [↓e_iload3, ↓e_aload0, ↓e_aload1, ↓e_aload2, ↓n_101, ↓x_101, ↓e_bipush, ↓e_isub, ↓e_iadd, ↓e_iand, ↓e_iconst, ↓e_cmp_gt, ↓e_cmp_eq, ↓e_if_eq, ↓e_lcmp, ↓e_tsw, ↓e_zret, ↓e_iinc3, e_klI, e_klR, e_klX, e_klL, ↓e_goto, ↓e_cv1, ↓e_cv2, ↓e_cv3, ↓e_cv4, ↓e_cv5, ↓e_cv6, i_0, i_39, e_rpn, e_rps, e_few0, e_few1, e_few2, e_few3, e_few4, ↓e_nil, one0, eq_self, ne_eq, not_true_eq_false, not_false_eq_true, true_implies, false_implies, true_and, and_true, and_self]
  exact hn u _ _ (fun j => by rw [u0 101 (by decide)]; exact fv j) (v1.oth u0) u1
set_option maxHeartbeats 1000000 in
theorem lw_b18 (h6 : i + 6 ≤ Ls) (hL : Ls ≤ 3072) (hr : ∀ j, f j < 2147483648) (hf : ∀ j, w 101 j = f j) (ci : c_inv w D S) (mi : m_inv w D S) (hn : lw_next Ls i f q) : Ev Ls (Sm Ls 13) q bk_L 18 [vR 101, vR 0, vR 39, vI i] [] w := by
  have n1 : 0 ≤ (i : Int) + 1 ∧ (i : Int) + 1 < (Ls : Int) := by omega
  have n2 : 0 ≤ (i : Int) + 2 ∧ (i : Int) + 2 < (Ls : Int) := by omega
  obtain ⟨w1, w2, _⟩ : iW ((i : Int) + 1) = (i : Int) + 1 ∧ iW ((i : Int) + 2) = (i : Int) + 2 ∧ True := ⟨iW_id (by omega) (by omega), iW_id (by omega) (by omega), trivial⟩
  rw [ev_L_18]
  simp only [↓e_iload3, ↓e_aload0, ↓e_aload1, ↓e_aload2, ↓n_101, ↓x_101, ↓e_bipush, ↓e_isub, ↓e_iadd, ↓e_iand, ↓e_iconst, ↓e_cmp_gt, ↓e_cmp_eq, ↓e_if_eq, ↓e_lcmp, ↓e_tsw, ↓e_zret, ↓e_iinc3, e_klI, e_klR, e_klX, e_klL, ↓e_goto, ↓e_cv1, ↓e_cv2, ↓e_cv3, ↓e_cv4, ↓e_cv5, ↓e_cv6, i_0, i_39, e_rpn, e_rps, e_few0, e_few1, e_few2, e_few3, e_few4, ↓e_nil, b_L_18, n1, w1, n2, w2, hf, one0, eq_self, ne_eq, not_true_eq_false, not_false_eq_true, true_implies, false_implies, true_and, and_true, and_self]
  refine q_orderC ci.1 (fun v v0 => ?_)
  have v1 := ci.tr v0
  have v0 := v0.fra
  have mv := mi.oth v0
  have fv : ∀ j, v 101 j = f j := fun j => by rw [v0 101 (by decide)]; exact hf j
  simp only [↓e_iload3, ↓e_aload0, ↓e_aload1, ↓e_aload2, ↓n_101, ↓x_101, ↓e_bipush, ↓e_isub, ↓e_iadd, ↓e_iand, ↓e_iconst, ↓e_cmp_gt, ↓e_cmp_eq, ↓e_if_eq, ↓e_lcmp, ↓e_tsw, ↓e_zret, ↓e_iinc3, e_klI, e_klR, e_klX, e_klL, ↓e_goto, ↓e_cv1, ↓e_cv2, ↓e_cv3, ↓e_cv4, ↓e_cv5, ↓e_cv6, i_0, i_39, e_rpn, e_rps, e_few0, e_few1, e_few2, e_few3, e_few4, ↓e_nil, n1, w1, n2, w2, fv, one0, eq_self, ne_eq, not_true_eq_false, not_false_eq_true, true_implies, false_implies, true_and, and_true, and_self]
  refine q_orderM mv.1 (fun u u0 => ?_)
  have u1 := mv.scr u0
  have u0 := u0.fra
  simp only [↓e_iload3, ↓e_aload0, ↓e_aload1, ↓e_aload2, ↓n_101, ↓x_101, ↓e_bipush, ↓e_isub, ↓e_iadd, ↓e_iand, ↓e_iconst, ↓e_cmp_gt, ↓e_cmp_eq, ↓e_if_eq, ↓e_lcmp, ↓e_tsw, ↓e_zret, ↓e_iinc3, e_klI, e_klR, e_klX, e_klL, ↓e_goto, ↓e_cv1, ↓e_cv2, ↓e_cv3, ↓e_cv4, ↓e_cv5, ↓e_cv6, i_0, i_39, e_rpn, e_rps, e_few0, e_few1, e_few2, e_few3, e_few4, ↓e_nil, one0, eq_self, ne_eq, not_true_eq_false, not_false_eq_true, true_implies, false_implies, true_and, and_true, and_self]
  exact hn u _ _ (fun j => by rw [u0 101 (by decide)]; exact fv j) (v1.oth u0) u1
set_option maxHeartbeats 1000000 in
theorem lw_b19 (h6 : i + 6 ≤ Ls) (hL : Ls ≤ 3072) (hr : ∀ j, f j < 2147483648) (hf : ∀ j, w 101 j = f j) (ci : c_inv w D S) (mi : m_inv w D S) (hn : lw_next Ls i f q) : Ev Ls (Sm Ls 13) q bk_L 19 [vR 101, vR 0, vR 39, vI i] [] w := by
  have n1 : 0 ≤ (i : Int) + 1 ∧ (i : Int) + 1 < (Ls : Int) := by omega
  have n2 : 0 ≤ (i : Int) + 2 ∧ (i : Int) + 2 < (Ls : Int) := by omega
  obtain ⟨w1, w2, _⟩ : iW ((i : Int) + 1) = (i : Int) + 1 ∧ iW ((i : Int) + 2) = (i : Int) + 2 ∧ True := ⟨iW_id (by omega) (by omega), iW_id (by omega) (by omega), trivial⟩
  rw [ev_L_19]
  simp only [↓e_iload3, ↓e_aload0, ↓e_aload1, ↓e_aload2, ↓n_101, ↓x_101, ↓e_bipush, ↓e_isub, ↓e_iadd, ↓e_iand, ↓e_iconst, ↓e_cmp_gt, ↓e_cmp_eq, ↓e_if_eq, ↓e_lcmp, ↓e_tsw, ↓e_zret, ↓e_iinc3, e_klI, e_klR, e_klX, e_klL, ↓e_goto, ↓e_cv1, ↓e_cv2, ↓e_cv3, ↓e_cv4, ↓e_cv5, ↓e_cv6, i_0, i_39, e_rpn, e_rps, e_few0, e_few1, e_few2, e_few3, e_few4, ↓e_nil, b_L_19, n1, w1, n2, w2, hf, one0, eq_self, ne_eq, not_true_eq_false, not_false_eq_true, true_implies, false_implies, true_and, and_true, and_self]
  refine q_trainC ci.1 (fun v v0 => ?_)
  have v1 := ci.tr v0
  have v0 := v0.fra
  have mv := mi.oth v0
  have fv : ∀ j, v 101 j = f j := fun j => by rw [v0 101 (by decide)]; exact hf j
  simp only [↓e_iload3, ↓e_aload0, ↓e_aload1, ↓e_aload2, ↓n_101, ↓x_101, ↓e_bipush, ↓e_isub, ↓e_iadd, ↓e_iand, ↓e_iconst, ↓e_cmp_gt, ↓e_cmp_eq, ↓e_if_eq, ↓e_lcmp, ↓e_tsw, ↓e_zret, ↓e_iinc3, e_klI, e_klR, e_klX, e_klL, ↓e_goto, ↓e_cv1, ↓e_cv2, ↓e_cv3, ↓e_cv4, ↓e_cv5, ↓e_cv6, i_0, i_39, e_rpn, e_rps, e_few0, e_few1, e_few2, e_few3, e_few4, ↓e_nil, n1, w1, n2, w2, fv, one0, eq_self, ne_eq, not_true_eq_false, not_false_eq_true, true_implies, false_implies, true_and, and_true, and_self]
  refine q_trainM mv.1 (fun u u0 => ?_)
  have u1 := mv.scr u0
  have u0 := u0.fra
  simp only [↓e_iload3, ↓e_aload0, ↓e_aload1, ↓e_aload2, ↓n_101, ↓x_101, ↓e_bipush, ↓e_isub, ↓e_iadd, ↓e_iand, ↓e_iconst, ↓e_cmp_gt, ↓e_cmp_eq, ↓e_if_eq, ↓e_lcmp, ↓e_tsw, ↓e_zret, ↓e_iinc3, e_klI, e_klR, e_klX, e_klL, ↓e_goto, ↓e_cv1, ↓e_cv2, ↓e_cv3, ↓e_cv4, ↓e_cv5, ↓e_cv6, i_0, i_39, e_rpn, e_rps, e_few0, e_few1, e_few2, e_few3, e_few4, ↓e_nil, one0, eq_self, ne_eq, not_true_eq_false, not_false_eq_true, true_implies, false_implies, true_and, and_true, and_self]
  exact hn u _ _ (fun j => by rw [u0 101 (by decide)]; exact fv j) (v1.oth u0) u1
set_option maxHeartbeats 1000000 in
theorem lw_b20 (h6 : i + 6 ≤ Ls) (hL : Ls ≤ 3072) (hr : ∀ j, f j < 2147483648) (hf : ∀ j, w 101 j = f j) (ci : c_inv w D S) (mi : m_inv w D S) (hn : lw_next Ls i f q) : Ev Ls (Sm Ls 13) q bk_L 20 [vR 101, vR 0, vR 39, vI i] [] w := by
  have n1 : 0 ≤ (i : Int) + 1 ∧ (i : Int) + 1 < (Ls : Int) := by omega
  obtain ⟨w1, _⟩ : iW ((i : Int) + 1) = (i : Int) + 1 ∧ True := ⟨iW_id (by omega) (by omega), trivial⟩
  rw [ev_L_20]
  simp only [↓e_iload3, ↓e_aload0, ↓e_aload1, ↓e_aload2, ↓n_101, ↓x_101, ↓e_bipush, ↓e_isub, ↓e_iadd, ↓e_iand, ↓e_iconst, ↓e_cmp_gt, ↓e_cmp_eq, ↓e_if_eq, ↓e_lcmp, ↓e_tsw, ↓e_zret, ↓e_iinc3, e_klI, e_klR, e_klX, e_klL, ↓e_goto, ↓e_cv1, ↓e_cv2, ↓e_cv3, ↓e_cv4, ↓e_cv5, ↓e_cv6, i_0, i_39, e_rpn, e_rps, e_few0, e_few1, e_few2, e_few3, e_few4, ↓e_nil, b_L_20, n1, w1, hf, one0, eq_self, ne_eq, not_true_eq_false, not_false_eq_true, true_implies, false_implies, true_and, and_true, and_self]
  refine q_fitC ci.1 (fun v v0 => ?_)
  have v1 := ci.tr v0
  have v0 := v0.fra
  have mv := mi.oth v0
  have fv : ∀ j, v 101 j = f j := fun j => by rw [v0 101 (by decide)]; exact hf j
  simp only [↓e_iload3, ↓e_aload0, ↓e_aload1, ↓e_aload2, ↓n_101, ↓x_101, ↓e_bipush, ↓e_isub, ↓e_iadd, ↓e_iand, ↓e_iconst, ↓e_cmp_gt, ↓e_cmp_eq, ↓e_if_eq, ↓e_lcmp, ↓e_tsw, ↓e_zret, ↓e_iinc3, e_klI, e_klR, e_klX, e_klL, ↓e_goto, ↓e_cv1, ↓e_cv2, ↓e_cv3, ↓e_cv4, ↓e_cv5, ↓e_cv6, i_0, i_39, e_rpn, e_rps, e_few0, e_few1, e_few2, e_few3, e_few4, ↓e_nil, n1, w1, fv, one0, eq_self, ne_eq, not_true_eq_false, not_false_eq_true, true_implies, false_implies, true_and, and_true, and_self]
  refine q_fitM mv.1 (fun u u0 => ?_)
  have u1 := mv.scr u0
  have u0 := u0.fra
  simp only [↓e_iload3, ↓e_aload0, ↓e_aload1, ↓e_aload2, ↓n_101, ↓x_101, ↓e_bipush, ↓e_isub, ↓e_iadd, ↓e_iand, ↓e_iconst, ↓e_cmp_gt, ↓e_cmp_eq, ↓e_if_eq, ↓e_lcmp, ↓e_tsw, ↓e_zret, ↓e_iinc3, e_klI, e_klR, e_klX, e_klL, ↓e_goto, ↓e_cv1, ↓e_cv2, ↓e_cv3, ↓e_cv4, ↓e_cv5, ↓e_cv6, i_0, i_39, e_rpn, e_rps, e_few0, e_few1, e_few2, e_few3, e_few4, ↓e_nil, one0, eq_self, ne_eq, not_true_eq_false, not_false_eq_true, true_implies, false_implies, true_and, and_true, and_self]
  exact hn u _ _ (fun j => by rw [u0 101 (by decide)]; exact fv j) (v1.oth u0) u1
set_option maxHeartbeats 1000000 in
theorem lw_b21 (h6 : i + 6 ≤ Ls) (hL : Ls ≤ 3072) (hr : ∀ j, f j < 2147483648) (hf : ∀ j, w 101 j = f j) (ci : c_inv w D S) (mi : m_inv w D S) (hn : lw_next Ls i f q) : Ev Ls (Sm Ls 13) q bk_L 21 [vR 101, vR 0, vR 39, vI i] [] w := by
  have n1 : 0 ≤ (i : Int) + 1 ∧ (i : Int) + 1 < (Ls : Int) := by omega
  obtain ⟨w1, _⟩ : iW ((i : Int) + 1) = (i : Int) + 1 ∧ True := ⟨iW_id (by omega) (by omega), trivial⟩
  rw [ev_L_21]
  simp only [↓e_iload3, ↓e_aload0, ↓e_aload1, ↓e_aload2, ↓n_101, ↓x_101, ↓e_bipush, ↓e_isub, ↓e_iadd, ↓e_iand, ↓e_iconst, ↓e_cmp_gt, ↓e_cmp_eq, ↓e_if_eq, ↓e_lcmp, ↓e_tsw, ↓e_zret, ↓e_iinc3, e_klI, e_klR, e_klX, e_klL, ↓e_goto, ↓e_cv1, ↓e_cv2, ↓e_cv3, ↓e_cv4, ↓e_cv5, ↓e_cv6, i_0, i_39, e_rpn, e_rps, e_few0, e_few1, e_few2, e_few3, e_few4, ↓e_nil, b_L_21, n1, w1, hf, one0, eq_self, ne_eq, not_true_eq_false, not_false_eq_true, true_implies, false_implies, true_and, and_true, and_self]
  refine q_spareC ci.1 ci.2.1 (fun v v0 vc => ?_)
  have v1 := ci.scr v0 vc
  have v0 := v0.fra
  have mv := mi.oth v0
  have fv : ∀ j, v 101 j = f j := fun j => by rw [v0 101 (by decide)]; exact hf j
  simp only [↓e_iload3, ↓e_aload0, ↓e_aload1, ↓e_aload2, ↓n_101, ↓x_101, ↓e_bipush, ↓e_isub, ↓e_iadd, ↓e_iand, ↓e_iconst, ↓e_cmp_gt, ↓e_cmp_eq, ↓e_if_eq, ↓e_lcmp, ↓e_tsw, ↓e_zret, ↓e_iinc3, e_klI, e_klR, e_klX, e_klL, ↓e_goto, ↓e_cv1, ↓e_cv2, ↓e_cv3, ↓e_cv4, ↓e_cv5, ↓e_cv6, i_0, i_39, e_rpn, e_rps, e_few0, e_few1, e_few2, e_few3, e_few4, ↓e_nil, n1, w1, fv, one0, eq_self, ne_eq, not_true_eq_false, not_false_eq_true, true_implies, false_implies, true_and, and_true, and_self]
  refine q_spareM mv.1 (fun u u0 => ?_)
  have u1 := mv.scr u0
  have u0 := u0.fra
  simp only [↓e_iload3, ↓e_aload0, ↓e_aload1, ↓e_aload2, ↓n_101, ↓x_101, ↓e_bipush, ↓e_isub, ↓e_iadd, ↓e_iand, ↓e_iconst, ↓e_cmp_gt, ↓e_cmp_eq, ↓e_if_eq, ↓e_lcmp, ↓e_tsw, ↓e_zret, ↓e_iinc3, e_klI, e_klR, e_klX, e_klL, ↓e_goto, ↓e_cv1, ↓e_cv2, ↓e_cv3, ↓e_cv4, ↓e_cv5, ↓e_cv6, i_0, i_39, e_rpn, e_rps, e_few0, e_few1, e_few2, e_few3, e_few4, ↓e_nil, one0, eq_self, ne_eq, not_true_eq_false, not_false_eq_true, true_implies, false_implies, true_and, and_true, and_self]
  exact hn u _ _ (fun j => by rw [u0 101 (by decide)]; exact fv j) (v1.oth u0) u1
set_option maxHeartbeats 1000000 in
theorem lw_b22 (h6 : i + 6 ≤ Ls) (hL : Ls ≤ 3072) (hr : ∀ j, f j < 2147483648) (hf : ∀ j, w 101 j = f j) (ci : c_inv w D S) (mi : m_inv w D S) (hn : lw_next Ls i f q) : Ev Ls (Sm Ls 13) q bk_L 22 [vR 101, vR 0, vR 39, vI i] [] w := by
  have n1 : 0 ≤ (i : Int) + 1 ∧ (i : Int) + 1 < (Ls : Int) := by omega
  have n2 : 0 ≤ (i : Int) + 2 ∧ (i : Int) + 2 < (Ls : Int) := by omega
  have n3 : 0 ≤ (i : Int) + 3 ∧ (i : Int) + 3 < (Ls : Int) := by omega
  obtain ⟨w1, w2, w3, _⟩ : iW ((i : Int) + 1) = (i : Int) + 1 ∧ iW ((i : Int) + 2) = (i : Int) + 2 ∧ iW ((i : Int) + 3) = (i : Int) + 3 ∧ True := ⟨iW_id (by omega) (by omega), iW_id (by omega) (by omega), iW_id (by omega) (by omega), trivial⟩
  rw [ev_L_22]
  simp only [↓e_iload3, ↓e_aload0, ↓e_aload1, ↓e_aload2, ↓n_101, ↓x_101, ↓e_bipush, ↓e_isub, ↓e_iadd, ↓e_iand, ↓e_iconst, ↓e_cmp_gt, ↓e_cmp_eq, ↓e_if_eq, ↓e_lcmp, ↓e_tsw, ↓e_zret, ↓e_iinc3, e_klI, e_klR, e_klX, e_klL, ↓e_goto, ↓e_cv1, ↓e_cv2, ↓e_cv3, ↓e_cv4, ↓e_cv5, ↓e_cv6, i_0, i_39, e_rpn, e_rps, e_few0, e_few1, e_few2, e_few3, e_few4, ↓e_nil, b_L_22, n1, w1, n2, w2, n3, w3, hf, one0, eq_self, ne_eq, not_true_eq_false, not_false_eq_true, true_implies, false_implies, true_and, and_true, and_self]
  refine q_sightC ci (fun v v0 v1 => ?_)
  have mv := mi.oth v0
  have fv : ∀ j, v 101 j = f j := fun j => by rw [v0 101 (by decide)]; exact hf j
  simp only [↓e_iload3, ↓e_aload0, ↓e_aload1, ↓e_aload2, ↓n_101, ↓x_101, ↓e_bipush, ↓e_isub, ↓e_iadd, ↓e_iand, ↓e_iconst, ↓e_cmp_gt, ↓e_cmp_eq, ↓e_if_eq, ↓e_lcmp, ↓e_tsw, ↓e_zret, ↓e_iinc3, e_klI, e_klR, e_klX, e_klL, ↓e_goto, ↓e_cv1, ↓e_cv2, ↓e_cv3, ↓e_cv4, ↓e_cv5, ↓e_cv6, i_0, i_39, e_rpn, e_rps, e_few0, e_few1, e_few2, e_few3, e_few4, ↓e_nil, n1, w1, n2, w2, n3, w3, fv, one0, eq_self, ne_eq, not_true_eq_false, not_false_eq_true, true_implies, false_implies, true_and, and_true, and_self]
  refine q_sightM mv (fun u u0 u1 => ?_)
  simp only [↓e_iload3, ↓e_aload0, ↓e_aload1, ↓e_aload2, ↓n_101, ↓x_101, ↓e_bipush, ↓e_isub, ↓e_iadd, ↓e_iand, ↓e_iconst, ↓e_cmp_gt, ↓e_cmp_eq, ↓e_if_eq, ↓e_lcmp, ↓e_tsw, ↓e_zret, ↓e_iinc3, e_klI, e_klR, e_klX, e_klL, ↓e_goto, ↓e_cv1, ↓e_cv2, ↓e_cv3, ↓e_cv4, ↓e_cv5, ↓e_cv6, i_0, i_39, e_rpn, e_rps, e_few0, e_few1, e_few2, e_few3, e_few4, ↓e_nil, one0, eq_self, ne_eq, not_true_eq_false, not_false_eq_true, true_implies, false_implies, true_and, and_true, and_self]
  exact hn u _ _ (fun j => by rw [u0 101 (by decide)]; exact fv j) (v1.oth u0) u1
set_option maxHeartbeats 1000000 in
theorem lw_b23 (h6 : i + 6 ≤ Ls) (hL : Ls ≤ 3072) (hr : ∀ j, f j < 2147483648) (hf : ∀ j, w 101 j = f j) (ci : c_inv w D S) (mi : m_inv w D S) (hn : lw_next Ls i f q) : Ev Ls (Sm Ls 13) q bk_L 23 [vR 101, vR 0, vR 39, vI i] [] w := by
  rw [ev_L_23]
  simp only [↓e_iload3, ↓e_aload0, ↓e_aload1, ↓e_aload2, ↓n_101, ↓x_101, ↓e_bipush, ↓e_isub, ↓e_iadd, ↓e_iand, ↓e_iconst, ↓e_cmp_gt, ↓e_cmp_eq, ↓e_if_eq, ↓e_lcmp, ↓e_tsw, ↓e_zret, ↓e_iinc3, e_klI, e_klR, e_klX, e_klL, ↓e_goto, ↓e_cv1, ↓e_cv2, ↓e_cv3, ↓e_cv4, ↓e_cv5, ↓e_cv6, i_0, i_39, e_rpn, e_rps, e_few0, e_few1, e_few2, e_few3, e_few4, ↓e_nil, b_L_23, hf, one0, eq_self, ne_eq, not_true_eq_false, not_false_eq_true, true_implies, false_implies, true_and, and_true, and_self]
  refine q_forgetC ci (fun v v0 v1 => ?_)
  have mv := mi.oth v0
  have fv : ∀ j, v 101 j = f j := fun j => by rw [v0 101 (by decide)]; exact hf j
  simp only [↓e_iload3, ↓e_aload0, ↓e_aload1, ↓e_aload2, ↓n_101, ↓x_101, ↓e_bipush, ↓e_isub, ↓e_iadd, ↓e_iand, ↓e_iconst, ↓e_cmp_gt, ↓e_cmp_eq, ↓e_if_eq, ↓e_lcmp, ↓e_tsw, ↓e_zret, ↓e_iinc3, e_klI, e_klR, e_klX, e_klL, ↓e_goto, ↓e_cv1, ↓e_cv2, ↓e_cv3, ↓e_cv4, ↓e_cv5, ↓e_cv6, i_0, i_39, e_rpn, e_rps, e_few0, e_few1, e_few2, e_few3, e_few4, ↓e_nil, fv, one0, eq_self, ne_eq, not_true_eq_false, not_false_eq_true, true_implies, false_implies, true_and, and_true, and_self]
  refine q_forgetM mv (fun u u0 u1 => ?_)
  simp only [↓e_iload3, ↓e_aload0, ↓e_aload1, ↓e_aload2, ↓n_101, ↓x_101, ↓e_bipush, ↓e_isub, ↓e_iadd, ↓e_iand, ↓e_iconst, ↓e_cmp_gt, ↓e_cmp_eq, ↓e_if_eq, ↓e_lcmp, ↓e_tsw, ↓e_zret, ↓e_iinc3, e_klI, e_klR, e_klX, e_klL, ↓e_goto, ↓e_cv1, ↓e_cv2, ↓e_cv3, ↓e_cv4, ↓e_cv5, ↓e_cv6, i_0, i_39, e_rpn, e_rps, e_few0, e_few1, e_few2, e_few3, e_few4, ↓e_nil, one0, eq_self, ne_eq, not_true_eq_false, not_false_eq_true, true_implies, false_implies, true_and, and_true, and_self]
  exact hn u _ _ (fun j => by rw [u0 101 (by decide)]; exact fv j) (v1.oth u0) u1
set_option maxHeartbeats 1000000 in
theorem lw_b24 (h6 : i + 6 ≤ Ls) (hL : Ls ≤ 3072) (hr : ∀ j, f j < 2147483648) (hf : ∀ j, w 101 j = f j) (ci : c_inv w D S) (mi : m_inv w D S) (hn : lw_next Ls i f q) : Ev Ls (Sm Ls 13) q bk_L 24 [vR 101, vR 0, vR 39, vI i] [] w := by
  rw [ev_L_24]
  simp only [↓e_iload3, ↓e_aload0, ↓e_aload1, ↓e_aload2, ↓n_101, ↓x_101, ↓e_bipush, ↓e_isub, ↓e_iadd, ↓e_iand, ↓e_iconst, ↓e_cmp_gt, ↓e_cmp_eq, ↓e_if_eq, ↓e_lcmp, ↓e_tsw, ↓e_zret, ↓e_iinc3, e_klI, e_klR, e_klX, e_klL, ↓e_goto, ↓e_cv1, ↓e_cv2, ↓e_cv3, ↓e_cv4, ↓e_cv5, ↓e_cv6, i_0, i_39, e_rpn, e_rps, e_few0, e_few1, e_few2, e_few3, e_few4, ↓e_nil, b_L_24, hf, one0, eq_self, ne_eq, not_true_eq_false, not_false_eq_true, true_implies, false_implies, true_and, and_true, and_self]
  refine q_neverC ci.1 (fun v v0 => ?_)
  have v1 := ci.tr v0
  have v0 := v0.fra
  have mv := mi.oth v0
  have fv : ∀ j, v 101 j = f j := fun j => by rw [v0 101 (by decide)]; exact hf j
  simp only [↓e_iload3, ↓e_aload0, ↓e_aload1, ↓e_aload2, ↓n_101, ↓x_101, ↓e_bipush, ↓e_isub, ↓e_iadd, ↓e_iand, ↓e_iconst, ↓e_cmp_gt, ↓e_cmp_eq, ↓e_if_eq, ↓e_lcmp, ↓e_tsw, ↓e_zret, ↓e_iinc3, e_klI, e_klR, e_klX, e_klL, ↓e_goto, ↓e_cv1, ↓e_cv2, ↓e_cv3, ↓e_cv4, ↓e_cv5, ↓e_cv6, i_0, i_39, e_rpn, e_rps, e_few0, e_few1, e_few2, e_few3, e_few4, ↓e_nil, fv, one0, eq_self, ne_eq, not_true_eq_false, not_false_eq_true, true_implies, false_implies, true_and, and_true, and_self]
  refine q_neverM mv.1 (fun u u0 => ?_)
  have u1 := mv.scr u0
  have u0 := u0.fra
  simp only [↓e_iload3, ↓e_aload0, ↓e_aload1, ↓e_aload2, ↓n_101, ↓x_101, ↓e_bipush, ↓e_isub, ↓e_iadd, ↓e_iand, ↓e_iconst, ↓e_cmp_gt, ↓e_cmp_eq, ↓e_if_eq, ↓e_lcmp, ↓e_tsw, ↓e_zret, ↓e_iinc3, e_klI, e_klR, e_klX, e_klL, ↓e_goto, ↓e_cv1, ↓e_cv2, ↓e_cv3, ↓e_cv4, ↓e_cv5, ↓e_cv6, i_0, i_39, e_rpn, e_rps, e_few0, e_few1, e_few2, e_few3, e_few4, ↓e_nil, one0, eq_self, ne_eq, not_true_eq_false, not_false_eq_true, true_implies, false_implies, true_and, and_true, and_self]
  exact hn u _ _ (fun j => by rw [u0 101 (by decide)]; exact fv j) (v1.oth u0) u1
set_option maxHeartbeats 1000000 in
theorem lw_b25 (h6 : i + 6 ≤ Ls) (hL : Ls ≤ 3072) (hr : ∀ j, f j < 2147483648) (hf : ∀ j, w 101 j = f j) (ci : c_inv w D S) (mi : m_inv w D S) (hn : lw_next Ls i f q) : Ev Ls (Sm Ls 13) q bk_L 25 [vR 101, vR 0, vR 39, vI i] [] w := by
  have n1 : 0 ≤ (i : Int) + 1 ∧ (i : Int) + 1 < (Ls : Int) := by omega
  have n2 : 0 ≤ (i : Int) + 2 ∧ (i : Int) + 2 < (Ls : Int) := by omega
  have n3 : 0 ≤ (i : Int) + 3 ∧ (i : Int) + 3 < (Ls : Int) := by omega
  obtain ⟨w1, w2, w3, _⟩ : iW ((i : Int) + 1) = (i : Int) + 1 ∧ iW ((i : Int) + 2) = (i : Int) + 2 ∧ iW ((i : Int) + 3) = (i : Int) + 3 ∧ True := ⟨iW_id (by omega) (by omega), iW_id (by omega) (by omega), iW_id (by omega) (by omega), trivial⟩
  rw [ev_L_25]
  simp only [↓e_iload3, ↓e_aload0, ↓e_aload1, ↓e_aload2, ↓n_101, ↓x_101, ↓e_bipush, ↓e_isub, ↓e_iadd, ↓e_iand, ↓e_iconst, ↓e_cmp_gt, ↓e_cmp_eq, ↓e_if_eq, ↓e_lcmp, ↓e_tsw, ↓e_zret, ↓e_iinc3, e_klI, e_klR, e_klX, e_klL, ↓e_goto, ↓e_cv1, ↓e_cv2, ↓e_cv3, ↓e_cv4, ↓e_cv5, ↓e_cv6, i_0, i_39, e_rpn, e_rps, e_few0, e_few1, e_few2, e_few3, e_few4, ↓e_nil, b_L_25, n1, w1, n2, w2, n3, w3, hf, one0, eq_self, ne_eq, not_true_eq_false, not_false_eq_true, true_implies, false_implies, true_and, and_true, and_self]
  refine q_wasC ci.1 (fun v v0 => ?_)
  have v1 := ci.tr v0
  have v0 := v0.fra
  have mv := mi.oth v0
  have fv : ∀ j, v 101 j = f j := fun j => by rw [v0 101 (by decide)]; exact hf j
  simp only [↓e_iload3, ↓e_aload0, ↓e_aload1, ↓e_aload2, ↓n_101, ↓x_101, ↓e_bipush, ↓e_isub, ↓e_iadd, ↓e_iand, ↓e_iconst, ↓e_cmp_gt, ↓e_cmp_eq, ↓e_if_eq, ↓e_lcmp, ↓e_tsw, ↓e_zret, ↓e_iinc3, e_klI, e_klR, e_klX, e_klL, ↓e_goto, ↓e_cv1, ↓e_cv2, ↓e_cv3, ↓e_cv4, ↓e_cv5, ↓e_cv6, i_0, i_39, e_rpn, e_rps, e_few0, e_few1, e_few2, e_few3, e_few4, ↓e_nil, n1, w1, n2, w2, n3, w3, fv, one0, eq_self, ne_eq, not_true_eq_false, not_false_eq_true, true_implies, false_implies, true_and, and_true, and_self]
  refine q_wasM mv.1 (fun u u0 => ?_)
  have u1 := mv.scr u0
  have u0 := u0.fra
  simp only [↓e_iload3, ↓e_aload0, ↓e_aload1, ↓e_aload2, ↓n_101, ↓x_101, ↓e_bipush, ↓e_isub, ↓e_iadd, ↓e_iand, ↓e_iconst, ↓e_cmp_gt, ↓e_cmp_eq, ↓e_if_eq, ↓e_lcmp, ↓e_tsw, ↓e_zret, ↓e_iinc3, e_klI, e_klR, e_klX, e_klL, ↓e_goto, ↓e_cv1, ↓e_cv2, ↓e_cv3, ↓e_cv4, ↓e_cv5, ↓e_cv6, i_0, i_39, e_rpn, e_rps, e_few0, e_few1, e_few2, e_few3, e_few4, ↓e_nil, one0, eq_self, ne_eq, not_true_eq_false, not_false_eq_true, true_implies, false_implies, true_and, and_true, and_self]
  exact hn u _ _ (fun j => by rw [u0 101 (by decide)]; exact fv j) (v1.oth u0) u1
set_option maxHeartbeats 1000000 in
theorem lw_b26 (h6 : i + 6 ≤ Ls) (hL : Ls ≤ 3072) (hr : ∀ j, f j < 2147483648) (hf : ∀ j, w 101 j = f j) (ci : c_inv w D S) (mi : m_inv w D S) (hn : lw_next Ls i f q) : Ev Ls (Sm Ls 13) q bk_L 26 [vR 101, vR 0, vR 39, vI i] [] w := by
  have n1 : 0 ≤ (i : Int) + 1 ∧ (i : Int) + 1 < (Ls : Int) := by omega
  have n2 : 0 ≤ (i : Int) + 2 ∧ (i : Int) + 2 < (Ls : Int) := by omega
  obtain ⟨w1, w2, _⟩ : iW ((i : Int) + 1) = (i : Int) + 1 ∧ iW ((i : Int) + 2) = (i : Int) + 2 ∧ True := ⟨iW_id (by omega) (by omega), iW_id (by omega) (by omega), trivial⟩
  rw [ev_L_26]
  simp only [↓e_iload3, ↓e_aload0, ↓e_aload1, ↓e_aload2, ↓n_101, ↓x_101, ↓e_bipush, ↓e_isub, ↓e_iadd, ↓e_iand, ↓e_iconst, ↓e_cmp_gt, ↓e_cmp_eq, ↓e_if_eq, ↓e_lcmp, ↓e_tsw, ↓e_zret, ↓e_iinc3, e_klI, e_klR, e_klX, e_klL, ↓e_goto, ↓e_cv1, ↓e_cv2, ↓e_cv3, ↓e_cv4, ↓e_cv5, ↓e_cv6, i_0, i_39, e_rpn, e_rps, e_few0, e_few1, e_few2, e_few3, e_few4, ↓e_nil, b_L_26, n1, w1, n2, w2, hf, one0, eq_self, ne_eq, not_true_eq_false, not_false_eq_true, true_implies, false_implies, true_and, and_true, and_self]
  refine q_askC ci.1 (fun v v0 => ?_)
  have v1 := ci.tr v0
  have v0 := v0.fra
  have mv := mi.oth v0
  have fv : ∀ j, v 101 j = f j := fun j => by rw [v0 101 (by decide)]; exact hf j
  simp only [↓e_iload3, ↓e_aload0, ↓e_aload1, ↓e_aload2, ↓n_101, ↓x_101, ↓e_bipush, ↓e_isub, ↓e_iadd, ↓e_iand, ↓e_iconst, ↓e_cmp_gt, ↓e_cmp_eq, ↓e_if_eq, ↓e_lcmp, ↓e_tsw, ↓e_zret, ↓e_iinc3, e_klI, e_klR, e_klX, e_klL, ↓e_goto, ↓e_cv1, ↓e_cv2, ↓e_cv3, ↓e_cv4, ↓e_cv5, ↓e_cv6, i_0, i_39, e_rpn, e_rps, e_few0, e_few1, e_few2, e_few3, e_few4, ↓e_nil, n1, w1, n2, w2, fv, one0, eq_self, ne_eq, not_true_eq_false, not_false_eq_true, true_implies, false_implies, true_and, and_true, and_self]
  refine q_askM mv.1 (fun u u0 => ?_)
  have u1 := mv.scr u0
  have u0 := u0.fra
  simp only [↓e_iload3, ↓e_aload0, ↓e_aload1, ↓e_aload2, ↓n_101, ↓x_101, ↓e_bipush, ↓e_isub, ↓e_iadd, ↓e_iand, ↓e_iconst, ↓e_cmp_gt, ↓e_cmp_eq, ↓e_if_eq, ↓e_lcmp, ↓e_tsw, ↓e_zret, ↓e_iinc3, e_klI, e_klR, e_klX, e_klL, ↓e_goto, ↓e_cv1, ↓e_cv2, ↓e_cv3, ↓e_cv4, ↓e_cv5, ↓e_cv6, i_0, i_39, e_rpn, e_rps, e_few0, e_few1, e_few2, e_few3, e_few4, ↓e_nil, one0, eq_self, ne_eq, not_true_eq_false, not_false_eq_true, true_implies, false_implies, true_and, and_true, and_self]
  exact hn u _ _ (fun j => by rw [u0 101 (by decide)]; exact fv j) (v1.oth u0) u1
set_option maxHeartbeats 1000000 in
theorem lw_b27 (h6 : i + 6 ≤ Ls) (hL : Ls ≤ 3072) (hr : ∀ j, f j < 2147483648) (hf : ∀ j, w 101 j = f j) (ci : c_inv w D S) (mi : m_inv w D S) (hn : lw_next Ls i f q) : Ev Ls (Sm Ls 13) q bk_L 27 [vR 101, vR 0, vR 39, vI i] [] w := by
  have n1 : 0 ≤ (i : Int) + 1 ∧ (i : Int) + 1 < (Ls : Int) := by omega
  have n2 : 0 ≤ (i : Int) + 2 ∧ (i : Int) + 2 < (Ls : Int) := by omega
  have n3 : 0 ≤ (i : Int) + 3 ∧ (i : Int) + 3 < (Ls : Int) := by omega
  obtain ⟨w1, w2, w3, _⟩ : iW ((i : Int) + 1) = (i : Int) + 1 ∧ iW ((i : Int) + 2) = (i : Int) + 2 ∧ iW ((i : Int) + 3) = (i : Int) + 3 ∧ True := ⟨iW_id (by omega) (by omega), iW_id (by omega) (by omega), iW_id (by omega) (by omega), trivial⟩
  rw [ev_L_27]
  simp only [↓e_iload3, ↓e_aload0, ↓e_aload1, ↓e_aload2, ↓n_101, ↓x_101, ↓e_bipush, ↓e_isub, ↓e_iadd, ↓e_iand, ↓e_iconst, ↓e_cmp_gt, ↓e_cmp_eq, ↓e_if_eq, ↓e_lcmp, ↓e_tsw, ↓e_zret, ↓e_iinc3, e_klI, e_klR, e_klX, e_klL, ↓e_goto, ↓e_cv1, ↓e_cv2, ↓e_cv3, ↓e_cv4, ↓e_cv5, ↓e_cv6, i_0, i_39, e_rpn, e_rps, e_few0, e_few1, e_few2, e_few3, e_few4, ↓e_nil, b_L_27, n1, w1, n2, w2, n3, w3, hf, one0, eq_self, ne_eq, not_true_eq_false, not_false_eq_true, true_implies, false_implies, true_and, and_true, and_self]
  refine q_chanceC ci.1 ci.2.1 (fun v v0 vc => ?_)
  have v1 := ci.scr v0 vc
  have v0 := v0.fra
  have mv := mi.oth v0
  have fv : ∀ j, v 101 j = f j := fun j => by rw [v0 101 (by decide)]; exact hf j
  simp only [↓e_iload3, ↓e_aload0, ↓e_aload1, ↓e_aload2, ↓n_101, ↓x_101, ↓e_bipush, ↓e_isub, ↓e_iadd, ↓e_iand, ↓e_iconst, ↓e_cmp_gt, ↓e_cmp_eq, ↓e_if_eq, ↓e_lcmp, ↓e_tsw, ↓e_zret, ↓e_iinc3, e_klI, e_klR, e_klX, e_klL, ↓e_goto, ↓e_cv1, ↓e_cv2, ↓e_cv3, ↓e_cv4, ↓e_cv5, ↓e_cv6, i_0, i_39, e_rpn, e_rps, e_few0, e_few1, e_few2, e_few3, e_few4, ↓e_nil, n1, w1, n2, w2, n3, w3, fv, one0, eq_self, ne_eq, not_true_eq_false, not_false_eq_true, true_implies, false_implies, true_and, and_true, and_self]
  refine q_chanceM mv.1 (fun u u0 => ?_)
  have u1 := mv.scr u0
  have u0 := u0.fra
  simp only [↓e_iload3, ↓e_aload0, ↓e_aload1, ↓e_aload2, ↓n_101, ↓x_101, ↓e_bipush, ↓e_isub, ↓e_iadd, ↓e_iand, ↓e_iconst, ↓e_cmp_gt, ↓e_cmp_eq, ↓e_if_eq, ↓e_lcmp, ↓e_tsw, ↓e_zret, ↓e_iinc3, e_klI, e_klR, e_klX, e_klL, ↓e_goto, ↓e_cv1, ↓e_cv2, ↓e_cv3, ↓e_cv4, ↓e_cv5, ↓e_cv6, i_0, i_39, e_rpn, e_rps, e_few0, e_few1, e_few2, e_few3, e_few4, ↓e_nil, (show ∀ x : Int, l_cmp x x = 0 from fun x => by unfold l_cmp; rw [if_neg (Int.lt_irrefl x), if_pos rfl]), one0, eq_self, ne_eq, not_true_eq_false, not_false_eq_true, true_implies, false_implies, true_and, and_true, and_self]
  exact hn u _ _ (fun j => by rw [u0 101 (by decide)]; exact fv j) (v1.oth u0) u1
set_option maxHeartbeats 1000000 in
theorem lw_b28 (h6 : i + 6 ≤ Ls) (hL : Ls ≤ 3072) (hr : ∀ j, f j < 2147483648) (hf : ∀ j, w 101 j = f j) (ci : c_inv w D S) (mi : m_inv w D S) (hn : lw_next Ls i f q) : Ev Ls (Sm Ls 13) q bk_L 28 [vR 101, vR 0, vR 39, vI i] [] w := by
  have n1 : 0 ≤ (i : Int) + 1 ∧ (i : Int) + 1 < (Ls : Int) := by omega
  have n2 : 0 ≤ (i : Int) + 2 ∧ (i : Int) + 2 < (Ls : Int) := by omega
  have n3 : 0 ≤ (i : Int) + 3 ∧ (i : Int) + 3 < (Ls : Int) := by omega
  obtain ⟨w1, w2, w3, _⟩ : iW ((i : Int) + 1) = (i : Int) + 1 ∧ iW ((i : Int) + 2) = (i : Int) + 2 ∧ iW ((i : Int) + 3) = (i : Int) + 3 ∧ True := ⟨iW_id (by omega) (by omega), iW_id (by omega) (by omega), iW_id (by omega) (by omega), trivial⟩
  rw [ev_L_28]
  simp only [↓e_iload3, ↓e_aload0, ↓e_aload1, ↓e_aload2, ↓n_101, ↓x_101, ↓e_bipush, ↓e_isub, ↓e_iadd, ↓e_iand, ↓e_iconst, ↓e_cmp_gt, ↓e_cmp_eq, ↓e_if_eq, ↓e_lcmp, ↓e_tsw, ↓e_zret, ↓e_iinc3, e_klI, e_klR, e_klX, e_klL, ↓e_goto, ↓e_cv1, ↓e_cv2, ↓e_cv3, ↓e_cv4, ↓e_cv5, ↓e_cv6, i_0, i_39, e_rpn, e_rps, e_few0, e_few1, e_few2, e_few3, e_few4, ↓e_nil, b_L_28, n1, w1, n2, w2, n3, w3, hf, one0, eq_self, ne_eq, not_true_eq_false, not_false_eq_true, true_implies, false_implies, true_and, and_true, and_self]
  refine q_yearsC ci.1 (fun v v0 => ?_)
  have v1 := ci.tr v0
  have v0 := v0.fra
  have mv := mi.oth v0
  have fv : ∀ j, v 101 j = f j := fun j => by rw [v0 101 (by decide)]; exact hf j
  simp only [↓e_iload3, ↓e_aload0, ↓e_aload1, ↓e_aload2, ↓n_101, ↓x_101, ↓e_bipush, ↓e_isub, ↓e_iadd, ↓e_iand, ↓e_iconst, ↓e_cmp_gt, ↓e_cmp_eq, ↓e_if_eq, ↓e_lcmp, ↓e_tsw, ↓e_zret, ↓e_iinc3, e_klI, e_klR, e_klX, e_klL, ↓e_goto, ↓e_cv1, ↓e_cv2, ↓e_cv3, ↓e_cv4, ↓e_cv5, ↓e_cv6, i_0, i_39, e_rpn, e_rps, e_few0, e_few1, e_few2, e_few3, e_few4, ↓e_nil, n1, w1, n2, w2, n3, w3, fv, one0, eq_self, ne_eq, not_true_eq_false, not_false_eq_true, true_implies, false_implies, true_and, and_true, and_self]
  refine q_yearsM mv.1 (fun u u0 => ?_)
  have u1 := mv.scr u0
  have u0 := u0.fra
  simp only [↓e_iload3, ↓e_aload0, ↓e_aload1, ↓e_aload2, ↓n_101, ↓x_101, ↓e_bipush, ↓e_isub, ↓e_iadd, ↓e_iand, ↓e_iconst, ↓e_cmp_gt, ↓e_cmp_eq, ↓e_if_eq, ↓e_lcmp, ↓e_tsw, ↓e_zret, ↓e_iinc3, e_klI, e_klR, e_klX, e_klL, ↓e_goto, ↓e_cv1, ↓e_cv2, ↓e_cv3, ↓e_cv4, ↓e_cv5, ↓e_cv6, i_0, i_39, e_rpn, e_rps, e_few0, e_few1, e_few2, e_few3, e_few4, ↓e_nil, one0, eq_self, ne_eq, not_true_eq_false, not_false_eq_true, true_implies, false_implies, true_and, and_true, and_self]
  exact hn u _ _ (fun j => by rw [u0 101 (by decide)]; exact fv j) (v1.oth u0) u1
set_option maxHeartbeats 1000000 in
theorem lw_b29 (h6 : i + 6 ≤ Ls) (hL : Ls ≤ 3072) (hr : ∀ j, f j < 2147483648) (hf : ∀ j, w 101 j = f j) (ci : c_inv w D S) (mi : m_inv w D S) (hn : lw_next Ls i f q) : Ev Ls (Sm Ls 13) q bk_L 29 [vR 101, vR 0, vR 39, vI i] [] w := by
  have n1 : 0 ≤ (i : Int) + 1 ∧ (i : Int) + 1 < (Ls : Int) := by omega
  have n2 : 0 ≤ (i : Int) + 2 ∧ (i : Int) + 2 < (Ls : Int) := by omega
  have n3 : 0 ≤ (i : Int) + 3 ∧ (i : Int) + 3 < (Ls : Int) := by omega
  obtain ⟨w1, w2, w3, _⟩ : iW ((i : Int) + 1) = (i : Int) + 1 ∧ iW ((i : Int) + 2) = (i : Int) + 2 ∧ iW ((i : Int) + 3) = (i : Int) + 3 ∧ True := ⟨iW_id (by omega) (by omega), iW_id (by omega) (by omega), iW_id (by omega) (by omega), trivial⟩
  rw [ev_L_29]
  simp only [↓e_iload3, ↓e_aload0, ↓e_aload1, ↓e_aload2, ↓n_101, ↓x_101, ↓e_bipush, ↓e_isub, ↓e_iadd, ↓e_iand, ↓e_iconst, ↓e_cmp_gt, ↓e_cmp_eq, ↓e_if_eq, ↓e_lcmp, ↓e_tsw, ↓e_zret, ↓e_iinc3, e_klI, e_klR, e_klX, e_klL, ↓e_goto, ↓e_cv1, ↓e_cv2, ↓e_cv3, ↓e_cv4, ↓e_cv5, ↓e_cv6, i_0, i_39, e_rpn, e_rps, e_few0, e_few1, e_few2, e_few3, e_few4, ↓e_nil, b_L_29, n1, w1, n2, w2, n3, w3, hf, one0, eq_self, ne_eq, not_true_eq_false, not_false_eq_true, true_implies, false_implies, true_and, and_true, and_self]
  refine q_sheetC ci (fun v v0 v1 => ?_)
  have mv := mi.oth v0
  have fv : ∀ j, v 101 j = f j := fun j => by rw [v0 101 (by decide)]; exact hf j
  simp only [↓e_iload3, ↓e_aload0, ↓e_aload1, ↓e_aload2, ↓n_101, ↓x_101, ↓e_bipush, ↓e_isub, ↓e_iadd, ↓e_iand, ↓e_iconst, ↓e_cmp_gt, ↓e_cmp_eq, ↓e_if_eq, ↓e_lcmp, ↓e_tsw, ↓e_zret, ↓e_iinc3, e_klI, e_klR, e_klX, e_klL, ↓e_goto, ↓e_cv1, ↓e_cv2, ↓e_cv3, ↓e_cv4, ↓e_cv5, ↓e_cv6, i_0, i_39, e_rpn, e_rps, e_few0, e_few1, e_few2, e_few3, e_few4, ↓e_nil, n1, w1, n2, w2, n3, w3, fv, one0, eq_self, ne_eq, not_true_eq_false, not_false_eq_true, true_implies, false_implies, true_and, and_true, and_self]
  refine q_sheetM mv (fun u u0 u1 => ?_)
  simp only [↓e_iload3, ↓e_aload0, ↓e_aload1, ↓e_aload2, ↓n_101, ↓x_101, ↓e_bipush, ↓e_isub, ↓e_iadd, ↓e_iand, ↓e_iconst, ↓e_cmp_gt, ↓e_cmp_eq, ↓e_if_eq, ↓e_lcmp, ↓e_tsw, ↓e_zret, ↓e_iinc3, e_klI, e_klR, e_klX, e_klL, ↓e_goto, ↓e_cv1, ↓e_cv2, ↓e_cv3, ↓e_cv4, ↓e_cv5, ↓e_cv6, i_0, i_39, e_rpn, e_rps, e_few0, e_few1, e_few2, e_few3, e_few4, ↓e_nil, one0, eq_self, ne_eq, not_true_eq_false, not_false_eq_true, true_implies, false_implies, true_and, and_true, and_self]
  exact hn u _ _ (fun j => by rw [u0 101 (by decide)]; exact fv j) (v1.oth u0) u1
set_option maxHeartbeats 1000000 in
theorem lw_b30 (h6 : i + 6 ≤ Ls) (hL : Ls ≤ 3072) (hr : ∀ j, f j < 2147483648) (hf : ∀ j, w 101 j = f j) (ci : c_inv w D S) (mi : m_inv w D S) (hn : lw_next Ls i f q) : Ev Ls (Sm Ls 13) q bk_L 30 [vR 101, vR 0, vR 39, vI i] [] w := by
  have n1 : 0 ≤ (i : Int) + 1 ∧ (i : Int) + 1 < (Ls : Int) := by omega
  obtain ⟨w1, _⟩ : iW ((i : Int) + 1) = (i : Int) + 1 ∧ True := ⟨iW_id (by omega) (by omega), trivial⟩
  rw [ev_L_30]
  simp only [↓e_iload3, ↓e_aload0, ↓e_aload1, ↓e_aload2, ↓n_101, ↓x_101, ↓e_bipush, ↓e_isub, ↓e_iadd, ↓e_iand, ↓e_iconst, ↓e_cmp_gt, ↓e_cmp_eq, ↓e_if_eq, ↓e_lcmp, ↓e_tsw, ↓e_zret, ↓e_iinc3, e_klI, e_klR, e_klX, e_klL, ↓e_goto, ↓e_cv1, ↓e_cv2, ↓e_cv3, ↓e_cv4, ↓e_cv5, ↓e_cv6, i_0, i_39, e_rpn, e_rps, e_few0, e_few1, e_few2, e_few3, e_few4, ↓e_nil, b_L_30, n1, w1, hf, one0, eq_self, ne_eq, not_true_eq_false, not_false_eq_true, true_implies, false_implies, true_and, and_true, and_self]
  refine q_loseC ci (fun v v0 v1 => ?_)
  have mv := mi.oth v0
  have fv : ∀ j, v 101 j = f j := fun j => by rw [v0 101 (by decide)]; exact hf j
  simp only [↓e_iload3, ↓e_aload0, ↓e_aload1, ↓e_aload2, ↓n_101, ↓x_101, ↓e_bipush, ↓e_isub, ↓e_iadd, ↓e_iand, ↓e_iconst, ↓e_cmp_gt, ↓e_cmp_eq, ↓e_if_eq, ↓e_lcmp, ↓e_tsw, ↓e_zret, ↓e_iinc3, e_klI, e_klR, e_klX, e_klL, ↓e_goto, ↓e_cv1, ↓e_cv2, ↓e_cv3, ↓e_cv4, ↓e_cv5, ↓e_cv6, i_0, i_39, e_rpn, e_rps, e_few0, e_few1, e_few2, e_few3, e_few4, ↓e_nil, n1, w1, fv, one0, eq_self, ne_eq, not_true_eq_false, not_false_eq_true, true_implies, false_implies, true_and, and_true, and_self]
  refine q_loseM mv (fun u u0 u1 => ?_)
  simp only [↓e_iload3, ↓e_aload0, ↓e_aload1, ↓e_aload2, ↓n_101, ↓x_101, ↓e_bipush, ↓e_isub, ↓e_iadd, ↓e_iand, ↓e_iconst, ↓e_cmp_gt, ↓e_cmp_eq, ↓e_if_eq, ↓e_lcmp, ↓e_tsw, ↓e_zret, ↓e_iinc3, e_klI, e_klR, e_klX, e_klL, ↓e_goto, ↓e_cv1, ↓e_cv2, ↓e_cv3, ↓e_cv4, ↓e_cv5, ↓e_cv6, i_0, i_39, e_rpn, e_rps, e_few0, e_few1, e_few2, e_few3, e_few4, ↓e_nil, one0, eq_self, ne_eq, not_true_eq_false, not_false_eq_true, true_implies, false_implies, true_and, and_true, and_self]
  exact hn u _ _ (fun j => by rw [u0 101 (by decide)]; exact fv j) (v1.oth u0) u1
set_option maxHeartbeats 1000000 in
theorem lw_b31 (h6 : i + 6 ≤ Ls) (hL : Ls ≤ 3072) (hr : ∀ j, f j < 2147483648) (hf : ∀ j, w 101 j = f j) (ci : c_inv w D S) (mi : m_inv w D S) (hn : lw_next Ls i f q) : Ev Ls (Sm Ls 13) q bk_L 31 [vR 101, vR 0, vR 39, vI i] [] w := by
  have n1 : 0 ≤ (i : Int) + 1 ∧ (i : Int) + 1 < (Ls : Int) := by omega
  have n2 : 0 ≤ (i : Int) + 2 ∧ (i : Int) + 2 < (Ls : Int) := by omega
  have n3 : 0 ≤ (i : Int) + 3 ∧ (i : Int) + 3 < (Ls : Int) := by omega
  have n4 : 0 ≤ (i : Int) + 4 ∧ (i : Int) + 4 < (Ls : Int) := by omega
  obtain ⟨w1, w2, w3, w4, _⟩ : iW ((i : Int) + 1) = (i : Int) + 1 ∧ iW ((i : Int) + 2) = (i : Int) + 2 ∧ iW ((i : Int) + 3) = (i : Int) + 3 ∧ iW ((i : Int) + 4) = (i : Int) + 4 ∧ True := ⟨iW_id (by omega) (by omega), iW_id (by omega) (by omega), iW_id (by omega) (by omega), iW_id (by omega) (by omega), trivial⟩
  rw [ev_L_31]
  simp only [↓e_iload3, ↓e_aload0, ↓e_aload1, ↓e_aload2, ↓n_101, ↓x_101, ↓e_bipush, ↓e_isub, ↓e_iadd, ↓e_iand, ↓e_iconst, ↓e_cmp_gt, ↓e_cmp_eq, ↓e_if_eq, ↓e_lcmp, ↓e_tsw, ↓e_zret, ↓e_iinc3, e_klI, e_klR, e_klX, e_klL, ↓e_goto, ↓e_cv1, ↓e_cv2, ↓e_cv3, ↓e_cv4, ↓e_cv5, ↓e_cv6, i_0, i_39, e_rpn, e_rps, e_few0, e_few1, e_few2, e_few3, e_few4, ↓e_nil, b_L_31, n1, w1, n2, w2, n3, w3, n4, w4, hf, one0, eq_self, ne_eq, not_true_eq_false, not_false_eq_true, true_implies, false_implies, true_and, and_true, and_self]
  refine q_putC ci (fun v v0 v1 => ?_)
  have mv := mi.oth v0
  have fv : ∀ j, v 101 j = f j := fun j => by rw [v0 101 (by decide)]; exact hf j
  simp only [↓e_iload3, ↓e_aload0, ↓e_aload1, ↓e_aload2, ↓n_101, ↓x_101, ↓e_bipush, ↓e_isub, ↓e_iadd, ↓e_iand, ↓e_iconst, ↓e_cmp_gt, ↓e_cmp_eq, ↓e_if_eq, ↓e_lcmp, ↓e_tsw, ↓e_zret, ↓e_iinc3, e_klI, e_klR, e_klX, e_klL, ↓e_goto, ↓e_cv1, ↓e_cv2, ↓e_cv3, ↓e_cv4, ↓e_cv5, ↓e_cv6, i_0, i_39, e_rpn, e_rps, e_few0, e_few1, e_few2, e_few3, e_few4, ↓e_nil, n1, w1, n2, w2, n3, w3, n4, w4, fv, one0, eq_self, ne_eq, not_true_eq_false, not_false_eq_true, true_implies, false_implies, true_and, and_true, and_self]
  refine q_putM mv (fun u u0 u1 => ?_)
  simp only [↓e_iload3, ↓e_aload0, ↓e_aload1, ↓e_aload2, ↓n_101, ↓x_101, ↓e_bipush, ↓e_isub, ↓e_iadd, ↓e_iand, ↓e_iconst, ↓e_cmp_gt, ↓e_cmp_eq, ↓e_if_eq, ↓e_lcmp, ↓e_tsw, ↓e_zret, ↓e_iinc3, e_klI, e_klR, e_klX, e_klL, ↓e_goto, ↓e_cv1, ↓e_cv2, ↓e_cv3, ↓e_cv4, ↓e_cv5, ↓e_cv6, i_0, i_39, e_rpn, e_rps, e_few0, e_few1, e_few2, e_few3, e_few4, ↓e_nil, one0, eq_self, ne_eq, not_true_eq_false, not_false_eq_true, true_implies, false_implies, true_and, and_true, and_self]
  exact hn u _ _ (fun j => by rw [u0 101 (by decide)]; exact fv j) (v1.oth u0) u1
set_option maxHeartbeats 1000000 in
theorem lw_b32 (h6 : i + 6 ≤ Ls) (hL : Ls ≤ 3072) (hr : ∀ j, f j < 2147483648) (hf : ∀ j, w 101 j = f j) (ci : c_inv w D S) (mi : m_inv w D S) (hn : lw_next Ls i f q) : Ev Ls (Sm Ls 13) q bk_L 32 [vR 101, vR 0, vR 39, vI i] [] w := by
  have n1 : 0 ≤ (i : Int) + 1 ∧ (i : Int) + 1 < (Ls : Int) := by omega
  have n2 : 0 ≤ (i : Int) + 2 ∧ (i : Int) + 2 < (Ls : Int) := by omega
  have n3 : 0 ≤ (i : Int) + 3 ∧ (i : Int) + 3 < (Ls : Int) := by omega
  obtain ⟨w1, w2, w3, _⟩ : iW ((i : Int) + 1) = (i : Int) + 1 ∧ iW ((i : Int) + 2) = (i : Int) + 2 ∧ iW ((i : Int) + 3) = (i : Int) + 3 ∧ True := ⟨iW_id (by omega) (by omega), iW_id (by omega) (by omega), iW_id (by omega) (by omega), trivial⟩
  rw [ev_L_32]
  simp only [↓e_iload3, ↓e_aload0, ↓e_aload1, ↓e_aload2, ↓n_101, ↓x_101, ↓e_bipush, ↓e_isub, ↓e_iadd, ↓e_iand, ↓e_iconst, ↓e_cmp_gt, ↓e_cmp_eq, ↓e_if_eq, ↓e_lcmp, ↓e_tsw, ↓e_zret, ↓e_iinc3, e_klI, e_klR, e_klX, e_klL, ↓e_goto, ↓e_cv1, ↓e_cv2, ↓e_cv3, ↓e_cv4, ↓e_cv5, ↓e_cv6, i_0, i_39, e_rpn, e_rps, e_few0, e_few1, e_few2, e_few3, e_few4, ↓e_nil, b_L_32, n1, w1, n2, w2, n3, w3, hf, one0, eq_self, ne_eq, not_true_eq_false, not_false_eq_true, true_implies, false_implies, true_and, and_true, and_self]
  refine q_getC ci (fun v v0 v1 => ?_)
  have mv := mi.oth v0
  have fv : ∀ j, v 101 j = f j := fun j => by rw [v0 101 (by decide)]; exact hf j
  simp only [↓e_iload3, ↓e_aload0, ↓e_aload1, ↓e_aload2, ↓n_101, ↓x_101, ↓e_bipush, ↓e_isub, ↓e_iadd, ↓e_iand, ↓e_iconst, ↓e_cmp_gt, ↓e_cmp_eq, ↓e_if_eq, ↓e_lcmp, ↓e_tsw, ↓e_zret, ↓e_iinc3, e_klI, e_klR, e_klX, e_klL, ↓e_goto, ↓e_cv1, ↓e_cv2, ↓e_cv3, ↓e_cv4, ↓e_cv5, ↓e_cv6, i_0, i_39, e_rpn, e_rps, e_few0, e_few1, e_few2, e_few3, e_few4, ↓e_nil, n1, w1, n2, w2, n3, w3, fv, one0, eq_self, ne_eq, not_true_eq_false, not_false_eq_true, true_implies, false_implies, true_and, and_true, and_self]
  refine q_getM mv (fun u u0 u1 => ?_)
  simp only [↓e_iload3, ↓e_aload0, ↓e_aload1, ↓e_aload2, ↓n_101, ↓x_101, ↓e_bipush, ↓e_isub, ↓e_iadd, ↓e_iand, ↓e_iconst, ↓e_cmp_gt, ↓e_cmp_eq, ↓e_if_eq, ↓e_lcmp, ↓e_tsw, ↓e_zret, ↓e_iinc3, e_klI, e_klR, e_klX, e_klL, ↓e_goto, ↓e_cv1, ↓e_cv2, ↓e_cv3, ↓e_cv4, ↓e_cv5, ↓e_cv6, i_0, i_39, e_rpn, e_rps, e_few0, e_few1, e_few2, e_few3, e_few4, ↓e_nil, one0, eq_self, ne_eq, not_true_eq_false, not_false_eq_true, true_implies, false_implies, true_and, and_true, and_self]
  exact hn u _ _ (fun j => by rw [u0 101 (by decide)]; exact fv j) (v1.oth u0) u1
set_option maxHeartbeats 1000000 in
theorem lw_b33 (h6 : i + 6 ≤ Ls) (hL : Ls ≤ 3072) (hr : ∀ j, f j < 2147483648) (hf : ∀ j, w 101 j = f j) (ci : c_inv w D S) (mi : m_inv w D S) (hn : lw_next Ls i f q) : Ev Ls (Sm Ls 13) q bk_L 33 [vR 101, vR 0, vR 39, vI i] [] w := by
  have n1 : 0 ≤ (i : Int) + 1 ∧ (i : Int) + 1 < (Ls : Int) := by omega
  have n2 : 0 ≤ (i : Int) + 2 ∧ (i : Int) + 2 < (Ls : Int) := by omega
  have n3 : 0 ≤ (i : Int) + 3 ∧ (i : Int) + 3 < (Ls : Int) := by omega
  have n4 : 0 ≤ (i : Int) + 4 ∧ (i : Int) + 4 < (Ls : Int) := by omega
  have n5 : 0 ≤ (i : Int) + 5 ∧ (i : Int) + 5 < (Ls : Int) := by omega
  obtain ⟨w1, w2, w3, w4, w5, _⟩ : iW ((i : Int) + 1) = (i : Int) + 1 ∧ iW ((i : Int) + 2) = (i : Int) + 2 ∧ iW ((i : Int) + 3) = (i : Int) + 3 ∧ iW ((i : Int) + 4) = (i : Int) + 4 ∧ iW ((i : Int) + 5) = (i : Int) + 5 ∧ True := ⟨iW_id (by omega) (by omega), iW_id (by omega) (by omega), iW_id (by omega) (by omega), iW_id (by omega) (by omega), iW_id (by omega) (by omega), trivial⟩
  rw [ev_L_33]
  simp only [↓e_iload3, ↓e_aload0, ↓e_aload1, ↓e_aload2, ↓n_101, ↓x_101, ↓e_bipush, ↓e_isub, ↓e_iadd, ↓e_iand, ↓e_iconst, ↓e_cmp_gt, ↓e_cmp_eq, ↓e_if_eq, ↓e_lcmp, ↓e_tsw, ↓e_zret, ↓e_iinc3, e_klI, e_klR, e_klX, e_klL, ↓e_goto, ↓e_cv1, ↓e_cv2, ↓e_cv3, ↓e_cv4, ↓e_cv5, ↓e_cv6, i_0, i_39, e_rpn, e_rps, e_few0, e_few1, e_few2, e_few3, e_few4, ↓e_nil, b_L_33, n1, w1, n2, w2, n3, w3, n4, w4, n5, w5, hf, one0, eq_self, ne_eq, not_true_eq_false, not_false_eq_true, true_implies, false_implies, true_and, and_true, and_self]
  refine q_copyC ci (fun v v0 v1 => ?_)
  have mv := mi.oth v0
  have fv : ∀ j, v 101 j = f j := fun j => by rw [v0 101 (by decide)]; exact hf j
  simp only [↓e_iload3, ↓e_aload0, ↓e_aload1, ↓e_aload2, ↓n_101, ↓x_101, ↓e_bipush, ↓e_isub, ↓e_iadd, ↓e_iand, ↓e_iconst, ↓e_cmp_gt, ↓e_cmp_eq, ↓e_if_eq, ↓e_lcmp, ↓e_tsw, ↓e_zret, ↓e_iinc3, e_klI, e_klR, e_klX, e_klL, ↓e_goto, ↓e_cv1, ↓e_cv2, ↓e_cv3, ↓e_cv4, ↓e_cv5, ↓e_cv6, i_0, i_39, e_rpn, e_rps, e_few0, e_few1, e_few2, e_few3, e_few4, ↓e_nil, n1, w1, n2, w2, n3, w3, n4, w4, n5, w5, fv, one0, eq_self, ne_eq, not_true_eq_false, not_false_eq_true, true_implies, false_implies, true_and, and_true, and_self]
  refine q_copyM mv (hr _) (hr _) (hr _) (fun u u0 u1 => ?_)
  simp only [↓e_iload3, ↓e_aload0, ↓e_aload1, ↓e_aload2, ↓n_101, ↓x_101, ↓e_bipush, ↓e_isub, ↓e_iadd, ↓e_iand, ↓e_iconst, ↓e_cmp_gt, ↓e_cmp_eq, ↓e_if_eq, ↓e_lcmp, ↓e_tsw, ↓e_zret, ↓e_iinc3, e_klI, e_klR, e_klX, e_klL, ↓e_goto, ↓e_cv1, ↓e_cv2, ↓e_cv3, ↓e_cv4, ↓e_cv5, ↓e_cv6, i_0, i_39, e_rpn, e_rps, e_few0, e_few1, e_few2, e_few3, e_few4, ↓e_nil, one0, eq_self, ne_eq, not_true_eq_false, not_false_eq_true, true_implies, false_implies, true_and, and_true, and_self]
  exact hn u _ _ (fun j => by rw [u0 101 (by decide)]; exact fv j) (v1.oth u0) u1
set_option maxHeartbeats 1000000 in
theorem lw_b34 (h6 : i + 6 ≤ Ls) (hL : Ls ≤ 3072) (hr : ∀ j, f j < 2147483648) (hf : ∀ j, w 101 j = f j) (ci : c_inv w D S) (mi : m_inv w D S) (hn : lw_next Ls i f q) : Ev Ls (Sm Ls 13) q bk_L 34 [vR 101, vR 0, vR 39, vI i] [] w := by
  have n1 : 0 ≤ (i : Int) + 1 ∧ (i : Int) + 1 < (Ls : Int) := by omega
  have n2 : 0 ≤ (i : Int) + 2 ∧ (i : Int) + 2 < (Ls : Int) := by omega
  obtain ⟨w1, w2, _⟩ : iW ((i : Int) + 1) = (i : Int) + 1 ∧ iW ((i : Int) + 2) = (i : Int) + 2 ∧ True := ⟨iW_id (by omega) (by omega), iW_id (by omega) (by omega), trivial⟩
  rw [ev_L_34]
  simp only [↓e_iload3, ↓e_aload0, ↓e_aload1, ↓e_aload2, ↓n_101, ↓x_101, ↓e_bipush, ↓e_isub, ↓e_iadd, ↓e_iand, ↓e_iconst, ↓e_cmp_gt, ↓e_cmp_eq, ↓e_if_eq, ↓e_lcmp, ↓e_tsw, ↓e_zret, ↓e_iinc3, e_klI, e_klR, e_klX, e_klL, ↓e_goto, ↓e_cv1, ↓e_cv2, ↓e_cv3, ↓e_cv4, ↓e_cv5, ↓e_cv6, i_0, i_39, e_rpn, e_rps, e_few0, e_few1, e_few2, e_few3, e_few4, ↓e_nil, b_L_34, n1, w1, n2, w2, hf, one0, eq_self, ne_eq, not_true_eq_false, not_false_eq_true, true_implies, false_implies, true_and, and_true, and_self]
  refine q_writeC ci (fun v v0 v1 => ?_)
  have mv := mi.oth v0
  have fv : ∀ j, v 101 j = f j := fun j => by rw [v0 101 (by decide)]; exact hf j
  simp only [↓e_iload3, ↓e_aload0, ↓e_aload1, ↓e_aload2, ↓n_101, ↓x_101, ↓e_bipush, ↓e_isub, ↓e_iadd, ↓e_iand, ↓e_iconst, ↓e_cmp_gt, ↓e_cmp_eq, ↓e_if_eq, ↓e_lcmp, ↓e_tsw, ↓e_zret, ↓e_iinc3, e_klI, e_klR, e_klX, e_klL, ↓e_goto, ↓e_cv1, ↓e_cv2, ↓e_cv3, ↓e_cv4, ↓e_cv5, ↓e_cv6, i_0, i_39, e_rpn, e_rps, e_few0, e_few1, e_few2, e_few3, e_few4, ↓e_nil, n1, w1, n2, w2, fv, one0, eq_self, ne_eq, not_true_eq_false, not_false_eq_true, true_implies, false_implies, true_and, and_true, and_self]
  refine q_writeM mv (fun u u0 u1 => ?_)
  simp only [↓e_iload3, ↓e_aload0, ↓e_aload1, ↓e_aload2, ↓n_101, ↓x_101, ↓e_bipush, ↓e_isub, ↓e_iadd, ↓e_iand, ↓e_iconst, ↓e_cmp_gt, ↓e_cmp_eq, ↓e_if_eq, ↓e_lcmp, ↓e_tsw, ↓e_zret, ↓e_iinc3, e_klI, e_klR, e_klX, e_klL, ↓e_goto, ↓e_cv1, ↓e_cv2, ↓e_cv3, ↓e_cv4, ↓e_cv5, ↓e_cv6, i_0, i_39, e_rpn, e_rps, e_few0, e_few1, e_few2, e_few3, e_few4, ↓e_nil, one0, eq_self, ne_eq, not_true_eq_false, not_false_eq_true, true_implies, false_implies, true_and, and_true, and_self]
  exact hn u _ _ (fun j => by rw [u0 101 (by decide)]; exact fv j) (v1.oth u0) u1
set_option maxHeartbeats 1000000 in
theorem lw_b35 (h6 : i + 6 ≤ Ls) (hL : Ls ≤ 3072) (hr : ∀ j, f j < 2147483648) (hf : ∀ j, w 101 j = f j) (ci : c_inv w D S) (mi : m_inv w D S) (hn : lw_next Ls i f q) : Ev Ls (Sm Ls 13) q bk_L 35 [vR 101, vR 0, vR 39, vI i] [] w := by
  have n1 : 0 ≤ (i : Int) + 1 ∧ (i : Int) + 1 < (Ls : Int) := by omega
  obtain ⟨w1, _⟩ : iW ((i : Int) + 1) = (i : Int) + 1 ∧ True := ⟨iW_id (by omega) (by omega), trivial⟩
  rw [ev_L_35]
  simp only [↓e_iload3, ↓e_aload0, ↓e_aload1, ↓e_aload2, ↓n_101, ↓x_101, ↓e_bipush, ↓e_isub, ↓e_iadd, ↓e_iand, ↓e_iconst, ↓e_cmp_gt, ↓e_cmp_eq, ↓e_if_eq, ↓e_lcmp, ↓e_tsw, ↓e_zret, ↓e_iinc3, e_klI, e_klR, e_klX, e_klL, ↓e_goto, ↓e_cv1, ↓e_cv2, ↓e_cv3, ↓e_cv4, ↓e_cv5, ↓e_cv6, i_0, i_39, e_rpn, e_rps, e_few0, e_few1, e_few2, e_few3, e_few4, ↓e_nil, b_L_35, n1, w1, hf, one0, eq_self, ne_eq, not_true_eq_false, not_false_eq_true, true_implies, false_implies, true_and, and_true, and_self]
  refine q_countC ci ?_
  have v1 := ci
  have mv := mi
  have fv := hf
  simp only [↓e_iload3, ↓e_aload0, ↓e_aload1, ↓e_aload2, ↓n_101, ↓x_101, ↓e_bipush, ↓e_isub, ↓e_iadd, ↓e_iand, ↓e_iconst, ↓e_cmp_gt, ↓e_cmp_eq, ↓e_if_eq, ↓e_lcmp, ↓e_tsw, ↓e_zret, ↓e_iinc3, e_klI, e_klR, e_klX, e_klL, ↓e_goto, ↓e_cv1, ↓e_cv2, ↓e_cv3, ↓e_cv4, ↓e_cv5, ↓e_cv6, i_0, i_39, e_rpn, e_rps, e_few0, e_few1, e_few2, e_few3, e_few4, ↓e_nil, n1, w1, fv, one0, eq_self, ne_eq, not_true_eq_false, not_false_eq_true, true_implies, false_implies, true_and, and_true, and_self]
  refine q_countM mv (fun u u0 => ?_)
  have u1 := mv.scr u0
  have u0 := u0.fra
  simp only [↓e_iload3, ↓e_aload0, ↓e_aload1, ↓e_aload2, ↓n_101, ↓x_101, ↓e_bipush, ↓e_isub, ↓e_iadd, ↓e_iand, ↓e_iconst, ↓e_cmp_gt, ↓e_cmp_eq, ↓e_if_eq, ↓e_lcmp, ↓e_tsw, ↓e_zret, ↓e_iinc3, e_klI, e_klR, e_klX, e_klL, ↓e_goto, ↓e_cv1, ↓e_cv2, ↓e_cv3, ↓e_cv4, ↓e_cv5, ↓e_cv6, i_0, i_39, e_rpn, e_rps, e_few0, e_few1, e_few2, e_few3, e_few4, ↓e_nil, one0, eq_self, ne_eq, not_true_eq_false, not_false_eq_true, true_implies, false_implies, true_and, and_true, and_self]
  exact hn u _ _ (fun j => by rw [u0 101 (by decide)]; exact fv j) (v1.oth u0) u1
set_option maxHeartbeats 1000000 in
theorem lw_b36 (h6 : i + 6 ≤ Ls) (hL : Ls ≤ 3072) (hr : ∀ j, f j < 2147483648) (hf : ∀ j, w 101 j = f j) (ci : c_inv w D S) (mi : m_inv w D S) (hn : lw_next Ls i f q) : Ev Ls (Sm Ls 13) q bk_L 36 [vR 101, vR 0, vR 39, vI i] [] w := by
  rw [ev_L_36]
  simp only [↓e_iload3, ↓e_aload0, ↓e_aload1, ↓e_aload2, ↓n_101, ↓x_101, ↓e_bipush, ↓e_isub, ↓e_iadd, ↓e_iand, ↓e_iconst, ↓e_cmp_gt, ↓e_cmp_eq, ↓e_if_eq, ↓e_lcmp, ↓e_tsw, ↓e_zret, ↓e_iinc3, e_klI, e_klR, e_klX, e_klL, ↓e_goto, ↓e_cv1, ↓e_cv2, ↓e_cv3, ↓e_cv4, ↓e_cv5, ↓e_cv6, i_0, i_39, e_rpn, e_rps, e_few0, e_few1, e_few2, e_few3, e_few4, ↓e_nil, b_L_36, hf, one0, eq_self, ne_eq, not_true_eq_false, not_false_eq_true, true_implies, false_implies, true_and, and_true, and_self]
  refine q_digestC ci (fun v v0 v1 => ?_)
  have mv := mi.oth v0
  have fv : ∀ j, v 101 j = f j := fun j => by rw [v0 101 (by decide)]; exact hf j
  simp only [↓e_iload3, ↓e_aload0, ↓e_aload1, ↓e_aload2, ↓n_101, ↓x_101, ↓e_bipush, ↓e_isub, ↓e_iadd, ↓e_iand, ↓e_iconst, ↓e_cmp_gt, ↓e_cmp_eq, ↓e_if_eq, ↓e_lcmp, ↓e_tsw, ↓e_zret, ↓e_iinc3, e_klI, e_klR, e_klX, e_klL, ↓e_goto, ↓e_cv1, ↓e_cv2, ↓e_cv3, ↓e_cv4, ↓e_cv5, ↓e_cv6, i_0, i_39, e_rpn, e_rps, e_few0, e_few1, e_few2, e_few3, e_few4, ↓e_nil, fv, one0, eq_self, ne_eq, not_true_eq_false, not_false_eq_true, true_implies, false_implies, true_and, and_true, and_self]
  refine q_digestM mv (fun u u0 => ?_)
  have u1 := mv.scr u0
  have u0 := u0.fra
  simp only [↓e_iload3, ↓e_aload0, ↓e_aload1, ↓e_aload2, ↓n_101, ↓x_101, ↓e_bipush, ↓e_isub, ↓e_iadd, ↓e_iand, ↓e_iconst, ↓e_cmp_gt, ↓e_cmp_eq, ↓e_if_eq, ↓e_lcmp, ↓e_tsw, ↓e_zret, ↓e_iinc3, e_klI, e_klR, e_klX, e_klL, ↓e_goto, ↓e_cv1, ↓e_cv2, ↓e_cv3, ↓e_cv4, ↓e_cv5, ↓e_cv6, i_0, i_39, e_rpn, e_rps, e_few0, e_few1, e_few2, e_few3, e_few4, ↓e_nil, (show ∀ x : Int, l_cmp x x = 0 from fun x => by unfold l_cmp; rw [if_neg (Int.lt_irrefl x), if_pos rfl]), one0, eq_self, ne_eq, not_true_eq_false, not_false_eq_true, true_implies, false_implies, true_and, and_true, and_self]
  exact hn u _ _ (fun j => by rw [u0 101 (by decide)]; exact fv j) (v1.oth u0) u1
end Law68
