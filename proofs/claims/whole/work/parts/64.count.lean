/-! count -/
noncomputable def p_count (D : Td) (S : Sh) (x : Int) : Int := if x = 0 then D.T else if x = 1 then D.n else if x = 2 then D.lg else if x = 3 then D.k else if x = 4 then (D.cf 255).ho D.T else if x = 5 then (D.cf 255).ch 47 else if x = 6 then (D.cf 255).me D.T else if x = 7 then D.sn else if x = 8 then S.fi else -2
theorem sw_out {x : Int} (h : x < 0 ∨ 8 < x) : ab_sw 0 [1, 2, 3, 4, 5, 6, 7, 8, 9] 10 x = 10 := by
  unfold ab_sw
  by_cases h0 : 0 ≤ x
  · rw [if_pos h0, List.getElem?_eq_none (by simp; omega)]; rfl
  · rw [if_neg h0]
section Count64
variable {Ls d : Nat} {w : ab_W} {q : Option ab_V → ab_W → Prop} {D : Td} {S : Sh}
theorem q_countC (hi : c_inv w D S) {x : Int} {Q' : Option ab_V → ab_W → Prop} (h : Q' (some (vI (p_count D S x))) w) : Sm Ls (d + 5) 85 [vR 0, vI x] w Q' := by
  have f0 : w 15 5 = (D.T : Int) := hi.1.rc.2.2.2.1
  have f1 : w 1 1 = (D.n : Int) := hi.1.1.1
  have f2 : w 0 11 = D.lg := hi.1.2.1
  have f3 : w 3 3 = (D.k : Int) := hi.1.2.2.1.1
  have f7 : w 7 3 = (D.sn : Int) := hi.1.2.2.2.1.1
  have f8 : w 0 12 = S.fi := hi.2.2.1.1
  rw [en_85]
  simp only [↓e_iload1, ↓e_tsw, ↓e_aload0, ↓g_0_4, ↓g_15_5, ↓g_21_5, ↓e_iret, ↓g_0_0, ↓g_1_1, ↓g_0_11, ↓g_0_1, ↓g_3_3, ↓g_7_3, ↓g_11_3, ↓e_cv1, i_0, e_rpn, e_rps, e_few0, e_few1, e_few2, e_few3, e_few4, ↓g_0_2, ↓g_0_12, ↓e_bipush, ↓e_nil, b_85_0, b_85_1, b_85_2, b_85_3, b_85_4, b_85_5, b_85_6, b_85_7, b_85_8, b_85_9, b_85_10]
  rcases (show x = 0 ∨ x = 1 ∨ x = 2 ∨ x = 3 ∨ x = 4 ∨ x = 5 ∨ x = 6 ∨ x = 7 ∨ x = 8 ∨ (x < 0 ∨ 8 < x) by omega) with rfl | rfl | rfl | rfl | rfl | rfl | rfl | rfl | rfl | hx
  · rw [show ab_sw 0 [1, 2, 3, 4, 5, 6, 7, 8, 9] 10 0 = 1 from rfl, ev_85_1]; simp only [↓e_iload1, ↓e_tsw, ↓e_aload0, ↓g_0_4, ↓g_15_5, ↓g_21_5, ↓e_iret, ↓g_0_0, ↓g_1_1, ↓g_0_11, ↓g_0_1, ↓g_3_3, ↓g_7_3, ↓g_11_3, ↓e_cv1, i_0, e_rpn, e_rps, e_few0, e_few1, e_few2, e_few3, e_few4, ↓g_0_2, ↓g_0_12, ↓e_bipush, ↓e_nil, b_85_0, b_85_1, b_85_2, b_85_3, b_85_4, b_85_5, b_85_6, b_85_7, b_85_8, b_85_9, b_85_10, f0]; exact h
  · rw [show ab_sw 0 [1, 2, 3, 4, 5, 6, 7, 8, 9] 10 1 = 2 from rfl, ev_85_2]; simp only [↓e_iload1, ↓e_tsw, ↓e_aload0, ↓g_0_4, ↓g_15_5, ↓g_21_5, ↓e_iret, ↓g_0_0, ↓g_1_1, ↓g_0_11, ↓g_0_1, ↓g_3_3, ↓g_7_3, ↓g_11_3, ↓e_cv1, i_0, e_rpn, e_rps, e_few0, e_few1, e_few2, e_few3, e_few4, ↓g_0_2, ↓g_0_12, ↓e_bipush, ↓e_nil, b_85_0, b_85_1, b_85_2, b_85_3, b_85_4, b_85_5, b_85_6, b_85_7, b_85_8, b_85_9, b_85_10, f1]; exact h
  · rw [show ab_sw 0 [1, 2, 3, 4, 5, 6, 7, 8, 9] 10 2 = 3 from rfl, ev_85_3]; simp only [↓e_iload1, ↓e_tsw, ↓e_aload0, ↓g_0_4, ↓g_15_5, ↓g_21_5, ↓e_iret, ↓g_0_0, ↓g_1_1, ↓g_0_11, ↓g_0_1, ↓g_3_3, ↓g_7_3, ↓g_11_3, ↓e_cv1, i_0, e_rpn, e_rps, e_few0, e_few1, e_few2, e_few3, e_few4, ↓g_0_2, ↓g_0_12, ↓e_bipush, ↓e_nil, b_85_0, b_85_1, b_85_2, b_85_3, b_85_4, b_85_5, b_85_6, b_85_7, b_85_8, b_85_9, b_85_10, f2]; exact h
  · rw [show ab_sw 0 [1, 2, 3, 4, 5, 6, 7, 8, 9] 10 3 = 4 from rfl, ev_85_4]; simp only [↓e_iload1, ↓e_tsw, ↓e_aload0, ↓g_0_4, ↓g_15_5, ↓g_21_5, ↓e_iret, ↓g_0_0, ↓g_1_1, ↓g_0_11, ↓g_0_1, ↓g_3_3, ↓g_7_3, ↓g_11_3, ↓e_cv1, i_0, e_rpn, e_rps, e_few0, e_few1, e_few2, e_few3, e_few4, ↓g_0_2, ↓g_0_12, ↓e_bipush, ↓e_nil, b_85_0, b_85_1, b_85_2, b_85_3, b_85_4, b_85_5, b_85_6, b_85_7, b_85_8, b_85_9, b_85_10, f3]; exact h
  · rw [show ab_sw 0 [1, 2, 3, 4, 5, 6, 7, 8, 9] 10 4 = 5 from rfl, ev_85_5]; simp only [↓e_iload1, ↓e_tsw, ↓e_aload0, ↓g_0_4, ↓g_15_5, ↓g_21_5, ↓e_iret, ↓g_0_0, ↓g_1_1, ↓g_0_11, ↓g_0_1, ↓g_3_3, ↓g_7_3, ↓g_11_3, ↓e_cv1, i_0, e_rpn, e_rps, e_few0, e_few1, e_few2, e_few3, e_few4, ↓g_0_2, ↓g_0_12, ↓e_bipush, ↓e_nil, b_85_0, b_85_1, b_85_2, b_85_3, b_85_4, b_85_5, b_85_6, b_85_7, b_85_8, b_85_9, b_85_10, one0, eq_self, ne_eq, not_true_eq_false, not_false_eq_true, true_implies, false_implies, true_and, and_true, and_self]
    refine q_homesC hi.1 ?_
    simp only [↓e_iload1, ↓e_tsw, ↓e_aload0, ↓g_0_4, ↓g_15_5, ↓g_21_5, ↓e_iret, ↓g_0_0, ↓g_1_1, ↓g_0_11, ↓g_0_1, ↓g_3_3, ↓g_7_3, ↓g_11_3, ↓e_cv1, i_0, e_rpn, e_rps, e_few0, e_few1, e_few2, e_few3, e_few4, ↓g_0_2, ↓g_0_12, ↓e_bipush, ↓e_nil, b_85_0, b_85_1, b_85_2, b_85_3, b_85_4, b_85_5, b_85_6, b_85_7, b_85_8, b_85_9, b_85_10]; exact h
  · rw [show ab_sw 0 [1, 2, 3, 4, 5, 6, 7, 8, 9] 10 5 = 6 from rfl, ev_85_6]; simp only [↓e_iload1, ↓e_tsw, ↓e_aload0, ↓g_0_4, ↓g_15_5, ↓g_21_5, ↓e_iret, ↓g_0_0, ↓g_1_1, ↓g_0_11, ↓g_0_1, ↓g_3_3, ↓g_7_3, ↓g_11_3, ↓e_cv1, i_0, e_rpn, e_rps, e_few0, e_few1, e_few2, e_few3, e_few4, ↓g_0_2, ↓g_0_12, ↓e_bipush, ↓e_nil, b_85_0, b_85_1, b_85_2, b_85_3, b_85_4, b_85_5, b_85_6, b_85_7, b_85_8, b_85_9, b_85_10, one0, eq_self, ne_eq, not_true_eq_false, not_false_eq_true, true_implies, false_implies, true_and, and_true, and_self]
    refine q_changesC hi.1.rc ?_
    simp only [↓e_iload1, ↓e_tsw, ↓e_aload0, ↓g_0_4, ↓g_15_5, ↓g_21_5, ↓e_iret, ↓g_0_0, ↓g_1_1, ↓g_0_11, ↓g_0_1, ↓g_3_3, ↓g_7_3, ↓g_11_3, ↓e_cv1, i_0, e_rpn, e_rps, e_few0, e_few1, e_few2, e_few3, e_few4, ↓g_0_2, ↓g_0_12, ↓e_bipush, ↓e_nil, b_85_0, b_85_1, b_85_2, b_85_3, b_85_4, b_85_5, b_85_6, b_85_7, b_85_8, b_85_9, b_85_10]; exact h
  · rw [show ab_sw 0 [1, 2, 3, 4, 5, 6, 7, 8, 9] 10 6 = 7 from rfl, ev_85_7]; simp only [↓e_iload1, ↓e_tsw, ↓e_aload0, ↓g_0_4, ↓g_15_5, ↓g_21_5, ↓e_iret, ↓g_0_0, ↓g_1_1, ↓g_0_11, ↓g_0_1, ↓g_3_3, ↓g_7_3, ↓g_11_3, ↓e_cv1, i_0, e_rpn, e_rps, e_few0, e_few1, e_few2, e_few3, e_few4, ↓g_0_2, ↓g_0_12, ↓e_bipush, ↓e_nil, b_85_0, b_85_1, b_85_2, b_85_3, b_85_4, b_85_5, b_85_6, b_85_7, b_85_8, b_85_9, b_85_10, one0, eq_self, ne_eq, not_true_eq_false, not_false_eq_true, true_implies, false_implies, true_and, and_true, and_self]
    refine q_metresC hi.1 ?_
    simp only [↓e_iload1, ↓e_tsw, ↓e_aload0, ↓g_0_4, ↓g_15_5, ↓g_21_5, ↓e_iret, ↓g_0_0, ↓g_1_1, ↓g_0_11, ↓g_0_1, ↓g_3_3, ↓g_7_3, ↓g_11_3, ↓e_cv1, i_0, e_rpn, e_rps, e_few0, e_few1, e_few2, e_few3, e_few4, ↓g_0_2, ↓g_0_12, ↓e_bipush, ↓e_nil, b_85_0, b_85_1, b_85_2, b_85_3, b_85_4, b_85_5, b_85_6, b_85_7, b_85_8, b_85_9, b_85_10]; exact h
  · rw [show ab_sw 0 [1, 2, 3, 4, 5, 6, 7, 8, 9] 10 7 = 8 from rfl, ev_85_8]; simp only [↓e_iload1, ↓e_tsw, ↓e_aload0, ↓g_0_4, ↓g_15_5, ↓g_21_5, ↓e_iret, ↓g_0_0, ↓g_1_1, ↓g_0_11, ↓g_0_1, ↓g_3_3, ↓g_7_3, ↓g_11_3, ↓e_cv1, i_0, e_rpn, e_rps, e_few0, e_few1, e_few2, e_few3, e_few4, ↓g_0_2, ↓g_0_12, ↓e_bipush, ↓e_nil, b_85_0, b_85_1, b_85_2, b_85_3, b_85_4, b_85_5, b_85_6, b_85_7, b_85_8, b_85_9, b_85_10, f7]; exact h
  · rw [show ab_sw 0 [1, 2, 3, 4, 5, 6, 7, 8, 9] 10 8 = 9 from rfl, ev_85_9]; simp only [↓e_iload1, ↓e_tsw, ↓e_aload0, ↓g_0_4, ↓g_15_5, ↓g_21_5, ↓e_iret, ↓g_0_0, ↓g_1_1, ↓g_0_11, ↓g_0_1, ↓g_3_3, ↓g_7_3, ↓g_11_3, ↓e_cv1, i_0, e_rpn, e_rps, e_few0, e_few1, e_few2, e_few3, e_few4, ↓g_0_2, ↓g_0_12, ↓e_bipush, ↓e_nil, b_85_0, b_85_1, b_85_2, b_85_3, b_85_4, b_85_5, b_85_6, b_85_7, b_85_8, b_85_9, b_85_10, f8]; exact h
  · rw [sw_out hx, ev_85_10]; simp only [↓e_iload1, ↓e_tsw, ↓e_aload0, ↓g_0_4, ↓g_15_5, ↓g_21_5, ↓e_iret, ↓g_0_0, ↓g_1_1, ↓g_0_11, ↓g_0_1, ↓g_3_3, ↓g_7_3, ↓g_11_3, ↓e_cv1, i_0, e_rpn, e_rps, e_few0, e_few1, e_few2, e_few3, e_few4, ↓g_0_2, ↓g_0_12, ↓e_bipush, ↓e_nil, b_85_0, b_85_1, b_85_2, b_85_3, b_85_4, b_85_5, b_85_6, b_85_7, b_85_8, b_85_9, b_85_10]
    unfold p_count at h
    rw [if_neg (by omega), if_neg (by omega), if_neg (by omega), if_neg (by omega), if_neg (by omega), if_neg (by omega), if_neg (by omega), if_neg (by omega), if_neg (by omega)] at h
    exact h
theorem q_countM (hi : m_inv w D S) {x : Int} {Q' : Option ab_V → ab_W → Prop} (h : ∀ v, m_scr w v → Q' (some (vI (p_count D S x))) v) : Sm Ls (d + 9) 190 [vR 39, vI x] w Q' := by
  have f1 := hi.f0
  have f2 := hi.f5
  have f3 := hi.f6
  have f7 := hi.f7
  have f8 : w 39 37 = S.fi := hi.2.1.1
  have hw := h w (m_scr.refl w)
  rw [en_190]
  simp only [↓e_iload1, ↓e_tsw, ↓e_aload0, ↓e_cv1, i_39, e_rpn, e_rps, e_few0, e_few1, e_few2, e_few3, e_few4, ↓e_iret, ↓g_39_0, ↓g_39_5, ↓g_39_6, ↓g_39_27, ↓g_39_37, ↓e_bipush, ↓e_nil, b_190_0, b_190_1, b_190_2, b_190_3, b_190_4, b_190_5, b_190_6, b_190_7, b_190_8, b_190_9, b_190_10]
  rcases (show x = 0 ∨ x = 1 ∨ x = 2 ∨ x = 3 ∨ x = 4 ∨ x = 5 ∨ x = 6 ∨ x = 7 ∨ x = 8 ∨ (x < 0 ∨ 8 < x) by omega) with rfl | rfl | rfl | rfl | rfl | rfl | rfl | rfl | rfl | hx
  · rw [show ab_sw 0 [1, 2, 3, 4, 5, 6, 7, 8, 9] 10 0 = 1 from rfl, ev_190_1]; simp only [↓e_iload1, ↓e_tsw, ↓e_aload0, ↓e_cv1, i_39, e_rpn, e_rps, e_few0, e_few1, e_few2, e_few3, e_few4, ↓e_iret, ↓g_39_0, ↓g_39_5, ↓g_39_6, ↓g_39_27, ↓g_39_37, ↓e_bipush, ↓e_nil, b_190_0, b_190_1, b_190_2, b_190_3, b_190_4, b_190_5, b_190_6, b_190_7, b_190_8, b_190_9, b_190_10, one0, eq_self, ne_eq, not_true_eq_false, not_false_eq_true, true_implies, false_implies, true_and, and_true, and_self]
    refine q_teamsOf hi.1 (fun v hv => ?_)
    simp only [↓e_iload1, ↓e_tsw, ↓e_aload0, ↓e_cv1, i_39, e_rpn, e_rps, e_few0, e_few1, e_few2, e_few3, e_few4, ↓e_iret, ↓g_39_0, ↓g_39_5, ↓g_39_6, ↓g_39_27, ↓g_39_37, ↓e_bipush, ↓e_nil, b_190_0, b_190_1, b_190_2, b_190_3, b_190_4, b_190_5, b_190_6, b_190_7, b_190_8, b_190_9, b_190_10]; exact h v hv.1
  · rw [show ab_sw 0 [1, 2, 3, 4, 5, 6, 7, 8, 9] 10 1 = 2 from rfl, ev_190_2]; simp only [↓e_iload1, ↓e_tsw, ↓e_aload0, ↓e_cv1, i_39, e_rpn, e_rps, e_few0, e_few1, e_few2, e_few3, e_few4, ↓e_iret, ↓g_39_0, ↓g_39_5, ↓g_39_6, ↓g_39_27, ↓g_39_37, ↓e_bipush, ↓e_nil, b_190_0, b_190_1, b_190_2, b_190_3, b_190_4, b_190_5, b_190_6, b_190_7, b_190_8, b_190_9, b_190_10, f1]; exact hw
  · rw [show ab_sw 0 [1, 2, 3, 4, 5, 6, 7, 8, 9] 10 2 = 3 from rfl, ev_190_3]; simp only [↓e_iload1, ↓e_tsw, ↓e_aload0, ↓e_cv1, i_39, e_rpn, e_rps, e_few0, e_few1, e_few2, e_few3, e_few4, ↓e_iret, ↓g_39_0, ↓g_39_5, ↓g_39_6, ↓g_39_27, ↓g_39_37, ↓e_bipush, ↓e_nil, b_190_0, b_190_1, b_190_2, b_190_3, b_190_4, b_190_5, b_190_6, b_190_7, b_190_8, b_190_9, b_190_10, f2]; exact hw
  · rw [show ab_sw 0 [1, 2, 3, 4, 5, 6, 7, 8, 9] 10 3 = 4 from rfl, ev_190_4]; simp only [↓e_iload1, ↓e_tsw, ↓e_aload0, ↓e_cv1, i_39, e_rpn, e_rps, e_few0, e_few1, e_few2, e_few3, e_few4, ↓e_iret, ↓g_39_0, ↓g_39_5, ↓g_39_6, ↓g_39_27, ↓g_39_37, ↓e_bipush, ↓e_nil, b_190_0, b_190_1, b_190_2, b_190_3, b_190_4, b_190_5, b_190_6, b_190_7, b_190_8, b_190_9, b_190_10, f3]; exact hw
  · rw [show ab_sw 0 [1, 2, 3, 4, 5, 6, 7, 8, 9] 10 4 = 5 from rfl, ev_190_5]; simp only [↓e_iload1, ↓e_tsw, ↓e_aload0, ↓e_cv1, i_39, e_rpn, e_rps, e_few0, e_few1, e_few2, e_few3, e_few4, ↓e_iret, ↓g_39_0, ↓g_39_5, ↓g_39_6, ↓g_39_27, ↓g_39_37, ↓e_bipush, ↓e_nil, b_190_0, b_190_1, b_190_2, b_190_3, b_190_4, b_190_5, b_190_6, b_190_7, b_190_8, b_190_9, b_190_10, one0, eq_self, ne_eq, not_true_eq_false, not_false_eq_true, true_implies, false_implies, true_and, and_true, and_self]
    refine q_homesOf hi.1 (fun v hv => ?_)
    simp only [↓e_iload1, ↓e_tsw, ↓e_aload0, ↓e_cv1, i_39, e_rpn, e_rps, e_few0, e_few1, e_few2, e_few3, e_few4, ↓e_iret, ↓g_39_0, ↓g_39_5, ↓g_39_6, ↓g_39_27, ↓g_39_37, ↓e_bipush, ↓e_nil, b_190_0, b_190_1, b_190_2, b_190_3, b_190_4, b_190_5, b_190_6, b_190_7, b_190_8, b_190_9, b_190_10]; exact h v hv.1
  · rw [show ab_sw 0 [1, 2, 3, 4, 5, 6, 7, 8, 9] 10 5 = 6 from rfl, ev_190_6]; simp only [↓e_iload1, ↓e_tsw, ↓e_aload0, ↓e_cv1, i_39, e_rpn, e_rps, e_few0, e_few1, e_few2, e_few3, e_few4, ↓e_iret, ↓g_39_0, ↓g_39_5, ↓g_39_6, ↓g_39_27, ↓g_39_37, ↓e_bipush, ↓e_nil, b_190_0, b_190_1, b_190_2, b_190_3, b_190_4, b_190_5, b_190_6, b_190_7, b_190_8, b_190_9, b_190_10, one0, eq_self, ne_eq, not_true_eq_false, not_false_eq_true, true_implies, false_implies, true_and, and_true, and_self]
    refine q_changesOf hi.1 (fun v hv => ?_)
    simp only [↓e_iload1, ↓e_tsw, ↓e_aload0, ↓e_cv1, i_39, e_rpn, e_rps, e_few0, e_few1, e_few2, e_few3, e_few4, ↓e_iret, ↓g_39_0, ↓g_39_5, ↓g_39_6, ↓g_39_27, ↓g_39_37, ↓e_bipush, ↓e_nil, b_190_0, b_190_1, b_190_2, b_190_3, b_190_4, b_190_5, b_190_6, b_190_7, b_190_8, b_190_9, b_190_10]; exact h v hv.1
  · rw [show ab_sw 0 [1, 2, 3, 4, 5, 6, 7, 8, 9] 10 6 = 7 from rfl, ev_190_7]; simp only [↓e_iload1, ↓e_tsw, ↓e_aload0, ↓e_cv1, i_39, e_rpn, e_rps, e_few0, e_few1, e_few2, e_few3, e_few4, ↓e_iret, ↓g_39_0, ↓g_39_5, ↓g_39_6, ↓g_39_27, ↓g_39_37, ↓e_bipush, ↓e_nil, b_190_0, b_190_1, b_190_2, b_190_3, b_190_4, b_190_5, b_190_6, b_190_7, b_190_8, b_190_9, b_190_10, one0, eq_self, ne_eq, not_true_eq_false, not_false_eq_true, true_implies, false_implies, true_and, and_true, and_self]
    refine q_allMetres hi.1 (fun v hv => ?_)
    simp only [↓e_iload1, ↓e_tsw, ↓e_aload0, ↓e_cv1, i_39, e_rpn, e_rps, e_few0, e_few1, e_few2, e_few3, e_few4, ↓e_iret, ↓g_39_0, ↓g_39_5, ↓g_39_6, ↓g_39_27, ↓g_39_37, ↓e_bipush, ↓e_nil, b_190_0, b_190_1, b_190_2, b_190_3, b_190_4, b_190_5, b_190_6, b_190_7, b_190_8, b_190_9, b_190_10]; exact h v hv.1
  · rw [show ab_sw 0 [1, 2, 3, 4, 5, 6, 7, 8, 9] 10 7 = 8 from rfl, ev_190_8]; simp only [↓e_iload1, ↓e_tsw, ↓e_aload0, ↓e_cv1, i_39, e_rpn, e_rps, e_few0, e_few1, e_few2, e_few3, e_few4, ↓e_iret, ↓g_39_0, ↓g_39_5, ↓g_39_6, ↓g_39_27, ↓g_39_37, ↓e_bipush, ↓e_nil, b_190_0, b_190_1, b_190_2, b_190_3, b_190_4, b_190_5, b_190_6, b_190_7, b_190_8, b_190_9, b_190_10, f7]; exact hw
  · rw [show ab_sw 0 [1, 2, 3, 4, 5, 6, 7, 8, 9] 10 8 = 9 from rfl, ev_190_9]; simp only [↓e_iload1, ↓e_tsw, ↓e_aload0, ↓e_cv1, i_39, e_rpn, e_rps, e_few0, e_few1, e_few2, e_few3, e_few4, ↓e_iret, ↓g_39_0, ↓g_39_5, ↓g_39_6, ↓g_39_27, ↓g_39_37, ↓e_bipush, ↓e_nil, b_190_0, b_190_1, b_190_2, b_190_3, b_190_4, b_190_5, b_190_6, b_190_7, b_190_8, b_190_9, b_190_10, f8]; exact hw
  · rw [sw_out hx, ev_190_10]; simp only [↓e_iload1, ↓e_tsw, ↓e_aload0, ↓e_cv1, i_39, e_rpn, e_rps, e_few0, e_few1, e_few2, e_few3, e_few4, ↓e_iret, ↓g_39_0, ↓g_39_5, ↓g_39_6, ↓g_39_27, ↓g_39_37, ↓e_bipush, ↓e_nil, b_190_0, b_190_1, b_190_2, b_190_3, b_190_4, b_190_5, b_190_6, b_190_7, b_190_8, b_190_9, b_190_10]
    unfold p_count at hw
    rw [if_neg (by omega), if_neg (by omega), if_neg (by omega), if_neg (by omega), if_neg (by omega), if_neg (by omega), if_neg (by omega), if_neg (by omega), if_neg (by omega)] at hw
    exact hw
end Count64
