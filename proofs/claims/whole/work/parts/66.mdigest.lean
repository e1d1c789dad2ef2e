/-! the model's digest -/
section MDigest66
variable {Ls d : Nat} {w : ab_W} {q : Option ab_V → ab_W → Prop} {D : Td} {S : Sh}
theorem q_atDg (ht : m_told w D) (hr : m_rd w D) {h : Int} {m t : Nat} (hm : m < 48) (htT : t < D.T) {Q' : Option ab_V → ab_W → Prop} (hQ : ∀ v, m_post D w v → Q' (some (vL (hf (fun x => (D.cf 255).at' m t x) h 3))) v) : Sm Ls (d + 9) 191 [vR 39, vL h, vI m, vI t] w Q' := by
  have loop : ∀ (k x : Nat), x + k = 3 → ∀ v, m_post D w v → Ev Ls (Sm Ls (d + 8)) Q' bk_191 1 [vR 39, vL h, vX, vI m, vI t, vL (hf (fun x => (D.cf 255).at' m t x) h x), vX, vI x] [] v := by
    intro k
    induction k with
    | zero =>
      intro x hx v hv
      have : x = 3 := by omega
      subst this
      rw [ev_191_1]
      simp only [↓e_lload1, ↓e_lstore5, e_klI, e_klR, e_klX, e_klL, ↓e_iconst, ↓e_istore7, ↓e_iload7, ↓e_cmp_ge, ↓e_ldc2_w, ↓e_lload5, ↓e_lmul, ↓e_aload0, ↓e_iload3, ↓e_iload4, ↓e_cv4, i_39, e_rpn, e_rps, e_few0, e_few1, e_few2, e_few3, e_few4, ↓e_i2l, ↓e_ladd, ↓e_iinc7, ↓e_goto, ↓e_lret, ↓e_nil, b_191_0, b_191_1, b_191_2, ↓ev_191_2]
      exact ⟨fun _ => hQ v hv, fun z => absurd (by decide) z⟩
    | succ k ih =>
      intro x hx v hv
      have hno : ¬ 3 ≤ (x : Int) := by omega
      have hnext := fun u hu => ih (x + 1) (by omega) u hu
      rw [hf_s] at hnext
      have w1 : iW ((x : Int) + 1) = (x : Int) + 1 := iW_id (by omega) (by omega)
      rw [ev_191_1]
      simp only [↓e_lload1, ↓e_lstore5, e_klI, e_klR, e_klX, e_klL, ↓e_iconst, ↓e_istore7, ↓e_iload7, ↓e_cmp_ge, ↓e_ldc2_w, ↓e_lload5, ↓e_lmul, ↓e_aload0, ↓e_iload3, ↓e_iload4, ↓e_cv4, i_39, e_rpn, e_rps, e_few0, e_few1, e_few2, e_few3, e_few4, ↓e_i2l, ↓e_ladd, ↓e_iinc7, ↓e_goto, ↓e_lret, ↓e_nil, b_191_0, b_191_1, b_191_2, hno, one0, eq_self, ne_eq, not_true_eq_false, not_false_eq_true, true_implies, false_implies, true_and, and_true, and_self]
      refine q_atOf (hv.told ht) hm htT (fun u hu => ?_)
      simp only [↓e_lload1, ↓e_lstore5, e_klI, e_klR, e_klX, e_klL, ↓e_iconst, ↓e_istore7, ↓e_iload7, ↓e_cmp_ge, ↓e_ldc2_w, ↓e_lload5, ↓e_lmul, ↓e_aload0, ↓e_iload3, ↓e_iload4, ↓e_cv4, i_39, e_rpn, e_rps, e_few0, e_few1, e_few2, e_few3, e_few4, ↓e_i2l, ↓e_ladd, ↓e_iinc7, ↓e_goto, ↓e_lret, ↓e_nil, b_191_0, b_191_1, b_191_2, hs_e, w1]
      exact hnext u (hv.trans hu)
  have h0 := loop 3 0 (by omega) w ⟨m_scr.refl w, hr⟩
  rw [en_191]
  simp only [↓e_lload1, ↓e_lstore5, e_klI, e_klR, e_klX, e_klL, ↓e_iconst, ↓e_istore7, ↓e_iload7, ↓e_cmp_ge, ↓e_ldc2_w, ↓e_lload5, ↓e_lmul, ↓e_aload0, ↓e_iload3, ↓e_iload4, ↓e_cv4, i_39, e_rpn, e_rps, e_few0, e_few1, e_few2, e_few3, e_few4, ↓e_i2l, ↓e_ladd, ↓e_iinc7, ↓e_goto, ↓e_lret, ↓e_nil, b_191_0, b_191_1, b_191_2]
  exact h0
theorem q_legDg (ht : m_told w D) (hr : m_rd w D) {h : Int} {t l : Nat} (htT : t < D.T) (hl : l < 4) {Q' : Option ab_V → ab_W → Prop} (hQ : ∀ v, m_post D w v → Q' (some (vL (dl D t h l))) v) : Sm Ls (d + 9) 192 [vR 39, vL h, vI t, vI l] w Q' := by
  have hT4 := Td.T4 ht.ok
  unfold dl at hQ
  obtain ⟨w1, w2⟩ : iW (4 * (t : Int)) = 4 * (t : Int) ∧ iW (4 * (t : Int) + l) = 4 * (t : Int) + l := ⟨iW_id (by omega) (by omega), iW_id (by omega) (by omega)⟩
  rw [en_192]
  simp only [↓e_iconst, ↓e_iload3, ↓e_imul, ↓e_iload4, ↓e_iadd, ↓e_istore5, e_klI, e_klR, e_klX, e_klL, ↓e_ldc2_w, ↓e_lload1, ↓e_lmul, ↓e_aload0, ↓e_cv4, i_39, e_rpn, e_rps, e_few0, e_few1, e_few2, e_few3, e_few4, ↓e_i2l, ↓e_ladd, ↓e_lstore6, ↓e_lload6, ↓e_cv3, ↓e_iload5, ↓e_cv2, ↓e_lret, ↓e_nil, b_192_0, w1, w2, one0, eq_self, ne_eq, not_true_eq_false, not_false_eq_true, true_implies, false_implies, true_and, and_true, and_self]
  refine q_runnerOf hr htT hT4 hl ?_
  rw [if_pos rfl]
  simp only [↓e_iconst, ↓e_iload3, ↓e_imul, ↓e_iload4, ↓e_iadd, ↓e_istore5, e_klI, e_klR, e_klX, e_klL, ↓e_ldc2_w, ↓e_lload1, ↓e_lmul, ↓e_aload0, ↓e_cv4, i_39, e_rpn, e_rps, e_few0, e_few1, e_few2, e_few3, e_few4, ↓e_i2l, ↓e_ladd, ↓e_lstore6, ↓e_lload6, ↓e_cv3, ↓e_iload5, ↓e_cv2, ↓e_lret, ↓e_nil, b_192_0, hs_e, one0, eq_self, ne_eq, not_true_eq_false, not_false_eq_true, true_implies, false_implies, true_and, and_true, and_self]
  refine q_runnerOf hr htT hT4 hl ?_
  rw [if_neg (by decide)]
  simp only [↓e_iconst, ↓e_iload3, ↓e_imul, ↓e_iload4, ↓e_iadd, ↓e_istore5, e_klI, e_klR, e_klX, e_klL, ↓e_ldc2_w, ↓e_lload1, ↓e_lmul, ↓e_aload0, ↓e_cv4, i_39, e_rpn, e_rps, e_few0, e_few1, e_few2, e_few3, e_few4, ↓e_i2l, ↓e_ladd, ↓e_lstore6, ↓e_lload6, ↓e_cv3, ↓e_iload5, ↓e_cv2, ↓e_lret, ↓e_nil, b_192_0, hs_e, one0, eq_self, ne_eq, not_true_eq_false, not_false_eq_true, true_implies, false_implies, true_and, and_true, and_self]
  refine q_lastedOf ht htT hl (fun x hx => ?_)
  simp only [↓e_iconst, ↓e_iload3, ↓e_imul, ↓e_iload4, ↓e_iadd, ↓e_istore5, e_klI, e_klR, e_klX, e_klL, ↓e_ldc2_w, ↓e_lload1, ↓e_lmul, ↓e_aload0, ↓e_cv4, i_39, e_rpn, e_rps, e_few0, e_few1, e_few2, e_few3, e_few4, ↓e_i2l, ↓e_ladd, ↓e_lstore6, ↓e_lload6, ↓e_cv3, ↓e_iload5, ↓e_cv2, ↓e_lret, ↓e_nil, b_192_0, hs_e, one0, eq_self, ne_eq, not_true_eq_false, not_false_eq_true, true_implies, false_implies, true_and, and_true, and_self]
  refine q_pacesBy (hx.told ht) htT hl (fun y hy _ => ?_)
  have hy := hx.trans hy
  simp only [↓e_iconst, ↓e_iload3, ↓e_imul, ↓e_iload4, ↓e_iadd, ↓e_istore5, e_klI, e_klR, e_klX, e_klL, ↓e_ldc2_w, ↓e_lload1, ↓e_lmul, ↓e_aload0, ↓e_cv4, i_39, e_rpn, e_rps, e_few0, e_few1, e_few2, e_few3, e_few4, ↓e_i2l, ↓e_ladd, ↓e_lstore6, ↓e_lload6, ↓e_cv3, ↓e_iload5, ↓e_cv2, ↓e_lret, ↓e_nil, b_192_0, hs_e, one0, eq_self, ne_eq, not_true_eq_false, not_false_eq_true, true_implies, false_implies, true_and, and_true, and_self]
  refine q_sortsBy (hy.told ht) htT hl (fun z hz => ?_)
  have hz := hy.trans hz
  simp only [↓e_iconst, ↓e_iload3, ↓e_imul, ↓e_iload4, ↓e_iadd, ↓e_istore5, e_klI, e_klR, e_klX, e_klL, ↓e_ldc2_w, ↓e_lload1, ↓e_lmul, ↓e_aload0, ↓e_cv4, i_39, e_rpn, e_rps, e_few0, e_few1, e_few2, e_few3, e_few4, ↓e_i2l, ↓e_ladd, ↓e_lstore6, ↓e_lload6, ↓e_cv3, ↓e_iload5, ↓e_cv2, ↓e_lret, ↓e_nil, b_192_0, hs_e, one0, eq_self, ne_eq, not_true_eq_false, not_false_eq_true, true_implies, false_implies, true_and, and_true, and_self]
  refine q_askOf (hz.told ht) htT hl (fun u hu => ?_)
  simp only [↓e_iconst, ↓e_iload3, ↓e_imul, ↓e_iload4, ↓e_iadd, ↓e_istore5, e_klI, e_klR, e_klX, e_klL, ↓e_ldc2_w, ↓e_lload1, ↓e_lmul, ↓e_aload0, ↓e_cv4, i_39, e_rpn, e_rps, e_few0, e_few1, e_few2, e_few3, e_few4, ↓e_i2l, ↓e_ladd, ↓e_lstore6, ↓e_lload6, ↓e_cv3, ↓e_iload5, ↓e_cv2, ↓e_lret, ↓e_nil, b_192_0, hs_e, one0, eq_self, ne_eq, not_true_eq_false, not_false_eq_true, true_implies, false_implies, true_and, and_true, and_self]
  exact hQ u (hz.trans hu)
set_option maxHeartbeats 2000000 in
theorem q_teamDg (ht : m_told w D) (hr : m_rd w D) {h : Int} {t : Nat} (htT : t < D.T) {Q' : Option ab_V → ab_W → Prop} (hQ : ∀ v, m_post D w v → Q' (some (vL (dpl D t (dls D t (dms D t h 5) 4)))) v) : Sm Ls (d + 10) 193 [vR 39, vL h, vI t] w Q' := by
  have hT4 := Td.T4 ht.ok
  have plans : ∀ (k i : Nat), i + k = 5 → ∀ v, m_post D w v → Ev Ls (Sm Ls (d + 9)) Q' bk_193 3 [vR 39, vL h, vX, vI t, vL (hf (fun i => (D.cf 255).orda t i) (hs (hs (dls D t (dms D t h 5) 4) ((D.cf 255).H t)) ((D.cf 255).D t)) i), vX, vI i] [] v := by
    intro k
    induction k with
    | zero =>
      intro i hi v hv
      have : i = 5 := by omega
      subst this
      unfold dpl at hQ
      rw [ev_193_3]
      simp only [↓e_lload1, ↓e_lstore4, e_klI, e_klR, e_klX, e_klL, ↓e_aload0, ↓e_lload4, ↓e_iconst, ↓e_iload3, ↓e_cv4, i_39, e_rpn, e_rps, e_few0, e_few1, e_few2, e_few3, e_few4, ↓e_bipush, ↓e_istore6, ↓e_iload6, ↓e_cmp_ge, ↓e_iinc6, ↓e_goto, ↓e_ldc2_w, ↓e_lmul, ↓e_cv2, ↓e_i2l, ↓e_ladd, ↓e_cv3, ↓e_lret, ↓e_nil, b_193_0, b_193_1, b_193_2, b_193_3, b_193_4]
      refine ⟨fun _ => ?_, fun z => absurd (by decide) z⟩
      rw [ev_193_4]
      simp only [↓e_lload1, ↓e_lstore4, e_klI, e_klR, e_klX, e_klL, ↓e_aload0, ↓e_lload4, ↓e_iconst, ↓e_iload3, ↓e_cv4, i_39, e_rpn, e_rps, e_few0, e_few1, e_few2, e_few3, e_few4, ↓e_bipush, ↓e_istore6, ↓e_iload6, ↓e_cmp_ge, ↓e_iinc6, ↓e_goto, ↓e_ldc2_w, ↓e_lmul, ↓e_cv2, ↓e_i2l, ↓e_ladd, ↓e_cv3, ↓e_lret, ↓e_nil, b_193_0, b_193_1, b_193_2, b_193_3, b_193_4, one0, eq_self, ne_eq, not_true_eq_false, not_false_eq_true, true_implies, false_implies, true_and, and_true, and_self]
      refine q_trainOf (hv.told ht) htT (fun x hx => ?_)
      have hx := hv.trans hx
      rw [if_pos rfl]
      simp only [↓e_lload1, ↓e_lstore4, e_klI, e_klR, e_klX, e_klL, ↓e_aload0, ↓e_lload4, ↓e_iconst, ↓e_iload3, ↓e_cv4, i_39, e_rpn, e_rps, e_few0, e_few1, e_few2, e_few3, e_few4, ↓e_bipush, ↓e_istore6, ↓e_iload6, ↓e_cmp_ge, ↓e_iinc6, ↓e_goto, ↓e_ldc2_w, ↓e_lmul, ↓e_cv2, ↓e_i2l, ↓e_ladd, ↓e_cv3, ↓e_lret, ↓e_nil, b_193_0, b_193_1, b_193_2, b_193_3, b_193_4, hs_e, one0, eq_self, ne_eq, not_true_eq_false, not_false_eq_true, true_implies, false_implies, true_and, and_true, and_self]
      refine q_trainOf (hx.told ht) htT (fun y hy => ?_)
      have hy := hx.trans hy
      rw [if_neg (by decide)]
      simp only [↓e_lload1, ↓e_lstore4, e_klI, e_klR, e_klX, e_klL, ↓e_aload0, ↓e_lload4, ↓e_iconst, ↓e_iload3, ↓e_cv4, i_39, e_rpn, e_rps, e_few0, e_few1, e_few2, e_few3, e_few4, ↓e_bipush, ↓e_istore6, ↓e_iload6, ↓e_cmp_ge, ↓e_iinc6, ↓e_goto, ↓e_ldc2_w, ↓e_lmul, ↓e_cv2, ↓e_i2l, ↓e_ladd, ↓e_cv3, ↓e_lret, ↓e_nil, b_193_0, b_193_1, b_193_2, b_193_3, b_193_4, hs_e, one0, eq_self, ne_eq, not_true_eq_false, not_false_eq_true, true_implies, false_implies, true_and, and_true, and_self]
      refine q_fitOf (hy.told ht) (fun z hz => ?_)
      have hz := hy.trans hz
      simp only [↓e_lload1, ↓e_lstore4, e_klI, e_klR, e_klX, e_klL, ↓e_aload0, ↓e_lload4, ↓e_iconst, ↓e_iload3, ↓e_cv4, i_39, e_rpn, e_rps, e_few0, e_few1, e_few2, e_few3, e_few4, ↓e_bipush, ↓e_istore6, ↓e_iload6, ↓e_cmp_ge, ↓e_iinc6, ↓e_goto, ↓e_ldc2_w, ↓e_lmul, ↓e_cv2, ↓e_i2l, ↓e_ladd, ↓e_cv3, ↓e_lret, ↓e_nil, b_193_0, b_193_1, b_193_2, b_193_3, b_193_4, hs_e, one0, eq_self, ne_eq, not_true_eq_false, not_false_eq_true, true_implies, false_implies, true_and, and_true, and_self]
      refine q_chanceOf (C := 5) (hz.told ht) (by decide) (fun u hu => ?_)
      have hu := hz.trans hu
      simp only [↓e_lload1, ↓e_lstore4, e_klI, e_klR, e_klX, e_klL, ↓e_aload0, ↓e_lload4, ↓e_iconst, ↓e_iload3, ↓e_cv4, i_39, e_rpn, e_rps, e_few0, e_few1, e_few2, e_few3, e_few4, ↓e_bipush, ↓e_istore6, ↓e_iload6, ↓e_cmp_ge, ↓e_iinc6, ↓e_goto, ↓e_ldc2_w, ↓e_lmul, ↓e_cv2, ↓e_i2l, ↓e_ladd, ↓e_cv3, ↓e_lret, ↓e_nil, b_193_0, b_193_1, b_193_2, b_193_3, b_193_4, hs_e, one0, eq_self, ne_eq, not_true_eq_false, not_false_eq_true, true_implies, false_implies, true_and, and_true, and_self]
      refine q_chanceOf (C := 5) (hu.told ht) (by decide) (fun u2 hu2 => ?_)
      simp only [↓e_lload1, ↓e_lstore4, e_klI, e_klR, e_klX, e_klL, ↓e_aload0, ↓e_lload4, ↓e_iconst, ↓e_iload3, ↓e_cv4, i_39, e_rpn, e_rps, e_few0, e_few1, e_few2, e_few3, e_few4, ↓e_bipush, ↓e_istore6, ↓e_iload6, ↓e_cmp_ge, ↓e_iinc6, ↓e_goto, ↓e_ldc2_w, ↓e_lmul, ↓e_cv2, ↓e_i2l, ↓e_ladd, ↓e_cv3, ↓e_lret, ↓e_nil, b_193_0, b_193_1, b_193_2, b_193_3, b_193_4, hs_e, one0, eq_self, ne_eq, not_true_eq_false, not_false_eq_true, true_implies, false_implies, true_and, and_true, and_self]
      exact hQ u2 (hu.trans hu2)
    | succ k ih =>
      intro i hi v hv
      have hno : ¬ 5 ≤ (i : Int) := by omega
      have hnext := fun u hu => ih (i + 1) (by omega) u hu
      rw [hf_s] at hnext
      have w1 : iW ((i : Int) + 1) = (i : Int) + 1 := iW_id (by omega) (by omega)
      rw [ev_193_3]
      simp only [↓e_lload1, ↓e_lstore4, e_klI, e_klR, e_klX, e_klL, ↓e_aload0, ↓e_lload4, ↓e_iconst, ↓e_iload3, ↓e_cv4, i_39, e_rpn, e_rps, e_few0, e_few1, e_few2, e_few3, e_few4, ↓e_bipush, ↓e_istore6, ↓e_iload6, ↓e_cmp_ge, ↓e_iinc6, ↓e_goto, ↓e_ldc2_w, ↓e_lmul, ↓e_cv2, ↓e_i2l, ↓e_ladd, ↓e_cv3, ↓e_lret, ↓e_nil, b_193_0, b_193_1, b_193_2, b_193_3, b_193_4, hno, one0, eq_self, ne_eq, not_true_eq_false, not_false_eq_true, true_implies, false_implies, true_and, and_true, and_self]
      refine q_orderOf (hv.told ht) htT (by clear w1; omega) (fun u hu => ?_)
      simp only [↓e_lload1, ↓e_lstore4, e_klI, e_klR, e_klX, e_klL, ↓e_aload0, ↓e_lload4, ↓e_iconst, ↓e_iload3, ↓e_cv4, i_39, e_rpn, e_rps, e_few0, e_few1, e_few2, e_few3, e_few4, ↓e_bipush, ↓e_istore6, ↓e_iload6, ↓e_cmp_ge, ↓e_iinc6, ↓e_goto, ↓e_ldc2_w, ↓e_lmul, ↓e_cv2, ↓e_i2l, ↓e_ladd, ↓e_cv3, ↓e_lret, ↓e_nil, b_193_0, b_193_1, b_193_2, b_193_3, b_193_4, hs_e, w1]
      exact hnext u (hv.trans hu)
  have legs : ∀ (k l : Nat), l + k = 4 → ∀ v, m_post D w v → Ev Ls (Sm Ls (d + 9)) Q' bk_193 1 [vR 39, vL h, vX, vI t, vL (dls D t (dms D t h 5) l), vX, vI l] [] v := by
    intro k
    induction k with
    | zero =>
      intro l hl v hv
      have : l = 4 := by omega
      subst this
      rw [ev_193_1]
      simp only [↓e_lload1, ↓e_lstore4, e_klI, e_klR, e_klX, e_klL, ↓e_aload0, ↓e_lload4, ↓e_iconst, ↓e_iload3, ↓e_cv4, i_39, e_rpn, e_rps, e_few0, e_few1, e_few2, e_few3, e_few4, ↓e_bipush, ↓e_istore6, ↓e_iload6, ↓e_cmp_ge, ↓e_iinc6, ↓e_goto, ↓e_ldc2_w, ↓e_lmul, ↓e_cv2, ↓e_i2l, ↓e_ladd, ↓e_cv3, ↓e_lret, ↓e_nil, b_193_0, b_193_1, b_193_2, b_193_3, b_193_4]
      refine ⟨fun _ => ?_, fun z => absurd (by decide) z⟩
      rw [ev_193_2]
      simp only [↓e_lload1, ↓e_lstore4, e_klI, e_klR, e_klX, e_klL, ↓e_aload0, ↓e_lload4, ↓e_iconst, ↓e_iload3, ↓e_cv4, i_39, e_rpn, e_rps, e_few0, e_few1, e_few2, e_few3, e_few4, ↓e_bipush, ↓e_istore6, ↓e_iload6, ↓e_cmp_ge, ↓e_iinc6, ↓e_goto, ↓e_ldc2_w, ↓e_lmul, ↓e_cv2, ↓e_i2l, ↓e_ladd, ↓e_cv3, ↓e_lret, ↓e_nil, b_193_0, b_193_1, b_193_2, b_193_3, b_193_4, one0, eq_self, ne_eq, not_true_eq_false, not_false_eq_true, true_implies, false_implies, true_and, and_true, and_self]
      refine q_homeOfM (hv.told ht) htT (fun x hx => ?_)
      have hx := hv.trans hx
      simp only [↓e_lload1, ↓e_lstore4, e_klI, e_klR, e_klX, e_klL, ↓e_aload0, ↓e_lload4, ↓e_iconst, ↓e_iload3, ↓e_cv4, i_39, e_rpn, e_rps, e_few0, e_few1, e_few2, e_few3, e_few4, ↓e_bipush, ↓e_istore6, ↓e_iload6, ↓e_cmp_ge, ↓e_iinc6, ↓e_goto, ↓e_ldc2_w, ↓e_lmul, ↓e_cv2, ↓e_i2l, ↓e_ladd, ↓e_cv3, ↓e_lret, ↓e_nil, b_193_0, b_193_1, b_193_2, b_193_3, b_193_4, hs_e, one0, eq_self, ne_eq, not_true_eq_false, not_false_eq_true, true_implies, false_implies, true_and, and_true, and_self]
      refine q_stoodOfM (hx.told ht) htT (fun y hy => ?_)
      have hy := hx.trans hy
      simp only [↓e_lload1, ↓e_lstore4, e_klI, e_klR, e_klX, e_klL, ↓e_aload0, ↓e_lload4, ↓e_iconst, ↓e_iload3, ↓e_cv4, i_39, e_rpn, e_rps, e_few0, e_few1, e_few2, e_few3, e_few4, ↓e_bipush, ↓e_istore6, ↓e_iload6, ↓e_cmp_ge, ↓e_iinc6, ↓e_goto, ↓e_ldc2_w, ↓e_lmul, ↓e_cv2, ↓e_i2l, ↓e_ladd, ↓e_cv3, ↓e_lret, ↓e_nil, b_193_0, b_193_1, b_193_2, b_193_3, b_193_4, hs_e]
      exact plans 5 0 (by omega) y hy
    | succ k ih =>
      intro l hl v hv
      have hno : ¬ 4 ≤ (l : Int) := by omega
      have w1 : iW ((l : Int) + 1) = (l : Int) + 1 := iW_id (by omega) (by omega)
      rw [ev_193_1]
      simp only [↓e_lload1, ↓e_lstore4, e_klI, e_klR, e_klX, e_klL, ↓e_aload0, ↓e_lload4, ↓e_iconst, ↓e_iload3, ↓e_cv4, i_39, e_rpn, e_rps, e_few0, e_few1, e_few2, e_few3, e_few4, ↓e_bipush, ↓e_istore6, ↓e_iload6, ↓e_cmp_ge, ↓e_iinc6, ↓e_goto, ↓e_ldc2_w, ↓e_lmul, ↓e_cv2, ↓e_i2l, ↓e_ladd, ↓e_cv3, ↓e_lret, ↓e_nil, b_193_0, b_193_1, b_193_2, b_193_3, b_193_4, hno, one0, eq_self, ne_eq, not_true_eq_false, not_false_eq_true, true_implies, false_implies, true_and, and_true, and_self]
      refine q_legDg (hv.told ht) hv.2 htT (by clear w1; omega) (fun u hu => ?_)
      simp only [↓e_lload1, ↓e_lstore4, e_klI, e_klR, e_klX, e_klL, ↓e_aload0, ↓e_lload4, ↓e_iconst, ↓e_iload3, ↓e_cv4, i_39, e_rpn, e_rps, e_few0, e_few1, e_few2, e_few3, e_few4, ↓e_bipush, ↓e_istore6, ↓e_iload6, ↓e_cmp_ge, ↓e_iinc6, ↓e_goto, ↓e_ldc2_w, ↓e_lmul, ↓e_cv2, ↓e_i2l, ↓e_ladd, ↓e_cv3, ↓e_lret, ↓e_nil, b_193_0, b_193_1, b_193_2, b_193_3, b_193_4, w1]
      exact ih (l + 1) (by clear w1; omega) u (hv.trans hu)
  have h0 : m_post D w w := ⟨m_scr.refl w, hr⟩
  rw [en_193]
  simp only [↓e_lload1, ↓e_lstore4, e_klI, e_klR, e_klX, e_klL, ↓e_aload0, ↓e_lload4, ↓e_iconst, ↓e_iload3, ↓e_cv4, i_39, e_rpn, e_rps, e_few0, e_few1, e_few2, e_few3, e_few4, ↓e_bipush, ↓e_istore6, ↓e_iload6, ↓e_cmp_ge, ↓e_iinc6, ↓e_goto, ↓e_ldc2_w, ↓e_lmul, ↓e_cv2, ↓e_i2l, ↓e_ladd, ↓e_cv3, ↓e_lret, ↓e_nil, b_193_0, b_193_1, b_193_2, b_193_3, b_193_4, one0, eq_self, ne_eq, not_true_eq_false, not_false_eq_true, true_implies, false_implies, true_and, and_true, and_self]
  refine q_atDg (m := 0) ht hr (by decide) htT (fun x1 h1 => ?_)
  simp only [↓e_lload1, ↓e_lstore4, e_klI, e_klR, e_klX, e_klL, ↓e_aload0, ↓e_lload4, ↓e_iconst, ↓e_iload3, ↓e_cv4, i_39, e_rpn, e_rps, e_few0, e_few1, e_few2, e_few3, e_few4, ↓e_bipush, ↓e_istore6, ↓e_iload6, ↓e_cmp_ge, ↓e_iinc6, ↓e_goto, ↓e_ldc2_w, ↓e_lmul, ↓e_cv2, ↓e_i2l, ↓e_ladd, ↓e_cv3, ↓e_lret, ↓e_nil, b_193_0, b_193_1, b_193_2, b_193_3, b_193_4, one0, eq_self, ne_eq, not_true_eq_false, not_false_eq_true, true_implies, false_implies, true_and, and_true, and_self]
  refine q_atDg (m := 9) (h1.told ht) h1.2 (by decide) htT (fun x2 h2 => ?_)
  have h2 := h1.trans h2
  simp only [↓e_lload1, ↓e_lstore4, e_klI, e_klR, e_klX, e_klL, ↓e_aload0, ↓e_lload4, ↓e_iconst, ↓e_iload3, ↓e_cv4, i_39, e_rpn, e_rps, e_few0, e_few1, e_few2, e_few3, e_few4, ↓e_bipush, ↓e_istore6, ↓e_iload6, ↓e_cmp_ge, ↓e_iinc6, ↓e_goto, ↓e_ldc2_w, ↓e_lmul, ↓e_cv2, ↓e_i2l, ↓e_ladd, ↓e_cv3, ↓e_lret, ↓e_nil, b_193_0, b_193_1, b_193_2, b_193_3, b_193_4, one0, eq_self, ne_eq, not_true_eq_false, not_false_eq_true, true_implies, false_implies, true_and, and_true, and_self]
  refine q_atDg (m := 18) (h2.told ht) h2.2 (by decide) htT (fun x3 h3 => ?_)
  have h3 := h2.trans h3
  simp only [↓e_lload1, ↓e_lstore4, e_klI, e_klR, e_klX, e_klL, ↓e_aload0, ↓e_lload4, ↓e_iconst, ↓e_iload3, ↓e_cv4, i_39, e_rpn, e_rps, e_few0, e_few1, e_few2, e_few3, e_few4, ↓e_bipush, ↓e_istore6, ↓e_iload6, ↓e_cmp_ge, ↓e_iinc6, ↓e_goto, ↓e_ldc2_w, ↓e_lmul, ↓e_cv2, ↓e_i2l, ↓e_ladd, ↓e_cv3, ↓e_lret, ↓e_nil, b_193_0, b_193_1, b_193_2, b_193_3, b_193_4, one0, eq_self, ne_eq, not_true_eq_false, not_false_eq_true, true_implies, false_implies, true_and, and_true, and_self]
  refine q_atDg (m := 30) (h3.told ht) h3.2 (by decide) htT (fun x4 h4 => ?_)
  have h4 := h3.trans h4
  simp only [↓e_lload1, ↓e_lstore4, e_klI, e_klR, e_klX, e_klL, ↓e_aload0, ↓e_lload4, ↓e_iconst, ↓e_iload3, ↓e_cv4, i_39, e_rpn, e_rps, e_few0, e_few1, e_few2, e_few3, e_few4, ↓e_bipush, ↓e_istore6, ↓e_iload6, ↓e_cmp_ge, ↓e_iinc6, ↓e_goto, ↓e_ldc2_w, ↓e_lmul, ↓e_cv2, ↓e_i2l, ↓e_ladd, ↓e_cv3, ↓e_lret, ↓e_nil, b_193_0, b_193_1, b_193_2, b_193_3, b_193_4, one0, eq_self, ne_eq, not_true_eq_false, not_false_eq_true, true_implies, false_implies, true_and, and_true, and_self]
  refine q_atDg (m := 47) (h4.told ht) h4.2 (by decide) htT (fun x5 h5 => ?_)
  have h5 := h4.trans h5
  simp only [↓e_lload1, ↓e_lstore4, e_klI, e_klR, e_klX, e_klL, ↓e_aload0, ↓e_lload4, ↓e_iconst, ↓e_iload3, ↓e_cv4, i_39, e_rpn, e_rps, e_few0, e_few1, e_few2, e_few3, e_few4, ↓e_bipush, ↓e_istore6, ↓e_iload6, ↓e_cmp_ge, ↓e_iinc6, ↓e_goto, ↓e_ldc2_w, ↓e_lmul, ↓e_cv2, ↓e_i2l, ↓e_ladd, ↓e_cv3, ↓e_lret, ↓e_nil, b_193_0, b_193_1, b_193_2, b_193_3, b_193_4, one0, eq_self, ne_eq, not_true_eq_false, not_false_eq_true, true_implies, false_implies, true_and, and_true, and_self]
  exact legs 4 0 (by omega) x5 h5
set_option maxHeartbeats 2000000 in
theorem q_digestM (hi : m_inv w D S) (h : ∀ v, m_scr w v → q (some (vL (p_digest D S))) v) : Sm Ls (d + 11) 194 [vR 39] w q := by
  have ht := hi.1
  have hT4 := Td.T4 ht.ok
  have hend : ∀ v, m_post D w v → ∀ y : ab_V, Ev Ls (Sm Ls (d + 10)) q bk_194 4 [vR 39, vL (dte D (hs (hf (fun x => p_count D S x) 17 8) D.v) D.T), vX, y] [] v := fun v hv y => by
    unfold p_digest at h
    rw [ev_194_4]
    simp only [↓e_ldc2_w, ↓e_lstore1, e_klI, e_klR, e_klX, e_klL, ↓e_iconst, ↓e_istore3, ↓e_iload3, ↓e_bipush, ↓e_cmp_ge, ↓e_lload1, ↓e_lmul, ↓e_aload0, ↓e_cv2, i_39, e_rpn, e_rps, e_few0, e_few1, e_few2, e_few3, e_few4, ↓e_i2l, ↓e_ladd, ↓e_iinc3, ↓e_goto, ↓e_cv1, ↓g_39_2, ↓e_cv3, ↓e_cv4, ↓e_lret, ↓e_nil, b_194_0, b_194_1, b_194_2, b_194_3, b_194_4, one0, eq_self, ne_eq, not_true_eq_false, not_false_eq_true, true_implies, false_implies, true_and, and_true, and_self]
    refine q_wonOf (hv.told ht) (fun x1 h1 => ?_)
    have h1 := hv.trans h1
    simp only [↓e_ldc2_w, ↓e_lstore1, e_klI, e_klR, e_klX, e_klL, ↓e_iconst, ↓e_istore3, ↓e_iload3, ↓e_bipush, ↓e_cmp_ge, ↓e_lload1, ↓e_lmul, ↓e_aload0, ↓e_cv2, i_39, e_rpn, e_rps, e_few0, e_few1, e_few2, e_few3, e_few4, ↓e_i2l, ↓e_ladd, ↓e_iinc3, ↓e_goto, ↓e_cv1, ↓g_39_2, ↓e_cv3, ↓e_cv4, ↓e_lret, ↓e_nil, b_194_0, b_194_1, b_194_2, b_194_3, b_194_4, hs_e, one0, eq_self, ne_eq, not_true_eq_false, not_false_eq_true, true_implies, false_implies, true_and, and_true, and_self]
    refine q_wonOf (h1.told ht) (fun x2 h2 => ?_)
    have h2 := h1.trans h2
    simp only [↓e_ldc2_w, ↓e_lstore1, e_klI, e_klR, e_klX, e_klL, ↓e_iconst, ↓e_istore3, ↓e_iload3, ↓e_bipush, ↓e_cmp_ge, ↓e_lload1, ↓e_lmul, ↓e_aload0, ↓e_cv2, i_39, e_rpn, e_rps, e_few0, e_few1, e_few2, e_few3, e_few4, ↓e_i2l, ↓e_ladd, ↓e_iinc3, ↓e_goto, ↓e_cv1, ↓g_39_2, ↓e_cv3, ↓e_cv4, ↓e_lret, ↓e_nil, b_194_0, b_194_1, b_194_2, b_194_3, b_194_4, hs_e, one0, eq_self, ne_eq, not_true_eq_false, not_false_eq_true, true_implies, false_implies, true_and, and_true, and_self]
    refine q_leaderOf (h2.told ht) (fun x3 h3 => ?_)
    have h3 := h2.trans h3
    rw [if_pos rfl]
    simp only [↓e_ldc2_w, ↓e_lstore1, e_klI, e_klR, e_klX, e_klL, ↓e_iconst, ↓e_istore3, ↓e_iload3, ↓e_bipush, ↓e_cmp_ge, ↓e_lload1, ↓e_lmul, ↓e_aload0, ↓e_cv2, i_39, e_rpn, e_rps, e_few0, e_few1, e_few2, e_few3, e_few4, ↓e_i2l, ↓e_ladd, ↓e_iinc3, ↓e_goto, ↓e_cv1, ↓g_39_2, ↓e_cv3, ↓e_cv4, ↓e_lret, ↓e_nil, b_194_0, b_194_1, b_194_2, b_194_3, b_194_4, hs_e, one0, eq_self, ne_eq, not_true_eq_false, not_false_eq_true, true_implies, false_implies, true_and, and_true, and_self]
    refine q_leaderOf (h3.told ht) (fun x4 h4 => ?_)
    have h4 := h3.trans h4
    rw [if_neg (by decide)]
    simp only [↓e_ldc2_w, ↓e_lstore1, e_klI, e_klR, e_klX, e_klL, ↓e_iconst, ↓e_istore3, ↓e_iload3, ↓e_bipush, ↓e_cmp_ge, ↓e_lload1, ↓e_lmul, ↓e_aload0, ↓e_cv2, i_39, e_rpn, e_rps, e_few0, e_few1, e_few2, e_few3, e_few4, ↓e_i2l, ↓e_ladd, ↓e_iinc3, ↓e_goto, ↓e_cv1, ↓g_39_2, ↓e_cv3, ↓e_cv4, ↓e_lret, ↓e_nil, b_194_0, b_194_1, b_194_2, b_194_3, b_194_4, hs_e, one0, eq_self, ne_eq, not_true_eq_false, not_false_eq_true, true_implies, false_implies, true_and, and_true, and_self]
    refine q_spareBy (h4.told ht) (fun x5 h5 s0 s1 => ?_)
    have h5 := h4.trans h5
    simp only [↓e_ldc2_w, ↓e_lstore1, e_klI, e_klR, e_klX, e_klL, ↓e_iconst, ↓e_istore3, ↓e_iload3, ↓e_bipush, ↓e_cmp_ge, ↓e_lload1, ↓e_lmul, ↓e_aload0, ↓e_cv2, i_39, e_rpn, e_rps, e_few0, e_few1, e_few2, e_few3, e_few4, ↓e_i2l, ↓e_ladd, ↓e_iinc3, ↓e_goto, ↓e_cv1, ↓g_39_2, ↓e_cv3, ↓e_cv4, ↓e_lret, ↓e_nil, b_194_0, b_194_1, b_194_2, b_194_3, b_194_4, hs_e, one0, eq_self, ne_eq, not_true_eq_false, not_false_eq_true, true_implies, false_implies, true_and, and_true, and_self]
    refine q_ofRow (by decide) s0 s1 ?_
    simp only [↓e_ldc2_w, ↓e_lstore1, e_klI, e_klR, e_klX, e_klL, ↓e_iconst, ↓e_istore3, ↓e_iload3, ↓e_bipush, ↓e_cmp_ge, ↓e_lload1, ↓e_lmul, ↓e_aload0, ↓e_cv2, i_39, e_rpn, e_rps, e_few0, e_few1, e_few2, e_few3, e_few4, ↓e_i2l, ↓e_ladd, ↓e_iinc3, ↓e_goto, ↓e_cv1, ↓g_39_2, ↓e_cv3, ↓e_cv4, ↓e_lret, ↓e_nil, b_194_0, b_194_1, b_194_2, b_194_3, b_194_4, hs_e, one0, eq_self, ne_eq, not_true_eq_false, not_false_eq_true, true_implies, false_implies, true_and, and_true, and_self]
    refine q_neverNow (h5.told ht) (fun x6 h6 => ?_)
    have h6 := h5.trans h6
    simp only [↓e_ldc2_w, ↓e_lstore1, e_klI, e_klR, e_klX, e_klL, ↓e_iconst, ↓e_istore3, ↓e_iload3, ↓e_bipush, ↓e_cmp_ge, ↓e_lload1, ↓e_lmul, ↓e_aload0, ↓e_cv2, i_39, e_rpn, e_rps, e_few0, e_few1, e_few2, e_few3, e_few4, ↓e_i2l, ↓e_ladd, ↓e_iinc3, ↓e_goto, ↓e_cv1, ↓g_39_2, ↓e_cv3, ↓e_cv4, ↓e_lret, ↓e_nil, b_194_0, b_194_1, b_194_2, b_194_3, b_194_4, hs_e, one0, eq_self, ne_eq, not_true_eq_false, not_false_eq_true, true_implies, false_implies, true_and, and_true, and_self]
    refine q_yearsOf (n := 6) (h6.told ht) (by decide) (fun x7 h7 => ?_)
    have h7 := h6.trans h7
    simp only [↓e_ldc2_w, ↓e_lstore1, e_klI, e_klR, e_klX, e_klL, ↓e_iconst, ↓e_istore3, ↓e_iload3, ↓e_bipush, ↓e_cmp_ge, ↓e_lload1, ↓e_lmul, ↓e_aload0, ↓e_cv2, i_39, e_rpn, e_rps, e_few0, e_few1, e_few2, e_few3, e_few4, ↓e_i2l, ↓e_ladd, ↓e_iinc3, ↓e_goto, ↓e_cv1, ↓g_39_2, ↓e_cv3, ↓e_cv4, ↓e_lret, ↓e_nil, b_194_0, b_194_1, b_194_2, b_194_3, b_194_4, hs_e, one0, eq_self, ne_eq, not_true_eq_false, not_false_eq_true, true_implies, false_implies, true_and, and_true, and_self]
    refine q_yearsOf (n := 6) (h7.told ht) (by decide) (fun x8 h8 => ?_)
    have h8 := h7.trans h8
    simp only [↓e_ldc2_w, ↓e_lstore1, e_klI, e_klR, e_klX, e_klL, ↓e_iconst, ↓e_istore3, ↓e_iload3, ↓e_bipush, ↓e_cmp_ge, ↓e_lload1, ↓e_lmul, ↓e_aload0, ↓e_cv2, i_39, e_rpn, e_rps, e_few0, e_few1, e_few2, e_few3, e_few4, ↓e_i2l, ↓e_ladd, ↓e_iinc3, ↓e_goto, ↓e_cv1, ↓g_39_2, ↓e_cv3, ↓e_cv4, ↓e_lret, ↓e_nil, b_194_0, b_194_1, b_194_2, b_194_3, b_194_4, hs_e, one0, eq_self, ne_eq, not_true_eq_false, not_false_eq_true, true_implies, false_implies, true_and, and_true, and_self]
    exact h x8 h8.1
  have teams : ∀ (k t : Nat), t + k = D.T → ∀ v, m_post D w v → Ev Ls (Sm Ls (d + 10)) q bk_194 3 [vR 39, vL (dte D (hs (hf (fun x => p_count D S x) 17 8) D.v) t), vX, vI t] [] v := by
    intro k
    induction k with
    | zero =>
      intro t htk v hv
      have : t = D.T := by omega
      subst this
      have he := hend v hv
      rw [ev_194_3]
      simp only [↓e_ldc2_w, ↓e_lstore1, e_klI, e_klR, e_klX, e_klL, ↓e_iconst, ↓e_istore3, ↓e_iload3, ↓e_bipush, ↓e_cmp_ge, ↓e_lload1, ↓e_lmul, ↓e_aload0, ↓e_cv2, i_39, e_rpn, e_rps, e_few0, e_few1, e_few2, e_few3, e_few4, ↓e_i2l, ↓e_ladd, ↓e_iinc3, ↓e_goto, ↓e_cv1, ↓g_39_2, ↓e_cv3, ↓e_cv4, ↓e_lret, ↓e_nil, b_194_0, b_194_1, b_194_2, b_194_3, b_194_4, hv.2.1]
      exact ⟨fun _ => he _, fun z => absurd (Int.le_refl _) z⟩
    | succ k ih =>
      intro t htk v hv
      have htT : t < D.T := by omega
      have hno : ¬ (D.T : Int) ≤ (t : Int) := by omega
      have w1 : iW ((t : Int) + 1) = (t : Int) + 1 := iW_id (by omega) (by omega)
      rw [ev_194_3]
      simp only [↓e_ldc2_w, ↓e_lstore1, e_klI, e_klR, e_klX, e_klL, ↓e_iconst, ↓e_istore3, ↓e_iload3, ↓e_bipush, ↓e_cmp_ge, ↓e_lload1, ↓e_lmul, ↓e_aload0, ↓e_cv2, i_39, e_rpn, e_rps, e_few0, e_few1, e_few2, e_few3, e_few4, ↓e_i2l, ↓e_ladd, ↓e_iinc3, ↓e_goto, ↓e_cv1, ↓g_39_2, ↓e_cv3, ↓e_cv4, ↓e_lret, ↓e_nil, b_194_0, b_194_1, b_194_2, b_194_3, b_194_4, hv.2.1, hno, one0, eq_self, ne_eq, not_true_eq_false, not_false_eq_true, true_implies, false_implies, true_and, and_true, and_self]
      refine q_teamDg (hv.told ht) hv.2 htT (fun u hu => ?_)
      simp only [↓e_ldc2_w, ↓e_lstore1, e_klI, e_klR, e_klX, e_klL, ↓e_iconst, ↓e_istore3, ↓e_iload3, ↓e_bipush, ↓e_cmp_ge, ↓e_lload1, ↓e_lmul, ↓e_aload0, ↓e_cv2, i_39, e_rpn, e_rps, e_few0, e_few1, e_few2, e_few3, e_few4, ↓e_i2l, ↓e_ladd, ↓e_iinc3, ↓e_goto, ↓e_cv1, ↓g_39_2, ↓e_cv3, ↓e_cv4, ↓e_lret, ↓e_nil, b_194_0, b_194_1, b_194_2, b_194_3, b_194_4, w1]
      exact ih (t + 1) (by clear w1; omega) u (hv.trans hu)
  have counts : ∀ (k x : Nat), x + k = 8 → ∀ v, m_scr w v → Ev Ls (Sm Ls (d + 10)) q bk_194 1 [vR 39, vL (hf (fun x => p_count D S x) 17 x), vX, vI x] [] v := by
    intro k
    induction k with
    | zero =>
      intro x hx v hv
      have : x = 8 := by omega
      subst this
      rw [ev_194_1]
      simp only [↓e_ldc2_w, ↓e_lstore1, e_klI, e_klR, e_klX, e_klL, ↓e_iconst, ↓e_istore3, ↓e_iload3, ↓e_bipush, ↓e_cmp_ge, ↓e_lload1, ↓e_lmul, ↓e_aload0, ↓e_cv2, i_39, e_rpn, e_rps, e_few0, e_few1, e_few2, e_few3, e_few4, ↓e_i2l, ↓e_ladd, ↓e_iinc3, ↓e_goto, ↓e_cv1, ↓g_39_2, ↓e_cv3, ↓e_cv4, ↓e_lret, ↓e_nil, b_194_0, b_194_1, b_194_2, b_194_3, b_194_4, ↓ev_194_2, one0, eq_self, ne_eq, not_true_eq_false, not_false_eq_true, true_implies, false_implies, true_and, and_true, and_self]
      refine ⟨fun _ => q_faultM (ht.scr hv) (fun u hu => ?_), fun z => absurd (by decide) z⟩
      simp only [↓e_ldc2_w, ↓e_lstore1, e_klI, e_klR, e_klX, e_klL, ↓e_iconst, ↓e_istore3, ↓e_iload3, ↓e_bipush, ↓e_cmp_ge, ↓e_lload1, ↓e_lmul, ↓e_aload0, ↓e_cv2, i_39, e_rpn, e_rps, e_few0, e_few1, e_few2, e_few3, e_few4, ↓e_i2l, ↓e_ladd, ↓e_iinc3, ↓e_goto, ↓e_cv1, ↓g_39_2, ↓e_cv3, ↓e_cv4, ↓e_lret, ↓e_nil, b_194_0, b_194_1, b_194_2, b_194_3, b_194_4, hs_e]
      exact teams D.T 0 (by omega) u ⟨hv.trans hu.1, hu.2⟩
    | succ k ih =>
      intro x hx v hv
      have hno : ¬ 8 ≤ (x : Int) := by omega
      have hnext := fun u hu => ih (x + 1) (by omega) u hu
      rw [hf_s] at hnext
      have w1 : iW ((x : Int) + 1) = (x : Int) + 1 := iW_id (by omega) (by omega)
      rw [ev_194_1]
      simp only [↓e_ldc2_w, ↓e_lstore1, e_klI, e_klR, e_klX, e_klL, ↓e_iconst, ↓e_istore3, ↓e_iload3, ↓e_bipush, ↓e_cmp_ge, ↓e_lload1, ↓e_lmul, ↓e_aload0, ↓e_cv2, i_39, e_rpn, e_rps, e_few0, e_few1, e_few2, e_few3, e_few4, ↓e_i2l, ↓e_ladd, ↓e_iinc3, ↓e_goto, ↓e_cv1, ↓g_39_2, ↓e_cv3, ↓e_cv4, ↓e_lret, ↓e_nil, b_194_0, b_194_1, b_194_2, b_194_3, b_194_4, hno, one0, eq_self, ne_eq, not_true_eq_false, not_false_eq_true, true_implies, false_implies, true_and, and_true, and_self]
      refine q_countM (hi.scr hv) (fun u hu => ?_)
      simp only [↓e_ldc2_w, ↓e_lstore1, e_klI, e_klR, e_klX, e_klL, ↓e_iconst, ↓e_istore3, ↓e_iload3, ↓e_bipush, ↓e_cmp_ge, ↓e_lload1, ↓e_lmul, ↓e_aload0, ↓e_cv2, i_39, e_rpn, e_rps, e_few0, e_few1, e_few2, e_few3, e_few4, ↓e_i2l, ↓e_ladd, ↓e_iinc3, ↓e_goto, ↓e_cv1, ↓g_39_2, ↓e_cv3, ↓e_cv4, ↓e_lret, ↓e_nil, b_194_0, b_194_1, b_194_2, b_194_3, b_194_4, hs_e, w1]
      exact hnext u (hv.trans hu)
  have h0 := counts 8 0 (by omega) w (m_scr.refl w)
  rw [en_194]
  simp only [↓e_ldc2_w, ↓e_lstore1, e_klI, e_klR, e_klX, e_klL, ↓e_iconst, ↓e_istore3, ↓e_iload3, ↓e_bipush, ↓e_cmp_ge, ↓e_lload1, ↓e_lmul, ↓e_aload0, ↓e_cv2, i_39, e_rpn, e_rps, e_few0, e_few1, e_few2, e_few3, e_few4, ↓e_i2l, ↓e_ladd, ↓e_iinc3, ↓e_goto, ↓e_cv1, ↓g_39_2, ↓e_cv3, ↓e_cv4, ↓e_lret, ↓e_nil, b_194_0, b_194_1, b_194_2, b_194_3, b_194_4]
  exact h0
end MDigest66
