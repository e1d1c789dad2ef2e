/-! the class takes its text -/
section TakeText27
variable {Ls d : Nat} {w : ab_W} {q : Option ab_V → ab_W → Prop} {n : Nat} {by' : Nat → Int}
theorem q_takeText (ht : c_text w n by') (h : ∀ (v : Int) (w' : ab_W), x_F n by' v → (∀ p, p ≠ 15 → p ≠ 16 → p ≠ 17 → w' p = w p) → (∀ j, j ≠ 5 → w' 15 j = w 15 j) → w' 15 5 = x_T n v → c_run 15 w' (x_T n v) (x_so by') (x_pa by') → q none w') : Sm Ls (d + 4) 6 [vR 15, vR 1] w q := by
  obtain ⟨h1, hn, hb⟩ := id ht
  have hmain : ∀ v, x_F n by' v → ∀ u : ab_W, u = ab_up w 15 5 (x_T n v) → Ev Ls (Sm Ls (d + 3)) q bk_6 3 [vR 15, vR 1, vI 0, vX, vX] [] u := by
    intro v hv u hu
    obtain ⟨hT4, hrun⟩ := x_run hn hv
    generalize hTT : x_T n v = T at *
    -- what stands still
    have inner : ∀ (k l : Nat), l + k = 4 → ∀ (t : Nat), t < T → ∀ (x : ab_W) (y : ab_V), (∀ p, p ≠ 16 → p ≠ 17 → x p = u p) → (∀ t' l' : Nat, t' < T → l' < 4 → (t' < t ∨ (t' = t ∧ l' < l)) → x 16 ((t' : Int) * 4 + l') = x_so by' t' l' ∧ x 17 ((t' : Int) * 4 + l') = x_pa by' t' l') →
        (∀ (x' : ab_W) (y' : ab_V), (∀ p, p ≠ 16 → p ≠ 17 → x' p = u p) → (∀ t' l' : Nat, t' < T → l' < 4 → t' < t + 1 → x' 16 ((t' : Int) * 4 + l') = x_so by' t' l' ∧ x' 17 ((t' : Int) * 4 + l') = x_pa by' t' l') → Ev Ls (Sm Ls (d + 3)) q bk_6 3 [vR 15, vR 1, vI ((t : Int) + 1), vI 4, y'] [] x') →
        Ev Ls (Sm Ls (d + 3)) q bk_6 4 [vR 15, vR 1, vI t, vI l, y] [] x := by
      intro k
      induction k with
      | zero =>
        intro l hl t htT x y x1 x2 hnext
        have : l = 4 := by omega
        subst this
        have hfin := hnext x y x1 (fun t' l' g1 g2 g3 => x2 t' l' g1 g2 (by omega))
        have w1 : iW ((t : Int) + 1) = (t : Int) + 1 := iW_id (by omega) (by omega)
        rw [ev_6_4]
        simp only [↓e_aload0, ↓e_aload1, ↓e_cv1, i_1, e_rpn, e_rps, e_few0, e_few1, e_few2, e_few3, e_few4, ↓e_iconst, ↓e_cmp_ne, ↓g_1_1, ↓e_iadd, ↓e_bipush, ↓e_idiv, ↓e_goto, ↓p_15_5, ↓p_21_5, ↓e_istore2, e_klI, e_klR, e_klX, e_klL, ↓e_iload2, ↓g_15_5, ↓g_21_5, ↓e_cmp_ge, ↓e_istore3, ↓e_iload3, ↓e_imul, ↓e_istore4, ↓g_15_0, ↓g_21_0, ↓e_iload4, ↓e_cv2, ↓g_15_1, ↓g_21_1, ↓g_1_0, ↓e_isub, ↓e_iinc3, ↓e_iinc2, ↓e_vret, ↓x_2, ↓y_2, ↓x_16, ↓y_16, ↓x_17, ↓y_17, ↓x_22, ↓y_22, ↓x_23, ↓y_23, ↓e_nil, b_6_0, b_6_1, b_6_2, b_6_3, b_6_4, b_6_5, b_6_6, ↓ev_6_5, w1]
        exact ⟨fun _ => hfin, fun z => absurd (by decide) z⟩
      | succ k ih =>
        intro l hl t htT x y x1 x2 hnext
        obtain ⟨r1, r2, r3⟩ := hrun t htT l (by omega)
        have hp1 : x 2 (((9 * t + 2 * l : Nat)) : Int) = by' (9 * t + 2 * l) := by
          rw [x1 2 (by omega) (by omega), hu, ab_up_ne (by omega)]; exact (hb _ (by omega)).1
        have hp2 : x 2 (((9 * t + 2 * l + 1 : Nat)) : Int) = by' (9 * t + 2 * l + 1) := by
          rw [x1 2 (by omega) (by omega), hu, ab_up_ne (by omega)]; exact (hb _ (by omega)).1
        have hb2 := (hb (9 * t + 2 * l + 1) r1).2
        have e1 : (((9 * t + 2 * l : Nat)) : Int) = (t : Int) * 9 + 2 * (l : Int) := by omega
        have e2 : (((9 * t + 2 * l + 1 : Nat)) : Int) = (t : Int) * 9 + 2 * (l : Int) + 1 := by omega
        rw [e1] at hp1
        rw [e2] at hp2
        have hin1 : 0 ≤ (t : Int) * 4 + l ∧ (t : Int) * 4 + l < 16 := by omega
        have hin2 : 0 ≤ (t : Int) * 9 + 2 * (l : Int) ∧ (t : Int) * 9 + 2 * (l : Int) < 35 := by omega
        have hin3 : 0 ≤ (t : Int) * 9 + 2 * (l : Int) + 1 ∧ (t : Int) * 9 + 2 * (l : Int) + 1 < 35 := by omega
        have hl4 : ¬ 4 ≤ (l : Int) := by omega
        have hnext2 : ∀ z : ab_V, Ev Ls (Sm Ls (d + 3)) q bk_6 4 [vR 15, vR 1, vI t, vI ((l : Int) + 1), z] [] (ab_up (ab_up x 16 ((t : Int) * 4 + l) (x_sort (by' (9 * t + 2 * l)))) 17 ((t : Int) * 4 + l) (by' (9 * t + 2 * l + 1) - 48)) := fun z => by
          refine ih (l + 1) (by omega) t htT _ z (fun p p1 p2 => by rw [ab_up_ne p2, ab_up_ne p1]; exact x1 p p1 p2) (fun t' l' g1 g2 g3 => ?_) hnext
          by_cases hsame : t' = t ∧ l' = l
          · obtain ⟨rfl, rfl⟩ := hsame
            refine ⟨?_, ?_⟩
            · rw [ab_up_p (by omega), ab_up_at]; rfl
            · rw [ab_up_at]; rfl
          · have hne : ¬ (t' : Int) * 4 + l' = (t : Int) * 4 + l := by omega
            obtain ⟨q1, q2⟩ := x2 t' l' g1 g2 (by omega)
            refine ⟨?_, ?_⟩
            · rw [ab_up_p (by omega), ab_up_nj hne]; exact q1
            · rw [ab_up_nj hne, ab_up_p (by omega)]; exact q2
        obtain ⟨w1, w2, w3, w4, w5, w6, w7, w8⟩ : iW ((l : Int) + 1) = (l : Int) + 1 ∧ iW ((t : Int) * 9) = (t : Int) * 9 ∧ iW (2 * (l : Int)) = 2 * (l : Int) ∧ iW ((t : Int) * 9 + 2 * (l : Int)) = (t : Int) * 9 + 2 * (l : Int) ∧ iW ((t : Int) * 4) = (t : Int) * 4 ∧ iW ((t : Int) * 4 + l) = (t : Int) * 4 + l ∧ iW ((t : Int) * 9 + 2 * (l : Int) + 1) = (t : Int) * 9 + 2 * (l : Int) + 1 ∧ iW (by' (9 * t + 2 * l + 1) - 48) = by' (9 * t + 2 * l + 1) - 48 :=
          ⟨iW_id (by omega) (by omega), iW_id (by omega) (by omega), iW_id (by omega) (by omega), iW_id (by omega) (by omega), iW_id (by omega) (by omega), iW_id (by omega) (by omega), iW_id (by omega) (by omega), iW_id (by omega) (by omega)⟩
        have hp3 : ∀ a b : Int, ab_up x 16 a b 2 ((t : Int) * 9 + 2 * (l : Int) + 1) = by' (9 * t + 2 * l + 1) := fun a b => by rw [ab_up_p (by decide)]; exact hp2
        rw [ev_6_4]
        simp only [↓e_aload0, ↓e_aload1, ↓e_cv1, i_1, e_rpn, e_rps, e_few0, e_few1, e_few2, e_few3, e_few4, ↓e_iconst, ↓e_cmp_ne, ↓g_1_1, ↓e_iadd, ↓e_bipush, ↓e_idiv, ↓e_goto, ↓p_15_5, ↓p_21_5, ↓e_istore2, e_klI, e_klR, e_klX, e_klL, ↓e_iload2, ↓g_15_5, ↓g_21_5, ↓e_cmp_ge, ↓e_istore3, ↓e_iload3, ↓e_imul, ↓e_istore4, ↓g_15_0, ↓g_21_0, ↓e_iload4, ↓e_cv2, ↓g_15_1, ↓g_21_1, ↓g_1_0, ↓e_isub, ↓e_iinc3, ↓e_iinc2, ↓e_vret, ↓x_2, ↓y_2, ↓x_16, ↓y_16, ↓x_17, ↓y_17, ↓x_22, ↓y_22, ↓x_23, ↓y_23, ↓e_nil, b_6_0, b_6_1, b_6_2, b_6_3, b_6_4, b_6_5, b_6_6, hl4, false_implies, not_false_eq_true, true_implies, true_and, w2, w3, w4, w5, w6, q_sortAt hin2, hp1, hin1, and_self, w7, hin3, hp3, w8, w1]
        exact hnext2 _
    have outer : ∀ (k t : Nat), t + k = T → ∀ (x : ab_W) (y y2 : ab_V), (∀ p, p ≠ 16 → p ≠ 17 → x p = u p) → (∀ t' l' : Nat, t' < T → l' < 4 → t' < t → x 16 ((t' : Int) * 4 + l') = x_so by' t' l' ∧ x 17 ((t' : Int) * 4 + l') = x_pa by' t' l') → Ev Ls (Sm Ls (d + 3)) q bk_6 3 [vR 15, vR 1, vI t, y2, y] [] x := by
      intro k
      induction k with
      | zero =>
        intro t htT x y y2 x1 x2
        have : t = T := by omega
        subst this
        have hxT : x 15 5 = (t : Int) := by rw [x1 15 (by omega) (by omega), hu, ab_up_at]
        have hfin := h v x hv (fun p p1 p2 p3 => by rw [x1 p p2 p3, hu, ab_up_ne p1]) (fun j hj => by rw [x1 15 (by omega) (by omega), hu, ab_up_nj hj]) (by rw [hTT]; exact hxT) (fun t' g1 l' g2 => by rw [hTT] at g1; exact x2 t' l' g1 g2 g1)
        rw [ev_6_3]
        simp only [↓e_aload0, ↓e_aload1, ↓e_cv1, i_1, e_rpn, e_rps, e_few0, e_few1, e_few2, e_few3, e_few4, ↓e_iconst, ↓e_cmp_ne, ↓g_1_1, ↓e_iadd, ↓e_bipush, ↓e_idiv, ↓e_goto, ↓p_15_5, ↓p_21_5, ↓e_istore2, e_klI, e_klR, e_klX, e_klL, ↓e_iload2, ↓g_15_5, ↓g_21_5, ↓e_cmp_ge, ↓e_istore3, ↓e_iload3, ↓e_imul, ↓e_istore4, ↓g_15_0, ↓g_21_0, ↓e_iload4, ↓e_cv2, ↓g_15_1, ↓g_21_1, ↓g_1_0, ↓e_isub, ↓e_iinc3, ↓e_iinc2, ↓e_vret, ↓x_2, ↓y_2, ↓x_16, ↓y_16, ↓x_17, ↓y_17, ↓x_22, ↓y_22, ↓x_23, ↓y_23, ↓e_nil, b_6_0, b_6_1, b_6_2, b_6_3, b_6_4, b_6_5, b_6_6, ↓ev_6_6, hxT]
        exact ⟨fun _ => hfin, fun z => absurd (Int.le_refl _) z⟩
      | succ k ih =>
        intro t htT x y y2 x1 x2
        have hxT : x 15 5 = (T : Int) := by rw [x1 15 (by omega) (by omega), hu, ab_up_at]
        have hno : ¬ (T : Int) ≤ (t : Int) := by omega
        have hin := fun z => inner 4 0 (by omega) t (by omega) x z x1 (fun t' l' g1 g2 g3 => x2 t' l' g1 g2 (by omega)) (fun x' y' g1 g2 => ih (t + 1) (by omega) x' y' (vI 4) g1 g2)
        rw [ev_6_3]
        simp only [↓e_aload0, ↓e_aload1, ↓e_cv1, i_1, e_rpn, e_rps, e_few0, e_few1, e_few2, e_few3, e_few4, ↓e_iconst, ↓e_cmp_ne, ↓g_1_1, ↓e_iadd, ↓e_bipush, ↓e_idiv, ↓e_goto, ↓p_15_5, ↓p_21_5, ↓e_istore2, e_klI, e_klR, e_klX, e_klL, ↓e_iload2, ↓g_15_5, ↓g_21_5, ↓e_cmp_ge, ↓e_istore3, ↓e_iload3, ↓e_imul, ↓e_istore4, ↓g_15_0, ↓g_21_0, ↓e_iload4, ↓e_cv2, ↓g_15_1, ↓g_21_1, ↓g_1_0, ↓e_isub, ↓e_iinc3, ↓e_iinc2, ↓e_vret, ↓x_2, ↓y_2, ↓x_16, ↓y_16, ↓x_17, ↓y_17, ↓x_22, ↓y_22, ↓x_23, ↓y_23, ↓e_nil, b_6_0, b_6_1, b_6_2, b_6_3, b_6_4, b_6_5, b_6_6, hxT, hno, false_implies, not_false_eq_true, true_implies, true_and]
        exact hin _
    exact outer T 0 (by omega) u vX vX (fun p _ _ => rfl) (fun t' l' _ _ g => by omega)
  have hdiv : i_div ((n : Int) + 1) 9 = (((n + 1) / 9 : Nat) : Int) := b_div (a := n + 1) (k := 9) (by omega) (by omega) (by omega)
  have w1 : iW ((n : Int) + 1) = (n : Int) + 1 := iW_id (by omega) (by omega)
  rw [en_6]
  simp only [↓e_aload0, ↓e_aload1, ↓e_cv1, i_1, e_rpn, e_rps, e_few0, e_few1, e_few2, e_few3, e_few4, ↓e_iconst, ↓e_cmp_ne, ↓g_1_1, ↓e_iadd, ↓e_bipush, ↓e_idiv, ↓e_goto, ↓p_15_5, ↓p_21_5, ↓e_istore2, e_klI, e_klR, e_klX, e_klL, ↓e_iload2, ↓g_15_5, ↓g_21_5, ↓e_cmp_ge, ↓e_istore3, ↓e_iload3, ↓e_imul, ↓e_istore4, ↓g_15_0, ↓g_21_0, ↓e_iload4, ↓e_cv2, ↓g_15_1, ↓g_21_1, ↓g_1_0, ↓e_isub, ↓e_iinc3, ↓e_iinc2, ↓e_vret, ↓x_2, ↓y_2, ↓x_16, ↓y_16, ↓x_17, ↓y_17, ↓x_22, ↓y_22, ↓x_23, ↓y_23, ↓e_nil, b_6_0, b_6_1, b_6_2, b_6_3, b_6_4, b_6_5, b_6_6, true_and]
  refine q_firstFault ht (fun v hv hvr => ?_)
  simp only [↓e_aload0, ↓e_aload1, ↓e_cv1, i_1, e_rpn, e_rps, e_few0, e_few1, e_few2, e_few3, e_few4, ↓e_iconst, ↓e_cmp_ne, ↓g_1_1, ↓e_iadd, ↓e_bipush, ↓e_idiv, ↓e_goto, ↓p_15_5, ↓p_21_5, ↓e_istore2, e_klI, e_klR, e_klX, e_klL, ↓e_iload2, ↓g_15_5, ↓g_21_5, ↓e_cmp_ge, ↓e_istore3, ↓e_iload3, ↓e_imul, ↓e_istore4, ↓g_15_0, ↓g_21_0, ↓e_iload4, ↓e_cv2, ↓g_15_1, ↓g_21_1, ↓g_1_0, ↓e_isub, ↓e_iinc3, ↓e_iinc2, ↓e_vret, ↓x_2, ↓y_2, ↓x_16, ↓y_16, ↓x_17, ↓y_17, ↓x_22, ↓y_22, ↓x_23, ↓y_23, ↓e_nil, b_6_0, b_6_1, b_6_2, b_6_3, b_6_4, b_6_5, b_6_6, ↓ev_6_1, ↓ev_6_2, h1, w1, hdiv]
  refine ⟨fun hne => hmain v hv _ ?_, fun hne => ⟨by decide, hmain v hv _ ?_⟩⟩
  · unfold x_T; rw [if_neg hne]; rfl
  · unfold x_T; rw [if_pos (by clear w1; omega)]
end TakeText27
