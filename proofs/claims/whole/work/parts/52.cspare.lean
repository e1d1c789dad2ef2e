/-! the class: who wins with a set, spare -/
section CSpare52
variable {Ls d : Nat} {w : ab_W} {q : Option ab_V → ab_W → Prop} {D : Td} {c : Cf}
theorem r_ww_s {V : Nat → Int} {n : Nat} : r_ww V (n + 1) = if (r_ww V n).2 < V n then ((n : Int), V n) else r_ww V n := rfl
theorem q_winnerWith (ht : c_told w D) {x : ab_W} (hx : c_wk w x D) {s : Nat} (hs : s < 256) {Q' : Option ab_V → ab_W → Prop} (h : ∀ y, c_wk w y D → Q' (some (vI (D.cf s).won)) y) : Sm Ls (d + 5) 60 [vR 0, vI s] x Q' := by
  have hT4 := Td.T4 ht.ok
  have hw : (r_ww (fun t => r_V (D.cf s).F (D.cf s).H t 47) D.T).1 = (D.cf s).won := r_ww_won (Cf.rok (Td.cok ht.ok s))
  rw [← hw] at h
  have key : ∀ (k t : Nat), t + k = D.T → ∀ y : ab_W, c_wk w y D → ∀ z : ab_V, Ev Ls (Sm Ls (d + 4)) Q' bk_60 1 [vR 0, vI s, vI (r_ww (fun t => r_V (D.cf s).F (D.cf s).H t 47) t).1, vI (r_ww (fun t => r_V (D.cf s).F (D.cf s).H t 47) t).2, vI t, z] [] y := by
    intro k
    induction k with
    | zero =>
      intro t htk y hy z
      have : t = D.T := by omega
      subst this
      have h5 : y 15 5 = (D.T : Int) := (hy.told ht).rc.2.2.2.1
      have hfin := h y hy
      rw [ev_60_1]
      simp only [↓e_iconst, ↓e_istore2, e_klI, e_klR, e_klX, e_klL, ↓e_sipush, ↓e_istore3, ↓e_istore4, ↓e_iload4, ↓e_aload0, ↓g_0_4, ↓g_15_5, ↓g_21_5, ↓e_cmp_ge, ↓e_iload1, ↓e_cv3, i_0, e_rpn, e_rps, e_few0, e_few1, e_few2, e_few3, e_few4, ↓e_istore5, ↓e_iload5, ↓e_iload3, ↓e_cmp_le, ↓e_iinc4, ↓e_goto, ↓e_iload2, ↓e_iret, ↓e_nil, b_60_0, b_60_1, b_60_2, b_60_3, ↓ev_60_3, h5]
      exact ⟨fun _ => hfin, fun z => absurd (Int.le_refl _) z⟩
    | succ k ih =>
      intro t htk y hy z
      have h5 : y 15 5 = (D.T : Int) := (hy.told ht).rc.2.2.2.1
      have hno : ¬ (D.T : Int) ≤ (t : Int) := by omega
      have hI : ∀ (y : ab_W) (a b : Int), c_wk w y D → (a, b) = r_ww (fun t => r_V (D.cf s).F (D.cf s).H t 47) (t + 1) → ∀ z : ab_V, Ev Ls (Sm Ls (d + 4)) Q' bk_60 1 [vR 0, vI s, vI a, vI b, vI ((t : Int) + 1), z] [] y := fun y a b hy hab z => by
        have := ih (t + 1) (by omega) y hy z
        rw [← hab] at this
        exact this
      rw [r_ww_s] at hI
      have w1 : iW ((t : Int) + 1) = (t : Int) + 1 := iW_id (by omega) (by omega)
      rw [ev_60_1]
      simp only [↓e_iconst, ↓e_istore2, e_klI, e_klR, e_klX, e_klL, ↓e_sipush, ↓e_istore3, ↓e_istore4, ↓e_iload4, ↓e_aload0, ↓g_0_4, ↓g_15_5, ↓g_21_5, ↓e_cmp_ge, ↓e_iload1, ↓e_cv3, i_0, e_rpn, e_rps, e_few0, e_few1, e_few2, e_few3, e_few4, ↓e_istore5, ↓e_iload5, ↓e_iload3, ↓e_cmp_le, ↓e_iinc4, ↓e_goto, ↓e_iload2, ↓e_iret, ↓e_nil, b_60_0, b_60_1, b_60_2, b_60_3, h5, hno, one0, eq_self, ne_eq, not_true_eq_false, not_false_eq_true, true_implies, false_implies, true_and, and_true, and_self]
      refine q_standingWith ht hy (by clear w1; omega) hs (fun v hv => ?_)
      simp only [↓e_iconst, ↓e_istore2, e_klI, e_klR, e_klX, e_klL, ↓e_sipush, ↓e_istore3, ↓e_istore4, ↓e_iload4, ↓e_aload0, ↓g_0_4, ↓g_15_5, ↓g_21_5, ↓e_cmp_ge, ↓e_iload1, ↓e_cv3, i_0, e_rpn, e_rps, e_few0, e_few1, e_few2, e_few3, e_few4, ↓e_istore5, ↓e_iload5, ↓e_iload3, ↓e_cmp_le, ↓e_iinc4, ↓e_goto, ↓e_iload2, ↓e_iret, ↓e_nil, b_60_0, b_60_1, b_60_2, b_60_3, ↓ev_60_2, w1, one0, eq_self, ne_eq, not_true_eq_false, not_false_eq_true, true_implies, false_implies, true_and, and_true, and_self]
      clear w1
      refine ⟨fun g => hI v _ _ hv ?_ _, fun g => hI v _ _ hv ?_ _⟩
      · rw [if_neg (by omega)]
      · rw [if_pos (by omega)]
  have h0 := key D.T 0 (by omega) x hx vX
  rw [en_60]
  simp only [↓e_iconst, ↓e_istore2, e_klI, e_klR, e_klX, e_klL, ↓e_sipush, ↓e_istore3, ↓e_istore4, ↓e_iload4, ↓e_aload0, ↓g_0_4, ↓g_15_5, ↓g_21_5, ↓e_cmp_ge, ↓e_iload1, ↓e_cv3, i_0, e_rpn, e_rps, e_few0, e_few1, e_few2, e_few3, e_few4, ↓e_istore5, ↓e_iload5, ↓e_iload3, ↓e_cmp_le, ↓e_iinc4, ↓e_goto, ↓e_iload2, ↓e_iret, ↓e_nil, b_60_0, b_60_1, b_60_2, b_60_3]
  exact h0
theorem q_prepare (ht : c_told w D) (hc : c_cache w D) {Q' : Option ab_V → ab_W → Prop} (h : ∀ x, c_wk w x D → Q' none x) : Sm Ls (d + 3) 59 [vR 0] w Q' := by
  rw [en_59]
  simp only [↓e_aload0, ↓g_0_5, ↓g_0_4, ↓e_cv2, i_15, i_21, e_rpn, e_rps, e_few0, e_few1, e_few2, e_few3, e_few4, ↓g_0_7, ↓e_if_eq, ↓g_0_6, ↓e_iconst, ↓e_cs2, ↓p_0_7, ↓e_vret, ↓e_nil, b_59_0, b_59_1, one0, eq_self, ne_eq, not_true_eq_false, not_false_eq_true, true_implies, false_implies, true_and, and_true, and_self]
  refine q_takeRace (fun x x0 => ?_)
  have hr := x0.rc ht.rc
  have hcx := hc.tr x0.tr
  simp only [↓e_aload0, ↓g_0_5, ↓g_0_4, ↓e_cv2, i_15, i_21, e_rpn, e_rps, e_few0, e_few1, e_few2, e_few3, e_few4, ↓g_0_7, ↓e_if_eq, ↓g_0_6, ↓e_iconst, ↓e_cs2, ↓p_0_7, ↓e_vret, ↓e_nil, b_59_0, b_59_1, ↓ev_59_1, one0, eq_self, ne_eq, not_true_eq_false, not_false_eq_true, true_implies, false_implies, true_and, and_true, and_self]
  refine ⟨fun g => ?_, fun g => ?_⟩
  · exact h x ⟨x0.tr.scr, hr.2.1, hr.2.2.2.1, g, hcx.2 g⟩
  · refine q_fill1 (n := 1024) rfl (by omega) ?_
    simp only [↓e_aload0, ↓g_0_5, ↓g_0_4, ↓e_cv2, i_15, i_21, e_rpn, e_rps, e_few0, e_few1, e_few2, e_few3, e_few4, ↓g_0_7, ↓e_if_eq, ↓g_0_6, ↓e_iconst, ↓e_cs2, ↓p_0_7, ↓e_vret, ↓e_nil, b_59_0, b_59_1, ↓ev_59_1, one0, eq_self, ne_eq, not_true_eq_false, not_false_eq_true, true_implies, false_implies, true_and, and_true, and_self]
    have hz : c_wk w (ab_up (ab_fl x 27 0 ((1024 : Nat) : Int) 0) 0 7 0) D := by
      refine ⟨x0.tr.scr.trans ⟨fun p hp => by rw [ab_up_ne (by omega), ab_fl_pp (by omega)], fun j hj => by rw [ab_up_nj hj, ab_fl_p (by decide)]⟩, fun t htT l hl => ?_, ?_, ab_up_at, fun t s htT hs => Or.inl ?_⟩
      · rw [ab_up_p (by decide), ab_up_p (by decide), ab_fl_p (by decide), ab_fl_p (by decide)]; exact hr.2.1 t htT l hl
      · rw [ab_up_p (by decide), ab_fl_p (by decide)]; exact hr.2.2.2.1
      · have := Td.T4 ht.ok
        rw [ab_up_p (by decide), ab_fl_in (by omega)]
    exact ⟨Or.inl trivial, h _ hz⟩
end CSpare52
