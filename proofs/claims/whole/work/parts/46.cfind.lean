/-! the class's order, found -/
section CFind46
variable {Ls d : Nat} {w : ab_W} {q : Option ab_V → ab_W → Prop} {D : Td} {c : Cf}
theorem o_dis_t {a b e : Nat} : o_dis a b e = true ↔ (a ≠ b ∧ a ≠ e ∧ b ≠ e) := by unfold o_dis; exact decide_eq_true_iff
theorem o_dis_no {h : Nat → Int} {a b e : Nat} (ha : a < 4) (hb : b < 4) (he : e < 4) (hd : ¬ o_dis a b e = true) : so_st o_row h (64 * a + 16 * b + 4 * e + 4) = so_st o_row h (64 * a + 16 * b + 4 * e) := by
  rw [so_st_4 ha hb he, if_neg (fun z => hd z.1)]
set_option maxHeartbeats 2000000 in
theorem q_findOrder (ht : c_told w D) {t : Nat} (htT : t < D.T) (h : ∀ x, c_tr w x → c_plan x ((D.cf 255).ord t 256) → q none x) : Sm Ls (d + 5) 52 [vR 0, vI t] w q := by
  have hT4 := Td.T4 ht.ok
  have la : ∀ (k a : Nat), a + k = 4 → ∀ v : ab_W, c_tr w v → c_ox t v (D.cf 255) → c_plan v ((D.cf 255).ord t (64 * a)) → ∀ y z : ab_V, Ev Ls (Sm Ls (d + 4)) q bk_52 1 [vR 0, vI t, vI a, y, z] [] v := by
    intro k
    induction k with
    | zero =>
      intro a ha v v0 v1 v2 y z
      have : a = 4 := by omega
      subst this
      have hfin := h v v0 v2
      rw [ev_52_1]
      simp only [↓e_aload0, ↓g_0_8, ↓e_iconst, e_rpn, e_rps, e_few0, e_few1, e_few2, e_few3, e_few4, ↓e_cs2, ↓g_0_5, ↓g_0_4, ↓e_cv2, i_15, i_21, ↓e_istore2, e_klI, e_klR, e_klX, e_klL, ↓e_iload2, ↓e_cmp_ge, ↓e_istore3, ↓e_iload3, ↓e_istore4, ↓e_iload4, ↓e_cmp_eq, ↓e_iload1, ↓e_cv5, i_0, ↓e_iinc4, ↓e_goto, ↓e_iinc3, ↓e_iinc2, ↓e_vret, ↓e_nil, b_52_0, b_52_1, b_52_2, b_52_3, b_52_4, b_52_5, b_52_6, b_52_7, ↓ev_52_7]
      exact ⟨fun _ => hfin, fun z => absurd (by decide) z⟩
    | succ k ih =>
      intro a ha v v0 v1 v2 y z
      have hnoa : ¬ 4 ≤ (a : Int) := by omega
      have lb : ∀ (k2 b : Nat), b + k2 = 4 → ∀ v : ab_W, c_tr w v → c_ox t v (D.cf 255) → c_plan v ((D.cf 255).ord t (64 * a + 16 * b)) → ∀ z : ab_V, Ev Ls (Sm Ls (d + 4)) q bk_52 2 [vR 0, vI t, vI a, vI b, z] [] v := by
        intro k2
        induction k2 with
        | zero =>
          intro b hb v v0 v1 v2 z
          have : b = 4 := by omega
          subst this
          have hn := fun y z => ih (a + 1) (by omega) v v0 v1 (by rw [show 64 * (a + 1) = 64 * a + 16 * 4 by omega]; exact v2) y z
          have w1 : iW ((a : Int) + 1) = (a : Int) + 1 := iW_id (by omega) (by omega)
          rw [ev_52_2]
          simp only [↓e_aload0, ↓g_0_8, ↓e_iconst, e_rpn, e_rps, e_few0, e_few1, e_few2, e_few3, e_few4, ↓e_cs2, ↓g_0_5, ↓g_0_4, ↓e_cv2, i_15, i_21, ↓e_istore2, e_klI, e_klR, e_klX, e_klL, ↓e_iload2, ↓e_cmp_ge, ↓e_istore3, ↓e_iload3, ↓e_istore4, ↓e_iload4, ↓e_cmp_eq, ↓e_iload1, ↓e_cv5, i_0, ↓e_iinc4, ↓e_goto, ↓e_iinc3, ↓e_iinc2, ↓e_vret, ↓e_nil, b_52_0, b_52_1, b_52_2, b_52_3, b_52_4, b_52_5, b_52_6, b_52_7, ↓ev_52_6, w1]
          exact ⟨fun _ => hn _ _, fun z => absurd (by decide) z⟩
        | succ k2 ih2 =>
          intro b hb v v0 v1 v2 z
          have hnob : ¬ 4 ≤ (b : Int) := by omega
          have lc : ∀ (k3 e : Nat), e + k3 = 4 → ∀ v : ab_W, c_tr w v → c_ox t v (D.cf 255) → c_plan v ((D.cf 255).ord t (64 * a + 16 * b + 4 * e)) → Ev Ls (Sm Ls (d + 4)) q bk_52 3 [vR 0, vI t, vI a, vI b, vI e] [] v := by
            intro k3
            induction k3 with
            | zero =>
              intro e he v v0 v1 v2
              have : e = 4 := by omega
              subst this
              have hn := fun z => ih2 (b + 1) (by omega) v v0 v1 (by rw [show 64 * a + 16 * (b + 1) = 64 * a + 16 * b + 4 * 4 by omega]; exact v2) z
              have w1 : iW ((b : Int) + 1) = (b : Int) + 1 := iW_id (by omega) (by omega)
              rw [ev_52_3]
              simp only [↓e_aload0, ↓g_0_8, ↓e_iconst, e_rpn, e_rps, e_few0, e_few1, e_few2, e_few3, e_few4, ↓e_cs2, ↓g_0_5, ↓g_0_4, ↓e_cv2, i_15, i_21, ↓e_istore2, e_klI, e_klR, e_klX, e_klL, ↓e_iload2, ↓e_cmp_ge, ↓e_istore3, ↓e_iload3, ↓e_istore4, ↓e_iload4, ↓e_cmp_eq, ↓e_iload1, ↓e_cv5, i_0, ↓e_iinc4, ↓e_goto, ↓e_iinc3, ↓e_iinc2, ↓e_vret, ↓e_nil, b_52_0, b_52_1, b_52_2, b_52_3, b_52_4, b_52_5, b_52_6, b_52_7, ↓ev_52_5, w1]
              exact ⟨fun _ => hn _, fun z => absurd (by decide) z⟩
            | succ k3 ih3 =>
              intro e he v v0 v1 v2
              have hnoe : ¬ 4 ≤ (e : Int) := by omega
              have hskip : ¬ o_dis a b e = true → Ev Ls (Sm Ls (d + 4)) q bk_52 3 [vR 0, vI t, vI a, vI b, vI ((e : Int) + 1)] [] v := fun hd => ih3 (e + 1) (by omega) v v0 v1 (by
                have := o_dis_no (h := (D.cf 255).oh t) (show a < 4 by omega) (show b < 4 by omega) (show e < 4 by omega) hd
                rw [show 64 * a + 16 * b + 4 * (e + 1) = 64 * a + 16 * b + 4 * e + 4 by omega]
                unfold Cf.ord at v2 ⊢
                rw [this]; exact v2)
              have hgo : o_dis a b e = true → ∀ Q' : Option ab_V → ab_W → Prop, (∀ x, Ev Ls (Sm Ls (d + 4)) q bk_52 3 [vR 0, vI t, vI a, vI b, vI ((e : Int) + 1)] [] x → Q' none x) → Sm Ls (d + 4) 53 [vR 0, vI t, vI a, vI b, vI e] v Q' := fun hd Q' hQ => q_tryOrder ht htT (by omega) (by omega) (by omega) hd v0 v1 v2 (fun x x0 x1 x2 => hQ x (ih3 (e + 1) (by omega) x x0 x1 (by
                rw [show 64 * a + 16 * b + 4 * (e + 1) = 64 * a + 16 * b + 4 * e + 4 by omega]; exact x2)))
              have w1 : iW ((e : Int) + 1) = (e : Int) + 1 := iW_id (by omega) (by omega)
              rw [ev_52_3]
              simp only [↓e_aload0, ↓g_0_8, ↓e_iconst, e_rpn, e_rps, e_few0, e_few1, e_few2, e_few3, e_few4, ↓e_cs2, ↓g_0_5, ↓g_0_4, ↓e_cv2, i_15, i_21, ↓e_istore2, e_klI, e_klR, e_klX, e_klL, ↓e_iload2, ↓e_cmp_ge, ↓e_istore3, ↓e_iload3, ↓e_istore4, ↓e_iload4, ↓e_cmp_eq, ↓e_iload1, ↓e_cv5, i_0, ↓e_iinc4, ↓e_goto, ↓e_iinc3, ↓e_iinc2, ↓e_vret, ↓e_nil, b_52_0, b_52_1, b_52_2, b_52_3, b_52_4, b_52_5, b_52_6, b_52_7, ↓ev_52_4, hnoe, w1, one0, eq_self, ne_eq, not_true_eq_false, not_false_eq_true, true_implies, false_implies, true_and, and_true, and_self]
              clear w1
              refine ⟨fun g => hskip (fun z => (o_dis_t.mp z).1 (by omega)), fun g => ⟨fun g2 => hskip (fun z => (o_dis_t.mp z).2.1 (by omega)), fun g2 => ⟨fun g3 => hskip (fun z => (o_dis_t.mp z).2.2 (by omega)), fun g3 => hgo (o_dis_t.mpr ⟨by omega, by omega, by omega⟩) _ (fun x hx => ?_)⟩⟩⟩
              have w1 : iW ((e : Int) + 1) = (e : Int) + 1 := iW_id (by omega) (by omega)
              simp only [↓e_aload0, ↓g_0_8, ↓e_iconst, e_rpn, e_rps, e_few0, e_few1, e_few2, e_few3, e_few4, ↓e_cs2, ↓g_0_5, ↓g_0_4, ↓e_cv2, i_15, i_21, ↓e_istore2, e_klI, e_klR, e_klX, e_klL, ↓e_iload2, ↓e_cmp_ge, ↓e_istore3, ↓e_iload3, ↓e_istore4, ↓e_iload4, ↓e_cmp_eq, ↓e_iload1, ↓e_cv5, i_0, ↓e_iinc4, ↓e_goto, ↓e_iinc3, ↓e_iinc2, ↓e_vret, ↓e_nil, b_52_0, b_52_1, b_52_2, b_52_3, b_52_4, b_52_5, b_52_6, b_52_7, ↓ev_52_4, w1]
              exact hx
          have hc := lc 4 0 (by omega) v v0 v1 v2
          rw [ev_52_2]
          simp only [↓e_aload0, ↓g_0_8, ↓e_iconst, e_rpn, e_rps, e_few0, e_few1, e_few2, e_few3, e_few4, ↓e_cs2, ↓g_0_5, ↓g_0_4, ↓e_cv2, i_15, i_21, ↓e_istore2, e_klI, e_klR, e_klX, e_klL, ↓e_iload2, ↓e_cmp_ge, ↓e_istore3, ↓e_iload3, ↓e_istore4, ↓e_iload4, ↓e_cmp_eq, ↓e_iload1, ↓e_cv5, i_0, ↓e_iinc4, ↓e_goto, ↓e_iinc3, ↓e_iinc2, ↓e_vret, ↓e_nil, b_52_0, b_52_1, b_52_2, b_52_3, b_52_4, b_52_5, b_52_6, b_52_7, hnob, one0, eq_self, ne_eq, not_true_eq_false, not_false_eq_true, true_implies, false_implies, true_and, and_true, and_self]
          exact hc
      have hb := fun z => lb 4 0 (by omega) v v0 v1 v2 z
      rw [ev_52_1]
      simp only [↓e_aload0, ↓g_0_8, ↓e_iconst, e_rpn, e_rps, e_few0, e_few1, e_few2, e_few3, e_few4, ↓e_cs2, ↓g_0_5, ↓g_0_4, ↓e_cv2, i_15, i_21, ↓e_istore2, e_klI, e_klR, e_klX, e_klL, ↓e_iload2, ↓e_cmp_ge, ↓e_istore3, ↓e_iload3, ↓e_istore4, ↓e_iload4, ↓e_cmp_eq, ↓e_iload1, ↓e_cv5, i_0, ↓e_iinc4, ↓e_goto, ↓e_iinc3, ↓e_iinc2, ↓e_vret, ↓e_nil, b_52_0, b_52_1, b_52_2, b_52_3, b_52_4, b_52_5, b_52_6, b_52_7, hnoa, one0, eq_self, ne_eq, not_true_eq_false, not_false_eq_true, true_implies, false_implies, true_and, and_true, and_self]
      exact hb _
  rw [en_52]
  simp only [↓e_aload0, ↓g_0_8, ↓e_iconst, e_rpn, e_rps, e_few0, e_few1, e_few2, e_few3, e_few4, ↓e_cs2, ↓g_0_5, ↓g_0_4, ↓e_cv2, i_15, i_21, ↓e_istore2, e_klI, e_klR, e_klX, e_klL, ↓e_iload2, ↓e_cmp_ge, ↓e_istore3, ↓e_iload3, ↓e_istore4, ↓e_iload4, ↓e_cmp_eq, ↓e_iload1, ↓e_cv5, i_0, ↓e_iinc4, ↓e_goto, ↓e_iinc3, ↓e_iinc2, ↓e_vret, ↓e_nil, b_52_0, b_52_1, b_52_2, b_52_3, b_52_4, b_52_5, b_52_6, b_52_7, one0, eq_self, ne_eq, not_true_eq_false, not_false_eq_true, true_implies, false_implies, true_and, and_true, and_self]
  refine q_fill1 (n := 5) rfl (by omega) ?_
  have f0 : c_tr w (ab_fl w 28 0 ((5 : Nat) : Int) (-1)) := fun p hp => ab_fl_pp (by omega)
  simp only [↓e_aload0, ↓g_0_8, ↓e_iconst, e_rpn, e_rps, e_few0, e_few1, e_few2, e_few3, e_few4, ↓e_cs2, ↓g_0_5, ↓g_0_4, ↓e_cv2, i_15, i_21, ↓e_istore2, e_klI, e_klR, e_klX, e_klL, ↓e_iload2, ↓e_cmp_ge, ↓e_istore3, ↓e_iload3, ↓e_istore4, ↓e_iload4, ↓e_cmp_eq, ↓e_iload1, ↓e_cv5, i_0, ↓e_iinc4, ↓e_goto, ↓e_iinc3, ↓e_iinc2, ↓e_vret, ↓e_nil, b_52_0, b_52_1, b_52_2, b_52_3, b_52_4, b_52_5, b_52_6, b_52_7, one0, eq_self, ne_eq, not_true_eq_false, not_false_eq_true, true_implies, false_implies, true_and, and_true, and_self]
  refine q_takeRace (fun x x0 => ?_)
  have hr := x0.rc (f0.told ht).rc
  have x28 : x 28 = (ab_fl w 28 0 ((5 : Nat) : Int) (-1)) 28 := x0.1 28 (by omega)
  simp only [↓e_aload0, ↓g_0_8, ↓e_iconst, e_rpn, e_rps, e_few0, e_few1, e_few2, e_few3, e_few4, ↓e_cs2, ↓g_0_5, ↓g_0_4, ↓e_cv2, i_15, i_21, ↓e_istore2, e_klI, e_klR, e_klX, e_klL, ↓e_iload2, ↓e_cmp_ge, ↓e_istore3, ↓e_iload3, ↓e_istore4, ↓e_iload4, ↓e_cmp_eq, ↓e_iload1, ↓e_cv5, i_0, ↓e_iinc4, ↓e_goto, ↓e_iinc3, ↓e_iinc2, ↓e_vret, ↓e_nil, b_52_0, b_52_1, b_52_2, b_52_3, b_52_4, b_52_5, b_52_6, b_52_7]
  refine la 4 0 (by omega) x (f0.trans x0.tr) (hr.ox htT) ⟨?_, Or.inl ⟨rfl, fun i hi => ?_⟩⟩ _ _
  · rw [x28, ab_fl_in (by omega)]; rfl
  · rw [x28, ab_fl_in (by omega)]
theorem c_plan.ans {x : ab_W} {t i : Nat} (h : c_plan x (c.ord t 256)) (hi : i ≤ 4) : x 28 i = c.orda t i := by
  obtain ⟨h1, h2⟩ := h
  unfold Cf.orda
  have hiff := so_st_iff (ok := o_row) (h := c.oh t) 256
  by_cases hi4 : i = 4
  · subst hi4; rw [if_pos (Or.inr rfl)]; exact h1
  · rcases h2 with ⟨g1, g2⟩ | ⟨k, g1, g2⟩
    · rw [if_pos (Or.inl g1), g2 i (by omega)]
      exact (hiff.mp g1).symm
    · rw [if_neg (by rw [g1]; omega), g1, Int.toNat_natCast]
      exact g2 i (by omega)
theorem q_orderC (ht : c_told w D) {a b : Int} (h : ∀ x, c_tr w x → q (some (vI (p_ord D a b))) x) : Sm Ls (d + 6) 51 [vR 0, vI a, vI b] w q := by
  have hT4 := Td.T4 ht.ok
  have h5 : w 15 5 = (D.T : Int) := ht.rc.2.2.2.1
  unfold p_ord at h
  rw [en_51]
  simp only [↓e_aload0, ↓e_iload1, ↓e_cv2, i_0, e_rpn, e_rps, e_few0, e_few1, e_few2, e_few3, e_few4, ↓e_if_eq, ↓e_iload2, ↓e_if_lt, ↓e_iconst, ↓e_cmp_le, ↓e_bipush, ↓e_iret, ↓g_0_8, ↓x_28, ↓e_nil, b_51_0, b_51_1, b_51_2, ↓ev_51_1, q_isTeam, h5, ab_yn, one0, eq_self, ne_eq, not_true_eq_false, not_false_eq_true, true_implies, false_implies, true_and, and_true, and_self]
  refine ⟨fun g1 => ⟨fun g2 => ?_, fun g2 => ⟨fun g3 => ?_, fun g3 => ?_⟩⟩, fun g1 => ?_⟩
  · have := h w (c_tr.refl w); rw [if_neg (by omega)] at this; exact this
  · obtain ⟨t, rfl⟩ : ∃ t : Nat, a = t := ⟨a.toNat, by omega⟩
    obtain ⟨i, rfl⟩ : ∃ i : Nat, b = i := ⟨b.toNat, by omega⟩
    rw [if_pos (by omega), Int.toNat_natCast, Int.toNat_natCast] at h
    rw [ev_51_2]
    simp only [↓e_aload0, ↓e_iload1, ↓e_cv2, i_0, e_rpn, e_rps, e_few0, e_few1, e_few2, e_few3, e_few4, ↓e_if_eq, ↓e_iload2, ↓e_if_lt, ↓e_iconst, ↓e_cmp_le, ↓e_bipush, ↓e_iret, ↓g_0_8, ↓x_28, ↓e_nil, b_51_0, b_51_1, b_51_2, one0, eq_self, ne_eq, not_true_eq_false, not_false_eq_true, true_implies, false_implies, true_and, and_true, and_self]
    refine q_findOrder ht (by omega) (fun x x0 x1 => ?_)
    have hin : 0 ≤ (i : Int) ∧ (i : Int) < 5 := by omega
    simp only [↓e_aload0, ↓e_iload1, ↓e_cv2, i_0, e_rpn, e_rps, e_few0, e_few1, e_few2, e_few3, e_few4, ↓e_if_eq, ↓e_iload2, ↓e_if_lt, ↓e_iconst, ↓e_cmp_le, ↓e_bipush, ↓e_iret, ↓g_0_8, ↓x_28, ↓e_nil, b_51_0, b_51_1, b_51_2, hin, x1.ans (show i ≤ 4 by omega), one0, eq_self, ne_eq, not_true_eq_false, not_false_eq_true, true_implies, false_implies, true_and, and_true, and_self]
    exact h x x0
  · have := h w (c_tr.refl w); rw [if_neg (by omega)] at this; exact this
  · have := h w (c_tr.refl w); rw [if_neg (fun z => g1 z.1)] at this; exact this
end CFind46
