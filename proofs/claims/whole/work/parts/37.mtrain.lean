/-! the model's plans: train, fit -/
section MTrain37
variable {Ls d : Nat} {w : ab_W} {q : Option ab_V → ab_W → Prop} {D : Td} {c : Cf}
theorem tr_pa_in {pa : Nat → Int} {l : Nat} (hl : l < 4) (h : ∀ l, l < 4 → 1 ≤ pa l ∧ pa l ≤ 9) : ∀ l', l' < 4 → 1 ≤ tr_pa pa l l' ∧ tr_pa pa l l' ≤ 9 := by
  intro l' hl'
  have h1 := h l hl
  have h2 := h l' hl'
  unfold tr_pa
  split
  · split <;> omega
  · exact h2
/-- a pace changed: ready for that race -/
theorem m_as.pace {x : ab_W} (h : m_as x D) (hok : D.ok) {t l : Nat} (htT : t < D.T) (hl : l < 4) {v : Int} {pa' : Nat → Int} (hpa : ∀ l', l' < 4 → pa' l' = if l' = l then v else D.pa t l') (hv : 1 ≤ v ∧ v ≤ 9) : m_ready (ab_up x 42 (4 * (t : Int) + l) v) ((D.cf 255).sub t (D.so t) pa') := by
  have hT4 := Td.T4 hok
  have e49 : ∀ u l' : Nat, u < 4 → l' < 4 → x 49 (4 * (u : Int) + l') = l' := fun u l' hu hl' => by
    have := h.2.2.2.2.1 (4 * u + l') (by omega)
    rw [show ((4 * u + l' : Nat) : Int) = 4 * (u : Int) + l' by omega, show (4 * u + l') % 4 = l' by omega] at this
    exact this
  refine m_sub_ready ?_ (by rw [ab_up_p (by omega)]; exact h.2.2.2.2.2.1) (fun u hu hut l' hl' => ?_) (fun l' hl' => ?_) (fun l' hl' => ?_) hok
  · obtain ⟨a1, a2, a3, a4⟩ := h.now
    unfold m_now
    rw [ab_up_p (by omega), ab_up_p (by omega), ab_up_p (by omega)]
    refine ⟨a1, a2, a3, fun e he => ?_⟩
    rw [ab_up_p (by omega), ab_up_p (by omega), ab_up_p (by omega)]
    exact a4 e he
  · rw [ab_up_p (by omega), ab_up_p (by omega), ab_up_nj (by omega), e49 u l' (by omega) hl']
    exact ⟨rfl, h.2.2.2.2.2.2 u hu l' hl'⟩
  · rw [ab_up_p (by omega), e49 t l' (by omega) hl', ab_up_p (by omega)]
    obtain ⟨b1, b2⟩ := h.2.2.2.2.2.2 t htT l' hl'
    refine ⟨by omega, b1, ?_⟩
    rw [hpa l' hl']
    by_cases hll : l' = l
    · rw [hll, if_pos rfl, ab_up_at]
    · rw [if_neg hll, ab_up_nj (by omega)]; exact b2
  · rw [hpa l' hl']
    split
    · exact hv
    · exact (Td.cok hok 255).2.2.2 t htT l' hl'
/-- and set back -/
theorem m_as.back {x y : ab_W} (h : m_as x D) {t l : Nat} (htT : t < D.T) (hl : l < 4) {v : Int} (hy : ∀ p, p < 50 → y p = ab_up x 42 (4 * (t : Int) + l) v p) : m_as (ab_up y 42 (4 * (t : Int) + l) (D.pa t l)) D := by
  obtain ⟨a1, a2, a3, a4, a5, a6, a7⟩ := h
  have y42 : ∀ p, p < 50 → p ≠ 42 → y p = x p := fun p hp hp2 => by rw [hy p hp, ab_up_ne hp2]
  refine ⟨?_, ?_, ?_, fun e he => ?_, fun k hk => ?_, ?_, fun u hu l' hl' => ?_⟩
  · rw [ab_up_p (by omega), y42 39 (by omega) (by omega)]; exact a1
  · rw [ab_up_p (by omega), y42 39 (by omega) (by omega)]; exact a2
  · rw [ab_up_p (by omega), y42 39 (by omega) (by omega)]; exact a3
  · rw [ab_up_p (by omega), ab_up_p (by omega), ab_up_p (by omega), y42 46 (by omega) (by omega), y42 47 (by omega) (by omega), y42 48 (by omega) (by omega)]; exact a4 e he
  · rw [ab_up_p (by omega), y42 49 (by omega) (by omega)]; exact a5 k hk
  · rw [ab_up_p (by omega), y42 39 (by omega) (by omega)]; exact a6
  · obtain ⟨b1, b2⟩ := a7 u hu l' hl'
    rw [ab_up_p (by omega), y42 41 (by omega) (by omega)]
    refine ⟨b1, ?_⟩
    by_cases hul : 4 * (u : Int) + l' = 4 * (t : Int) + l
    · rw [hul, ab_up_at]
      have hu2 : u = t := by omega
      have hl2 : l' = l := by omega
      rw [hu2, hl2]
    · rw [ab_up_nj hul, hy 42 (by omega), ab_up_nj hul]; exact b2
theorem m_as.rd {x : ab_W} (h : m_as x D) : m_rd x D := h.2.2.2.2.2
set_option maxHeartbeats 2000000 in
theorem q_trainOf (ht : m_told w D) {t : Nat} (htT : t < D.T) {x : Int} (h : ∀ w', m_post D w w' → q (some (vI (if x = 0 then ((D.cf 255).tra t).1 else ((D.cf 255).tra t).2))) w') : Sm Ls (d + 7) 155 [vR 39, vI t, vI x] w q := by
  have hT4 := Td.T4 ht.ok
  have hin : 0 ≤ (t : Int) ∧ (t : Int) < 4 := by omega
  have hpa := (Td.cok ht.ok 255).2.2.2 t htT
  have hpa : ∀ l, l < 4 → 1 ≤ D.pa t l ∧ D.pa t l ≤ 9 := hpa
  have key : ∀ (k l : Nat), l + k = 4 → ∀ v : ab_W, m_scr w v → m_as v D → ∀ y z : ab_V, Ev Ls (Sm Ls (d + 6)) q bk_155 1 [vR 39, vI t, vI x, vI (so_st (fun _ => true) ((D.cf 255).th t) l).1, vI (so_st (fun _ => true) ((D.cf 255).th t) l).2, vI l, y, z] [] v := by
    intro k
    induction k with
    | zero =>
      intro l hl v v0 v1 y z
      have : l = 4 := by omega
      subst this
      have hfin := h v ⟨v0, v1.rd⟩
      rw [show so_st (fun _ => true) ((D.cf 255).th t) 4 = (D.cf 255).tra t from rfl]
      rw [ev_155_1]
      simp only [↓e_aload0, ↓e_cv1, i_39, e_rpn, e_rps, e_few0, e_few1, e_few2, e_few3, e_few4, ↓e_iconst, ↓e_istore3, e_klI, e_klR, e_klX, e_klL, ↓e_istore4, ↓e_istore5, ↓e_iload5, ↓e_cmp_ge, ↓g_39_4, ↓e_iload1, ↓e_imul, ↓e_iadd, ↓e_istore6, ↓e_iload6, ↓e_bipush, ↓e_cmp_ne, ↓e_goto, ↓g_39_20, ↓e_cmp_eq, ↓e_iload3, ↓e_iload4, ↓e_istore7, ↓e_iload7, ↓e_if_eq, ↓e_iinc5, ↓e_iload2, ↓e_if_ne, ↓e_iret, ↓x_42, ↓y_42, ↓x_53, ↓y_53, ↓e_nil, b_155_0, b_155_1, b_155_2, b_155_3, b_155_4, b_155_5, b_155_6, b_155_7, b_155_8, b_155_9, b_155_10, b_155_11, b_155_12, b_155_13, ↓ev_155_11, ↓ev_155_12, ↓ev_155_13]
      refine ⟨fun _ => ⟨fun g => ?_, fun g => ?_⟩, fun z => absurd (by decide) z⟩
      · rw [if_neg g] at hfin; exact hfin
      · rw [if_pos (Classical.not_not.mp g)] at hfin; exact hfin
    | succ k ih =>
      intro l hl v v0 v1 y z
      have hno : ¬ 4 ≤ (l : Int) := by omega
      have hI : ∀ (v : ab_W) (a b : Int), m_scr w v → m_as v D → (a, b) = so_st (fun _ => true) ((D.cf 255).th t) (l + 1) → ∀ y z : ab_V, Ev Ls (Sm Ls (d + 6)) q bk_155 1 [vR 39, vI t, vI x, vI a, vI b, vI ((l : Int) + 1), y, z] [] v := fun v a b y0 y1 hab y z => by
        have := ih (l + 1) (by omega) v y0 y1 y z
        rw [← hab] at this
        exact this
      rw [so_st_s] at hI
      have hst := so_st_iff (ok := fun _ => true) (h := (D.cf 255).th t) l
      have hpl := hpa l (by omega)
      have e42 : v 42 (4 * (t : Int) + l) = D.pa t l := (v1.rd.2 t htT l (by omega)).2
      have hin2 : 0 ≤ 4 * (t : Int) + l ∧ 4 * (t : Int) + l < 20 := by omega
      obtain ⟨w1, w2, w3, w4⟩ : iW ((l : Int) + 1) = (l : Int) + 1 ∧ iW (4 * (t : Int)) = 4 * (t : Int) ∧ iW (4 * (t : Int) + l) = 4 * (t : Int) + l ∧ iW (D.pa t l + 1) = D.pa t l + 1 := ⟨iW_id (by omega) (by omega), iW_id (by omega) (by omega), iW_id (by omega) (by omega), iW_id (by omega) (by omega)⟩
      -- behind the pace
      have h3 : ∀ (p : Int) (z : ab_V), p = (if D.pa t l = 9 then 9 else D.pa t l + 1) → Ev Ls (Sm Ls (d + 6)) q bk_155 3 [vR 39, vI t, vI x, vI (so_st (fun _ => true) ((D.cf 255).th t) l).1, vI (so_st (fun _ => true) ((D.cf 255).th t) l).2, vI l, vI (D.pa t l), z] [vI p, vI (4 * (t : Int) + l), vR 42] v := fun p z hp => by
        have hrd : m_ready (ab_up v 42 (4 * (t : Int) + l) p) ((D.cf 255).sub t (D.so t) (tr_pa (D.pa t) l)) := v1.pace ht.ok htT (by clear w1 w2 w3 w4; omega) (fun l' hl' => by rw [hp]; rfl) (by rw [hp]; clear w1 w2 w3 w4; split <;> omega)
        rw [ev_155_3]
        simp only [↓e_aload0, ↓e_cv1, i_39, e_rpn, e_rps, e_few0, e_few1, e_few2, e_few3, e_few4, ↓e_iconst, ↓e_istore3, e_klI, e_klR, e_klX, e_klL, ↓e_istore4, ↓e_istore5, ↓e_iload5, ↓e_cmp_ge, ↓g_39_4, ↓e_iload1, ↓e_imul, ↓e_iadd, ↓e_istore6, ↓e_iload6, ↓e_bipush, ↓e_cmp_ne, ↓e_goto, ↓g_39_20, ↓e_cmp_eq, ↓e_iload3, ↓e_iload4, ↓e_istore7, ↓e_iload7, ↓e_if_eq, ↓e_iinc5, ↓e_iload2, ↓e_if_ne, ↓e_iret, ↓x_42, ↓y_42, ↓x_53, ↓y_53, ↓e_nil, b_155_0, b_155_1, b_155_2, b_155_3, b_155_4, b_155_5, b_155_6, b_155_7, b_155_8, b_155_9, b_155_10, b_155_11, b_155_12, b_155_13, hin2, one0, eq_self, ne_eq, not_true_eq_false, not_false_eq_true, true_implies, false_implies, true_and, and_true, and_self]
        refine q_run hrd (fun v3 r1 => ?_)
        have v4a : m_as (ab_up v3 42 (4 * (t : Int) + l) (D.pa t l)) D := v1.back htT (by clear w1 w2 w3 w4; omega) (fun p hp => r1.1 p (Or.inl hp))
        have v4s : m_scr w (ab_up v3 42 (4 * (t : Int) + l) (D.pa t l)) := by
          refine v0.trans (m_scr.trans (b := v3) (m_scr.trans (b := ab_up v 42 (4 * (t : Int) + l) p) ?_ r1.scr) ?_)
          · exact ⟨fun p hp => by rw [ab_up_ne (by omega)], fun j _ _ _ _ => by rw [ab_up_p (by omega)]⟩
          · exact ⟨fun p hp => by rw [ab_up_ne (by omega)], fun j _ _ _ _ => by rw [ab_up_p (by omega)]⟩
        have hH : ab_up v3 42 (4 * (t : Int) + l) (D.pa t l) 53 t = (D.cf 255).th t l := by
          have := r1.H (t := t) htT
          rw [Cf.sub_H] at this
          rw [ab_up_p (by omega)]
          exact this
        have hI2 := fun a b hab y z => hI _ a b v4s v4a hab y z
        simp only [↓e_aload0, ↓e_cv1, i_39, e_rpn, e_rps, e_few0, e_few1, e_few2, e_few3, e_few4, ↓e_iconst, ↓e_istore3, e_klI, e_klR, e_klX, e_klL, ↓e_istore4, ↓e_istore5, ↓e_iload5, ↓e_cmp_ge, ↓g_39_4, ↓e_iload1, ↓e_imul, ↓e_iadd, ↓e_istore6, ↓e_iload6, ↓e_bipush, ↓e_cmp_ne, ↓e_goto, ↓g_39_20, ↓e_cmp_eq, ↓e_iload3, ↓e_iload4, ↓e_istore7, ↓e_iload7, ↓e_if_eq, ↓e_iinc5, ↓e_iload2, ↓e_if_ne, ↓e_iret, ↓x_42, ↓y_42, ↓x_53, ↓y_53, ↓e_nil, b_155_0, b_155_1, b_155_2, b_155_3, b_155_4, b_155_5, b_155_6, b_155_7, b_155_8, b_155_9, b_155_10, b_155_11, b_155_12, b_155_13, ↓ev_155_4, ↓ev_155_5, ↓ev_155_6, ↓ev_155_7, ↓ev_155_8, ↓ev_155_9, ↓ev_155_10, hH, hin, hin2, w1, w2, w3, one0, eq_self, ne_eq, not_true_eq_false, not_false_eq_true, true_implies, false_implies, true_and, and_true, and_self]
        clear w1 w2 w3 w4
        refine ⟨fun g2 => ?_, fun g2 => ⟨fun g3 => ?_, fun g3 => ⟨fun g4 => ?_, fun g4 => ?_⟩⟩⟩
        · exact hI2 _ _ (by rw [if_neg (fun z => z.2.1 g2)]) _ _
        · exact hI2 _ _ (by rw [if_pos ⟨rfl, g2, Or.inl (hst.mp g3)⟩]) _ _
        · exact hI2 _ _ (by rw [if_neg (fun z => z.2.2.elim (fun z => g3 (hst.mpr z)) (fun z => Int.not_lt.mpr g4 z))]) _ _
        · exact hI2 _ _ (by rw [if_pos ⟨rfl, g2, Or.inr (Int.not_le.mp g4)⟩]) _ _
      rw [ev_155_1]
      simp only [↓e_aload0, ↓e_cv1, i_39, e_rpn, e_rps, e_few0, e_few1, e_few2, e_few3, e_few4, ↓e_iconst, ↓e_istore3, e_klI, e_klR, e_klX, e_klL, ↓e_istore4, ↓e_istore5, ↓e_iload5, ↓e_cmp_ge, ↓g_39_4, ↓e_iload1, ↓e_imul, ↓e_iadd, ↓e_istore6, ↓e_iload6, ↓e_bipush, ↓e_cmp_ne, ↓e_goto, ↓g_39_20, ↓e_cmp_eq, ↓e_iload3, ↓e_iload4, ↓e_istore7, ↓e_iload7, ↓e_if_eq, ↓e_iinc5, ↓e_iload2, ↓e_if_ne, ↓e_iret, ↓x_42, ↓y_42, ↓x_53, ↓y_53, ↓e_nil, b_155_0, b_155_1, b_155_2, b_155_3, b_155_4, b_155_5, b_155_6, b_155_7, b_155_8, b_155_9, b_155_10, b_155_11, b_155_12, b_155_13, ↓ev_155_2, hno, hin2, w2, w3, w4, e42, one0, eq_self, ne_eq, not_true_eq_false, not_false_eq_true, true_implies, false_implies, true_and, and_true, and_self]
      refine ⟨fun g => h3 _ _ (by rw [if_neg g]), fun g => h3 _ _ (by rw [if_pos (Classical.not_not.mp g)])⟩
  rw [en_155]
  simp only [↓e_aload0, ↓e_cv1, i_39, e_rpn, e_rps, e_few0, e_few1, e_few2, e_few3, e_few4, ↓e_iconst, ↓e_istore3, e_klI, e_klR, e_klX, e_klL, ↓e_istore4, ↓e_istore5, ↓e_iload5, ↓e_cmp_ge, ↓g_39_4, ↓e_iload1, ↓e_imul, ↓e_iadd, ↓e_istore6, ↓e_iload6, ↓e_bipush, ↓e_cmp_ne, ↓e_goto, ↓g_39_20, ↓e_cmp_eq, ↓e_iload3, ↓e_iload4, ↓e_istore7, ↓e_iload7, ↓e_if_eq, ↓e_iinc5, ↓e_iload2, ↓e_if_ne, ↓e_iret, ↓x_42, ↓y_42, ↓x_53, ↓y_53, ↓e_nil, b_155_0, b_155_1, b_155_2, b_155_3, b_155_4, b_155_5, b_155_6, b_155_7, b_155_8, b_155_9, b_155_10, b_155_11, b_155_12, b_155_13, true_and]
  refine q_asTold ht (fun v v0 v1 => ?_)
  simp only [↓e_aload0, ↓e_cv1, i_39, e_rpn, e_rps, e_few0, e_few1, e_few2, e_few3, e_few4, ↓e_iconst, ↓e_istore3, e_klI, e_klR, e_klX, e_klL, ↓e_istore4, ↓e_istore5, ↓e_iload5, ↓e_cmp_ge, ↓g_39_4, ↓e_iload1, ↓e_imul, ↓e_iadd, ↓e_istore6, ↓e_iload6, ↓e_bipush, ↓e_cmp_ne, ↓e_goto, ↓g_39_20, ↓e_cmp_eq, ↓e_iload3, ↓e_iload4, ↓e_istore7, ↓e_iload7, ↓e_if_eq, ↓e_iinc5, ↓e_iload2, ↓e_if_ne, ↓e_iret, ↓x_42, ↓y_42, ↓x_53, ↓y_53, ↓e_nil, b_155_0, b_155_1, b_155_2, b_155_3, b_155_4, b_155_5, b_155_6, b_155_7, b_155_8, b_155_9, b_155_10, b_155_11, b_155_12, b_155_13]
  exact key 4 0 (by omega) v v0.1 v1 _ _
noncomputable def p_train (D : Td) (a x : Int) : Int := if (0 ≤ a ∧ a < D.T) ∧ (x = 0 ∨ x = 1) then (if x = 0 then ((D.cf 255).tra a.toNat).1 else ((D.cf 255).tra a.toNat).2) else -2
theorem q_trainM (ht : m_told w D) {a x : Int} (h : ∀ w', m_scr w w' → q (some (vI (p_train D a x))) w') : Sm Ls (d + 8) 156 [vR 39, vI a, vI x] w q := by
  unfold p_train at h
  rw [en_156]
  simp only [↓e_aload0, ↓e_iload1, ↓e_cv2, i_39, e_rpn, e_rps, e_few0, e_few1, e_few2, e_few3, e_few4, ↓e_if_eq, ↓e_iload2, ↓e_cs1, ↓e_cv3, ↓e_goto, ↓e_bipush, ↓e_iret, ↓e_nil, b_156_0, b_156_1, b_156_2, true_and]
  refine q_isTeamM ht (fun w1 h1 => ?_)
  simp only [↓e_aload0, ↓e_iload1, ↓e_cv2, i_39, e_rpn, e_rps, e_few0, e_few1, e_few2, e_few3, e_few4, ↓e_if_eq, ↓e_iload2, ↓e_cs1, ↓e_cv3, ↓e_goto, ↓e_bipush, ↓e_iret, ↓e_nil, b_156_0, b_156_1, b_156_2, ↓ev_156_1, ↓ev_156_2, q_isTwo, ab_yn, one0, eq_self, ne_eq, not_true_eq_false, not_false_eq_true, true_implies, false_implies, true_and, and_true, and_self]
  refine ⟨fun g2 => ⟨fun g3 => ?_, fun g3 => ?_⟩, fun g2 => ?_⟩
  · obtain ⟨t, rfl⟩ : ∃ t : Nat, a = t := ⟨a.toNat, by omega⟩
    refine q_trainOf (h1.told ht) (by omega) (fun w2 h2 => ?_)
    have := h w2 (h1.1.trans h2.1)
    rw [if_pos (by omega), Int.toNat_natCast] at this
    simp only [↓e_aload0, ↓e_iload1, ↓e_cv2, i_39, e_rpn, e_rps, e_few0, e_few1, e_few2, e_few3, e_few4, ↓e_if_eq, ↓e_iload2, ↓e_cs1, ↓e_cv3, ↓e_goto, ↓e_bipush, ↓e_iret, ↓e_nil, b_156_0, b_156_1, b_156_2, ↓ev_156_2]
    exact this
  · have := h w1 h1.1; rw [if_neg (by omega)] at this; exact this
  · have := h w1 h1.1; rw [if_neg (by omega)] at this; exact this
theorem Cf.lng_ok {c : Cf} (h : c.ok) {v : Int} (hv : 10 ≤ v ∧ v ≤ 60) : (c.lng v).ok := ⟨h.1, hv.1, hv.2, h.2.2.2⟩
theorem Cf.ft_s {c : Cf} {t : Int} {k : Nat} {v : Int} : c.ft t (k + 1) v = if (c.lng v).won = t then v else c.ft t k (v + 1) := rfl
/-- as told, but for the length -/
theorem m_as.long {x : ab_W} (h : m_as x D) (hok : D.ok) {v : Int} (hv : 10 ≤ v ∧ v ≤ 60) : m_ready (ab_up x 39 10 v) ((D.cf 255).lng v) := by
  refine ⟨⟨by rw [ab_up_nj (by omega)]; exact h.2.2.2.2.2.1, fun t ht l hl => ?_⟩, Cf.lng_ok (Td.cok hok 255) hv, D.k, D.ek, D.ew, D.en, 255, ?_, hok.2.2.2.1, fun _ _ => rfl, fun _ _ _ _ => rfl⟩
  · rw [ab_up_p (by omega), ab_up_p (by omega), ab_up_p (by omega)]
    exact (h.cfg (Td.T4 hok)).2 t ht l hl
  · obtain ⟨a1, a2, a3, a4⟩ := h.now
    refine ⟨by rw [ab_up_nj (by omega)]; exact a1, by rw [ab_up_at]; rfl, by rw [ab_up_nj (by omega)]; exact a3, fun e he => ?_⟩
    rw [ab_up_p (by omega), ab_up_p (by omega), ab_up_p (by omega)]
    exact a4 e he
theorem q_fitOf (ht : m_told w D) {t : Int} (h : ∀ w', m_post D w w' → q (some (vI ((D.cf 255).ft t 51 10))) w') : Sm Ls (d + 7) 157 [vR 39, vI t] w q := by
  have key : ∀ (k l : Nat), l + k = 61 → 10 ≤ l → (D.cf 255).ft t k (l : Int) = (D.cf 255).ft t 51 10 → ∀ v : ab_W, m_scr w v → (∃ u, m_as (ab_up v 39 10 u) D) → Ev Ls (Sm Ls (d + 6)) q bk_157 1 [vR 39, vI t, vI l] [] v := by
    intro k
    induction k with
    | zero =>
      intro l hl hl10 hft v v0 ⟨u, v1⟩
      have : l = 61 := by omega
      subst this
      have hrd : m_rd v D := by
        have := v1.rd
        refine ⟨?_, fun t ht l hl => ?_⟩
        · have h1 := this.1; rw [ab_up_nj (by omega)] at h1; exact h1
        · have h1 := this.2 t ht l hl; rw [ab_up_p (by omega), ab_up_p (by omega)] at h1; exact h1
      have hfin := h v ⟨v0, hrd⟩
      rw [← hft] at hfin
      rw [ev_157_1]
      simp only [↓e_aload0, ↓e_cv1, i_39, e_rpn, e_rps, e_few0, e_few1, e_few2, e_few3, e_few4, ↓e_bipush, ↓e_istore2, e_klI, e_klR, e_klX, e_klL, ↓e_iload2, ↓e_cmp_gt, ↓p_39_10, ↓e_iload1, ↓e_cmp_ne, ↓e_iret, ↓e_iinc2, ↓e_goto, ↓e_iconst, ↓e_nil, b_157_0, b_157_1, b_157_2, b_157_3, ↓ev_157_3]
      exact ⟨fun _ => hfin, fun z => absurd (by decide) z⟩
    | succ k ih =>
      intro l hl hl10 hft v v0 ⟨u, v1⟩
      have hno : ¬ 60 < (l : Int) := by omega
      have hup : ab_up (ab_up v 39 10 u) 39 10 l = ab_up v 39 10 l := by
        funext p j
        by_cases hp : p = 39
        · subst hp
          by_cases hj : j = 10
          · subst hj; rw [ab_up_at, ab_up_at]
          · rw [ab_up_nj hj, ab_up_nj hj, ab_up_nj hj]
        · rw [ab_up_p hp, ab_up_p hp, ab_up_p hp]
      have hrd : m_ready (ab_up v 39 10 l) ((D.cf 255).lng l) := by
        rw [← hup]; exact v1.long ht.ok (by omega)
      have w1 : iW ((l : Int) + 1) = (l : Int) + 1 := iW_id (by omega) (by omega)
      rw [ev_157_1]
      simp only [↓e_aload0, ↓e_cv1, i_39, e_rpn, e_rps, e_few0, e_few1, e_few2, e_few3, e_few4, ↓e_bipush, ↓e_istore2, e_klI, e_klR, e_klX, e_klL, ↓e_iload2, ↓e_cmp_gt, ↓p_39_10, ↓e_iload1, ↓e_cmp_ne, ↓e_iret, ↓e_iinc2, ↓e_goto, ↓e_iconst, ↓e_nil, b_157_0, b_157_1, b_157_2, b_157_3, hno, one0, eq_self, ne_eq, not_true_eq_false, not_false_eq_true, true_implies, false_implies, true_and, and_true, and_self]
      refine q_run hrd (fun v3 r1 => ?_)
      have v3s : m_scr w v3 := by
        refine v0.trans (m_scr.trans (b := ab_up v 39 10 l) ⟨fun p hp => by rw [ab_up_ne (by clear w1; omega)], fun j j1 j2 j3 j4 => by rw [ab_up_nj j2]⟩ r1.scr)
      have v3a : m_as (ab_up v3 39 10 u) D := by
        refine v1.frame (fun p hp => ?_)
        funext j
        by_cases hp9 : p = 39
        · subst hp9
          by_cases hj : j = 10
          · subst hj; rw [ab_up_at, ab_up_at]
          · rw [ab_up_nj hj, ab_up_nj hj, r1.1 39 (by clear w1; omega), ab_up_nj hj]
        · rw [ab_up_p hp9, ab_up_p hp9, r1.1 p (Or.inl hp), ab_up_p hp9]
      have v3r : m_rd v3 D := by
        have := v3a.rd
        refine ⟨?_, fun t ht l hl => ?_⟩
        · have h1 := this.1; rw [ab_up_nj (by clear w1; omega)] at h1; exact h1
        · have h1 := this.2 t ht l hl; rw [ab_up_p (by clear w1; omega), ab_up_p (by clear w1; omega)] at h1; exact h1
      simp only [↓e_aload0, ↓e_cv1, i_39, e_rpn, e_rps, e_few0, e_few1, e_few2, e_few3, e_few4, ↓e_bipush, ↓e_istore2, e_klI, e_klR, e_klX, e_klL, ↓e_iload2, ↓e_cmp_gt, ↓p_39_10, ↓e_iload1, ↓e_cmp_ne, ↓e_iret, ↓e_iinc2, ↓e_goto, ↓e_iconst, ↓e_nil, b_157_0, b_157_1, b_157_2, b_157_3, one0, eq_self, ne_eq, not_true_eq_false, not_false_eq_true, true_implies, false_implies, true_and, and_true, and_self]
      refine q_wonNow (r1.res hrd) ?_
      rw [Cf.ft_s] at hft
      simp only [↓e_aload0, ↓e_cv1, i_39, e_rpn, e_rps, e_few0, e_few1, e_few2, e_few3, e_few4, ↓e_bipush, ↓e_istore2, e_klI, e_klR, e_klX, e_klL, ↓e_iload2, ↓e_cmp_gt, ↓p_39_10, ↓e_iload1, ↓e_cmp_ne, ↓e_iret, ↓e_iinc2, ↓e_goto, ↓e_iconst, ↓e_nil, b_157_0, b_157_1, b_157_2, b_157_3, ↓ev_157_2, w1, one0, eq_self, ne_eq, not_true_eq_false, not_false_eq_true, true_implies, false_implies, true_and, and_true, and_self]
      refine ⟨fun g => ?_, fun g => ?_⟩
      · rw [if_neg g] at hft
        exact ih (l + 1) (by clear w1; omega) (by clear w1; omega) hft v3 v3s ⟨u, v3a⟩
      · rw [if_pos (Classical.not_not.mp g)] at hft
        have hfin := h v3 ⟨v3s, v3r⟩
        rw [← hft] at hfin
        exact hfin
  rw [en_157]
  simp only [↓e_aload0, ↓e_cv1, i_39, e_rpn, e_rps, e_few0, e_few1, e_few2, e_few3, e_few4, ↓e_bipush, ↓e_istore2, e_klI, e_klR, e_klX, e_klL, ↓e_iload2, ↓e_cmp_gt, ↓p_39_10, ↓e_iload1, ↓e_cmp_ne, ↓e_iret, ↓e_iinc2, ↓e_goto, ↓e_iconst, ↓e_nil, b_157_0, b_157_1, b_157_2, b_157_3, true_and]
  refine q_asTold ht (fun v v0 v1 => ?_)
  simp only [↓e_aload0, ↓e_cv1, i_39, e_rpn, e_rps, e_few0, e_few1, e_few2, e_few3, e_few4, ↓e_bipush, ↓e_istore2, e_klI, e_klR, e_klX, e_klL, ↓e_iload2, ↓e_cmp_gt, ↓p_39_10, ↓e_iload1, ↓e_cmp_ne, ↓e_iret, ↓e_iinc2, ↓e_goto, ↓e_iconst, ↓e_nil, b_157_0, b_157_1, b_157_2, b_157_3]
  refine key 51 10 (by omega) (by omega) rfl v v0.1 ⟨v 39 10, ?_⟩
  have : ab_up v 39 10 (v 39 10) = v := by
    funext p j
    by_cases hp : p = 39
    · subst hp
      by_cases hj : j = 10
      · subst hj; rw [ab_up_at]
      · rw [ab_up_nj hj]
    · rw [ab_up_p hp]
  rw [this]; exact v1
theorem q_fitM (ht : m_told w D) {b : Int} (h : ∀ w', m_scr w w' → q (some (vI (p_team D b (fun t => (D.cf 255).ft t 51 10)))) w') : Sm Ls (d + 8) 158 [vR 39, vI b] w q := by
  unfold p_team at h
  rw [en_158]
  simp only [↓e_aload0, ↓e_iload1, ↓e_cv2, i_39, e_rpn, e_rps, e_few0, e_few1, e_few2, e_few3, e_few4, ↓e_if_eq, ↓e_goto, ↓e_bipush, ↓e_iret, ↓e_nil, b_158_0, b_158_1, b_158_2, true_and]
  refine q_isTeamM ht (fun w1 h1 => ?_)
  simp only [↓e_aload0, ↓e_iload1, ↓e_cv2, i_39, e_rpn, e_rps, e_few0, e_few1, e_few2, e_few3, e_few4, ↓e_if_eq, ↓e_goto, ↓e_bipush, ↓e_iret, ↓e_nil, b_158_0, b_158_1, b_158_2, ↓ev_158_1, ↓ev_158_2, ab_yn, one0, eq_self, ne_eq, not_true_eq_false, not_false_eq_true, true_implies, false_implies, true_and, and_true, and_self]
  refine ⟨fun g2 => ?_, fun g2 => ?_⟩
  · obtain ⟨t, rfl⟩ : ∃ t : Nat, b = t := ⟨b.toNat, by omega⟩
    refine q_fitOf (h1.told ht) (fun w2 h2 => ?_)
    have := h w2 (h1.1.trans h2.1)
    rw [if_pos (by omega), Int.toNat_natCast] at this
    simp only [↓e_aload0, ↓e_iload1, ↓e_cv2, i_39, e_rpn, e_rps, e_few0, e_few1, e_few2, e_few3, e_few4, ↓e_if_eq, ↓e_goto, ↓e_bipush, ↓e_iret, ↓e_nil, b_158_0, b_158_1, b_158_2, ↓ev_158_2]
    exact this
  · have := h w1 h1.1; rw [if_neg (by omega)] at this; exact this
end MTrain37
