/-! the class's questions about moments -/
/-- the race at P is c, and has run -/
def c_rc (P : Nat) (w : ab_W) (c : Cf) : Prop := (0 < c.T → c_cond P w c.lg c.rn c.sd) ∧ c_run P w c.T c.so c.pa ∧ c.ok ∧ c_race P w c.T c.F c.E
/-- the class holds what has been told -/
def c_told (w : ab_W) (D : Td) : Prop := c_text w D.n D.by' ∧ w 0 11 = D.lg ∧ c_ev 3 w D.k D.ek D.ew D.en ∧ c_ev 7 w D.sn D.sm D.st D.sr ∧ c_rc 15 w (D.cf 255) ∧ D.ok
/-- only its scratch has changed -/
def c_scr (w w' : ab_W) : Prop := (∀ p, (0 < p ∧ p < 11) ∨ (14 < p ∧ p < 21) ∨ 29 < p → w' p = w p) ∧ ∀ j, j ≠ 7 → w' 0 j = w 0 j
theorem c_scr.refl (w : ab_W) : c_scr w w := ⟨fun _ _ => rfl, fun _ _ => rfl⟩
theorem c_scr.trans {a b c : ab_W} (h : c_scr a b) (h2 : c_scr b c) : c_scr a c := ⟨fun p hp => (h2.1 p hp).trans (h.1 p hp), fun j hj => (h2.2 j hj).trans (h.2 j hj)⟩
theorem c_rc.kept {P : Nat} {w v : ab_W} {c : Cf} (h : c_rc P w c) (hv : ∀ p, P ≤ p → p ≤ P + 5 → v p = w p) : c_rc P v c := by
  obtain ⟨a, b, c0, e1, e2⟩ := h
  unfold c_rc c_cond c_run c_race
  rw [hv P (by omega) (by omega), hv (P + 1) (by omega) (by omega), hv (P + 2) (by omega) (by omega), hv (P + 3) (by omega) (by omega), hv (P + 4) (by omega) (by omega), hv (P + 5) (by omega) (by omega)]
  exact ⟨a, b, c0, e1, e2⟩
theorem c_told.scr {w v : ab_W} {D : Td} (h : c_told w D) (hs : c_scr w v) : c_told v D := by
  obtain ⟨⟨a1, a2, a3⟩, b, c0, e, f, g⟩ := h
  refine ⟨⟨?_, a2, ?_⟩, ?_, ⟨?_, ?_⟩, ⟨?_, ?_⟩, f.kept (fun p h1 h2 => hs.1 p (by omega)), g⟩
  · rw [hs.1 1 (by omega)]; exact a1
  · rw [hs.1 2 (by omega)]; exact a3
  · rw [hs.2 11 (by omega)]; exact b
  · rw [hs.1 3 (by omega)]; exact c0.1
  · rw [hs.1 (3 + 1) (by omega), hs.1 (3 + 2) (by omega), hs.1 (3 + 3) (by omega)]; exact c0.2
  · rw [hs.1 7 (by omega)]; exact e.1
  · rw [hs.1 (7 + 1) (by omega), hs.1 (7 + 2) (by omega), hs.1 (7 + 3) (by omega)]; exact e.2
theorem c_told.ok {w : ab_W} {D : Td} (h : c_told w D) : D.ok := h.2.2.2.2.2
theorem c_told.rc {w : ab_W} {D : Td} (h : c_told w D) : c_rc 15 w (D.cf 255) := h.2.2.2.2.1
theorem m_told.ok {w : ab_W} {D : Td} (h : m_told w D) : D.ok := h.2.2.2.2.2.2
theorem t_D_s {so pa : Nat → Int} {lg : Int} {rn sd : Nat → Bool} {m : Nat} : t_D so pa lg rn sd (m + 1) = t_D so pa lg rn sd m + (if ¬ (t_S so pa lg rn sd m).2.1 = 4 ∧ sd m = true then 1 else 0) := rfl
/-- standing until home, in bits -/
theorem t_D_cb {so pa : Nat → Int} {lg : Int} {rn sd : Nat → Bool} (hok : t_ok pa lg) {N U : Nat} (hN : ∀ m, m < 48 → N.testBit m = sd m) (hU : t_E so pa lg rn sd 3 48 = -1 ∧ U = 48 ∨ t_E so pa lg rn sd 3 48 = U ∧ U < 48) : t_D so pa lg rn sd 48 = ((cb N U : Nat) : Int) := by
  have hi := fun m hm => t_E_iff (so := so) (pa := pa) (lg := lg) (rn := rn) (sd := sd) 3 48 m hm
  have hle := fun m => t_leg_le (so := so) (pa := pa) (lg := lg) (rn := rn) (sd := sd) m
  have h0 : (t_S so pa lg rn sd 0).2.1 = 0 := rfl
  -- at home behind U
  have hleg : ∀ m, m < 48 → ((t_S so pa lg rn sd m).2.1 = 4 ↔ U < m) := by
    intro m hm
    cases m with
    | zero => rw [h0]; omega
    | succ m =>
      have := hi m (by omega)
      have := hle (m + 1)
      omega
  have hgo : U < 48 → sd U = false := fun hU2 => by
    have h1 := (hi U hU2).mp (by omega)
    have h2 := hle (U + 1)
    have h3 := hle U
    have h4 := hleg U hU2
    rcases t_leg_step (so := so) (pa := pa) (lg := lg) (rn := rn) (sd := sd) U with h5 | ⟨_, h5⟩
    · omega
    · exact t_go hok h5
  have key : ∀ m, m ≤ 48 → t_D so pa lg rn sd m = ((cb N (if m ≤ U then m else U) : Nat) : Int) := by
    intro m
    induction m with
    | zero => intro _; rw [if_pos (Nat.zero_le _)]; rfl
    | succ m ih =>
      intro hm
      have h1 := ih (by omega)
      have h2 := hleg m (by omega)
      have h3 := hN m (by omega)
      rw [t_D_s, h1]
      by_cases hmU : m < U
      · rw [if_pos (show m ≤ U by omega), if_pos (show m + 1 ≤ U by omega), cb_s, h3]
        cases hs : sd m with
        | true => rw [if_pos ⟨by omega, rfl⟩]; simp
        | false => simp
      · rw [if_neg (show ¬ m + 1 ≤ U by omega)]
        by_cases hmU2 : m = U
        · subst hmU2
          rw [if_pos (Nat.le_refl _), hgo (by omega)]
          simp
        · rw [if_neg (show ¬ m ≤ U by omega), if_neg (by omega)]
          simp
  have := key 48 (Nat.le_refl _)
  rw [this]
  by_cases hz : 48 ≤ U
  · rw [if_pos hz]; have : U = 48 := by omega
    rw [this]
  · rw [if_neg hz]
theorem cb_ext {A B : Nat} : ∀ k, (∀ j, j < k → A.testBit j = B.testBit j) → cb A k = cb B k
  | 0, _ => rfl
  | k + 1, h => by rw [cb_s, cb_s, cb_ext k (fun j hj => h j (by omega)), h k (by omega)]
theorem cb_none {A : Nat} {u : Nat} (h : A < 2 ^ u) : ∀ k, cb A (u + k) = cb A u
  | 0 => rfl
  | k + 1 => by
    rw [← Nat.add_assoc, cb_s, cb_none h k, Nat.testBit_lt_two_pow (Nat.lt_of_lt_of_le h (Nat.pow_le_pow_right (by decide) (by omega)))]
    rfl
/-- bits below U -/
theorem cb_mod {N U : Nat} (hU : U ≤ 48) : cb (N % 2 ^ U) 48 = cb N U := by
  have h1 : N % 2 ^ U < 2 ^ U := Nat.mod_lt _ (Nat.two_pow_pos U)
  have h2 := cb_none h1 (48 - U)
  rw [show U + (48 - U) = 48 by omega] at h2
  rw [h2]
  refine cb_ext U (fun j hj => ?_)
  rw [Nat.testBit_mod_two_pow]
  simp [hj]
section CMoments35
variable {Ls d : Nat} {w : ab_W} {q : Option ab_V → ab_W → Prop} {D : Td} {c : Cf}
theorem q_legAt (hr : c_rc 15 w c) {t m : Nat} (ht : t < c.T) (hm : m < 48) (h : q (some (vI (c.L t m))) w) : Sm Ls (d + 1) 16 [vR 15, vI t, vI m] w q := by
  have hT := hr.2.2.1.1
  have hE := fun l hl => (hr.2.2.2.2 t ht).2 l hl
  have hle := t_leg_le (so := c.so t) (pa := c.pa t) (lg := c.lg) (rn := c.rn) (sd := c.sd t) (m + 1)
  have hi := fun l => t_E_iff (so := c.so t) (pa := c.pa t) (lg := c.lg) (rn := c.rn) (sd := c.sd t) l 48 m hm
  have hL : c.L t m = ((t_S (c.so t) (c.pa t) c.lg c.rn (c.sd t) (m + 1)).2.1 : Nat) := rfl
  rw [hL] at h
  generalize (t_S (c.so t) (c.pa t) c.lg c.rn (c.sd t) (m + 1)).2.1 = g at h hle hi
  have key : ∀ (k l : Nat), l + k = 4 → ∀ y : ab_V, Ev Ls (Sm Ls d) q bk_16 1 [vR 15, vI t, vI m, vI (if l ≤ g then (l : Int) else g), vI l, y] [] w := by
    intro k
    induction k with
    | zero =>
      intro l hl y
      have : l = 4 := by omega
      subst this
      have e : (if 4 ≤ g then ((4 : Nat) : Int) else (g : Int)) = g := by split <;> omega
      rw [ev_16_1]
      simp only [↓e_iconst, ↓e_istore3, e_klI, e_klR, e_klX, e_klL, ↓e_istore4, ↓e_iload4, ↓e_cmp_ge, ↓e_aload0, ↓g_15_4, ↓g_21_4, ↓e_iload1, ↓e_imul, ↓e_iadd, ↓e_istore5, ↓e_iload5, ↓e_cmp_eq, ↓e_iload2, ↓e_cmp_gt, ↓e_iinc3, ↓e_iinc4, ↓e_goto, ↓e_iload3, ↓e_iret, ↓x_20, ↓x_26, ↓e_nil, b_16_0, b_16_1, b_16_2, b_16_3, ↓ev_16_3]
      refine ⟨fun _ => ?_, fun z => absurd (by decide) z⟩
      rw [e]; exact h
    | succ k ih =>
      intro l hl y
      have hno : ¬ 4 ≤ (l : Int) := by omega
      have hin : 0 ≤ (t : Int) * 4 + l ∧ (t : Int) * 4 + l < 16 := by omega
      have e1 : w 20 ((t : Int) * 4 + l) = t_E (c.so t) (c.pa t) c.lg c.rn (c.sd t) l 48 := hE l (by omega)
      have hil := hi l
      have hI : ∀ x y, x = (if l + 1 ≤ g then ((l + 1 : Nat) : Int) else g) → Ev Ls (Sm Ls d) q bk_16 1 [vR 15, vI t, vI m, vI x, vI ((l : Int) + 1), y] [] w := fun x y hx => by rw [hx]; exact ih (l + 1) (by omega) y
      generalize hE0 : t_E (c.so t) (c.pa t) c.lg c.rn (c.sd t) l 48 = e at e1 hil
      obtain ⟨w1, w2, w3, w4⟩ : iW ((l : Int) + 1) = (l : Int) + 1 ∧ iW ((t : Int) * 4) = (t : Int) * 4 ∧ iW ((t : Int) * 4 + l) = (t : Int) * 4 + l ∧ iW ((if l ≤ g then (l : Int) else g) + 1) = (if l ≤ g then (l : Int) else g) + 1 := ⟨iW_id (by omega) (by omega), iW_id (by omega) (by omega), iW_id (by omega) (by omega), iW_id (by split <;> omega) (by split <;> omega)⟩
      rw [ev_16_1]
      simp only [↓e_iconst, ↓e_istore3, e_klI, e_klR, e_klX, e_klL, ↓e_istore4, ↓e_iload4, ↓e_cmp_ge, ↓e_aload0, ↓g_15_4, ↓g_21_4, ↓e_iload1, ↓e_imul, ↓e_iadd, ↓e_istore5, ↓e_iload5, ↓e_cmp_eq, ↓e_iload2, ↓e_cmp_gt, ↓e_iinc3, ↓e_iinc4, ↓e_goto, ↓e_iload3, ↓e_iret, ↓x_20, ↓x_26, ↓e_nil, b_16_0, b_16_1, b_16_2, b_16_3, ↓ev_16_2, hno, hin, e1, w1, w2, w3, w4, one0, eq_self, ne_eq, not_true_eq_false, not_false_eq_true, true_implies, false_implies, true_and, and_true, and_self]
      clear w1 w2 w3 w4
      refine ⟨fun g1 => hI _ _ ?_, fun g1 => ⟨fun g2 => hI _ _ ?_, fun g2 => hI _ _ ?_⟩⟩
      · split <;> split <;> omega
      · split <;> split <;> omega
      · split <;> split <;> omega
  have h0 := key 4 0 (by omega) vX
  rw [if_pos (Nat.zero_le _)] at h0
  rw [en_16]
  simp only [↓e_iconst, ↓e_istore3, e_klI, e_klR, e_klX, e_klL, ↓e_istore4, ↓e_iload4, ↓e_cmp_ge, ↓e_aload0, ↓g_15_4, ↓g_21_4, ↓e_iload1, ↓e_imul, ↓e_iadd, ↓e_istore5, ↓e_iload5, ↓e_cmp_eq, ↓e_iload2, ↓e_cmp_gt, ↓e_iinc3, ↓e_iinc4, ↓e_goto, ↓e_iload3, ↓e_iret, ↓x_20, ↓x_26, ↓e_nil, b_16_0, b_16_1, b_16_2, b_16_3]
  exact h0
theorem q_stoodOf (hr : c_rc 15 w c) {t : Nat} (ht : t < c.T) (h : q (some (vI (c.D t))) w) : Sm Ls (d + 2) 17 [vR 15, vI t] w q := by
  have hT := hr.2.2.1.1
  have hE : w 20 ((t : Int) * 4 + 3) = t_E (c.so t) (c.pa t) c.lg c.rn (c.sd t) 3 48 := (hr.2.2.2.2 t ht).2 3 (by omega)
  have hEi := t_E_in (so := c.so t) (pa := c.pa t) (lg := c.lg) (rn := c.rn) (sd := c.sd t) 3 48
  obtain ⟨N, n1, n2, n3⟩ := (hr.1 (by omega)).2.2.2 t (by omega)
  have n2 : w 18 (t : Int) = (N : Int) := n2
  have hfin : ∀ U : Nat, (t_E (c.so t) (c.pa t) c.lg c.rn (c.sd t) 3 48 = -1 ∧ U = 48 ∨ t_E (c.so t) (c.pa t) c.lg c.rn (c.sd t) 3 48 = U ∧ U < 48) → ∀ y : ab_V, Ev Ls (Sm Ls (d + 1)) q bk_17 2 [vR 15, vI t, vI (t_E (c.so t) (c.pa t) c.lg c.rn (c.sd t) 3 48), y] [vI U] w := fun U hU y => by
    have hD : c.D t = ((cb N U : Nat) : Int) := t_D_cb (z_t_ok hr.2.2.1 ht) n3 hU
    have hU48 : U ≤ 48 := by omega
    have p48 : 2 ^ U ≤ 281474976710656 := Nat.pow_le_pow_right (n := 2) (j := 48) (by decide) hU48
    have pos := Nat.two_pow_pos U
    have a1 : l_shl 1 (U : Int) = ((1 * 2 ^ U : Nat) : Int) := b_lshl (a := 1) (by omega) (by omega)
    have a2 : lW (((1 * 2 ^ U : Nat) : Int) - 1) = ((2 ^ U - 1 : Nat) : Int) := by rw [lW_id (by omega) (by omega)]; omega
    have a3 : l_and (N : Int) ((2 ^ U - 1 : Nat) : Int) = ((N % 2 ^ U : Nat) : Int) := by
      rw [b_land (by omega) (by omega), Nat.and_two_pow_sub_one_eq_mod]
    have a4 : N % 2 ^ U < 281474976710656 := Nat.lt_of_lt_of_le (Nat.mod_lt _ pos) p48
    have a5 : ∀ Q' : Option ab_V → ab_W → Prop, Sm Ls (d + 1) 1 [vL ((N % 2 ^ U : Nat) : Int)] w Q' = Q' (some (vI ((cb (N % 2 ^ U) 48 : Nat) : Int))) w := fun Q' => q_bitL a4
    rw [cb_mod hU48] at a5
    rw [hD] at h
    have hin : 0 ≤ (t : Int) ∧ (t : Int) < 4 := by omega
    rw [ev_17_2]
    simp only [↓e_aload0, ↓e_iload1, ↓e_cv2, i_15, i_21, e_rpn, e_rps, e_few0, e_few1, e_few2, e_few3, e_few4, ↓e_istore2, e_klI, e_klR, e_klX, e_klL, ↓e_iload2, ↓e_iconst, ↓e_cmp_ne, ↓e_bipush, ↓e_goto, ↓e_istore3, ↓g_15_2, ↓g_21_2, ↓e_lconst1, ↓e_iload3, ↓e_lshl, ↓e_lsub, ↓e_land, ↓e_cs1, ↓e_iret, ↓x_18, ↓x_24, ↓e_nil, b_17_0, b_17_1, b_17_2, n2, hin, a1, a2, a3, a5, one0, eq_self, ne_eq, not_true_eq_false, not_false_eq_true, true_implies, false_implies, true_and, and_true, and_self]
    exact h
  have hA := hfin 48
  have hB := fun U hU => hfin U (Or.inr hU)
  rw [en_17]
  simp only [↓e_aload0, ↓e_iload1, ↓e_cv2, i_15, i_21, e_rpn, e_rps, e_few0, e_few1, e_few2, e_few3, e_few4, ↓e_istore2, e_klI, e_klR, e_klX, e_klL, ↓e_iload2, ↓e_iconst, ↓e_cmp_ne, ↓e_bipush, ↓e_goto, ↓e_istore3, ↓g_15_2, ↓g_21_2, ↓e_lconst1, ↓e_iload3, ↓e_lshl, ↓e_lsub, ↓e_land, ↓e_cs1, ↓e_iret, ↓x_18, ↓x_24, ↓e_nil, b_17_0, b_17_1, b_17_2, true_and]
  refine q_homeOf (Or.inl rfl) (by omega) ?_
  rw [show w (15 + 5) ((t : Int) * 4 + 3) = t_E (c.so t) (c.pa t) c.lg c.rn (c.sd t) 3 48 from hE]
  generalize t_E (c.so t) (c.pa t) c.lg c.rn (c.sd t) 3 48 = e at hA hB hEi
  simp only [↓e_aload0, ↓e_iload1, ↓e_cv2, i_15, i_21, e_rpn, e_rps, e_few0, e_few1, e_few2, e_few3, e_few4, ↓e_istore2, e_klI, e_klR, e_klX, e_klL, ↓e_iload2, ↓e_iconst, ↓e_cmp_ne, ↓e_bipush, ↓e_goto, ↓e_istore3, ↓g_15_2, ↓g_21_2, ↓e_lconst1, ↓e_iload3, ↓e_lshl, ↓e_lsub, ↓e_land, ↓e_cs1, ↓e_iret, ↓x_18, ↓x_24, ↓e_nil, b_17_0, b_17_1, b_17_2, ↓ev_17_1]
  refine ⟨fun g1 => ?_, fun g1 => hA (Or.inl ⟨by omega, rfl⟩) _⟩
  obtain ⟨U, rfl⟩ : ∃ U : Nat, e = U := ⟨e.toNat, by omega⟩
  exact hB U ⟨rfl, by omega⟩ _
theorem q_runnerC (ht : c_told w D) {a b x : Int} (h : q (some (vI (p_runner D a b x))) w) : Sm Ls (d + 2) 35 [vR 0, vI a, vI b, vI x] w q := by
  have hT4 := Td.T4 ht.ok
  have h5 : w 15 5 = (D.T : Int) := ht.rc.2.2.2.1
  unfold p_runner at h
  rw [en_35]
  simp only [↓e_aload0, ↓e_iload1, ↓e_cv2, i_0, e_rpn, e_rps, e_few0, e_few1, e_few2, e_few3, e_few4, ↓e_if_eq, ↓e_iload2, ↓e_cs1, ↓e_iload3, ↓e_if_ne, ↓e_bipush, ↓e_iret, ↓e_iconst, ↓e_imul, ↓e_iadd, ↓e_istore4, e_klI, e_klR, e_klX, e_klL, ↓g_0_4, ↓g_15_0, ↓g_21_0, ↓e_iload4, ↓e_goto, ↓g_15_1, ↓g_21_1, ↓x_16, ↓x_17, ↓x_22, ↓x_23, ↓e_nil, b_35_0, b_35_1, b_35_2, b_35_3, b_35_4, ↓ev_35_1, q_isTeam, q_isLeg, q_isEither, h5, ab_yn, one0, eq_self, ne_eq, not_true_eq_false, not_false_eq_true, true_implies, false_implies, true_and, and_true, and_self]
  refine ⟨fun g1 => ⟨fun g2 => ⟨fun g3 => ?_, fun g3 => ?_⟩, fun g2 => ?_⟩, fun g1 => ?_⟩
  · obtain ⟨t, rfl⟩ : ∃ t : Nat, a = t := ⟨a.toNat, by omega⟩
    obtain ⟨l, rfl⟩ : ∃ l : Nat, b = l := ⟨b.toNat, by omega⟩
    rw [if_pos ⟨g1, g2, g3⟩, Int.toNat_natCast, Int.toNat_natCast] at h
    obtain ⟨e1, e2⟩ := ht.rc.2.1 t (show t < D.T by omega) l (by omega)
    have e1 : w 16 ((t : Int) * 4 + l) = D.so t l := e1
    have e2 : w 17 ((t : Int) * 4 + l) = D.pa t l := e2
    have hin : 0 ≤ (t : Int) * 4 + l ∧ (t : Int) * 4 + l < 16 := by omega
    obtain ⟨w1, w2⟩ : iW ((t : Int) * 4) = (t : Int) * 4 ∧ iW ((t : Int) * 4 + l) = (t : Int) * 4 + l := ⟨iW_id (by omega) (by omega), iW_id (by omega) (by omega)⟩
    rw [ev_35_2]
    simp only [↓e_aload0, ↓e_iload1, ↓e_cv2, i_0, e_rpn, e_rps, e_few0, e_few1, e_few2, e_few3, e_few4, ↓e_if_eq, ↓e_iload2, ↓e_cs1, ↓e_iload3, ↓e_if_ne, ↓e_bipush, ↓e_iret, ↓e_iconst, ↓e_imul, ↓e_iadd, ↓e_istore4, e_klI, e_klR, e_klX, e_klL, ↓g_0_4, ↓g_15_0, ↓g_21_0, ↓e_iload4, ↓e_goto, ↓g_15_1, ↓g_21_1, ↓x_16, ↓x_17, ↓x_22, ↓x_23, ↓e_nil, b_35_0, b_35_1, b_35_2, b_35_3, b_35_4, ↓ev_35_3, ↓ev_35_4, w1, w2, hin, e1, e2, one0, eq_self, ne_eq, not_true_eq_false, not_false_eq_true, true_implies, false_implies, true_and, and_true, and_self]
    clear w1 w2
    refine ⟨fun g => ?_, fun g => ?_⟩
    · rw [if_neg g] at h; exact h
    · rw [if_pos (by omega)] at h; exact h
  · rw [if_neg (fun z => g3 z.2.2)] at h; exact h
  · rw [if_neg (fun z => g2 z.2.1)] at h; exact h
  · rw [if_neg (fun z => g1 z.1)] at h; exact h
theorem q_atC (ht : c_told w D) {a b x : Int} (h : q (some (vI (p_at D a b x))) w) : Sm Ls (d + 4) 42 [vR 0, vI a, vI b, vI x] w q := by
  have hT4 := Td.T4 ht.ok
  have hr := ht.rc
  have h5 : w 15 5 = (D.T : Int) := ht.rc.2.2.2.1
  unfold p_at at h
  rw [en_42]
  simp only [↓e_iload1, e_rpn, e_rps, e_few0, e_few1, e_few2, e_few3, e_few4, ↓e_cs1, ↓e_if_eq, ↓e_aload0, ↓e_iload2, ↓e_cv2, i_0, ↓e_iload3, ↓e_if_lt, ↓e_iconst, ↓e_cmp_le, ↓e_bipush, ↓e_iret, ↓e_if_ne, ↓g_0_4, ↓e_cv3, i_15, i_21, ↓e_cmp_ne, ↓e_goto, ↓e_nil, b_42_0, b_42_1, b_42_2, b_42_3, b_42_4, b_42_5, ↓ev_42_1, q_isTeam, q_isMoment, h5, ab_yn, one0, eq_self, ne_eq, not_true_eq_false, not_false_eq_true, true_implies, false_implies, true_and, and_true, and_self]
  refine ⟨fun g1 => ⟨fun g2 => ⟨fun g3 => ?_, fun g3 => ⟨fun g4 => ?_, fun g4 => ?_⟩⟩, fun g2 => ?_⟩, fun g1 => ?_⟩
  · rw [if_neg (fun z => by omega)] at h; exact h
  · obtain ⟨m, rfl⟩ : ∃ m : Nat, a = m := ⟨a.toNat, by omega⟩
    obtain ⟨t, rfl⟩ : ∃ t : Nat, b = t := ⟨b.toNat, by omega⟩
    rw [if_pos ⟨g1, g2, by omega, g4⟩, Int.toNat_natCast, Int.toNat_natCast] at h
    unfold Cf.at' at h
    have hF := (hr.2.2.2.2 t (show t < D.T by omega)).1 m (by omega)
    have hF : w 19 ((t : Int) * 48 + m) = (D.cf 255).F t m := hF
    rw [ev_42_2]
    simp only [↓e_iload1, e_rpn, e_rps, e_few0, e_few1, e_few2, e_few3, e_few4, ↓e_cs1, ↓e_if_eq, ↓e_aload0, ↓e_iload2, ↓e_cv2, i_0, ↓e_iload3, ↓e_if_lt, ↓e_iconst, ↓e_cmp_le, ↓e_bipush, ↓e_iret, ↓e_if_ne, ↓g_0_4, ↓e_cv3, i_15, i_21, ↓e_cmp_ne, ↓e_goto, ↓e_nil, b_42_0, b_42_1, b_42_2, b_42_3, b_42_4, b_42_5, ↓ev_42_3, ↓ev_42_4, one0, eq_self, ne_eq, not_true_eq_false, not_false_eq_true, true_implies, false_implies, true_and, and_true, and_self]
    refine ⟨fun x0 => ⟨fun x1 => ?_, fun x1 => ?_⟩, fun x0 => ?_⟩
    · rw [if_neg x0, if_neg x1] at h
      refine q_rankAt (Or.inl rfl) hr.2.2.2 (Cf.rok hr.2.2.1) (t := t) (m := m) (show t < D.T by omega) (by omega) ?_
      simp only [↓e_iload1, e_rpn, e_rps, e_few0, e_few1, e_few2, e_few3, e_few4, ↓e_cs1, ↓e_if_eq, ↓e_aload0, ↓e_iload2, ↓e_cv2, i_0, ↓e_iload3, ↓e_if_lt, ↓e_iconst, ↓e_cmp_le, ↓e_bipush, ↓e_iret, ↓e_if_ne, ↓g_0_4, ↓e_cv3, i_15, i_21, ↓e_cmp_ne, ↓e_goto, ↓e_nil, b_42_0, b_42_1, b_42_2, b_42_3, b_42_4, b_42_5, ↓ev_42_5]
      exact h
    · rw [if_neg x0, if_pos (Classical.not_not.mp x1)] at h
      refine q_legAt hr (t := t) (m := m) (show t < D.T by omega) (by omega) ?_
      simp only [↓e_iload1, e_rpn, e_rps, e_few0, e_few1, e_few2, e_few3, e_few4, ↓e_cs1, ↓e_if_eq, ↓e_aload0, ↓e_iload2, ↓e_cv2, i_0, ↓e_iload3, ↓e_if_lt, ↓e_iconst, ↓e_cmp_le, ↓e_bipush, ↓e_iret, ↓e_if_ne, ↓g_0_4, ↓e_cv3, i_15, i_21, ↓e_cmp_ne, ↓e_goto, ↓e_nil, b_42_0, b_42_1, b_42_2, b_42_3, b_42_4, b_42_5, ↓ev_42_5]
      exact h
    · rw [if_pos (Classical.not_not.mp x0), ← hF] at h
      refine q_metresAt (Or.inl rfl) (by omega) (by omega) ?_
      simp only [↓e_iload1, e_rpn, e_rps, e_few0, e_few1, e_few2, e_few3, e_few4, ↓e_cs1, ↓e_if_eq, ↓e_aload0, ↓e_iload2, ↓e_cv2, i_0, ↓e_iload3, ↓e_if_lt, ↓e_iconst, ↓e_cmp_le, ↓e_bipush, ↓e_iret, ↓e_if_ne, ↓g_0_4, ↓e_cv3, i_15, i_21, ↓e_cmp_ne, ↓e_goto, ↓e_nil, b_42_0, b_42_1, b_42_2, b_42_3, b_42_4, b_42_5]
      exact h
  · rw [if_neg (fun z => by omega)] at h; exact h
  · rw [if_neg (fun z => g2 z.2.1)] at h; exact h
  · rw [if_neg (fun z => g1 z.1)] at h; exact h
theorem q_homeC (ht : c_told w D) {b : Int} (h : q (some (vI (p_team D b (D.cf 255).H))) w) : Sm Ls (d + 2) 43 [vR 0, vI b] w q := by
  have hT4 := Td.T4 ht.ok
  have hr := ht.rc
  have h5 : w 15 5 = (D.T : Int) := ht.rc.2.2.2.1
  unfold p_team at h
  rw [en_43]
  simp only [↓e_aload0, ↓e_iload1, ↓e_cv2, i_0, e_rpn, e_rps, e_few0, e_few1, e_few2, e_few3, e_few4, ↓e_if_eq, ↓g_0_4, i_15, i_21, ↓e_goto, ↓e_bipush, ↓e_iret, ↓e_nil, b_43_0, b_43_1, b_43_2, ↓ev_43_1, ↓ev_43_2, q_isTeam, h5, ab_yn, one0, eq_self, ne_eq, not_true_eq_false, not_false_eq_true, true_implies, false_implies, true_and, and_true, and_self]
  refine ⟨fun g1 => ?_, fun g1 => ?_⟩
  · obtain ⟨t, rfl⟩ : ∃ t : Nat, b = t := ⟨b.toNat, by omega⟩
    rw [if_pos g1, Int.toNat_natCast] at h
    refine q_homeOf (Or.inl rfl) (by omega) ?_
    simp only [↓e_aload0, ↓e_iload1, ↓e_cv2, i_0, e_rpn, e_rps, e_few0, e_few1, e_few2, e_few3, e_few4, ↓e_if_eq, ↓g_0_4, i_15, i_21, ↓e_goto, ↓e_bipush, ↓e_iret, ↓e_nil, b_43_0, b_43_1, b_43_2, ↓ev_43_2]
    have : w (15 + 5) ((t : Int) * 4 + 3) = (D.cf 255).H t := (hr.2.2.2.2 t (show t < D.T by omega)).2 3 (by omega)
    rw [this]; exact h
  · rw [if_neg g1] at h; exact h
theorem q_stoodC (ht : c_told w D) {b : Int} (h : q (some (vI (p_team D b (D.cf 255).D))) w) : Sm Ls (d + 3) 50 [vR 0, vI b] w q := by
  have hT4 := Td.T4 ht.ok
  have hr := ht.rc
  have h5 : w 15 5 = (D.T : Int) := ht.rc.2.2.2.1
  unfold p_team at h
  rw [en_50]
  simp only [↓e_aload0, ↓e_iload1, ↓e_cv2, i_0, e_rpn, e_rps, e_few0, e_few1, e_few2, e_few3, e_few4, ↓e_if_eq, ↓g_0_4, i_15, i_21, ↓e_goto, ↓e_bipush, ↓e_iret, ↓e_nil, b_50_0, b_50_1, b_50_2, ↓ev_50_1, ↓ev_50_2, q_isTeam, h5, ab_yn, one0, eq_self, ne_eq, not_true_eq_false, not_false_eq_true, true_implies, false_implies, true_and, and_true, and_self]
  refine ⟨fun g1 => ?_, fun g1 => ?_⟩
  · obtain ⟨t, rfl⟩ : ∃ t : Nat, b = t := ⟨b.toNat, by omega⟩
    rw [if_pos g1, Int.toNat_natCast] at h
    refine q_stoodOf hr (show t < D.T by omega) ?_
    simp only [↓e_aload0, ↓e_iload1, ↓e_cv2, i_0, e_rpn, e_rps, e_few0, e_few1, e_few2, e_few3, e_few4, ↓e_if_eq, ↓g_0_4, i_15, i_21, ↓e_goto, ↓e_bipush, ↓e_iret, ↓e_nil, b_50_0, b_50_1, b_50_2, ↓ev_50_2]
    exact h
  · rw [if_neg g1] at h; exact h
theorem q_lastedC (ht : c_told w D) {a b : Int} (h : q (some (vI (p_tl D a b (D.cf 255).la))) w) : Sm Ls (d + 2) 44 [vR 0, vI a, vI b] w q := by
  have hT4 := Td.T4 ht.ok
  have hr := ht.rc
  have h5 : w 15 5 = (D.T : Int) := ht.rc.2.2.2.1
  unfold p_tl at h
  rw [en_44]
  simp only [↓e_aload0, ↓e_iload1, ↓e_cv2, i_0, e_rpn, e_rps, e_few0, e_few1, e_few2, e_few3, e_few4, ↓e_if_eq, ↓e_iload2, ↓e_cs1, ↓e_if_ne, ↓e_bipush, ↓e_iret, ↓g_0_4, ↓g_15_4, ↓g_21_4, ↓e_iconst, ↓e_imul, ↓e_iadd, ↓e_istore3, e_klI, e_klR, e_klX, e_klL, ↓e_iload3, ↓e_cmp_ne, ↓e_goto, ↓e_isub, ↓e_istore4, ↓e_iload4, ↓x_20, ↓x_26, ↓e_nil, b_44_0, b_44_1, b_44_2, b_44_3, b_44_4, b_44_5, ↓ev_44_1, q_isTeam, q_isLeg, h5, ab_yn, one0, eq_self, ne_eq, not_true_eq_false, not_false_eq_true, true_implies, false_implies, true_and, and_true, and_self]
  refine ⟨fun g1 => ⟨fun g2 => ?_, fun g2 => ?_⟩, fun g1 => ?_⟩
  · obtain ⟨t, rfl⟩ : ∃ t : Nat, a = t := ⟨a.toNat, by omega⟩
    obtain ⟨l, rfl⟩ : ∃ l : Nat, b = l := ⟨b.toNat, by omega⟩
    rw [if_pos ⟨g1, g2⟩, Int.toNat_natCast, Int.toNat_natCast] at h
    have e1 : w 20 ((t : Int) * 4 + l) = (D.cf 255).E t l := (hr.2.2.2.2 t (show t < D.T by omega)).2 l (by omega)
    have hin : 0 ≤ (t : Int) * 4 + l ∧ (t : Int) * 4 + l < 16 := by omega
    have hEi := fun l => t_E_in (so := (D.cf 255).so t) (pa := (D.cf 255).pa t) (lg := (D.cf 255).lg) (rn := (D.cf 255).rn) (sd := (D.cf 255).sd t) l 48
    have hEi : ∀ l, -1 ≤ (D.cf 255).E t l ∧ (D.cf 255).E t l < (48 : Int) := hEi
    have hla : (D.cf 255).la t l = if (D.cf 255).E t l = -1 then -1 else (D.cf 255).E t l - (if l = 0 then -1 else (D.cf 255).E t (l - 1)) := rfl
    rw [hla] at h
    have i1 := hEi l
    have hfin : ∀ x, (x = if l = 0 then -1 else (D.cf 255).E t (l - 1)) → (D.cf 255).E t l ≠ -1 → ∀ y, Ev Ls (Sm Ls (d + 1)) q bk_44 5 [vR 0, vI t, vI l, vI ((D.cf 255).E t l), y] [vI x] w := fun x hx hne y => by
      have i2 := hEi (l - 1)
      have hx2 : -1 ≤ x ∧ x < 48 := by rw [hx]; split <;> omega
      have u1 : iW ((D.cf 255).E t l - x) = (D.cf 255).E t l - x := iW_id (by omega) (by omega)
      rw [if_neg hne, ← hx] at h
      rw [ev_44_5]
      simp only [↓e_aload0, ↓e_iload1, ↓e_cv2, i_0, e_rpn, e_rps, e_few0, e_few1, e_few2, e_few3, e_few4, ↓e_if_eq, ↓e_iload2, ↓e_cs1, ↓e_if_ne, ↓e_bipush, ↓e_iret, ↓g_0_4, ↓g_15_4, ↓g_21_4, ↓e_iconst, ↓e_imul, ↓e_iadd, ↓e_istore3, e_klI, e_klR, e_klX, e_klL, ↓e_iload3, ↓e_cmp_ne, ↓e_goto, ↓e_isub, ↓e_istore4, ↓e_iload4, ↓x_20, ↓x_26, ↓e_nil, b_44_0, b_44_1, b_44_2, b_44_3, b_44_4, b_44_5, u1]
      exact h
    have hA : l = 0 → _ := fun hl => hfin (-1) (by rw [if_pos hl])
    have hB : l ≠ 0 → w 20 ((t : Int) * 4 + l - 1) = (D.cf 255).E t (l - 1) := fun hl => by
      have := (hr.2.2.2.2 t (show t < D.T by omega)).2 (l - 1) (by omega)
      rw [show ((t : Int) * 4 + ((l - 1 : Nat) : Int)) = (t : Int) * 4 + l - 1 by omega] at this
      exact this
    obtain ⟨w1, w2, w3⟩ : iW ((t : Int) * 4) = (t : Int) * 4 ∧ iW ((t : Int) * 4 + l) = (t : Int) * 4 + l ∧ iW ((t : Int) * 4 + l - 1) = (t : Int) * 4 + l - 1 := ⟨iW_id (by omega) (by omega), iW_id (by omega) (by omega), iW_id (by omega) (by omega)⟩
    rw [ev_44_2]
    simp only [↓e_aload0, ↓e_iload1, ↓e_cv2, i_0, e_rpn, e_rps, e_few0, e_few1, e_few2, e_few3, e_few4, ↓e_if_eq, ↓e_iload2, ↓e_cs1, ↓e_if_ne, ↓e_bipush, ↓e_iret, ↓g_0_4, ↓g_15_4, ↓g_21_4, ↓e_iconst, ↓e_imul, ↓e_iadd, ↓e_istore3, e_klI, e_klR, e_klX, e_klL, ↓e_iload3, ↓e_cmp_ne, ↓e_goto, ↓e_isub, ↓e_istore4, ↓e_iload4, ↓x_20, ↓x_26, ↓e_nil, b_44_0, b_44_1, b_44_2, b_44_3, b_44_4, b_44_5, ↓ev_44_3, ↓ev_44_4, w1, w2, w3, hin, e1, one0, eq_self, ne_eq, not_true_eq_false, not_false_eq_true, true_implies, false_implies, true_and, and_true, and_self]
    clear w1 w2 w3
    refine ⟨fun x0 => ⟨fun x1 => ⟨by omega, ?_⟩, fun x1 => hA (by omega) x0 _⟩, fun x0 => ?_⟩
    · rw [hB (by omega)]
      exact hfin _ (by rw [if_neg (by omega)]) x0 _
    · rw [if_pos (Classical.not_not.mp x0)] at h; exact h
  · rw [if_neg (fun z => g2 z.2)] at h; exact h
  · rw [if_neg (fun z => g1 z.1)] at h; exact h
theorem q_winnerOf {P : Nat} (hP : P = 15 ∨ P = 21) (hr : c_rc P w c) {x : Int} (h : q (some (vI (c.wb x))) w) : Sm Ls (d + 5) 46 [vR P, vI x] w q := by
  have hT := hr.2.2.1.1
  have hw := Cf.won_in hr.2.2.1
  have hcall : ∀ Q' : Option ab_V → ab_W → Prop, Q' (some (vI c.won)) w → Sm Ls (d + 4) 21 [vR P] w Q' := fun Q' hQ => q_winner hP hr.2.2.2 (Cf.rok hr.2.2.1) hQ
  have hcall2 : ∀ t : Nat, t < c.T → ∀ Q' : Option ab_V → ab_W → Prop, Q' (some (vI (c.H t))) w → Sm Ls (d + 4) 15 [vR P, vI t] w Q' := fun t ht Q' hQ => q_homeOf hP (by omega) (by
    have : w (P + 5) ((t : Int) * 4 + 3) = c.H t := (hr.2.2.2.2 t ht).2 3 (by omega)
    rw [this]; exact hQ)
  unfold Cf.wb at h
  rw [en_46]
  rcases hP with rfl | rfl
  all_goals
    simp only [↓e_aload0, ↓e_cv1, i_15, i_21, e_rpn, e_rps, e_few0, e_few1, e_few2, e_few3, e_few4, ↓e_istore2, e_klI, e_klR, e_klX, e_klL, ↓e_iload2, ↓e_iconst, ↓e_cmp_ne, ↓e_iret, ↓e_iload1, ↓e_if_ne, ↓e_goto, ↓e_cv2, ↓e_nil, b_46_0, b_46_1, b_46_2, b_46_3, true_and]
    refine hcall _ ?_
    simp only [↓e_aload0, ↓e_cv1, i_15, i_21, e_rpn, e_rps, e_few0, e_few1, e_few2, e_few3, e_few4, ↓e_istore2, e_klI, e_klR, e_klX, e_klL, ↓e_iload2, ↓e_iconst, ↓e_cmp_ne, ↓e_iret, ↓e_iload1, ↓e_if_ne, ↓e_goto, ↓e_cv2, ↓e_nil, b_46_0, b_46_1, b_46_2, b_46_3, ↓ev_46_1, ↓ev_46_2, true_and]
    refine ⟨fun g1 => ⟨fun g2 => ?_, fun g2 => ?_⟩, fun g1 => ?_⟩
    · rw [if_neg (by omega)] at h
      rcases hw with hw | ⟨t, ht, hw⟩
      · exact absurd hw g1
      · rw [hw] at h ⊢
        rw [Int.toNat_natCast] at h
        refine hcall2 t ht _ ?_
        simp only [↓e_aload0, ↓e_cv1, i_15, i_21, e_rpn, e_rps, e_few0, e_few1, e_few2, e_few3, e_few4, ↓e_istore2, e_klI, e_klR, e_klX, e_klL, ↓e_iload2, ↓e_iconst, ↓e_cmp_ne, ↓e_iret, ↓e_iload1, ↓e_if_ne, ↓e_goto, ↓e_cv2, ↓e_nil, b_46_0, b_46_1, b_46_2, b_46_3, ↓ev_46_3]
        exact h
    · rw [if_pos (by omega)] at h
      rw [ev_46_3]
      simp only [↓e_aload0, ↓e_cv1, i_15, i_21, e_rpn, e_rps, e_few0, e_few1, e_few2, e_few3, e_few4, ↓e_istore2, e_klI, e_klR, e_klX, e_klL, ↓e_iload2, ↓e_iconst, ↓e_cmp_ne, ↓e_iret, ↓e_iload1, ↓e_if_ne, ↓e_goto, ↓e_cv2, ↓e_nil, b_46_0, b_46_1, b_46_2, b_46_3]
      exact h
    · have e : c.won = -1 := by omega
      rw [if_pos (by omega), e] at h; exact h
theorem q_wonC (ht : c_told w D) {x : Int} (h : q (some (vI (p_won D x))) w) : Sm Ls (d + 6) 45 [vR 0, vI x] w q := by
  unfold p_won at h
  rw [en_45]
  simp only [↓e_iload1, e_rpn, e_rps, e_few0, e_few1, e_few2, e_few3, e_few4, ↓e_cs1, ↓e_if_ne, ↓e_bipush, ↓e_iret, ↓e_aload0, ↓g_0_4, ↓e_cs2, ↓e_nil, b_45_0, b_45_1, ↓ev_45_1, q_isEither, ab_yn, one0, eq_self, ne_eq, not_true_eq_false, not_false_eq_true, true_implies, false_implies, true_and, and_true, and_self]
  refine ⟨fun g1 => ?_, fun g1 => ?_⟩
  · rw [if_pos g1] at h
    refine q_winnerOf (Or.inl rfl) ht.rc ?_
    simp only [↓e_iload1, e_rpn, e_rps, e_few0, e_few1, e_few2, e_few3, e_few4, ↓e_cs1, ↓e_if_ne, ↓e_bipush, ↓e_iret, ↓e_aload0, ↓g_0_4, ↓e_cs2, ↓e_nil, b_45_0, b_45_1]
    exact h
  · rw [if_neg g1] at h; exact h
theorem q_fmC (hr : c_rc 15 w c) {m : Nat} (hm : m < 48) {Q' : Option ab_V → ab_W → Prop} (h : Q' (some (vI (c.fo m))) w) : Sm Ls (d + 3) 20 [vR 15, vI m] w Q' := q_foremostAt (Or.inl rfl) hr.2.2.2 (Cf.rok hr.2.2.1) hm h
theorem q_changesC (hr : c_rc 15 w c) (h : q (some (vI (c.ch 47))) w) : Sm Ls (d + 4) 47 [vR 0] w q := by
  have key : ∀ (k m : Nat), m + k = 47 → Ev Ls (Sm Ls (d + 3)) q bk_47 1 [vR 0, vI (c.ch m), vI ((m : Int) + 1)] [] w := by
    intro k
    induction k with
    | zero =>
      intro m hm
      have : m = 47 := by omega
      subst this
      rw [ev_47_1]
      simp only [↓e_iconst, ↓e_istore1, e_klI, e_klR, e_klX, e_klL, ↓e_istore2, ↓e_iload2, ↓e_bipush, ↓e_cmp_ge, ↓e_aload0, ↓g_0_4, ↓e_cv2, i_15, i_21, e_rpn, e_rps, e_few0, e_few1, e_few2, e_few3, e_few4, ↓e_isub, ↓e_cmp_eq, ↓e_iinc1, ↓e_iinc2, ↓e_goto, ↓e_iload1, ↓e_iret, ↓e_nil, b_47_0, b_47_1, b_47_2, b_47_3, ↓ev_47_3]
      exact ⟨fun _ => h, fun z => absurd (by decide) z⟩
    | succ k ih =>
      intro m hm
      have hno : ¬ 48 ≤ (m : Int) + 1 := by omega
      have hch := c.ch_in m
      have hI : ∀ x, x = c.ch (m + 1) → Ev Ls (Sm Ls (d + 3)) q bk_47 1 [vR 0, vI x, vI ((m : Int) + 1 + 1)] [] w := fun x hx => by rw [hx]; exact ih (m + 1) (by omega)
      rw [Cf.ch_s] at hI
      have c1 : ∀ Q' : Option ab_V → ab_W → Prop, Q' (some (vI (c.fo (m + 1)))) w → Sm Ls (d + 3) 20 [vR 15, vI ((m : Int) + 1)] w Q' := fun Q' hQ => q_fmC hr (m := m + 1) (by omega) hQ
      have c2 : ∀ Q' : Option ab_V → ab_W → Prop, Q' (some (vI (c.fo m))) w → Sm Ls (d + 3) 20 [vR 15, vI (m : Int)] w Q' := fun Q' hQ => q_fmC hr (m := m) (by omega) hQ
      obtain ⟨u1, u2, u3⟩ : iW ((m : Int) + 1 + 1) = (m : Int) + 1 + 1 ∧ iW ((m : Int) + 1 - 1) = (m : Int) ∧ iW (c.ch m + 1) = c.ch m + 1 := ⟨iW_id (by omega) (by omega), (iW_id (by omega) (by omega)).trans (by omega), iW_id (by omega) (by omega)⟩
      rw [ev_47_1]
      simp only [↓e_iconst, ↓e_istore1, e_klI, e_klR, e_klX, e_klL, ↓e_istore2, ↓e_iload2, ↓e_bipush, ↓e_cmp_ge, ↓e_aload0, ↓g_0_4, ↓e_cv2, i_15, i_21, e_rpn, e_rps, e_few0, e_few1, e_few2, e_few3, e_few4, ↓e_isub, ↓e_cmp_eq, ↓e_iinc1, ↓e_iinc2, ↓e_goto, ↓e_iload1, ↓e_iret, ↓e_nil, b_47_0, b_47_1, b_47_2, b_47_3, hno, one0, eq_self, ne_eq, not_true_eq_false, not_false_eq_true, true_implies, false_implies, true_and, and_true, and_self]
      refine c1 _ ?_
      simp only [↓e_iconst, ↓e_istore1, e_klI, e_klR, e_klX, e_klL, ↓e_istore2, ↓e_iload2, ↓e_bipush, ↓e_cmp_ge, ↓e_aload0, ↓g_0_4, ↓e_cv2, i_15, i_21, e_rpn, e_rps, e_few0, e_few1, e_few2, e_few3, e_few4, ↓e_isub, ↓e_cmp_eq, ↓e_iinc1, ↓e_iinc2, ↓e_goto, ↓e_iload1, ↓e_iret, ↓e_nil, b_47_0, b_47_1, b_47_2, b_47_3, u2, one0, eq_self, ne_eq, not_true_eq_false, not_false_eq_true, true_implies, false_implies, true_and, and_true, and_self]
      refine c2 _ ?_
      simp only [↓e_iconst, ↓e_istore1, e_klI, e_klR, e_klX, e_klL, ↓e_istore2, ↓e_iload2, ↓e_bipush, ↓e_cmp_ge, ↓e_aload0, ↓g_0_4, ↓e_cv2, i_15, i_21, e_rpn, e_rps, e_few0, e_few1, e_few2, e_few3, e_few4, ↓e_isub, ↓e_cmp_eq, ↓e_iinc1, ↓e_iinc2, ↓e_goto, ↓e_iload1, ↓e_iret, ↓e_nil, b_47_0, b_47_1, b_47_2, b_47_3, ↓ev_47_2, u1, u3, one0, eq_self, ne_eq, not_true_eq_false, not_false_eq_true, true_implies, false_implies, true_and, and_true, and_self]
      refine ⟨fun g => hI _ ?_, fun g => hI _ ?_⟩
      · rw [if_pos g]; clear u1 u2 u3; omega
      · rw [if_neg g]
  have h0 := key 47 0 (by omega)
  rw [en_47]
  simp only [↓e_iconst, ↓e_istore1, e_klI, e_klR, e_klX, e_klL, ↓e_istore2, ↓e_iload2, ↓e_bipush, ↓e_cmp_ge, ↓e_aload0, ↓g_0_4, ↓e_cv2, i_15, i_21, e_rpn, e_rps, e_few0, e_few1, e_few2, e_few3, e_few4, ↓e_isub, ↓e_cmp_eq, ↓e_iinc1, ↓e_iinc2, ↓e_goto, ↓e_iload1, ↓e_iret, ↓e_nil, b_47_0, b_47_1, b_47_2, b_47_3]
  exact h0
theorem q_ahC (hr : c_rc 15 w c) {t : Nat} {Q' : Option ab_V → ab_W → Prop} (h : Q' (some (vI (c.ah t 48))) w) : Sm Ls (d + 4) 49 [vR 0, vI t] w Q' := by
  have key : ∀ (k m : Nat), m + k = 48 → Ev Ls (Sm Ls (d + 3)) Q' bk_49 1 [vR 0, vI t, vI (c.ah t m), vI m] [] w := by
    intro k
    induction k with
    | zero =>
      intro m hm
      have : m = 48 := by omega
      subst this
      rw [ev_49_1]
      simp only [↓e_iconst, ↓e_istore2, e_klI, e_klR, e_klX, e_klL, ↓e_istore3, ↓e_iload3, ↓e_bipush, ↓e_cmp_ge, ↓e_aload0, ↓g_0_4, ↓e_cv2, i_15, i_21, e_rpn, e_rps, e_few0, e_few1, e_few2, e_few3, e_few4, ↓e_iload1, ↓e_cmp_ne, ↓e_iinc2, ↓e_iinc3, ↓e_goto, ↓e_iload2, ↓e_iret, ↓e_nil, b_49_0, b_49_1, b_49_2, b_49_3, ↓ev_49_3]
      exact ⟨fun _ => h, fun z => absurd (by decide) z⟩
    | succ k ih =>
      intro m hm
      have hno : ¬ 48 ≤ (m : Int) := by omega
      have hch := c.ah_in t m
      have hI : ∀ x, x = c.ah t (m + 1) → Ev Ls (Sm Ls (d + 3)) Q' bk_49 1 [vR 0, vI t, vI x, vI ((m : Int) + 1)] [] w := fun x hx => by rw [hx]; exact ih (m + 1) (by omega)
      rw [Cf.ah_s] at hI
      obtain ⟨u1, u3⟩ : iW ((m : Int) + 1) = (m : Int) + 1 ∧ iW (c.ah t m + 1) = c.ah t m + 1 := ⟨iW_id (by omega) (by omega), iW_id (by omega) (by omega)⟩
      rw [ev_49_1]
      simp only [↓e_iconst, ↓e_istore2, e_klI, e_klR, e_klX, e_klL, ↓e_istore3, ↓e_iload3, ↓e_bipush, ↓e_cmp_ge, ↓e_aload0, ↓g_0_4, ↓e_cv2, i_15, i_21, e_rpn, e_rps, e_few0, e_few1, e_few2, e_few3, e_few4, ↓e_iload1, ↓e_cmp_ne, ↓e_iinc2, ↓e_iinc3, ↓e_goto, ↓e_iload2, ↓e_iret, ↓e_nil, b_49_0, b_49_1, b_49_2, b_49_3, hno, one0, eq_self, ne_eq, not_true_eq_false, not_false_eq_true, true_implies, false_implies, true_and, and_true, and_self]
      refine q_fmC hr (by clear u1 u3; omega) ?_
      simp only [↓e_iconst, ↓e_istore2, e_klI, e_klR, e_klX, e_klL, ↓e_istore3, ↓e_iload3, ↓e_bipush, ↓e_cmp_ge, ↓e_aload0, ↓g_0_4, ↓e_cv2, i_15, i_21, e_rpn, e_rps, e_few0, e_few1, e_few2, e_few3, e_few4, ↓e_iload1, ↓e_cmp_ne, ↓e_iinc2, ↓e_iinc3, ↓e_goto, ↓e_iload2, ↓e_iret, ↓e_nil, b_49_0, b_49_1, b_49_2, b_49_3, ↓ev_49_2, u1, u3, one0, eq_self, ne_eq, not_true_eq_false, not_false_eq_true, true_implies, false_implies, true_and, and_true, and_self]
      refine ⟨fun g => hI _ ?_, fun g => hI _ ?_⟩
      · rw [if_neg g]; clear u1 u3; omega
      · rw [if_pos (Classical.not_not.mp g)]
  have h0 := key 48 0 (by omega)
  rw [en_49]
  simp only [↓e_iconst, ↓e_istore2, e_klI, e_klR, e_klX, e_klL, ↓e_istore3, ↓e_iload3, ↓e_bipush, ↓e_cmp_ge, ↓e_aload0, ↓g_0_4, ↓e_cv2, i_15, i_21, e_rpn, e_rps, e_few0, e_few1, e_few2, e_few3, e_few4, ↓e_iload1, ↓e_cmp_ne, ↓e_iinc2, ↓e_iinc3, ↓e_goto, ↓e_iload2, ↓e_iret, ↓e_nil, b_49_0, b_49_1, b_49_2, b_49_3]
  exact h0
theorem q_leaderC (ht : c_told w D) {x : Int} (h : q (some (vI (p_leader D x))) w) : Sm Ls (d + 5) 48 [vR 0, vI x] w q := by
  unfold p_leader at h
  have hr := ht.rc
  have hT : w 15 5 = (D.T : Int) := ht.rc.2.2.2.1
  have hT4 := Td.T4 ht.ok
  generalize D.cf 255 = c at hr h
  have key : (x = 0 ∨ x = 1) → ∀ (k t : Nat), t + k = D.T → ∀ y : ab_V, Ev Ls (Sm Ls (d + 4)) q bk_48 2 [vR 0, vI x, vI (c.le t).1, vI (c.le t).2, vI t, y] [] w := by
    intro hx k
    rw [if_pos hx] at h
    induction k with
    | zero =>
      intro t htk y
      have : t = D.T := by omega
      subst this
      rw [ev_48_2]
      simp only [↓e_iload1, e_rpn, e_rps, e_few0, e_few1, e_few2, e_few3, e_few4, ↓e_cs1, ↓e_if_ne, ↓e_bipush, ↓e_iret, ↓e_iconst, ↓e_istore2, e_klI, e_klR, e_klX, e_klL, ↓e_istore3, ↓e_istore4, ↓e_iload4, ↓e_aload0, ↓g_0_4, ↓g_15_5, ↓g_21_5, ↓e_cmp_ge, ↓e_cv2, i_0, ↓e_istore5, ↓e_iload5, ↓e_iload3, ↓e_cmp_le, ↓e_iinc4, ↓e_goto, ↓e_iload2, ↓e_nil, b_48_0, b_48_1, b_48_2, b_48_3, b_48_4, b_48_5, b_48_6, ↓ev_48_4, ↓ev_48_5, ↓ev_48_6, hT]
      refine ⟨fun _ => ⟨fun g => ?_, fun g => ?_⟩, fun z => absurd (Int.le_refl _) z⟩
      · rw [if_neg g] at h; exact h
      · rw [if_pos (by omega)] at h; exact h
    | succ k ih =>
      intro t htk y
      have hno : ¬ (D.T : Int) ≤ (t : Int) := by omega
      have hI : ∀ a b, (a, b) = c.le (t + 1) → ∀ y : ab_V, Ev Ls (Sm Ls (d + 4)) q bk_48 2 [vR 0, vI x, vI a, vI b, vI ((t : Int) + 1), y] [] w := fun a b hab y => by
        have := ih (t + 1) (by omega) y
        rw [← hab] at this
        exact this
      rw [Cf.le_s] at hI
      have u1 : iW ((t : Int) + 1) = (t : Int) + 1 := iW_id (by omega) (by omega)
      rw [ev_48_2]
      simp only [↓e_iload1, e_rpn, e_rps, e_few0, e_few1, e_few2, e_few3, e_few4, ↓e_cs1, ↓e_if_ne, ↓e_bipush, ↓e_iret, ↓e_iconst, ↓e_istore2, e_klI, e_klR, e_klX, e_klL, ↓e_istore3, ↓e_istore4, ↓e_iload4, ↓e_aload0, ↓g_0_4, ↓g_15_5, ↓g_21_5, ↓e_cmp_ge, ↓e_cv2, i_0, ↓e_istore5, ↓e_iload5, ↓e_iload3, ↓e_cmp_le, ↓e_iinc4, ↓e_goto, ↓e_iload2, ↓e_nil, b_48_0, b_48_1, b_48_2, b_48_3, b_48_4, b_48_5, b_48_6, hT, hno, one0, eq_self, ne_eq, not_true_eq_false, not_false_eq_true, true_implies, false_implies, true_and, and_true, and_self]
      refine q_ahC hr ?_
      simp only [↓e_iload1, e_rpn, e_rps, e_few0, e_few1, e_few2, e_few3, e_few4, ↓e_cs1, ↓e_if_ne, ↓e_bipush, ↓e_iret, ↓e_iconst, ↓e_istore2, e_klI, e_klR, e_klX, e_klL, ↓e_istore3, ↓e_istore4, ↓e_iload4, ↓e_aload0, ↓g_0_4, ↓g_15_5, ↓g_21_5, ↓e_cmp_ge, ↓e_cv2, i_0, ↓e_istore5, ↓e_iload5, ↓e_iload3, ↓e_cmp_le, ↓e_iinc4, ↓e_goto, ↓e_iload2, ↓e_nil, b_48_0, b_48_1, b_48_2, b_48_3, b_48_4, b_48_5, b_48_6, ↓ev_48_3, u1]
      refine ⟨fun g => hI _ _ ?_ _, fun g => hI _ _ ?_ _⟩
      · rw [if_neg (by clear u1; omega)]
      · rw [if_pos (by clear u1; omega)]
  rw [en_48]
  simp only [↓e_iload1, e_rpn, e_rps, e_few0, e_few1, e_few2, e_few3, e_few4, ↓e_cs1, ↓e_if_ne, ↓e_bipush, ↓e_iret, ↓e_iconst, ↓e_istore2, e_klI, e_klR, e_klX, e_klL, ↓e_istore3, ↓e_istore4, ↓e_iload4, ↓e_aload0, ↓g_0_4, ↓g_15_5, ↓g_21_5, ↓e_cmp_ge, ↓e_cv2, i_0, ↓e_istore5, ↓e_iload5, ↓e_iload3, ↓e_cmp_le, ↓e_iinc4, ↓e_goto, ↓e_iload2, ↓e_nil, b_48_0, b_48_1, b_48_2, b_48_3, b_48_4, b_48_5, b_48_6, ↓ev_48_1, q_isEither, ab_yn, one0, eq_self, ne_eq, not_true_eq_false, not_false_eq_true, true_implies, false_implies, true_and, and_true, and_self]
  refine ⟨fun g1 => key g1 D.T 0 (by omega) _, fun g1 => ?_⟩
  rw [if_neg g1] at h; exact h
theorem q_homesC (ht : c_told w D) (h : q (some (vI ((D.cf 255).ho D.T))) w) : Sm Ls (d + 2) 86 [vR 0] w q := by
  have hr := ht.rc
  have hT : w 15 5 = (D.T : Int) := ht.rc.2.2.2.1
  have hT4 := Td.T4 ht.ok
  have hH : ∀ t : Nat, t < D.T → w 20 ((t : Int) * 4 + 3) = (D.cf 255).H t := fun t htT => (hr.2.2.2.2 t htT).2 3 (by omega)
  generalize D.cf 255 = c at hr h hH
  have key : ∀ (k t : Nat), t + k = D.T → Ev Ls (Sm Ls (d + 1)) q bk_86 1 [vR 0, vI (c.ho t), vI t] [] w := by
    intro k
    induction k with
    | zero =>
      intro t htk
      have : t = D.T := by omega
      subst this
      rw [ev_86_1]
      simp only [↓e_iconst, ↓e_istore1, e_klI, e_klR, e_klX, e_klL, ↓e_istore2, ↓e_iload2, ↓e_aload0, ↓g_0_4, ↓g_15_5, ↓g_21_5, ↓e_cmp_ge, ↓e_cv2, i_15, i_21, e_rpn, e_rps, e_few0, e_few1, e_few2, e_few3, e_few4, ↓e_cmp_eq, ↓e_iinc1, ↓e_iinc2, ↓e_goto, ↓e_iload1, ↓e_iret, ↓e_nil, b_86_0, b_86_1, b_86_2, b_86_3, ↓ev_86_3, hT]
      exact ⟨fun _ => h, fun z => absurd (Int.le_refl _) z⟩
    | succ k ih =>
      intro t htk
      have hno : ¬ (D.T : Int) ≤ (t : Int) := by omega
      have hho := c.ho_in t
      have hI : ∀ x, x = c.ho (t + 1) → Ev Ls (Sm Ls (d + 1)) q bk_86 1 [vR 0, vI x, vI ((t : Int) + 1)] [] w := fun x hx => by rw [hx]; exact ih (t + 1) (by omega)
      rw [Cf.ho_s] at hI
      have e1 := hH t (by omega)
      obtain ⟨u1, u2⟩ : iW ((t : Int) + 1) = (t : Int) + 1 ∧ iW (c.ho t + 1) = c.ho t + 1 := ⟨iW_id (by omega) (by omega), iW_id (by omega) (by omega)⟩
      rw [ev_86_1]
      simp only [↓e_iconst, ↓e_istore1, e_klI, e_klR, e_klX, e_klL, ↓e_istore2, ↓e_iload2, ↓e_aload0, ↓g_0_4, ↓g_15_5, ↓g_21_5, ↓e_cmp_ge, ↓e_cv2, i_15, i_21, e_rpn, e_rps, e_few0, e_few1, e_few2, e_few3, e_few4, ↓e_cmp_eq, ↓e_iinc1, ↓e_iinc2, ↓e_goto, ↓e_iload1, ↓e_iret, ↓e_nil, b_86_0, b_86_1, b_86_2, b_86_3, hT, hno, one0, eq_self, ne_eq, not_true_eq_false, not_false_eq_true, true_implies, false_implies, true_and, and_true, and_self]
      refine q_homeOf (Or.inl rfl) (by clear u1 u2; omega) ?_
      dsimp only [Nat.reduceAdd]
      rw [e1]
      simp only [↓e_iconst, ↓e_istore1, e_klI, e_klR, e_klX, e_klL, ↓e_istore2, ↓e_iload2, ↓e_aload0, ↓g_0_4, ↓g_15_5, ↓g_21_5, ↓e_cmp_ge, ↓e_cv2, i_15, i_21, e_rpn, e_rps, e_few0, e_few1, e_few2, e_few3, e_few4, ↓e_cmp_eq, ↓e_iinc1, ↓e_iinc2, ↓e_goto, ↓e_iload1, ↓e_iret, ↓e_nil, b_86_0, b_86_1, b_86_2, b_86_3, ↓ev_86_2, u1, u2, one0, eq_self, ne_eq, not_true_eq_false, not_false_eq_true, true_implies, false_implies, true_and, and_true, and_self]
      refine ⟨fun g => hI _ ?_, fun g => hI _ ?_⟩
      · rw [if_pos g]; clear u1 u2; omega
      · rw [if_neg g]
  have h0 := key D.T 0 (by omega)
  rw [en_86]
  simp only [↓e_iconst, ↓e_istore1, e_klI, e_klR, e_klX, e_klL, ↓e_istore2, ↓e_iload2, ↓e_aload0, ↓g_0_4, ↓g_15_5, ↓g_21_5, ↓e_cmp_ge, ↓e_cv2, i_15, i_21, e_rpn, e_rps, e_few0, e_few1, e_few2, e_few3, e_few4, ↓e_cmp_eq, ↓e_iinc1, ↓e_iinc2, ↓e_goto, ↓e_iload1, ↓e_iret, ↓e_nil, b_86_0, b_86_1, b_86_2, b_86_3]
  exact h0
theorem Cf.me_in {c : Cf} (h : c.ok) : ∀ n, n ≤ c.T → 0 ≤ c.me n ∧ c.me n ≤ 249 * n
  | 0, _ => ⟨Int.le_refl _, Int.le_refl _⟩
  | n + 1, hn => by
    have h1 := Cf.me_in h n (by omega)
    have h2 := Cf.F_in h (show n < c.T by omega) (show 47 < 48 by omega)
    rw [Cf.me_s]
    omega
theorem q_metresC (ht : c_told w D) (h : q (some (vI ((D.cf 255).me D.T))) w) : Sm Ls (d + 2) 87 [vR 0] w q := by
  have hr := ht.rc
  have hT : w 15 5 = (D.T : Int) := ht.rc.2.2.2.1
  have hT4 := Td.T4 ht.ok
  have hF : ∀ t : Nat, t < D.T → w 19 ((t : Int) * 48 + 47) = (D.cf 255).F t 47 := fun t htT => (hr.2.2.2.2 t htT).1 47 (by omega)
  have hFi : ∀ t, t < D.T → 0 ≤ (D.cf 255).F t 47 ∧ (D.cf 255).F t 47 ≤ 249 := fun t htT => Cf.F_in hr.2.2.1 htT (by omega)
  have hMi : ∀ t, t ≤ D.T → 0 ≤ (D.cf 255).me t ∧ (D.cf 255).me t ≤ 249 * t := fun t htT => Cf.me_in hr.2.2.1 t htT
  generalize D.cf 255 = c at hr h hF hFi hMi
  have key : ∀ (k t : Nat), t + k = D.T → Ev Ls (Sm Ls (d + 1)) q bk_87 1 [vR 0, vI (c.me t), vI t] [] w := by
    intro k
    induction k with
    | zero =>
      intro t htk
      have : t = D.T := by omega
      subst this
      rw [ev_87_1]
      simp only [↓e_iconst, ↓e_istore1, e_klI, e_klR, e_klX, e_klL, ↓e_istore2, ↓e_iload2, ↓e_aload0, ↓g_0_4, ↓g_15_5, ↓g_21_5, ↓e_cmp_ge, ↓e_iload1, ↓e_bipush, ↓e_cv3, i_15, i_21, e_rpn, e_rps, e_few0, e_few1, e_few2, e_few3, e_few4, ↓e_iadd, ↓e_iinc2, ↓e_goto, ↓e_iret, ↓e_nil, b_87_0, b_87_1, b_87_2, ↓ev_87_2, hT]
      exact ⟨fun _ => h, fun z => absurd (Int.le_refl _) z⟩
    | succ k ih =>
      intro t htk
      have hno : ¬ (D.T : Int) ≤ (t : Int) := by omega
      have h1 := hFi t (by omega)
      have h2 := hMi t (by omega)
      have hI : ∀ x, x = c.me (t + 1) → Ev Ls (Sm Ls (d + 1)) q bk_87 1 [vR 0, vI x, vI ((t : Int) + 1)] [] w := fun x hx => by rw [hx]; exact ih (t + 1) (by omega)
      rw [Cf.me_s] at hI
      have e1 := hF t (by omega)
      obtain ⟨u1, u2⟩ : iW ((t : Int) + 1) = (t : Int) + 1 ∧ iW (c.me t + c.F t 47) = c.me t + c.F t 47 := ⟨iW_id (by omega) (by omega), iW_id (by omega) (by omega)⟩
      rw [ev_87_1]
      simp only [↓e_iconst, ↓e_istore1, e_klI, e_klR, e_klX, e_klL, ↓e_istore2, ↓e_iload2, ↓e_aload0, ↓g_0_4, ↓g_15_5, ↓g_21_5, ↓e_cmp_ge, ↓e_iload1, ↓e_bipush, ↓e_cv3, i_15, i_21, e_rpn, e_rps, e_few0, e_few1, e_few2, e_few3, e_few4, ↓e_iadd, ↓e_iinc2, ↓e_goto, ↓e_iret, ↓e_nil, b_87_0, b_87_1, b_87_2, hT, hno, one0, eq_self, ne_eq, not_true_eq_false, not_false_eq_true, true_implies, false_implies, true_and, and_true, and_self]
      refine q_metresAt (Or.inl rfl) (by clear u1 u2; omega) (by omega) ?_
      dsimp only [Nat.reduceAdd]
      rw [e1]
      simp only [↓e_iconst, ↓e_istore1, e_klI, e_klR, e_klX, e_klL, ↓e_istore2, ↓e_iload2, ↓e_aload0, ↓g_0_4, ↓g_15_5, ↓g_21_5, ↓e_cmp_ge, ↓e_iload1, ↓e_bipush, ↓e_cv3, i_15, i_21, e_rpn, e_rps, e_few0, e_few1, e_few2, e_few3, e_few4, ↓e_iadd, ↓e_iinc2, ↓e_goto, ↓e_iret, ↓e_nil, b_87_0, b_87_1, b_87_2, u1, u2, one0, eq_self, ne_eq, not_true_eq_false, not_false_eq_true, true_implies, false_implies, true_and, and_true, and_self]
      exact hI _ rfl
  have h0 := key D.T 0 (by omega)
  rw [en_87]
  simp only [↓e_iconst, ↓e_istore1, e_klI, e_klR, e_klX, e_klL, ↓e_istore2, ↓e_iload2, ↓e_aload0, ↓g_0_4, ↓g_15_5, ↓g_21_5, ↓e_cmp_ge, ↓e_iload1, ↓e_bipush, ↓e_cv3, i_15, i_21, e_rpn, e_rps, e_few0, e_few1, e_few2, e_few3, e_few4, ↓e_iadd, ↓e_iinc2, ↓e_goto, ↓e_iret, ↓e_nil, b_87_0, b_87_1, b_87_2]
  exact h0
theorem q_faultC (ht : c_told w D) (h : q (some (vI D.v)) w) : Sm Ls (d + 4) 34 [vR 0] w q := by
  rw [en_34]
  simp only [↓e_aload0, ↓g_0_0, ↓e_cv1, i_1, e_rpn, e_rps, e_few0, e_few1, e_few2, e_few3, e_few4, ↓e_iret, ↓e_nil, b_34_0, true_and]
  refine q_firstFault ht.1 (fun v hv _ => ?_)
  have := x_F_uniq hv D.hv
  subst this
  simp only [↓e_aload0, ↓g_0_0, ↓e_cv1, i_1, e_rpn, e_rps, e_few0, e_few1, e_few2, e_few3, e_few4, ↓e_iret, ↓e_nil, b_34_0]
  exact h
end CMoments35
