/-! the class: triples grow, years -/
def c_ap (P : Nat) (w : ab_W) (n : Nat) (a b c : Int) : ab_W := ab_up (ab_up (ab_up (ab_up w (P + 1) n a) (P + 2) n b) (P + 3) n c) P 3 ((n : Int) + 1)
theorem c_ap_ne {P : Nat} {w : ab_W} {n : Nat} {a b c : Int} {p : Nat} (h : ¬ (P ≤ p ∧ p ≤ P + 3)) : c_ap P w n a b c p = w p := by
  unfold c_ap
  rw [ab_up_ne (by omega), ab_up_ne (by omega), ab_up_ne (by omega), ab_up_ne (by omega)]
theorem c_ap_ev {P : Nat} {w : ab_W} {n : Nat} {a b c : Int} {ek ew en : Nat → Int} (h : ∀ e : Nat, e < n → w (P + 1) e = ek e ∧ w (P + 2) e = ew e ∧ w (P + 3) e = en e) (ha : a = ek n) (hb : b = ew n) (hc : c = en n) : c_ev P (c_ap P w n a b c) (n + 1) ek ew en := by
  unfold c_ap
  refine ⟨by rw [ab_up_at]; rfl, fun e he => ?_⟩
  by_cases hen : e = n
  · subst hen
    rw [ab_up_p (by omega), ab_up_p (by omega), ab_up_p (by omega), ab_up_at, ab_up_p (by omega), ab_up_p (by omega), ab_up_at, ab_up_p (by omega), ab_up_at]
    exact ⟨ha, hb, hc⟩
  · rw [ab_up_p (by omega), ab_up_p (by omega), ab_up_p (by omega), ab_up_nj (by omega), ab_up_p (by omega), ab_up_p (by omega), ab_up_nj (by omega), ab_up_p (by omega), ab_up_p (by omega), ab_up_nj (by omega), ab_up_p (by omega), ab_up_p (by omega)]
    exact h e (by omega)
section CYears56
variable {Ls d : Nat} {w : ab_W} {q : Option ab_V → ab_W → Prop} {D : Td} {c : Cf}
theorem q_append {P : Nat} (hP : P = 3 ∨ P = 7 ∨ P = 11) {n : Nat} (hn : n < 8) (h3 : w P 3 = n) {a b x : Int} {Q' : Option ab_V → ab_W → Prop} (h : Q' none (c_ap P w n a b x)) : Sm Ls (d + 1) 30 [vR P, vI a, vI b, vI x] w Q' := by
  have hin : 0 ≤ (n : Int) ∧ (n : Int) < 8 := by omega
  have w1 : iW ((n : Int) + 1) = (n : Int) + 1 := iW_id (by omega) (by omega)
  have f1 : ab_up w (P + 1) n a P 3 = n := by rw [ab_up_p (by clear w1; omega)]; exact h3
  have f2 : ab_up (ab_up w (P + 1) n a) (P + 2) n b P 3 = n := by rw [ab_up_p (by clear w1; omega)]; exact f1
  have f3 : ab_up (ab_up (ab_up w (P + 1) n a) (P + 2) n b) (P + 3) n x P 3 = n := by rw [ab_up_p (by clear w1; omega)]; exact f2
  unfold c_ap at h
  rw [en_30]
  rcases hP with rfl | rfl | rfl
  all_goals
    dsimp only [Nat.reduceAdd] at f1 f2 f3 h
    simp only [↓e_aload0, ↓g_3_0, ↓g_7_0, ↓g_11_0, ↓g_3_3, ↓g_7_3, ↓g_11_3, ↓e_iload1, ↓g_3_1, ↓g_7_1, ↓g_11_1, ↓e_iload2, ↓g_3_2, ↓g_7_2, ↓g_11_2, ↓e_iload3, ↓e_dupI, ↓e_dupR, ↓e_iconst, ↓e_iadd, ↓p_3_3, ↓p_7_3, ↓p_11_3, ↓e_vret, ↓y_4, ↓y_5, ↓y_6, ↓y_8, ↓y_9, ↓y_10, ↓y_12, ↓y_13, ↓y_14, ↓e_nil, b_30_0, h3, hin, f1, f2, f3, w1, one0, eq_self, ne_eq, not_true_eq_false, not_false_eq_true, true_implies, false_implies, true_and, and_true, and_self]
    exact h
theorem q_draw {seed : Int} {n : Nat} (hn : n ≤ 8) {Q' : Option ab_V → ab_W → Prop} (h : ∀ v, (∀ p, ¬ (11 ≤ p ∧ p ≤ 14) → v p = w p) → c_ev 11 v n (y_k seed) (y_w seed) (y_t seed) → Q' none v) : Sm Ls (d + 2) 76 [vR 0, vI seed, vI n] w Q' := by
  have key : ∀ (k e : Nat), e + k = n → ∀ v : ab_W, (∀ p, ¬ (11 ≤ p ∧ p ≤ 14) → v p = w p) → c_ev 11 v e (y_k seed) (y_w seed) (y_t seed) → ∀ a b : ab_V, Ev Ls (Sm Ls (d + 1)) Q' bk_76 1 [vR 0, vI seed, vI n, vI (y_s seed e), vI e, a, b] [] v := by
    intro k
    induction k with
    | zero =>
      intro e he v v0 v1 a b
      have : e = n := by omega
      subst this
      have hfin := h v v0 v1
      rw [ev_76_1]
      simp only [↓e_aload0, ↓g_0_3, ↓e_iconst, ↓p_3_3, ↓p_7_3, ↓p_11_3, ↓e_iload1, ↓e_istore3, e_klI, e_klR, e_klX, e_klL, ↓e_istore4, ↓e_iload4, ↓e_iload2, ↓e_cmp_ge, ↓e_iload3, e_rpn, e_rps, e_few0, e_few1, e_few2, e_few3, e_few4, ↓e_cs1, ↓e_bipush, ↓e_iushr, ↓e_irem, ↓e_istore5, ↓e_istore6, ↓e_iload5, ↓e_iload6, ↓e_cv4, i_3, i_7, i_11, ↓e_iinc4, ↓e_goto, ↓e_vret, ↓e_nil, b_76_0, b_76_1, b_76_2, ↓ev_76_2]
      exact ⟨fun _ => hfin, fun z => absurd (Int.le_refl _) z⟩
    | succ k ih =>
      intro e he v v0 v1 a b
      have hno : ¬ (n : Int) ≤ (e : Int) := by omega
      have nz3 : (3 : Int) ≠ 0 := by decide
      have nz48 : (48 : Int) ≠ 0 := by decide
      have nz4 : (4 : Int) ≠ 0 := by decide
      have hnext := fun a b => ih (e + 1) (by omega) (c_ap 11 v e (y_k seed e) (y_w seed e) (y_t seed e)) (fun p hp => by rw [c_ap_ne (by omega)]; exact v0 p hp) (c_ap_ev v1.2 rfl rfl rfl) a b
      rw [y_s_s] at hnext
      have w1 : iW ((e : Int) + 1) = (e : Int) + 1 := iW_id (by omega) (by omega)
      have f0 : ∀ s : Int, iW (iW (1103515245 * s) + 12345) = y_n s := fun _ => rfl
      have f1 : i_rem (i_ushr (y_n (y_s seed e)) 16) 3 = y_k seed e := rfl
      have f2 : i_rem (i_ushr (y_n (y_n (y_s seed e))) 16) 48 = y_w seed e := rfl
      have f3 : i_rem (i_ushr (y_n (y_n (y_n (y_s seed e)))) 16) 4 = y_t seed e := rfl
      rw [ev_76_1]
      simp only [↓e_aload0, ↓g_0_3, ↓e_iconst, ↓p_3_3, ↓p_7_3, ↓p_11_3, ↓e_iload1, ↓e_istore3, e_klI, e_klR, e_klX, e_klL, ↓e_istore4, ↓e_iload4, ↓e_iload2, ↓e_cmp_ge, ↓e_iload3, e_rpn, e_rps, e_few0, e_few1, e_few2, e_few3, e_few4, ↓e_cs1, ↓e_bipush, ↓e_iushr, ↓e_irem, ↓e_istore5, ↓e_istore6, ↓e_iload5, ↓e_iload6, ↓e_cv4, i_3, i_7, i_11, ↓e_iinc4, ↓e_goto, ↓e_vret, ↓e_nil, b_76_0, b_76_1, b_76_2, q_nextSeed, hno, f0, f1, f2, f3, nz3, nz48, nz4, one0, eq_self, ne_eq, not_true_eq_false, not_false_eq_true, true_implies, false_implies, true_and, and_true, and_self]
      refine q_append (Or.inr (Or.inr rfl)) (by clear w1; omega) v1.1 ?_
      simp only [↓e_aload0, ↓g_0_3, ↓e_iconst, ↓p_3_3, ↓p_7_3, ↓p_11_3, ↓e_iload1, ↓e_istore3, e_klI, e_klR, e_klX, e_klL, ↓e_istore4, ↓e_iload4, ↓e_iload2, ↓e_cmp_ge, ↓e_iload3, e_rpn, e_rps, e_few0, e_few1, e_few2, e_few3, e_few4, ↓e_cs1, ↓e_bipush, ↓e_iushr, ↓e_irem, ↓e_istore5, ↓e_istore6, ↓e_iload5, ↓e_iload6, ↓e_cv4, i_3, i_7, i_11, ↓e_iinc4, ↓e_goto, ↓e_vret, ↓e_nil, b_76_0, b_76_1, b_76_2, w1]
      exact hnext _ _
  have h0 := key n 0 (by omega) (ab_up w 11 3 0) (fun p hp => by rw [ab_up_ne (by omega)]) ⟨by rw [ab_up_at]; rfl, fun e he => by omega⟩
  rw [en_76]
  simp only [↓e_aload0, ↓g_0_3, ↓e_iconst, ↓p_3_3, ↓p_7_3, ↓p_11_3, ↓e_iload1, ↓e_istore3, e_klI, e_klR, e_klX, e_klL, ↓e_istore4, ↓e_iload4, ↓e_iload2, ↓e_cmp_ge, ↓e_iload3, e_rpn, e_rps, e_few0, e_few1, e_few2, e_few3, e_few4, ↓e_cs1, ↓e_bipush, ↓e_iushr, ↓e_irem, ↓e_istore5, ↓e_istore6, ↓e_iload5, ↓e_iload6, ↓e_cv4, i_3, i_7, i_11, ↓e_iinc4, ↓e_goto, ↓e_vret, ↓e_nil, b_76_0, b_76_1, b_76_2, one0, eq_self, ne_eq, not_true_eq_false, not_false_eq_true, true_implies, false_implies, true_and, and_true, and_self]
  exact h0 _ _
theorem q_yearsC (ht : c_told w D) {seed a x : Int} (h : ∀ v, c_tr w v → q (some (vI (p_years D seed a x))) v) : Sm Ls (d + 6) 75 [vR 0, vI seed, vI a, vI x] w q := by
  unfold p_years at h
  rw [en_75]
  simp only [↓e_iload2, ↓e_if_lt, ↓e_bipush, ↓e_cmp_gt, ↓e_iload3, e_rpn, e_rps, e_few0, e_few1, e_few2, e_few3, e_few4, ↓e_cs1, ↓e_if_ne, ↓e_iret, ↓e_aload0, ↓e_iload1, ↓e_cv3, i_0, ↓g_0_5, ↓g_0_4, ↓e_cv2, i_15, i_21, ↓g_0_11, ↓g_0_3, ↓e_iconst, ↓e_ishl, ↓e_isub, ↓e_cv4, ↓e_cv1, ↓e_cs2, ↓e_nil, b_75_0, b_75_1, b_75_2, ↓ev_75_1, q_isEither, ab_yn, one0, eq_self, ne_eq, not_true_eq_false, not_false_eq_true, true_implies, false_implies, true_and, and_true, and_self]
  refine ⟨fun g1 => ?_, fun g1 => ⟨fun g2 => ?_, fun g2 => ⟨fun g3 => ?_, fun g3 => ?_⟩⟩⟩
  · have := h w (c_tr.refl w); rw [if_neg (by omega)] at this; exact this
  · have := h w (c_tr.refl w); rw [if_neg (by omega)] at this; exact this
  · obtain ⟨n, rfl⟩ : ∃ n : Nat, a = n := ⟨a.toNat, by omega⟩
    have hn8 : n ≤ 8 := by omega
    rw [if_pos (by omega), Int.toNat_natCast] at h
    obtain ⟨E1, E2⟩ := b_every hn8
    rw [ev_75_2]
    simp only [↓e_iload2, ↓e_if_lt, ↓e_bipush, ↓e_cmp_gt, ↓e_iload3, e_rpn, e_rps, e_few0, e_few1, e_few2, e_few3, e_few4, ↓e_cs1, ↓e_if_ne, ↓e_iret, ↓e_aload0, ↓e_iload1, ↓e_cv3, i_0, ↓g_0_5, ↓g_0_4, ↓e_cv2, i_15, i_21, ↓g_0_11, ↓g_0_3, ↓e_iconst, ↓e_ishl, ↓e_isub, ↓e_cv4, ↓e_cv1, ↓e_cs2, ↓e_nil, b_75_0, b_75_1, b_75_2, one0, eq_self, ne_eq, not_true_eq_false, not_false_eq_true, true_implies, false_implies, true_and, and_true, and_self]
    refine q_draw hn8 (fun v v0 v1 => ?_)
    have vtr : c_tr w v := fun p hp => v0 p (by omega)
    have hvt := vtr.told ht
    simp only [↓e_iload2, ↓e_if_lt, ↓e_bipush, ↓e_cmp_gt, ↓e_iload3, e_rpn, e_rps, e_few0, e_few1, e_few2, e_few3, e_few4, ↓e_cs1, ↓e_if_ne, ↓e_iret, ↓e_aload0, ↓e_iload1, ↓e_cv3, i_0, ↓g_0_5, ↓g_0_4, ↓e_cv2, i_15, i_21, ↓g_0_11, ↓g_0_3, ↓e_iconst, ↓e_ishl, ↓e_isub, ↓e_cv4, ↓e_cv1, ↓e_cs2, ↓e_nil, b_75_0, b_75_1, b_75_2, one0, eq_self, ne_eq, not_true_eq_false, not_false_eq_true, true_implies, false_implies, true_and, and_true, and_self]
    refine q_takeRace (fun y y0 => ?_)
    have ytr := vtr.trans y0.tr
    have hyt := ytr.told ht
    have hr := y0.rc hvt.rc
    have h11 : y 0 11 = D.lg := hyt.2.1
    have hev : c_ev 11 y n (y_k seed) (y_w seed) (y_t seed) := by
      unfold c_ev
      rw [y0.1 11 (by omega), y0.1 (11 + 1) (by omega), y0.1 (11 + 2) (by omega), y0.1 (11 + 3) (by omega)]
      exact v1
    simp only [↓e_iload2, ↓e_if_lt, ↓e_bipush, ↓e_cmp_gt, ↓e_iload3, e_rpn, e_rps, e_few0, e_few1, e_few2, e_few3, e_few4, ↓e_cs1, ↓e_if_ne, ↓e_iret, ↓e_aload0, ↓e_iload1, ↓e_cv3, i_0, ↓g_0_5, ↓g_0_4, ↓e_cv2, i_15, i_21, ↓g_0_11, ↓g_0_3, ↓e_iconst, ↓e_ishl, ↓e_isub, ↓e_cv4, ↓e_cv1, ↓e_cs2, ↓e_nil, b_75_0, b_75_1, b_75_2, h11, E1, one0, eq_self, ne_eq, not_true_eq_false, not_false_eq_true, true_implies, false_implies, true_and, and_true, and_self]
    refine q_setc (Or.inr rfl) (Or.inr rfl) E2 hev (y_ok hn8) (fun z z0 z1 z2 => ?_)
    have hb : ∀ e, e < n → (2 ^ n - 1).testBit e = (255 : Nat).testBit e := fun e he => by rw [b_every_bit he, b_255 e (by omega)]
    have hc : c_cond 21 z (D.cy seed n).lg (D.cy seed n).rn (D.cy seed n).sd := by
      have e1 : (D.cy seed n).rn = fun m => e_rn (y_k seed) (y_w seed) (2 ^ n - 1) m n := by
        funext m; exact (e_rn_ext n hb).symm
      have e2 : (D.cy seed n).sd = fun t m => e_sd (y_k seed) (y_w seed) (y_t seed) (2 ^ n - 1) t m n := by
        funext t m; exact (e_sd_ext n hb).symm
      rw [e1, e2]; exact z2
    have hru : c_run 21 z (D.cy seed n).T (D.cy seed n).so (D.cy seed n).pa := fun t ht l hl => by
      rw [z0 (21 + 1) (by decide) (by decide), z0 (21 + 2) (by decide) (by decide)]; exact hr.2.1 t ht l hl
    have h5 : z 21 5 = ((D.cy seed n).T : Int) := by rw [z1 5 (by decide) (by decide)]; exact hr.2.2.2.1
    have ztr : c_tr w z := ytr.trans (fun p hp => by rw [z0 p (by omega) (by omega)])
    have hok := Td.cy_ok ht.ok (seed := seed) (n := n)
    simp only [↓e_iload2, ↓e_if_lt, ↓e_bipush, ↓e_cmp_gt, ↓e_iload3, e_rpn, e_rps, e_few0, e_few1, e_few2, e_few3, e_few4, ↓e_cs1, ↓e_if_ne, ↓e_iret, ↓e_aload0, ↓e_iload1, ↓e_cv3, i_0, ↓g_0_5, ↓g_0_4, ↓e_cv2, i_15, i_21, ↓g_0_11, ↓g_0_3, ↓e_iconst, ↓e_ishl, ↓e_isub, ↓e_cv4, ↓e_cv1, ↓e_cs2, ↓e_nil, b_75_0, b_75_1, b_75_2, one0, eq_self, ne_eq, not_true_eq_false, not_false_eq_true, true_implies, false_implies, true_and, and_true, and_self]
    refine q_runAll (Or.inr rfl) hc hru hok h5 (fun u u0 u1 => ?_)
    have hrc : c_rc 21 u (D.cy seed n) := by
      refine ⟨fun _ => ?_, fun t ht l hl => ?_, hok, u1⟩
      · unfold c_cond
        rw [u0 21 (by decide) (by decide), u0 (21 + 3) (by decide) (by decide)]
        exact hc
      · rw [u0 (21 + 1) (by decide) (by decide), u0 (21 + 2) (by decide) (by decide)]; exact hru t ht l hl
    simp only [↓e_iload2, ↓e_if_lt, ↓e_bipush, ↓e_cmp_gt, ↓e_iload3, e_rpn, e_rps, e_few0, e_few1, e_few2, e_few3, e_few4, ↓e_cs1, ↓e_if_ne, ↓e_iret, ↓e_aload0, ↓e_iload1, ↓e_cv3, i_0, ↓g_0_5, ↓g_0_4, ↓e_cv2, i_15, i_21, ↓g_0_11, ↓g_0_3, ↓e_iconst, ↓e_ishl, ↓e_isub, ↓e_cv4, ↓e_cv1, ↓e_cs2, ↓e_nil, b_75_0, b_75_1, b_75_2, one0, eq_self, ne_eq, not_true_eq_false, not_false_eq_true, true_implies, false_implies, true_and, and_true, and_self]
    refine q_winnerOf (Or.inr rfl) hrc ?_
    simp only [↓e_iload2, ↓e_if_lt, ↓e_bipush, ↓e_cmp_gt, ↓e_iload3, e_rpn, e_rps, e_few0, e_few1, e_few2, e_few3, e_few4, ↓e_cs1, ↓e_if_ne, ↓e_iret, ↓e_aload0, ↓e_iload1, ↓e_cv3, i_0, ↓g_0_5, ↓g_0_4, ↓e_cv2, i_15, i_21, ↓g_0_11, ↓g_0_3, ↓e_iconst, ↓e_ishl, ↓e_isub, ↓e_cv4, ↓e_cv1, ↓e_cs2, ↓e_nil, b_75_0, b_75_1, b_75_2]
    exact h u (ztr.trans (fun p hp => by rw [u0 p (by omega) (by omega)]))
  · have := h w (c_tr.refl w); rw [if_neg (by omega)] at this; exact this
end CYears56
