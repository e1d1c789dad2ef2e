/-! the class is told -/
/-- as told, but not yet run -/
def c_pre (w : ab_W) (D : Td) : Prop := c_text w D.n D.by' ∧ w 0 11 = D.lg ∧ c_ev 3 w D.k D.ek D.ew D.en ∧ c_ev 7 w D.sn D.sm D.st D.sr ∧ w 15 5 = D.T ∧ c_run 15 w D.T D.so D.pa ∧ D.ok
theorem c_told.pre {w : ab_W} {D : Td} (h : c_told w D) : c_pre w D := ⟨h.1, h.2.1, h.2.2.1, h.2.2.2.1, h.rc.2.2.2.1, h.rc.2.1, h.ok⟩
section CMutate58
variable {Ls d : Nat} {w : ab_W} {q : Option ab_V → ab_W → Prop} {D : Td} {S : Sh}
theorem q_runTold (hp : c_pre w D) (hs : c_sh w S) (hS : S.ok) (hd : c_dm w) {Q' : Option ab_V → ab_W → Prop} (h : ∀ v, c_fra w v → c_inv v D S → Q' none v) : Sm Ls (d + 5) 40 [vR 0] w Q' := by
  obtain ⟨p1, p2, p3, p4, p5, p6, p7⟩ := hp
  have hk8 : D.k ≤ 8 := p7.2.2.2.1.1
  obtain ⟨E1, E2⟩ := b_every hk8
  have h11 : ab_up w 0 7 1 0 11 = D.lg := by rw [ab_up_nj (by decide)]; exact p2
  have h33 : ab_up w 0 7 1 3 3 = (D.k : Int) := by rw [ab_up_p (by decide)]; exact p3.1
  have hev : c_ev 3 (ab_up w 0 7 1) D.k D.ek D.ew D.en := by
    unfold c_ev
    rw [ab_up_ne (show (3 : Nat) ≠ 0 by decide), ab_up_ne (show (3 + 1 : Nat) ≠ 0 by decide), ab_up_ne (show (3 + 2 : Nat) ≠ 0 by decide), ab_up_ne (show (3 + 3 : Nat) ≠ 0 by decide)]
    exact p3
  rw [en_40]
  simp only [↓e_aload0, ↓e_iconst, ↓p_0_7, ↓g_0_4, ↓g_0_11, ↓g_0_1, ↓e_cv1, i_0, e_rpn, e_rps, e_few0, e_few1, e_few2, e_few3, e_few4, ↓e_cv4, i_15, i_21, ↓e_vret, ↓e_nil, b_40_0, q_everyEvent, h11, h33, E1, one0, eq_self, ne_eq, not_true_eq_false, not_false_eq_true, true_implies, false_implies, true_and, and_true, and_self]
  refine ⟨Or.inr trivial, q_setc (Or.inl rfl) (Or.inl rfl) E2 hev p7.2.2.2.1 (fun z z0 z1 z2 => ?_)⟩
  have hc0 : c_cond 15 z (D.cf (2 ^ D.k - 1)).lg (D.cf (2 ^ D.k - 1)).rn (D.cf (2 ^ D.k - 1)).sd := z2
  rw [Td.cf_every p7] at hc0
  have zk : ∀ p, p ≠ 0 → p ≠ 15 → p ≠ 18 → z p = w p := fun p h1 h2 h3 => by rw [z0 p h2 h3, ab_up_ne h1]
  have hru : c_run 15 z (D.cf 255).T (D.cf 255).so (D.cf 255).pa := fun t ht l hl => by
    rw [zk (15 + 1) (by decide) (by decide) (by decide), zk (15 + 2) (by decide) (by decide) (by decide)]; exact p6 t ht l hl
  have h5 : z 15 5 = ((D.cf 255).T : Int) := by rw [z1 5 (by decide) (by decide), ab_up_p (by decide)]; exact p5
  have hok := Td.cok p7 255
  simp only [↓e_aload0, ↓e_iconst, ↓p_0_7, ↓g_0_4, ↓g_0_11, ↓g_0_1, ↓e_cv1, i_0, e_rpn, e_rps, e_few0, e_few1, e_few2, e_few3, e_few4, ↓e_cv4, i_15, i_21, ↓e_vret, ↓e_nil, b_40_0, one0, eq_self, ne_eq, not_true_eq_false, not_false_eq_true, true_implies, false_implies, true_and, and_true, and_self]
  refine q_runAll (Or.inl rfl) hc0 hru hok h5 (fun u u0 u1 => ?_)
  have hrc : c_rc 15 u (D.cf 255) := by
    refine ⟨fun _ => ?_, fun t ht l hl => ?_, hok, u1⟩
    · unfold c_cond
      rw [u0 15 (by decide) (by decide), u0 (15 + 3) (by decide) (by decide)]
      exact hc0
    · rw [u0 (15 + 1) (by decide) (by decide), u0 (15 + 2) (by decide) (by decide)]; exact hru t ht l hl
  have uk : ∀ p, p ≠ 0 → p ≠ 15 → p ≠ 18 → p ≠ 19 → p ≠ 20 → u p = w p := fun p h1 h2 h3 h4 h5 => by rw [u0 p h4 h5, zk p h1 h2 h3]
  have uj : ∀ j, j ≠ 7 → u 0 j = w 0 j := fun j hj => by rw [u0 0 (by decide) (by decide), z0 0 (by decide) (by decide), ab_up_nj hj]
  have u7 : u 0 7 = 1 := by rw [u0 0 (by decide) (by decide), z0 0 (by decide) (by decide), ab_up_at]
  simp only [↓e_aload0, ↓e_iconst, ↓p_0_7, ↓g_0_4, ↓g_0_11, ↓g_0_1, ↓e_cv1, i_0, e_rpn, e_rps, e_few0, e_few1, e_few2, e_few3, e_few4, ↓e_cv4, i_15, i_21, ↓e_vret, ↓e_nil, b_40_0]
  refine h u (fun p hp => uk p (by omega) (by omega) (by omega) (by omega) (by omega)) ⟨⟨?_, ?_, ?_, ?_, hrc, p7⟩, ⟨Or.inr u7, fun z => ?_⟩, hs.kept (uj 12 (by decide)) (fun p h1 h2 => uk p (by omega) (by omega) (by omega) (by omega) (by omega)), hS, hd.kept (uk 100 (by decide) (by decide) (by decide) (by decide) (by decide))⟩
  · unfold c_text
    rw [uk 1 (by decide) (by decide) (by decide) (by decide) (by decide), uk 2 (by decide) (by decide) (by decide) (by decide) (by decide)]; exact p1
  · rw [uj 11 (by decide)]; exact p2
  · unfold c_ev
    rw [uk 3 (by decide) (by decide) (by decide) (by decide) (by decide), uk (3 + 1) (by decide) (by decide) (by decide) (by decide) (by decide), uk (3 + 2) (by decide) (by decide) (by decide) (by decide) (by decide), uk (3 + 3) (by decide) (by decide) (by decide) (by decide) (by decide)]; exact p3
  · unfold c_ev
    rw [uk 7 (by decide) (by decide) (by decide) (by decide) (by decide), uk (7 + 1) (by decide) (by decide) (by decide) (by decide) (by decide), uk (7 + 2) (by decide) (by decide) (by decide) (by decide) (by decide), uk (7 + 3) (by decide) (by decide) (by decide) (by decide) (by decide)]; exact p4
  · rw [u7] at z; exact absurd z (by decide)
/-- the text anew, read and run -/
theorem q_takeTold (h1 : c_text w D.n D.by') (h2 : w 0 11 = D.lg) (h3 : c_ev 3 w D.k D.ek D.ew D.en) (h4 : c_ev 7 w D.sn D.sm D.st D.sr) (hok : D.ok) {Q' : Option ab_V → ab_W → Prop} (h : ∀ v, (∀ p, p ≠ 15 → p ≠ 16 → p ≠ 17 → v p = w p) → c_pre v D → Q' none v) : Sm Ls (d + 4) 6 [vR 15, vR 1] w Q' := by
  refine q_takeText h1 (fun v x x0 x1 x2 x3 x4 => ?_)
  have hv := x_F_uniq x0 D.hv
  subst hv
  refine h x x1 ⟨?_, ?_, ?_, ?_, x3, x4, hok⟩
  · unfold c_text
    rw [x1 1 (by decide) (by decide) (by decide), x1 2 (by decide) (by decide) (by decide)]; exact h1
  · rw [x1 0 (by decide) (by decide) (by decide)]; exact h2
  · unfold c_ev
    rw [x1 3 (by decide) (by decide) (by decide), x1 (3 + 1) (by decide) (by decide) (by decide), x1 (3 + 2) (by decide) (by decide) (by decide), x1 (3 + 3) (by decide) (by decide) (by decide)]; exact h3
  · unfold c_ev
    rw [x1 7 (by decide) (by decide) (by decide), x1 (7 + 1) (by decide) (by decide) (by decide), x1 (7 + 2) (by decide) (by decide) (by decide), x1 (7 + 3) (by decide) (by decide) (by decide)]; exact h4
theorem q_appText {n : Nat} (hn : n < 35) (h1 : w 1 1 = n) {b : Int} {Q' : Option ab_V → ab_W → Prop} (h : Q' none (ab_up (ab_up w 2 n b) 1 1 ((n : Int) + 1))) : Sm Ls (d + 1) 26 [vR 1, vI b] w Q' := by
  have hin : 0 ≤ (n : Int) ∧ (n : Int) < 35 := by omega
  have f1 : ab_up w 2 n b 1 1 = n := by rw [ab_up_p (by decide)]; exact h1
  have w1 : iW ((n : Int) + 1) = (n : Int) + 1 := iW_id (by omega) (by omega)
  rw [en_26]
  simp only [↓e_aload0, ↓g_1_0, ↓g_1_1, ↓e_iload1, ↓e_dupI, ↓e_dupR, ↓e_iconst, ↓e_iadd, ↓p_1_1, ↓e_vret, ↓y_2, ↓e_nil, b_26_0, h1, hin, f1, w1, one0, eq_self, ne_eq, not_true_eq_false, not_false_eq_true, true_implies, false_implies, true_and, and_true, and_self]
  exact h
theorem q_typeC (hi : c_inv w D S) {b : Int} (h : ∀ v, c_fra w v → c_inv v (p_type D b).2 S → q (some (vI (p_type D b).1)) v) : Sm Ls (d + 6) 31 [vR 0, vI b] w q := by
  obtain ⟨ht, hc, hs, hS, hd⟩ := hi
  have hself := fun r (hr : p_type D b = (r, D)) => (by have := h w (c_fra.refl w); rw [hr] at this; exact this ⟨ht, hc, hs, hS, hd⟩ : q (some (vI r)) w)
  have h11 : w 1 1 = (D.n : Int) := ht.1.1
  rw [en_31]
  simp only [↓e_iload1, ↓e_if_lt, ↓e_sipush, ↓e_cmp_le, ↓e_bipush, ↓e_iret, ↓e_aload0, ↓g_0_0, ↓g_1_1, ↓e_cmp_lt, ↓e_cv2, i_1, e_rpn, e_rps, e_few0, e_few1, e_few2, e_few3, e_few4, ↓g_0_4, i_15, i_21, ↓e_cv1, i_0, ↓e_nil, b_31_0, b_31_1, b_31_2, b_31_3, ↓ev_31_1, ↓ev_31_2, h11, one0, eq_self, ne_eq, not_true_eq_false, not_false_eq_true, true_implies, false_implies, true_and, and_true, and_self]
  refine ⟨fun g1 => hself _ (by unfold p_type; rw [if_neg (by omega)]), fun g1 => ⟨fun g2 => ⟨fun g3 => ?_, fun g3 => hself _ (by unfold p_type; rw [if_pos (by omega), if_neg (by omega)])⟩, fun g2 => hself _ (by unfold p_type; rw [if_neg (by omega)])⟩⟩
  have hn : D.n < 35 := by omega
  have hp : p_type D b = ((D.n : Int) + 1, D.ty b) := by unfold p_type; rw [if_pos (by omega), if_pos hn]
  rw [hp] at h
  rw [ev_31_3]
  simp only [↓e_iload1, ↓e_if_lt, ↓e_sipush, ↓e_cmp_le, ↓e_bipush, ↓e_iret, ↓e_aload0, ↓g_0_0, ↓g_1_1, ↓e_cmp_lt, ↓e_cv2, i_1, e_rpn, e_rps, e_few0, e_few1, e_few2, e_few3, e_few4, ↓g_0_4, i_15, i_21, ↓e_cv1, i_0, ↓e_nil, b_31_0, b_31_1, b_31_2, b_31_3, one0, eq_self, ne_eq, not_true_eq_false, not_false_eq_true, true_implies, false_implies, true_and, and_true, and_self]
  refine q_appText hn h11 ?_
  simp only [↓e_iload1, ↓e_if_lt, ↓e_sipush, ↓e_cmp_le, ↓e_bipush, ↓e_iret, ↓e_aload0, ↓g_0_0, ↓g_1_1, ↓e_cmp_lt, ↓e_cv2, i_1, e_rpn, e_rps, e_few0, e_few1, e_few2, e_few3, e_few4, ↓g_0_4, i_15, i_21, ↓e_cv1, i_0, ↓e_nil, b_31_0, b_31_1, b_31_2, b_31_3, one0, eq_self, ne_eq, not_true_eq_false, not_false_eq_true, true_implies, false_implies, true_and, and_true, and_self]
  refine q_takeTold (D := D.ty b) ⟨ab_up_at, hn, fun k hk => ?_⟩ (by rw [ab_up_p (by decide), ab_up_p (by decide)]; exact ht.2.1) ?_ ?_ (Td.ok_ty ht.ok (by omega) hn) (fun v v0 v1 => ?_)
  · have hk : k < D.n + 1 := hk
    show ab_up (ab_up w 2 D.n b) 1 1 ((D.n : Int) + 1) 2 k = x_up D.by' D.n b k ∧ 0 ≤ x_up D.by' D.n b k ∧ x_up D.by' D.n b k ≤ 255
    rw [ab_up_p (by decide)]
    by_cases hkn : k = D.n
    · subst hkn; rw [ab_up_at, x_up_at]; omega
    · rw [ab_up_nj (by omega), x_up_ne hkn]; exact ht.1.2.2 k (by omega)
  · have := ht.2.2.1
    unfold c_ev at this ⊢
    rw [ab_up_ne (show (3 : Nat) ≠ 1 by decide), ab_up_ne (show (3 : Nat) ≠ 2 by decide), ab_up_ne (show (3 + 1 : Nat) ≠ 1 by decide), ab_up_ne (show (3 + 1 : Nat) ≠ 2 by decide), ab_up_ne (show (3 + 2 : Nat) ≠ 1 by decide), ab_up_ne (show (3 + 2 : Nat) ≠ 2 by decide), ab_up_ne (show (3 + 3 : Nat) ≠ 1 by decide), ab_up_ne (show (3 + 3 : Nat) ≠ 2 by decide)]
    exact this
  · have := ht.2.2.2.1
    unfold c_ev at this ⊢
    rw [ab_up_ne (show (7 : Nat) ≠ 1 by decide), ab_up_ne (show (7 : Nat) ≠ 2 by decide), ab_up_ne (show (7 + 1 : Nat) ≠ 1 by decide), ab_up_ne (show (7 + 1 : Nat) ≠ 2 by decide), ab_up_ne (show (7 + 2 : Nat) ≠ 1 by decide), ab_up_ne (show (7 + 2 : Nat) ≠ 2 by decide), ab_up_ne (show (7 + 3 : Nat) ≠ 1 by decide), ab_up_ne (show (7 + 3 : Nat) ≠ 2 by decide)]
    exact this
  simp only [↓e_iload1, ↓e_if_lt, ↓e_sipush, ↓e_cmp_le, ↓e_bipush, ↓e_iret, ↓e_aload0, ↓g_0_0, ↓g_1_1, ↓e_cmp_lt, ↓e_cv2, i_1, e_rpn, e_rps, e_few0, e_few1, e_few2, e_few3, e_few4, ↓g_0_4, i_15, i_21, ↓e_cv1, i_0, ↓e_nil, b_31_0, b_31_1, b_31_2, b_31_3, one0, eq_self, ne_eq, not_true_eq_false, not_false_eq_true, true_implies, false_implies, true_and, and_true, and_self]
  refine q_runTold v1 (S := S) (hs.kept (by rw [v0 0 (by decide) (by decide) (by decide), ab_up_p (by decide), ab_up_p (by decide)]) (fun p h1 h2 => by rw [v0 p (by omega) (by omega) (by omega), ab_up_ne (by omega), ab_up_ne (by omega)])) hS (hd.kept (by rw [v0 100 (by decide) (by decide) (by decide), ab_up_ne (by decide), ab_up_ne (by decide)])) (fun u u0 u1 => ?_)
  have e1 : u 1 1 = (D.n : Int) + 1 := u1.1.1.1
  simp only [↓e_iload1, ↓e_if_lt, ↓e_sipush, ↓e_cmp_le, ↓e_bipush, ↓e_iret, ↓e_aload0, ↓g_0_0, ↓g_1_1, ↓e_cmp_lt, ↓e_cv2, i_1, e_rpn, e_rps, e_few0, e_few1, e_few2, e_few3, e_few4, ↓g_0_4, i_15, i_21, ↓e_cv1, i_0, ↓e_nil, b_31_0, b_31_1, b_31_2, b_31_3, e1]
  exact h u (fun p hp => by rw [u0 p hp, v0 p (by omega) (by omega) (by omega), ab_up_ne (by omega), ab_up_ne (by omega)]) u1
/-- the text cut off at n -/
theorem q_cut (hi : c_inv w D S) {n : Nat} (hn : n ≤ D.n) {Q' : Option ab_V → ab_W → Prop} (h : ∀ v, (∀ p, p ≠ 1 → p ≠ 15 → p ≠ 16 → p ≠ 17 → v p = w p) → c_pre v (D.len n) → c_sh v S → c_dm v → Q' none v) : Sm Ls (d + 4) 6 [vR 15, vR 1] (ab_up w 1 1 n) Q' := by
  obtain ⟨ht, hc, hs, hS, hd⟩ := hi
  refine q_takeTold (D := D.len n) ⟨ab_up_at, Nat.le_trans hn ht.1.2.1, fun k hk => ?_⟩ (by rw [ab_up_p (by decide)]; exact ht.2.1) ?_ ?_ (Td.ok_len ht.ok hn) (fun v v0 v1 => h v (fun p h1 h2 h3 h4 => by rw [v0 p h2 h3 h4, ab_up_ne h1]) v1 (hs.kept (by rw [v0 0 (by decide) (by decide) (by decide), ab_up_p (by decide)]) (fun p h1 h2 => by rw [v0 p (by omega) (by omega) (by omega), ab_up_ne (by omega)])) (hd.kept (by rw [v0 100 (by decide) (by decide) (by decide), ab_up_ne (by decide)])))
  · rw [ab_up_p (by decide)]; exact ht.1.2.2 k (Nat.lt_of_lt_of_le hk hn)
  · have := ht.2.2.1
    unfold c_ev at this ⊢
    rw [ab_up_ne (show (3 : Nat) ≠ 1 by decide), ab_up_ne (show (3 + 1 : Nat) ≠ 1 by decide), ab_up_ne (show (3 + 2 : Nat) ≠ 1 by decide), ab_up_ne (show (3 + 3 : Nat) ≠ 1 by decide)]
    exact this
  · have := ht.2.2.2.1
    unfold c_ev at this ⊢
    rw [ab_up_ne (show (7 : Nat) ≠ 1 by decide), ab_up_ne (show (7 + 1 : Nat) ≠ 1 by decide), ab_up_ne (show (7 + 2 : Nat) ≠ 1 by decide), ab_up_ne (show (7 + 3 : Nat) ≠ 1 by decide)]
    exact this
theorem q_wipeC (hi : c_inv w D S) (h : ∀ v, c_fra w v → c_inv v (p_wipe D).2 S → q (some (vI (p_wipe D).1)) v) : Sm Ls (d + 6) 32 [vR 0] w q := by
  have h11 : w 1 1 = (D.n : Int) := hi.1.1.1
  rw [en_32]
  simp only [↓e_aload0, ↓g_0_0, ↓g_1_1, ↓e_istore1, e_klI, e_klR, e_klX, e_klL, ↓e_iconst, ↓p_1_1, ↓g_0_4, ↓e_cv2, i_15, i_21, e_rpn, e_rps, e_few0, e_few1, e_few2, e_few3, e_few4, ↓e_cv1, i_0, ↓e_iload1, ↓e_iret, ↓e_nil, b_32_0, h11, one0, eq_self, ne_eq, not_true_eq_false, not_false_eq_true, true_implies, false_implies, true_and, and_true, and_self]
  refine q_cut hi (n := 0) (Nat.zero_le _) (fun v v0 v1 v2 v3 => ?_)
  simp only [↓e_aload0, ↓g_0_0, ↓g_1_1, ↓e_istore1, e_klI, e_klR, e_klX, e_klL, ↓e_iconst, ↓p_1_1, ↓g_0_4, ↓e_cv2, i_15, i_21, e_rpn, e_rps, e_few0, e_few1, e_few2, e_few3, e_few4, ↓e_cv1, i_0, ↓e_iload1, ↓e_iret, ↓e_nil, b_32_0, one0, eq_self, ne_eq, not_true_eq_false, not_false_eq_true, true_implies, false_implies, true_and, and_true, and_self]
  refine q_runTold v1 v2 hi.2.2.2.1 v3 (fun u u0 u1 => ?_)
  simp only [↓e_aload0, ↓g_0_0, ↓g_1_1, ↓e_istore1, e_klI, e_klR, e_klX, e_klL, ↓e_iconst, ↓p_1_1, ↓g_0_4, ↓e_cv2, i_15, i_21, e_rpn, e_rps, e_few0, e_few1, e_few2, e_few3, e_few4, ↓e_cv1, i_0, ↓e_iload1, ↓e_iret, ↓e_nil, b_32_0]
  exact h u (fun p hp => by rw [u0 p hp, v0 p (by omega) (by omega) (by omega) (by omega)]) u1
theorem q_undoC (hi : c_inv w D S) (h : ∀ v, c_fra w v → c_inv v (p_undo D).2 S → q (some (vI (p_undo D).1)) v) : Sm Ls (d + 6) 33 [vR 0] w q := by
  have h11 : w 1 1 = (D.n : Int) := hi.1.1.1
  have hn35 : D.n ≤ 35 := hi.1.1.2.1
  unfold p_undo at h
  rw [en_33]
  simp only [↓e_aload0, ↓g_0_0, ↓g_1_1, ↓e_if_ne, ↓e_bipush, ↓e_iret, ↓e_dupI, ↓e_dupR, ↓e_iconst, ↓e_isub, ↓p_1_1, ↓g_0_4, ↓e_cv2, i_15, i_21, e_rpn, e_rps, e_few0, e_few1, e_few2, e_few3, e_few4, ↓e_cv1, i_0, ↓e_nil, b_33_0, b_33_1, ↓ev_33_1, h11, one0, eq_self, ne_eq, not_true_eq_false, not_false_eq_true, true_implies, false_implies, true_and, and_true, and_self]
  refine ⟨fun g => ?_, fun g => ?_⟩
  · rw [if_neg (by omega)] at h
    have e : ((D.n - 1 : Nat) : Int) = (D.n : Int) - 1 := by omega
    have w1 : iW ((D.n : Int) - 1) = ((D.n - 1 : Nat) : Int) := by rw [e]; exact iW_id (by omega) (by omega)
    rw [w1]
    clear w1
    refine q_cut hi (n := D.n - 1) (by omega) (fun v v0 v1 v2 v3 => ?_)
    simp only [↓e_aload0, ↓g_0_0, ↓g_1_1, ↓e_if_ne, ↓e_bipush, ↓e_iret, ↓e_dupI, ↓e_dupR, ↓e_iconst, ↓e_isub, ↓p_1_1, ↓g_0_4, ↓e_cv2, i_15, i_21, e_rpn, e_rps, e_few0, e_few1, e_few2, e_few3, e_few4, ↓e_cv1, i_0, ↓e_nil, b_33_0, b_33_1, one0, eq_self, ne_eq, not_true_eq_false, not_false_eq_true, true_implies, false_implies, true_and, and_true, and_self]
    refine q_runTold v1 v2 hi.2.2.2.1 v3 (fun u u0 u1 => ?_)
    have e1 : u 1 1 = (D.n : Int) - 1 := by rw [← e]; exact u1.1.1.1
    simp only [↓e_aload0, ↓g_0_0, ↓g_1_1, ↓e_if_ne, ↓e_bipush, ↓e_iret, ↓e_dupI, ↓e_dupR, ↓e_iconst, ↓e_isub, ↓p_1_1, ↓g_0_4, ↓e_cv2, i_15, i_21, e_rpn, e_rps, e_few0, e_few1, e_few2, e_few3, e_few4, ↓e_cv1, i_0, ↓e_nil, b_33_0, b_33_1, e1]
    exact h u (fun p hp => by rw [u0 p hp, v0 p (by omega) (by omega) (by omega) (by omega)]) u1
  · rw [if_pos (by omega)] at h
    exact h w (c_fra.refl w) hi
theorem q_alongC (hi : c_inv w D S) {b : Int} (h : ∀ v, c_fra w v → c_inv v (p_along D b).2 S → q (some (vI (p_along D b).1)) v) : Sm Ls (d + 6) 36 [vR 0, vI b] w q := by
  obtain ⟨ht, hc, hs, hS, hd⟩ := hi
  have h11 : w 0 11 = D.lg := ht.2.1
  unfold p_along at h
  rw [en_36]
  simp only [↓e_iload1, ↓e_bipush, ↓e_cmp_lt, ↓e_cmp_le, ↓e_iret, ↓e_aload0, ↓g_0_11, ↓e_istore2, e_klI, e_klR, e_klX, e_klL, ↓p_0_11, ↓e_cv1, i_0, e_rpn, e_rps, e_few0, e_few1, e_few2, e_few3, e_few4, ↓e_iload2, ↓e_nil, b_36_0, b_36_1, b_36_2, ↓ev_36_1, ↓ev_36_2, h11, one0, eq_self, ne_eq, not_true_eq_false, not_false_eq_true, true_implies, false_implies, true_and, and_true, and_self]
  refine ⟨fun g1 => ?_, fun g1 => ⟨fun g2 => ?_, fun g2 => ?_⟩⟩
  · rw [if_neg (by omega)] at h; exact h w (c_fra.refl w) ⟨ht, hc, hs, hS, hd⟩
  · rw [if_pos (by omega)] at h
    refine q_runTold (D := D.al b) (S := S) ?_ (hs.kept (by rw [ab_up_nj (by decide)]) (fun p h1 h2 => by rw [ab_up_ne (by omega)])) hS (hd.kept (by rw [ab_up_ne (by decide)])) (fun u u0 u1 => ?_)
    · have hp := ht.pre
      obtain ⟨p1, p2, p3, p4, p5, p6, p7⟩ := hp
      refine ⟨?_, ab_up_at, ?_, ?_, ?_, ?_, Td.ok_al ht.ok (by omega)⟩
      · unfold c_text at p1 ⊢
        rw [ab_up_ne (show (1 : Nat) ≠ 0 by decide), ab_up_ne (show (2 : Nat) ≠ 0 by decide)]; exact p1
      · unfold c_ev at p3 ⊢
        rw [ab_up_ne (show (3 : Nat) ≠ 0 by decide), ab_up_ne (show (3 + 1 : Nat) ≠ 0 by decide), ab_up_ne (show (3 + 2 : Nat) ≠ 0 by decide), ab_up_ne (show (3 + 3 : Nat) ≠ 0 by decide)]; exact p3
      · unfold c_ev at p4 ⊢
        rw [ab_up_ne (show (7 : Nat) ≠ 0 by decide), ab_up_ne (show (7 + 1 : Nat) ≠ 0 by decide), ab_up_ne (show (7 + 2 : Nat) ≠ 0 by decide), ab_up_ne (show (7 + 3 : Nat) ≠ 0 by decide)]; exact p4
      · rw [ab_up_p (by decide)]; exact p5
      · intro t ht l hl
        rw [ab_up_p (by decide), ab_up_p (by decide)]; exact p6 t ht l hl
    · simp only [↓e_iload1, ↓e_bipush, ↓e_cmp_lt, ↓e_cmp_le, ↓e_iret, ↓e_aload0, ↓g_0_11, ↓e_istore2, e_klI, e_klR, e_klX, e_klL, ↓p_0_11, ↓e_cv1, i_0, e_rpn, e_rps, e_few0, e_few1, e_few2, e_few3, e_few4, ↓e_iload2, ↓e_nil, b_36_0, b_36_1, b_36_2]
      exact h u (fun p hp => by rw [u0 p hp, ab_up_ne (by omega)]) u1
  · rw [if_neg (by omega)] at h; exact h w (c_fra.refl w) ⟨ht, hc, hs, hS, hd⟩
/-- events anew -/
theorem c_pre.evs {v : ab_W} {D' : Td} (hp : c_pre w D) (hv : ∀ p, p < 3 ∨ (6 < p ∧ p < 11) ∨ (14 < p ∧ p < 18) → v p = w p) (he : c_ev 3 v D'.k D'.ek D'.ew D'.en) (h1 : D'.n = D.n) (h2 : D'.by' = D.by') (h3 : D'.lg = D.lg) (h4 : D'.2.2.2.2.2.2.2 = D.2.2.2.2.2.2.2) (hok : D'.ok) : c_pre v D' := by
  obtain ⟨p1, p2, p3, p4, p5, p6, p7⟩ := hp
  have e1 : D'.sn = D.sn := congrArg (·.1) h4
  have e2 : D'.sm = D.sm := congrArg (·.2.1) h4
  have e3 : D'.st = D.st := congrArg (·.2.2.1) h4
  have e4 : D'.sr = D.sr := congrArg (·.2.2.2) h4
  have e5 : D'.v = D.v := x_F_uniq (by have := D'.hv; rw [h1, h2] at this; exact this) D.hv
  have e6 : D'.T = D.T := by unfold Td.T; rw [e5, h1]
  have e7 : D'.so = D.so := by unfold Td.so; rw [h2]
  have e8 : D'.pa = D.pa := by unfold Td.pa; rw [h2]
  refine ⟨?_, ?_, he, ?_, ?_, ?_, hok⟩
  · rw [h1, h2]; unfold c_text; rw [hv 1 (by omega), hv 2 (by omega)]; exact p1
  · rw [h3, hv 0 (by omega)]; exact p2
  · rw [e1, e2, e3, e4]; unfold c_ev; rw [hv 7 (by omega), hv (7 + 1) (by omega), hv (7 + 2) (by omega), hv (7 + 3) (by omega)]; exact p4
  · rw [e6, hv 15 (by omega)]; exact p5
  · rw [e6, e7, e8]; unfold c_run; rw [hv (15 + 1) (by omega), hv (15 + 2) (by omega)]; exact p6
theorem c_pre.app (hp : c_pre w D) {a b x : Int} (ha : 0 ≤ a ∧ a ≤ 2) (hb : 0 ≤ b ∧ b < 48) (hx : 0 ≤ x ∧ x < 4) (hk : D.k < 8) : c_pre (c_ap 3 w D.k a b x) (D.ev a b x) := by
  refine hp.evs (fun p hp => c_ap_ne (by omega)) ?_ rfl rfl rfl rfl (Td.ok_ev hp.2.2.2.2.2.2 ha hb hx hk)
  refine c_ap_ev (fun e he => ?_) x_up_at.symm x_up_at.symm x_up_at.symm
  show w (3 + 1) e = x_up D.ek D.k a e ∧ w (3 + 2) e = x_up D.ew D.k b e ∧ w (3 + 3) e = x_up D.en D.k x e
  rw [x_up_ne (by omega), x_up_ne (by omega), x_up_ne (by omega)]
  exact hp.2.2.1.2 e he
theorem q_eventC (hi : c_inv w D S) {a b x : Int} (h : ∀ v, c_fra w v → c_inv v (p_event D a b x).2 S → q (some (vI (p_event D a b x).1)) v) : Sm Ls (d + 6) 37 [vR 0, vI a, vI b, vI x] w q := by
  have h33 : w 3 3 = (D.k : Int) := hi.1.2.2.1.1
  have hk8 : D.k ≤ 8 := hi.1.ok.2.2.2.1.1
  obtain ⟨ht, hc, hs, hS, hd⟩ := hi
  unfold p_event at h
  rw [en_37]
  simp only [↓e_iload1, ↓e_iload2, ↓e_iload3, e_rpn, e_rps, e_few0, e_few1, e_few2, e_few3, e_few4, ↓e_cs3, ↓e_if_ne, ↓e_bipush, ↓e_iret, ↓e_aload0, ↓g_0_1, ↓g_3_3, ↓g_7_3, ↓g_11_3, ↓e_cmp_lt, ↓e_cv4, i_3, i_7, i_11, ↓e_cv1, i_0, ↓e_nil, b_37_0, b_37_1, b_37_2, ↓ev_37_1, ↓ev_37_2, q_isEvent, h33, ab_yn, one0, eq_self, ne_eq, not_true_eq_false, not_false_eq_true, true_implies, false_implies, true_and, and_true, and_self]
  refine ⟨fun g => ⟨fun g2 => ?_, fun g2 => ?_⟩, fun g => ?_⟩
  · rw [if_pos g, if_pos (by omega)] at h
    refine q_append (Or.inl rfl) (by omega) h33 ?_
    have hp := ht.pre.app g.1 g.2.1 g.2.2 (by omega)
    simp only [↓e_iload1, ↓e_iload2, ↓e_iload3, e_rpn, e_rps, e_few0, e_few1, e_few2, e_few3, e_few4, ↓e_cs3, ↓e_if_ne, ↓e_bipush, ↓e_iret, ↓e_aload0, ↓g_0_1, ↓g_3_3, ↓g_7_3, ↓g_11_3, ↓e_cmp_lt, ↓e_cv4, i_3, i_7, i_11, ↓e_cv1, i_0, ↓e_nil, b_37_0, b_37_1, b_37_2, one0, eq_self, ne_eq, not_true_eq_false, not_false_eq_true, true_implies, false_implies, true_and, and_true, and_self]
    refine q_runTold hp (S := S) (hs.kept (by rw [c_ap_ne (by omega)]) (fun p h1 h2 => c_ap_ne (by omega))) hS (hd.kept (c_ap_ne (by omega))) (fun u u0 u1 => ?_)
    have e1 : u 3 3 = (D.k : Int) + 1 := u1.1.2.2.1.1
    simp only [↓e_iload1, ↓e_iload2, ↓e_iload3, e_rpn, e_rps, e_few0, e_few1, e_few2, e_few3, e_few4, ↓e_cs3, ↓e_if_ne, ↓e_bipush, ↓e_iret, ↓e_aload0, ↓g_0_1, ↓g_3_3, ↓g_7_3, ↓g_11_3, ↓e_cmp_lt, ↓e_cv4, i_3, i_7, i_11, ↓e_cv1, i_0, ↓e_nil, b_37_0, b_37_1, b_37_2, e1]
    exact h u (fun p hp => by rw [u0 p hp, c_ap_ne (by omega)]) u1
  · rw [if_pos g, if_neg (by omega)] at h; exact h w (c_fra.refl w) ⟨ht, hc, hs, hS, hd⟩
  · rw [if_neg g] at h; exact h w (c_fra.refl w) ⟨ht, hc, hs, hS, hd⟩
theorem q_backC (hi : c_inv w D S) (h : ∀ v, c_fra w v → c_inv v (p_back D).2 S → q (some (vI (p_back D).1)) v) : Sm Ls (d + 6) 38 [vR 0] w q := by
  have h33 : w 3 3 = (D.k : Int) := hi.1.2.2.1.1
  have hk8 : D.k ≤ 8 := hi.1.ok.2.2.2.1.1
  obtain ⟨ht, hc, hs, hS, hd⟩ := hi
  unfold p_back at h
  rw [en_38]
  simp only [↓e_aload0, ↓g_0_1, ↓g_3_3, ↓g_7_3, ↓g_11_3, ↓e_if_ne, ↓e_bipush, ↓e_iret, ↓e_dupI, ↓e_dupR, ↓e_iconst, ↓e_isub, ↓p_3_3, ↓p_7_3, ↓p_11_3, ↓e_cv1, i_0, e_rpn, e_rps, e_few0, e_few1, e_few2, e_few3, e_few4, ↓e_nil, b_38_0, b_38_1, ↓ev_38_1, h33, one0, eq_self, ne_eq, not_true_eq_false, not_false_eq_true, true_implies, false_implies, true_and, and_true, and_self]
  refine ⟨fun g => ?_, fun g => ?_⟩
  · rw [if_neg (by omega)] at h
    have e : ((D.k - 1 : Nat) : Int) = (D.k : Int) - 1 := by omega
    have w1 : iW ((D.k : Int) - 1) = ((D.k - 1 : Nat) : Int) := by rw [e]; exact iW_id (by omega) (by omega)
    rw [w1]
    clear w1
    have hp : c_pre (ab_up w 3 3 ((D.k - 1 : Nat) : Int)) (D.bk (D.k - 1)) := by
      refine ht.pre.evs (fun p hp => by rw [ab_up_ne (by omega)]) ⟨ab_up_at, fun e he => ?_⟩ rfl rfl rfl rfl (Td.ok_bk ht.ok (by omega))
      rw [ab_up_p (by decide), ab_up_p (by decide), ab_up_p (by decide)]
      have he : e < D.k - 1 := he
      exact ht.2.2.1.2 e (by omega)
    refine q_runTold hp (S := S) (hs.kept (by rw [ab_up_p (by omega)]) (fun p h1 h2 => by rw [ab_up_ne (by omega)])) hS (hd.kept (by rw [ab_up_ne (by decide)])) (fun u u0 u1 => ?_)
    have e1 : u 3 3 = (D.k : Int) - 1 := by rw [← e]; exact u1.1.2.2.1.1
    simp only [↓e_aload0, ↓g_0_1, ↓g_3_3, ↓g_7_3, ↓g_11_3, ↓e_if_ne, ↓e_bipush, ↓e_iret, ↓e_dupI, ↓e_dupR, ↓e_iconst, ↓e_isub, ↓p_3_3, ↓p_7_3, ↓p_11_3, ↓e_cv1, i_0, e_rpn, e_rps, e_few0, e_few1, e_few2, e_few3, e_few4, ↓e_nil, b_38_0, b_38_1, e1]
    exact h u (fun p hp => by rw [u0 p hp, ab_up_ne (by omega)]) u1
  · rw [if_pos (by omega)] at h; exact h w (c_fra.refl w) ⟨ht, hc, hs, hS, hd⟩
/-- sightings anew -/
theorem c_inv.sgh {v : ab_W} {D' : Td} (hi : c_inv w D S) (hv : ∀ p, ¬ (7 ≤ p ∧ p ≤ 10) → v p = w p) (he : c_ev 7 v D'.sn D'.sm D'.st D'.sr) (h1 : D'.n = D.n) (h2 : D'.by' = D.by') (h3 : D'.lg = D.lg) (h4 : D'.k = D.k) (h5 : D'.ek = D.ek) (h6 : D'.ew = D.ew) (h7 : D'.en = D.en) (hok : D'.ok) : c_inv v D' S := by
  obtain ⟨ht, hc, hs, hS, hd⟩ := hi
  have e5 : D'.v = D.v := x_F_uniq (by have := D'.hv; rw [h1, h2] at this; exact this) D.hv
  have e6 : D'.T = D.T := by unfold Td.T; rw [e5, h1]
  have e7 : D'.so = D.so := by unfold Td.so; rw [h2]
  have e8 : D'.pa = D.pa := by unfold Td.pa; rw [h2]
  have e9 : ∀ s, D'.cf s = D.cf s := fun s => by
    unfold Td.cf Td.rn Td.sd
    rw [e6, e7, e8, h3, h4, h5, h6, h7]
  refine ⟨⟨?_, ?_, ?_, he, ?_, hok⟩, ?_, hs.kept (by rw [hv 0 (by omega)]) (fun p h1 h2 => hv p (by omega)), hS, hd.kept (hv 100 (by omega))⟩
  · rw [h1, h2]; unfold c_text; rw [hv 1 (by omega), hv 2 (by omega)]; exact ht.1
  · rw [h3, hv 0 (by omega)]; exact ht.2.1
  · rw [h4, h5, h6, h7]; unfold c_ev; rw [hv 3 (by omega), hv (3 + 1) (by omega), hv (3 + 2) (by omega), hv (3 + 3) (by omega)]; exact ht.2.2.1
  · rw [e9]; exact ht.rc.kept (fun p h1 h2 => hv p (by omega))
  · unfold c_cache c_cv at hc ⊢
    rw [hv 0 (by omega), hv 27 (by omega), e6]
    refine ⟨hc.1, fun z t s h1 h2 => ?_⟩
    rw [e9]; exact hc.2 z t s h1 h2
theorem q_sightC (hi : c_inv w D S) {a b x : Int} (h : ∀ v, c_fra w v → c_inv v (p_seen D a b x).2 S → q (some (vI (p_seen D a b x).1)) v) : Sm Ls (d + 6) 63 [vR 0, vI a, vI b, vI x] w q := by
  have h73 : w 7 3 = (D.sn : Int) := hi.1.2.2.2.1.1
  have hk8 : D.sn ≤ 8 := hi.1.ok.2.2.2.2.1
  unfold p_seen at h
  rw [en_63]
  simp only [↓e_iload1, e_rpn, e_rps, e_few0, e_few1, e_few2, e_few3, e_few4, ↓e_cs1, ↓e_if_eq, ↓e_iload2, ↓e_iload3, ↓e_if_ne, ↓e_bipush, ↓e_iret, ↓e_aload0, ↓g_0_2, ↓g_3_3, ↓g_7_3, ↓g_11_3, ↓e_cmp_lt, ↓e_cv4, i_3, i_7, i_11, ↓e_nil, b_63_0, b_63_1, b_63_2, b_63_3, ↓ev_63_1, ↓ev_63_2, ↓ev_63_3, q_isMoment, q_isNumber, h73, ab_yn, one0, eq_self, ne_eq, not_true_eq_false, not_false_eq_true, true_implies, false_implies, true_and, and_true, and_self]
  refine ⟨fun g1 => ⟨fun g2 => ⟨fun g3 => ⟨fun g4 => ?_, fun g4 => ?_⟩, fun g3 => ?_⟩, fun g2 => ?_⟩, fun g1 => ?_⟩
  · rw [if_pos ⟨g1, g2, g3⟩, if_pos (by omega)] at h
    refine q_append (Or.inr (Or.inl rfl)) (by omega) h73 ?_
    have e1 : c_ap 7 w D.sn a b x 7 3 = (D.sn : Int) + 1 := ab_up_at
    simp only [↓e_iload1, e_rpn, e_rps, e_few0, e_few1, e_few2, e_few3, e_few4, ↓e_cs1, ↓e_if_eq, ↓e_iload2, ↓e_iload3, ↓e_if_ne, ↓e_bipush, ↓e_iret, ↓e_aload0, ↓g_0_2, ↓g_3_3, ↓g_7_3, ↓g_11_3, ↓e_cmp_lt, ↓e_cv4, i_3, i_7, i_11, ↓e_nil, b_63_0, b_63_1, b_63_2, b_63_3, e1]
    refine h _ (fun p hp => c_ap_ne (by omega)) (hi.sgh (fun p hp => c_ap_ne (by omega)) ?_ rfl rfl rfl rfl rfl rfl rfl (Td.ok_se hi.1.ok g1 g2 g3 (by omega)))
    refine c_ap_ev (fun e he => ?_) x_up_at.symm x_up_at.symm x_up_at.symm
    show w (7 + 1) e = x_up D.sm D.sn a e ∧ w (7 + 2) e = x_up D.st D.sn b e ∧ w (7 + 3) e = x_up D.sr D.sn x e
    rw [x_up_ne (by omega), x_up_ne (by omega), x_up_ne (by omega)]
    exact hi.1.2.2.2.1.2 e he
  · rw [if_pos ⟨g1, g2, g3⟩, if_neg (by omega)] at h; exact h w (c_fra.refl w) hi
  · rw [if_neg (by omega)] at h; exact h w (c_fra.refl w) hi
  · rw [if_neg (by omega)] at h; exact h w (c_fra.refl w) hi
  · rw [if_neg (by omega)] at h; exact h w (c_fra.refl w) hi
theorem q_forgetC (hi : c_inv w D S) (h : ∀ v, c_fra w v → c_inv v (p_forget D).2 S → q (some (vI (p_forget D).1)) v) : Sm Ls (d + 6) 64 [vR 0] w q := by
  have h73 : w 7 3 = (D.sn : Int) := hi.1.2.2.2.1.1
  rw [en_64]
  simp only [↓e_aload0, ↓g_0_2, ↓g_3_3, ↓g_7_3, ↓g_11_3, ↓e_istore1, e_klI, e_klR, e_klX, e_klL, ↓e_iconst, ↓p_3_3, ↓p_7_3, ↓p_11_3, ↓e_iload1, ↓e_iret, ↓e_nil, b_64_0, h73, one0, eq_self, ne_eq, not_true_eq_false, not_false_eq_true, true_implies, false_implies, true_and, and_true, and_self]
  exact h _ (fun p hp => by rw [ab_up_ne (by omega)]) (hi.sgh (fun p hp => by rw [ab_up_ne (by omega)]) ⟨by rw [ab_up_at]; rfl, fun e he => absurd he (Nat.not_lt_zero _)⟩ rfl rfl rfl rfl rfl rfl rfl (Td.ok_fg hi.1.ok))
end CMutate58
