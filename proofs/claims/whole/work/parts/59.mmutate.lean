/-! the model is told -/
section MMutate59
variable {Ls d : Nat} {w : ab_W} {q : Option ab_V → ab_W → Prop} {D : Td} {S : Sh}
theorem q_typeM (hi : m_inv w D S) {b : Int} (h : ∀ v, m_fra w v → m_inv v (p_type D b).2 S → q (some (vI (p_type D b).1)) v) : Sm Ls (d + 2) 109 [vR 39, vI b] w q := by
  obtain ⟨⟨⟨a1, a2, a3⟩, a4, a5, a6, a7, a8, a9⟩, hs, hS⟩ := hi
  unfold p_type at h
  rw [en_109]
  simp only [↓e_iload1, ↓e_iconst, ↓e_sipush, e_rpn, e_rps, e_few0, e_few1, e_few2, e_few3, e_few4, ↓e_cs3, ↓e_if_ne, ↓e_bipush, ↓e_iret, ↓e_aload0, ↓g_39_0, ↓e_cmp_ne, ↓g_39_1, ↓e_dupI, ↓e_dupR, ↓e_iadd, ↓p_39_0, ↓y_40, ↓e_nil, b_109_0, b_109_1, b_109_2, ↓ev_109_1, ↓ev_109_2, q_in, a1, ab_yn, one0, eq_self, ne_eq, not_true_eq_false, not_false_eq_true, true_implies, false_implies, true_and, and_true, and_self]
  refine ⟨fun g => ⟨fun g2 => ?_, fun g2 => ?_⟩, fun g => ?_⟩
  · rw [if_pos g, if_pos (by omega)] at h
    have hn : D.n < 35 := by omega
    have hin : 0 ≤ (D.n : Int) ∧ (D.n : Int) < 35 := by omega
    have f1 : ab_up w 40 D.n b 39 0 = D.n := by rw [ab_up_p (by decide)]; exact a1
    have f2 : ab_up (ab_up w 40 D.n b) 39 0 ((D.n : Int) + 1) 39 0 = (D.n : Int) + 1 := ab_up_at
    have hf := h (ab_up (ab_up w 40 D.n b) 39 0 ((D.n : Int) + 1)) (fun p hp => by rw [ab_up_ne (by omega), ab_up_ne (by omega)]) ⟨⟨⟨ab_up_at, hn, fun k hk => ?_⟩, ?_, ?_, ?_, ?_, ?_, Td.ok_ty a9 g hn⟩, hs.kept (by rw [ab_up_nj (by decide), ab_up_p (by decide)]) (fun p h1 h2 => by rw [ab_up_ne (by omega), ab_up_ne (by omega)]), hS⟩
    · have w1 : iW ((D.n : Int) + 1) = (D.n : Int) + 1 := iW_id (by omega) (by omega)
      simp only [↓e_iload1, ↓e_iconst, ↓e_sipush, e_rpn, e_rps, e_few0, e_few1, e_few2, e_few3, e_few4, ↓e_cs3, ↓e_if_ne, ↓e_bipush, ↓e_iret, ↓e_aload0, ↓g_39_0, ↓e_cmp_ne, ↓g_39_1, ↓e_dupI, ↓e_dupR, ↓e_iadd, ↓p_39_0, ↓y_40, ↓e_nil, b_109_0, b_109_1, b_109_2, hin, f1, w1, f2, one0, eq_self, ne_eq, not_true_eq_false, not_false_eq_true, true_implies, false_implies, true_and, and_true, and_self]
      exact hf
    · have hk : k < D.n + 1 := hk
      show ab_up (ab_up w 40 D.n b) 39 0 ((D.n : Int) + 1) 40 k = x_up D.by' D.n b k ∧ 0 ≤ x_up D.by' D.n b k ∧ x_up D.by' D.n b k ≤ 255
      rw [ab_up_p (by decide)]
      by_cases hkn : k = D.n
      · subst hkn; rw [ab_up_at, x_up_at]; omega
      · rw [ab_up_nj (by omega), x_up_ne hkn]; exact a3 k (by omega)
    · rw [ab_up_nj (by decide), ab_up_p (by decide)]; exact a4
    · rw [ab_up_nj (by decide), ab_up_p (by decide)]; exact a5
    · rw [ab_up_ne (show (43 : Nat) ≠ 39 by decide), ab_up_ne (show (43 : Nat) ≠ 40 by decide), ab_up_ne (show (44 : Nat) ≠ 39 by decide), ab_up_ne (show (44 : Nat) ≠ 40 by decide), ab_up_ne (show (45 : Nat) ≠ 39 by decide), ab_up_ne (show (45 : Nat) ≠ 40 by decide)]; exact a6
    · rw [ab_up_nj (by decide), ab_up_p (by decide)]; exact a7
    · rw [ab_up_ne (show (60 : Nat) ≠ 39 by decide), ab_up_ne (show (60 : Nat) ≠ 40 by decide), ab_up_ne (show (61 : Nat) ≠ 39 by decide), ab_up_ne (show (61 : Nat) ≠ 40 by decide), ab_up_ne (show (62 : Nat) ≠ 39 by decide), ab_up_ne (show (62 : Nat) ≠ 40 by decide)]; exact a8
  · rw [if_pos g, if_neg (by omega)] at h
    exact h w (m_fra.refl w) ⟨⟨⟨a1, a2, a3⟩, a4, a5, a6, a7, a8, a9⟩, hs, hS⟩
  · rw [if_neg g] at h
    exact h w (m_fra.refl w) ⟨⟨⟨a1, a2, a3⟩, a4, a5, a6, a7, a8, a9⟩, hs, hS⟩
/-- one number of the model's is another -/
theorem m_inv.num {j : Int} {v : Int} {D' : Td} (hi : m_inv w D S) (hj : j ≠ 37) (h0 : ab_up w 39 j v 39 0 = D'.n) (h5 : ab_up w 39 j v 39 5 = D'.lg) (h6 : ab_up w 39 j v 39 6 = D'.k) (h7 : ab_up w 39 j v 39 27 = D'.sn) (e0 : D'.n ≤ D.n) (e1 : D'.by' = D.by') (e2 : D'.k ≤ D.k) (e3 : D'.ek = D.ek) (e4 : D'.ew = D.ew) (e5 : D'.en = D.en) (e6 : D'.sn ≤ D.sn) (e7 : D'.sm = D.sm) (e8 : D'.st = D.st) (e9 : D'.sr = D.sr) (hok : D'.ok) : m_inv (ab_up w 39 j v) D' S := by
  obtain ⟨⟨⟨a1, a2, a3⟩, a4, a5, a6, a7, a8, a9⟩, hs, hS⟩ := hi
  refine ⟨⟨⟨h0, hok.1, fun k hk => ?_⟩, h5, h6, fun e he => ?_, h7, fun e he => ?_, hok⟩, hs.kept (by rw [ab_up_nj (fun z => hj z.symm)]) (fun p h1 h2 => by rw [ab_up_ne (by omega)]), hS⟩
  · rw [ab_up_p (by decide), e1]; exact a3 k (by omega)
  · rw [ab_up_p (by decide), ab_up_p (by decide), ab_up_p (by decide), e3, e4, e5]; exact a6 e (by omega)
  · rw [ab_up_p (by decide), ab_up_p (by decide), ab_up_p (by decide), e7, e8, e9]; exact a8 e (by omega)
theorem m_inv.f5 (hi : m_inv w D S) : w 39 5 = D.lg := hi.1.2.1
theorem m_inv.f6 (hi : m_inv w D S) : w 39 6 = D.k := hi.1.2.2.1
theorem m_inv.f0 (hi : m_inv w D S) : w 39 0 = D.n := hi.1.1.1
theorem m_inv.f7 (hi : m_inv w D S) : w 39 27 = D.sn := hi.1.2.2.2.2.1
theorem m_fra.up {j v : Int} : m_fra w (ab_up w 39 j v) := fun p hp => by rw [ab_up_ne (by omega)]
theorem q_wipeM (hi : m_inv w D S) (h : ∀ v, m_fra w v → m_inv v (p_wipe D).2 S → q (some (vI (p_wipe D).1)) v) : Sm Ls (d + 2) 110 [vR 39] w q := by
  have hf := h (ab_up w 39 0 0) m_fra.up (hi.num (by decide) (by rw [ab_up_at]; rfl) (by rw [ab_up_nj (by decide)]; exact hi.f5) (by rw [ab_up_nj (by decide)]; exact hi.f6) (by rw [ab_up_nj (by decide)]; exact hi.f7) (Nat.zero_le _) rfl (Nat.le_refl _) rfl rfl rfl (Nat.le_refl _) rfl rfl rfl (Td.ok_len hi.1.ok (Nat.zero_le _)))
  rw [en_110]
  simp only [↓e_aload0, ↓g_39_0, ↓e_istore1, e_klI, e_klR, e_klX, e_klL, ↓e_iconst, ↓p_39_0, ↓e_iload1, ↓e_iret, ↓e_nil, b_110_0, hi.f0, one0, eq_self, ne_eq, not_true_eq_false, not_false_eq_true, true_implies, false_implies, true_and, and_true, and_self]
  exact hf
theorem q_undoM (hi : m_inv w D S) (h : ∀ v, m_fra w v → m_inv v (p_undo D).2 S → q (some (vI (p_undo D).1)) v) : Sm Ls (d + 2) 111 [vR 39] w q := by
  have hn35 : D.n ≤ 35 := hi.1.1.2.1
  unfold p_undo at h
  rw [en_111]
  simp only [↓e_aload0, ↓g_39_0, ↓e_if_ne, ↓e_bipush, ↓e_iret, ↓e_dupI, ↓e_dupR, ↓e_iconst, ↓e_isub, ↓p_39_0, ↓e_nil, b_111_0, b_111_1, ↓ev_111_1, hi.f0, one0, eq_self, ne_eq, not_true_eq_false, not_false_eq_true, true_implies, false_implies, true_and, and_true, and_self]
  refine ⟨fun g => ?_, fun g => ?_⟩
  · rw [if_neg (by omega)] at h
    have hf := h (ab_up w 39 0 ((D.n : Int) - 1)) m_fra.up (hi.num (by decide) (by rw [ab_up_at]; show (D.n : Int) - 1 = ((D.n - 1 : Nat) : Int); omega) (by rw [ab_up_nj (by decide)]; exact hi.f5) (by rw [ab_up_nj (by decide)]; exact hi.f6) (by rw [ab_up_nj (by decide)]; exact hi.f7) (Nat.sub_le _ _) rfl (Nat.le_refl _) rfl rfl rfl (Nat.le_refl _) rfl rfl rfl (Td.ok_len hi.1.ok (Nat.sub_le _ _)))
    have f2 : ab_up w 39 0 ((D.n : Int) - 1) 39 0 = (D.n : Int) - 1 := ab_up_at
    have w1 : iW ((D.n : Int) - 1) = (D.n : Int) - 1 := iW_id (by omega) (by omega)
    simp only [w1, f2]
    exact hf
  · rw [if_pos (by omega)] at h; exact h w (m_fra.refl w) hi
theorem q_alongM (hi : m_inv w D S) {b : Int} (h : ∀ v, m_fra w v → m_inv v (p_along D b).2 S → q (some (vI (p_along D b).1)) v) : Sm Ls (d + 2) 121 [vR 39, vI b] w q := by
  unfold p_along at h
  rw [en_121]
  simp only [↓e_iload1, ↓e_bipush, e_rpn, e_rps, e_few0, e_few1, e_few2, e_few3, e_few4, ↓e_cs3, ↓e_if_ne, ↓e_iret, ↓e_aload0, ↓g_39_5, ↓e_istore2, e_klI, e_klR, e_klX, e_klL, ↓p_39_5, ↓e_iload2, ↓e_nil, b_121_0, b_121_1, ↓ev_121_1, q_in, hi.f5, ab_yn, one0, eq_self, ne_eq, not_true_eq_false, not_false_eq_true, true_implies, false_implies, true_and, and_true, and_self]
  refine ⟨fun g => ?_, fun g => ?_⟩
  · rw [if_pos g] at h
    exact h _ m_fra.up (hi.num (by decide) (by rw [ab_up_nj (by decide)]; exact hi.f0) (by rw [ab_up_at]; rfl) (by rw [ab_up_nj (by decide)]; exact hi.f6) (by rw [ab_up_nj (by decide)]; exact hi.f7) (Nat.le_refl _) rfl (Nat.le_refl _) rfl rfl rfl (Nat.le_refl _) rfl rfl rfl (Td.ok_al hi.1.ok g))
  · rw [if_neg g] at h; exact h w (m_fra.refl w) hi
theorem q_backM (hi : m_inv w D S) (h : ∀ v, m_fra w v → m_inv v (p_back D).2 S → q (some (vI (p_back D).1)) v) : Sm Ls (d + 2) 123 [vR 39] w q := by
  have hk8 : D.k ≤ 8 := hi.1.ok.2.2.2.1.1
  unfold p_back at h
  rw [en_123]
  simp only [↓e_aload0, ↓g_39_6, ↓e_if_ne, ↓e_bipush, ↓e_iret, ↓e_dupI, ↓e_dupR, ↓e_iconst, ↓e_isub, ↓p_39_6, ↓e_nil, b_123_0, b_123_1, ↓ev_123_1, hi.f6, one0, eq_self, ne_eq, not_true_eq_false, not_false_eq_true, true_implies, false_implies, true_and, and_true, and_self]
  refine ⟨fun g => ?_, fun g => ?_⟩
  · rw [if_neg (by omega)] at h
    have hf := h (ab_up w 39 6 ((D.k : Int) - 1)) m_fra.up (hi.num (by decide) (by rw [ab_up_nj (by decide)]; exact hi.f0) (by rw [ab_up_nj (by decide)]; exact hi.f5) (by rw [ab_up_at]; show (D.k : Int) - 1 = ((D.k - 1 : Nat) : Int); omega) (by rw [ab_up_nj (by decide)]; exact hi.f7) (Nat.le_refl _) rfl (Nat.sub_le _ _) rfl rfl rfl (Nat.le_refl _) rfl rfl rfl (Td.ok_bk hi.1.ok (Nat.sub_le _ _)))
    have f2 : ab_up w 39 6 ((D.k : Int) - 1) 39 6 = (D.k : Int) - 1 := ab_up_at
    have w1 : iW ((D.k : Int) - 1) = (D.k : Int) - 1 := iW_id (by omega) (by omega)
    simp only [w1, f2]
    exact hf
  · rw [if_pos (by omega)] at h; exact h w (m_fra.refl w) hi
theorem q_forgetM (hi : m_inv w D S) (h : ∀ v, m_fra w v → m_inv v (p_forget D).2 S → q (some (vI (p_forget D).1)) v) : Sm Ls (d + 2) 164 [vR 39] w q := by
  have hf := h (ab_up w 39 27 0) m_fra.up (hi.num (by decide) (by rw [ab_up_nj (by decide)]; exact hi.f0) (by rw [ab_up_nj (by decide)]; exact hi.f5) (by rw [ab_up_nj (by decide)]; exact hi.f6) (by rw [ab_up_at]; rfl) (Nat.le_refl _) rfl (Nat.le_refl _) rfl rfl rfl (Nat.zero_le _) rfl rfl rfl (Td.ok_fg hi.1.ok))
  rw [en_164]
  simp only [↓e_aload0, ↓g_39_27, ↓e_istore1, e_klI, e_klR, e_klX, e_klL, ↓e_iconst, ↓p_39_27, ↓e_iload1, ↓e_iret, ↓e_nil, b_164_0, hi.f7, one0, eq_self, ne_eq, not_true_eq_false, not_false_eq_true, true_implies, false_implies, true_and, and_true, and_self]
  exact hf
/-- three rows of the model's grow -/
def m_ap (P : Nat) (j : Int) (w : ab_W) (n : Nat) (a b c : Int) : ab_W := ab_up (ab_up (ab_up (ab_up w P n a) (P + 1) n b) (P + 2) n c) 39 j ((n : Int) + 1)
theorem m_ap_ne {P : Nat} {j : Int} {n : Nat} {a b c : Int} {p : Nat} (h : p ≠ 39) (h2 : ¬ (P ≤ p ∧ p ≤ P + 2)) : m_ap P j w n a b c p = w p := by
  unfold m_ap
  rw [ab_up_ne (by omega), ab_up_ne (by omega), ab_up_ne (by omega), ab_up_ne (by omega)]
theorem m_ap_nj {P : Nat} {j i : Int} {n : Nat} {a b c : Int} (h : i ≠ j) (h2 : 39 < P) : m_ap P j w n a b c 39 i = w 39 i := by
  unfold m_ap
  rw [ab_up_nj h, ab_up_p (by omega), ab_up_p (by omega), ab_up_p (by omega)]
theorem m_ap_at {P : Nat} {j : Int} {n : Nat} {a b c : Int} : m_ap P j w n a b c 39 j = (n : Int) + 1 := ab_up_at
theorem m_ap_ev {P : Nat} {j : Int} {n : Nat} {a b c : Int} (h2 : 39 < P) {f g k : Nat → Int} (h : ∀ e : Nat, e < n → w P e = f e ∧ w (P + 1) e = g e ∧ w (P + 2) e = k e) : ∀ e : Nat, e < n + 1 → m_ap P j w n a b c P e = x_up f n a e ∧ m_ap P j w n a b c (P + 1) e = x_up g n b e ∧ m_ap P j w n a b c (P + 2) e = x_up k n c e := by
  intro e he
  unfold m_ap
  by_cases hen : e = n
  · subst hen
    rw [ab_up_p (by omega), ab_up_p (by omega), ab_up_p (by omega), ab_up_at, ab_up_p (by omega), ab_up_p (by omega), ab_up_at, ab_up_p (by omega), ab_up_at, x_up_at, x_up_at, x_up_at]
    exact ⟨rfl, rfl, rfl⟩
  · rw [ab_up_p (by omega), ab_up_p (by omega), ab_up_p (by omega), ab_up_nj (by omega), ab_up_p (by omega), ab_up_p (by omega), ab_up_nj (by omega), ab_up_p (by omega), ab_up_p (by omega), ab_up_nj (by omega), ab_up_p (by omega), ab_up_p (by omega), x_up_ne hen, x_up_ne hen, x_up_ne hen]
    exact h e (by omega)
theorem q_eventM (hi : m_inv w D S) {a b x : Int} {Q' : Option ab_V → ab_W → Prop} (h : ∀ v, m_fra w v → m_inv v (p_event D a b x).2 S → Q' (some (vI (p_event D a b x).1)) v) : Sm Ls (d + 3) 122 [vR 39, vI a, vI b, vI x] w Q' := by
  have hk8 : D.k ≤ 8 := hi.1.ok.2.2.2.1.1
  have h6 := hi.f6
  unfold p_event at h
  rw [en_122]
  simp only [↓e_iload1, e_rpn, e_rps, e_few0, e_few1, e_few2, e_few3, e_few4, ↓e_cs1, ↓e_if_eq, ↓e_iload2, ↓e_iload3, ↓e_if_ne, ↓e_bipush, ↓e_iret, ↓e_aload0, ↓g_39_6, ↓e_cmp_ne, ↓g_39_7, ↓g_39_8, ↓g_39_9, ↓e_dupI, ↓e_dupR, ↓e_iconst, ↓e_iadd, ↓p_39_6, ↓y_43, ↓y_44, ↓y_45, ↓e_nil, b_122_0, b_122_1, b_122_2, b_122_3, ↓ev_122_1, ↓ev_122_2, q_isThree, q_isMomentM, q_isFour, h6, ab_yn, one0, eq_self, ne_eq, not_true_eq_false, not_false_eq_true, true_implies, false_implies, true_and, and_true, and_self]
  refine ⟨fun g1 => ⟨fun g2 => ⟨fun g3 => ⟨fun g4 => ?_, fun g4 => ?_⟩, fun g3 => ?_⟩, fun g2 => ?_⟩, fun g1 => ?_⟩
  · rw [if_pos (by omega), if_pos (by omega)] at h
    have hk : D.k < 8 := by omega
    have hin : 0 ≤ (D.k : Int) ∧ (D.k : Int) < 8 := by omega
    have f1 : ab_up w 43 D.k a 39 6 = D.k := by rw [ab_up_p (by decide)]; exact h6
    have f2 : ab_up (ab_up w 43 D.k a) 44 D.k b 39 6 = D.k := by rw [ab_up_p (by decide)]; exact f1
    have f3 : ab_up (ab_up (ab_up w 43 D.k a) 44 D.k b) 45 D.k x 39 6 = D.k := by rw [ab_up_p (by decide)]; exact f2
    have f4 : ab_up (ab_up (ab_up (ab_up w 43 D.k a) 44 D.k b) 45 D.k x) 39 6 ((D.k : Int) + 1) 39 6 = (D.k : Int) + 1 := ab_up_at
    obtain ⟨⟨⟨a1, a2, a3⟩, a4, a5, a6, a7, a8, a9⟩, hs, hS⟩ := hi
    have hf := h (m_ap 43 6 w D.k a b x) (fun p hp => m_ap_ne (by omega) (by omega)) ⟨⟨⟨?_, a2, ?_⟩, ?_, m_ap_at, m_ap_ev (by decide) a6, ?_, ?_, Td.ok_ev a9 g1 (by omega) (by omega) hk⟩, hs.kept (m_ap_nj (by decide) (by decide)) (fun p h1 h2 => m_ap_ne (by omega) (by omega)), hS⟩
    · have w1 : iW ((D.k : Int) + 1) = (D.k : Int) + 1 := iW_id (by omega) (by omega)
      rw [ev_122_3]
      simp only [↓e_iload1, e_rpn, e_rps, e_few0, e_few1, e_few2, e_few3, e_few4, ↓e_cs1, ↓e_if_eq, ↓e_iload2, ↓e_iload3, ↓e_if_ne, ↓e_bipush, ↓e_iret, ↓e_aload0, ↓g_39_6, ↓e_cmp_ne, ↓g_39_7, ↓g_39_8, ↓g_39_9, ↓e_dupI, ↓e_dupR, ↓e_iconst, ↓e_iadd, ↓p_39_6, ↓y_43, ↓y_44, ↓y_45, ↓e_nil, b_122_0, b_122_1, b_122_2, b_122_3, h6, hin, f1, f2, f3, w1, f4, one0, eq_self, ne_eq, not_true_eq_false, not_false_eq_true, true_implies, false_implies, true_and, and_true, and_self]
      exact hf
    · rw [m_ap_nj (by decide) (by decide)]; exact a1
    · rw [m_ap_ne (by decide) (by decide)]; exact a3
    · rw [m_ap_nj (by decide) (by decide)]; exact a4
    · rw [m_ap_nj (by decide) (by decide)]; exact a7
    · rw [m_ap_ne (by decide) (by decide), m_ap_ne (by decide) (by decide), m_ap_ne (by decide) (by decide)]; exact a8
  · rw [if_pos (by omega), if_neg (by omega)] at h; exact h w (m_fra.refl w) hi
  · rw [if_neg (by omega)] at h; exact h w (m_fra.refl w) hi
  · rw [if_neg (by omega)] at h; exact h w (m_fra.refl w) hi
  · rw [if_neg (by omega)] at h; exact h w (m_fra.refl w) hi
theorem q_sightM (hi : m_inv w D S) {a b x : Int} (h : ∀ v, m_fra w v → m_inv v (p_seen D a b x).2 S → q (some (vI (p_seen D a b x).1)) v) : Sm Ls (d + 3) 163 [vR 39, vI a, vI b, vI x] w q := by
  have hk8 : D.sn ≤ 8 := hi.1.ok.2.2.2.2.1
  have h6 := hi.f7
  unfold p_seen at h
  rw [en_163]
  simp only [↓e_iload1, e_rpn, e_rps, e_few0, e_few1, e_few2, e_few3, e_few4, ↓e_cs1, ↓e_if_eq, ↓e_iload2, ↓e_iload3, ↓e_if_ne, ↓e_bipush, ↓e_iret, ↓e_aload0, ↓g_39_27, ↓e_cmp_ne, ↓g_39_28, ↓g_39_29, ↓g_39_30, ↓e_dupI, ↓e_dupR, ↓e_iconst, ↓e_iadd, ↓p_39_27, ↓y_60, ↓y_61, ↓y_62, ↓e_nil, b_163_0, b_163_1, b_163_2, b_163_3, ↓ev_163_1, ↓ev_163_2, q_isMomentM, q_isFour, h6, ab_yn, one0, eq_self, ne_eq, not_true_eq_false, not_false_eq_true, true_implies, false_implies, true_and, and_true, and_self]
  refine ⟨fun g1 => ⟨fun g2 => ⟨fun g3 => ⟨fun g4 => ?_, fun g4 => ?_⟩, fun g3 => ?_⟩, fun g2 => ?_⟩, fun g1 => ?_⟩
  · rw [if_pos (by omega), if_pos (by omega)] at h
    have hk : D.sn < 8 := by omega
    have hin : 0 ≤ (D.sn : Int) ∧ (D.sn : Int) < 8 := by omega
    have f1 : ab_up w 60 D.sn a 39 27 = D.sn := by rw [ab_up_p (by decide)]; exact h6
    have f2 : ab_up (ab_up w 60 D.sn a) 61 D.sn b 39 27 = D.sn := by rw [ab_up_p (by decide)]; exact f1
    have f3 : ab_up (ab_up (ab_up w 60 D.sn a) 61 D.sn b) 62 D.sn x 39 27 = D.sn := by rw [ab_up_p (by decide)]; exact f2
    have f4 : ab_up (ab_up (ab_up (ab_up w 60 D.sn a) 61 D.sn b) 62 D.sn x) 39 27 ((D.sn : Int) + 1) 39 27 = (D.sn : Int) + 1 := ab_up_at
    obtain ⟨⟨⟨a1, a2, a3⟩, a4, a5, a6, a7, a8, a9⟩, hs, hS⟩ := hi
    have hf := h (m_ap 60 27 w D.sn a b x) (fun p hp => m_ap_ne (by omega) (by omega)) ⟨⟨⟨?_, a2, ?_⟩, ?_, ?_, ?_, m_ap_at, m_ap_ev (by decide) a8, Td.ok_se a9 (by omega) (by omega) (by omega) hk⟩, hs.kept (m_ap_nj (by decide) (by decide)) (fun p h1 h2 => m_ap_ne (by omega) (by omega)), hS⟩
    · have w1 : iW ((D.sn : Int) + 1) = (D.sn : Int) + 1 := iW_id (by omega) (by omega)
      rw [ev_163_3]
      simp only [↓e_iload1, e_rpn, e_rps, e_few0, e_few1, e_few2, e_few3, e_few4, ↓e_cs1, ↓e_if_eq, ↓e_iload2, ↓e_iload3, ↓e_if_ne, ↓e_bipush, ↓e_iret, ↓e_aload0, ↓g_39_27, ↓e_cmp_ne, ↓g_39_28, ↓g_39_29, ↓g_39_30, ↓e_dupI, ↓e_dupR, ↓e_iconst, ↓e_iadd, ↓p_39_27, ↓y_60, ↓y_61, ↓y_62, ↓e_nil, b_163_0, b_163_1, b_163_2, b_163_3, h6, hin, f1, f2, f3, w1, f4, one0, eq_self, ne_eq, not_true_eq_false, not_false_eq_true, true_implies, false_implies, true_and, and_true, and_self]
      exact hf
    · rw [m_ap_nj (by decide) (by decide)]; exact a1
    · rw [m_ap_ne (by decide) (by decide)]; exact a3
    · rw [m_ap_nj (by decide) (by decide)]; exact a4
    · rw [m_ap_nj (by decide) (by decide)]; exact a5
    · rw [m_ap_ne (by decide) (by decide), m_ap_ne (by decide) (by decide), m_ap_ne (by decide) (by decide)]; exact a6
  · rw [if_pos (by omega), if_neg (by omega)] at h; exact h w (m_fra.refl w) hi
  · rw [if_neg (by omega)] at h; exact h w (m_fra.refl w) hi
  · rw [if_neg (by omega)] at h; exact h w (m_fra.refl w) hi
  · rw [if_neg (by omega)] at h; exact h w (m_fra.refl w) hi
end MMutate59
