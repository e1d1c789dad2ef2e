/-! the class's chance -/
theorem tw_s {a t : Nat} (h : a % 2 ^ t = 0) (hb : a.testBit t = false) : a % 2 ^ (t + 1) = 0 := by
  have := b_bit (a := a) (k := t)
  rw [hb] at this
  simp only [Bool.false_eq_true, if_false] at this
  rw [Nat.mod_pow_succ, h, this, Nat.mul_zero]
theorem Td.ks_le {D : Td} {C : Nat} {t : Int} (hC : C ≤ 16) : ∀ s, D.ks C t s ≤ s * 16 ^ D.k
  | 0 => by rw [Nat.zero_mul]; exact Nat.le_refl _
  | s + 1 => by
    have h1 := Td.ks_le (D := D) (t := t) hC s
    have h2 := kw_le (C := C) (h := cb s 8) hC D.k
    rw [Td.ks_s, Nat.succ_mul]
    split <;> omega
section CChance55
variable {Ls d : Nat} {w : ab_W} {q : Option ab_V → ab_W → Prop} {D : Td} {c : Cf}
theorem q_weight (ht : c_told w D) {C hh : Nat} (hC : C ≤ 16) {Q' : Option ab_V → ab_W → Prop} (hQ : Q' (some (vL (kw C hh D.k : Nat))) w) : Sm Ls (d + 1) 74 [vR 0, vI C, vI hh] w Q' := by
  have hk8 : D.k ≤ 8 := ht.ok.2.2.2.1.1
  have h33 : w 3 3 = (D.k : Int) := ht.2.2.1.1
  have h16 : ∀ n, n ≤ 8 → 16 ^ n ≤ 16 ^ 8 := fun n hn => Nat.pow_le_pow_right (by decide) hn
  have h16 : ∀ n, n ≤ 8 → 16 ^ n ≤ 4294967296 := h16
  have hkw : ∀ n, n ≤ 8 → kw C hh n ≤ 4294967296 := fun n hn => Nat.le_trans (kw_le hC n) (h16 n hn)
  have key : ∀ (k e : Nat), e + k = D.k → Ev Ls (Sm Ls d) Q' bk_74 1 [vR 0, vI C, vI hh, vL (kw C hh e : Nat), vX, vI e] [] w := by
    intro k
    induction k with
    | zero =>
      intro e he
      have : e = D.k := by omega
      subst this
      rw [ev_74_1]
      simp only [↓e_lconst1, ↓e_lstore3, e_klI, e_klR, e_klX, e_klL, ↓e_iconst, ↓e_istore5, ↓e_iload5, ↓e_aload0, ↓g_0_1, ↓g_3_3, ↓g_7_3, ↓g_11_3, ↓e_cmp_ge, ↓e_lload3, ↓e_iload2, ↓e_iload1, ↓e_i2l, ↓e_goto, ↓e_bipush, ↓e_isub, ↓e_lmul, ↓e_iinc5, ↓e_lret, ↓e_nil, b_74_0, b_74_1, b_74_2, b_74_3, b_74_4, ↓ev_74_4, h33]
      exact ⟨fun _ => hQ, fun z => absurd (Int.le_refl _) z⟩
    | succ k ih =>
      intro e he
      have hno : ¬ (D.k : Int) ≤ (e : Int) := by omega
      have hI := ih (e + 1) (by omega)
      have b1 := hkw e (by omega)
      have b2 := hkw (e + 1) (by omega)
      rw [kw_s] at hI b2
      have c1 : (16 : Int) - (C : Int) = ((16 - C : Nat) : Int) := by omega
      by_cases hg : e < hh
      · have hg2 : ¬ (hh : Int) ≤ (e : Int) := by omega
        rw [if_pos hg] at hI b2
        have c2 : ((kw C hh e : Nat) : Int) * (C : Int) = ((kw C hh e * C : Nat) : Int) := (Int.natCast_mul _ _).symm
        obtain ⟨w1, w2⟩ : iW ((e : Int) + 1) = (e : Int) + 1 ∧ lW (((kw C hh e : Nat) : Int) * (C : Int)) = ((kw C hh e * C : Nat) : Int) := ⟨iW_id (by omega) (by omega), by rw [c2]; exact lW_id (by omega) (by omega)⟩
        rw [ev_74_1]
        simp only [↓e_lconst1, ↓e_lstore3, e_klI, e_klR, e_klX, e_klL, ↓e_iconst, ↓e_istore5, ↓e_iload5, ↓e_aload0, ↓g_0_1, ↓g_3_3, ↓g_7_3, ↓g_11_3, ↓e_cmp_ge, ↓e_lload3, ↓e_iload2, ↓e_iload1, ↓e_i2l, ↓e_goto, ↓e_bipush, ↓e_isub, ↓e_lmul, ↓e_iinc5, ↓e_lret, ↓e_nil, b_74_0, b_74_1, b_74_2, b_74_3, b_74_4, ↓ev_74_2, ↓ev_74_3, h33, hno, hg2, w1, w2, one0, eq_self, ne_eq, not_true_eq_false, not_false_eq_true, true_implies, false_implies, true_and, and_true, and_self]
        exact hI
      · have hg2 : (hh : Int) ≤ (e : Int) := by omega
        rw [if_neg hg] at hI b2
        have c2 : ((kw C hh e : Nat) : Int) * ((16 - C : Nat) : Int) = ((kw C hh e * (16 - C) : Nat) : Int) := (Int.natCast_mul _ _).symm
        obtain ⟨w1, w2, w3⟩ : iW ((e : Int) + 1) = (e : Int) + 1 ∧ lW (((kw C hh e : Nat) : Int) * ((16 - C : Nat) : Int)) = ((kw C hh e * (16 - C) : Nat) : Int) ∧ iW (16 - (C : Int)) = ((16 - C : Nat) : Int) := ⟨iW_id (by omega) (by omega), by rw [c2]; exact lW_id (by omega) (by omega), by rw [c1]; exact iW_id (by omega) (by omega)⟩
        rw [ev_74_1]
        simp only [↓e_lconst1, ↓e_lstore3, e_klI, e_klR, e_klX, e_klL, ↓e_iconst, ↓e_istore5, ↓e_iload5, ↓e_aload0, ↓g_0_1, ↓g_3_3, ↓g_7_3, ↓g_11_3, ↓e_cmp_ge, ↓e_lload3, ↓e_iload2, ↓e_iload1, ↓e_i2l, ↓e_goto, ↓e_bipush, ↓e_isub, ↓e_lmul, ↓e_iinc5, ↓e_lret, ↓e_nil, b_74_0, b_74_1, b_74_2, b_74_3, b_74_4, ↓ev_74_2, ↓ev_74_3, h33, hno, hg2, w1, w2, w3, one0, eq_self, ne_eq, not_true_eq_false, not_false_eq_true, true_implies, false_implies, true_and, and_true, and_self]
        exact hI
  have h0 := key D.k 0 (by omega)
  rw [en_74]
  simp only [↓e_lconst1, ↓e_lstore3, e_klI, e_klR, e_klX, e_klL, ↓e_iconst, ↓e_istore5, ↓e_iload5, ↓e_aload0, ↓g_0_1, ↓g_3_3, ↓g_7_3, ↓g_11_3, ↓e_cmp_ge, ↓e_lload3, ↓e_iload2, ↓e_iload1, ↓e_i2l, ↓e_goto, ↓e_bipush, ↓e_isub, ↓e_lmul, ↓e_iinc5, ↓e_lret, ↓e_nil, b_74_0, b_74_1, b_74_2, b_74_3, b_74_4]
  exact h0
theorem q_sharedTwos (ht : c_told w D) {a : Nat} (ha : a < 2 ^ 62) {Q' : Option ab_V → ab_W → Prop} (hQ : ∀ j : Nat, j ≤ 4 * D.k → a % 2 ^ j = 0 → (j = 4 * D.k ∨ a / 2 ^ j % 2 = 1) → Q' (some (vI j)) w) : Sm Ls (d + 1) 73 [vR 0, vL a] w Q' := by
  have hk8 : D.k ≤ 8 := ht.ok.2.2.2.1.1
  have h33 : w 3 3 = (D.k : Int) := ht.2.2.1.1
  have key : ∀ (k t : Nat), t + k = 4 * D.k → a % 2 ^ t = 0 → Ev Ls (Sm Ls d) Q' bk_73 1 [vR 0, vL a, vX, vI t] [] w := by
    intro k
    induction k with
    | zero =>
      intro t he hd
      have : t = 4 * D.k := by omega
      subst this
      have hfin := hQ _ (Nat.le_refl _) hd (Or.inl rfl)
      have hge : 4 * (D.k : Int) ≤ ((4 * D.k : Nat) : Int) := by omega
      have w1 : iW (4 * (D.k : Int)) = 4 * (D.k : Int) := iW_id (by omega) (by omega)
      rw [ev_73_1]
      simp only [↓e_iconst, ↓e_istore3, e_klI, e_klR, e_klX, e_klL, ↓e_iload3, ↓e_aload0, ↓g_0_1, ↓g_3_3, ↓g_7_3, ↓g_11_3, ↓e_imul, ↓e_cmp_ge, ↓e_lload1, ↓e_lshr, ↓e_lconst1, ↓e_land, ↓e_lconst0, ↓e_lcmp, ↓e_if_ne, ↓e_iinc3, ↓e_goto, ↓e_iret, ↓e_nil, b_73_0, b_73_1, b_73_2, ↓ev_73_2, h33, w1]
      exact ⟨fun _ => hfin, fun z => absurd hge z⟩
    | succ k ih =>
      intro t he hd
      have hno : ¬ 4 * (D.k : Int) ≤ (t : Int) := by omega
      have hbit := b_lbit (a := a) (k := t) (by omega) ha
      have hB := b_bit (a := a) (k := t)
      cases hb : a.testBit t
      · have hI := ih (t + 1) (by omega) (tw_s hd hb)
        rw [hb] at hbit
        simp only [Bool.false_eq_true, if_false] at hbit
        have hc : l_cmp 0 0 = 0 := by decide
        obtain ⟨w1, w2⟩ : iW (4 * (D.k : Int)) = 4 * (D.k : Int) ∧ iW ((t : Int) + 1) = (t : Int) + 1 := ⟨iW_id (by omega) (by omega), iW_id (by omega) (by omega)⟩
        rw [ev_73_1]
        simp only [↓e_iconst, ↓e_istore3, e_klI, e_klR, e_klX, e_klL, ↓e_iload3, ↓e_aload0, ↓g_0_1, ↓g_3_3, ↓g_7_3, ↓g_11_3, ↓e_imul, ↓e_cmp_ge, ↓e_lload1, ↓e_lshr, ↓e_lconst1, ↓e_land, ↓e_lconst0, ↓e_lcmp, ↓e_if_ne, ↓e_iinc3, ↓e_goto, ↓e_iret, ↓e_nil, b_73_0, b_73_1, b_73_2, h33, w1, w2, hno, hbit, hc, one0, eq_self, ne_eq, not_true_eq_false, not_false_eq_true, true_implies, false_implies, true_and, and_true, and_self]
        exact hI
      · rw [hb] at hbit hB
        simp only [if_true] at hbit hB
        have hfin := hQ t (by omega) hd (Or.inr hB)
        have hc : l_cmp 1 0 = 1 := by decide
        have w1 : iW (4 * (D.k : Int)) = 4 * (D.k : Int) := iW_id (by omega) (by omega)
        rw [ev_73_1]
        simp only [↓e_iconst, ↓e_istore3, e_klI, e_klR, e_klX, e_klL, ↓e_iload3, ↓e_aload0, ↓g_0_1, ↓g_3_3, ↓g_7_3, ↓g_11_3, ↓e_imul, ↓e_cmp_ge, ↓e_lload1, ↓e_lshr, ↓e_lconst1, ↓e_land, ↓e_lconst0, ↓e_lcmp, ↓e_if_ne, ↓e_iinc3, ↓e_goto, ↓e_iret, ↓e_nil, b_73_0, b_73_1, b_73_2, ↓ev_73_2, h33, w1, hno, hbit, hc, one0, eq_self, ne_eq, not_true_eq_false, not_false_eq_true, true_implies, false_implies, true_and, and_true, and_self]
        exact hfin
  have h0 := key (4 * D.k) 0 (by omega) (Nat.mod_one a)
  rw [en_73]
  simp only [↓e_iconst, ↓e_istore3, e_klI, e_klR, e_klX, e_klL, ↓e_iload3, ↓e_aload0, ↓g_0_1, ↓g_3_3, ↓g_7_3, ↓g_11_3, ↓e_imul, ↓e_cmp_ge, ↓e_lload1, ↓e_lshr, ↓e_lconst1, ↓e_land, ↓e_lconst0, ↓e_lcmp, ↓e_if_ne, ↓e_iinc3, ↓e_goto, ↓e_iret, ↓e_nil, b_73_0, b_73_1, b_73_2]
  exact h0
set_option maxHeartbeats 2000000 in
theorem q_chanceC (ht : c_told w D) (hcc : c_cache w D) {a b x : Int} (h : ∀ y, c_scr w y → c_cache y D → q (some (vL (p_chance D a b x))) y) : Sm Ls (d + 6) 72 [vR 0, vI a, vI b, vI x] w q := by
  have hT4 := Td.T4 ht.ok
  have hk8 : D.k ≤ 8 := ht.ok.2.2.2.1.1
  have h5 : w 15 5 = (D.T : Int) := ht.rc.2.2.2.1
  obtain ⟨E1, E2⟩ := b_every hk8
  have hp0 := Nat.two_pow_pos D.k
  unfold p_chance at h
  rw [en_72]
  simp only [↓e_iload1, ↓e_if_lt, ↓e_bipush, ↓e_cmp_gt, ↓e_aload0, ↓e_iload2, ↓e_cv2, i_0, e_rpn, e_rps, e_few0, e_few1, e_few2, e_few3, e_few4, ↓e_if_eq, ↓e_iload3, ↓e_cs1, ↓e_if_ne, ↓e_ldc2_w, ↓e_lret, ↓e_cv1, ↓e_lconst0, ↓e_lstore4, e_klI, e_klR, e_klX, e_klL, ↓e_iconst, ↓e_istore6, ↓e_iload6, ↓e_cmp_ne, ↓e_lload4, ↓e_cv3, ↓e_ladd, ↓e_iinc6, ↓e_goto, ↓e_lcmp, ↓e_lconst1, ↓e_lshr, ↓g_0_1, ↓g_3_3, ↓g_7_3, ↓g_11_3, ↓e_imul, ↓e_isub, ↓e_lshl, ↓e_nil, b_72_0, b_72_1, b_72_2, b_72_3, b_72_4, b_72_5, b_72_6, b_72_7, b_72_8, b_72_9, b_72_10, ↓ev_72_1, q_isTeam, q_isEither, h5, ab_yn, one0, eq_self, ne_eq, not_true_eq_false, not_false_eq_true, true_implies, false_implies, true_and, and_true, and_self]
  refine ⟨fun g1 => ?_, fun g1 => ⟨fun g2 => ?_, fun g2 => ⟨fun g3 => ⟨fun g4 => ?_, fun g4 => ?_⟩, fun g3 => ?_⟩⟩⟩
  · have := h w (c_scr.refl w) hcc; rw [if_neg (by omega)] at this; exact this
  · have := h w (c_scr.refl w) hcc; rw [if_neg (by omega)] at this; exact this
  · obtain ⟨C, rfl⟩ : ∃ C : Nat, a = C := ⟨a.toNat, by omega⟩
    have hC : C ≤ 16 := by omega
    rw [if_pos (by omega), Int.toNat_natCast] at h
    have hq : ∀ y, c_wk w y D → q (some (vL (D.cha C b x))) y := fun y hy => h y hy.1 hy.cache
    have h33 : ∀ y, c_wk w y D → y 3 3 = (D.k : Int) := fun y hy => (hy.told ht).2.2.1.1
    have h16 : ∀ n, n ≤ 8 → 16 ^ n ≤ 16 ^ 8 := fun n hn => Nat.pow_le_pow_right (by decide) hn
    have h16 : ∀ n, n ≤ 8 → 16 ^ n ≤ 4294967296 := h16
    have hkw : ∀ z, kw C z D.k ≤ 4294967296 := fun z => Nat.le_trans (kw_le hC D.k) (h16 D.k hk8)
    have hks : ∀ s, s ≤ 256 → D.ks C b s ≤ 1099511627776 := fun s hs => by
      have h1 := Td.ks_le (D := D) (t := b) hC s
      have h2 : s * 16 ^ D.k ≤ 256 * 4294967296 := Nat.mul_le_mul hs (h16 D.k hk8)
      omega
    have key : ∀ (k s : Nat), s + k = 2 ^ D.k → ∀ y : ab_W, c_wk w y D → Ev Ls (Sm Ls (d + 5)) q bk_72 3 [vR 0, vI C, vI b, vI x, vL (D.ks C b s : Nat), vX, vI s] [] y := by
      intro k
      induction k with
      | zero =>
        intro s hs y hy
        have : s = 2 ^ D.k := by omega
        subst this
        have hgt : ((2 ^ D.k - 1 : Nat) : Int) < ((2 ^ D.k : Nat) : Int) := by omega
        have hfin := hq y hy
        unfold Td.cha at hfin
        have hb := hks (2 ^ D.k) (by omega)
        rw [← Td.ks_cs ht.ok] at hfin
        generalize D.ks C b (2 ^ D.k) = A at hfin hb
        have p4p := Nat.two_pow_pos (4 * D.k)
        rw [ev_72_3]
        simp only [↓e_iload1, ↓e_if_lt, ↓e_bipush, ↓e_cmp_gt, ↓e_aload0, ↓e_iload2, ↓e_cv2, i_0, e_rpn, e_rps, e_few0, e_few1, e_few2, e_few3, e_few4, ↓e_if_eq, ↓e_iload3, ↓e_cs1, ↓e_if_ne, ↓e_ldc2_w, ↓e_lret, ↓e_cv1, ↓e_lconst0, ↓e_lstore4, e_klI, e_klR, e_klX, e_klL, ↓e_iconst, ↓e_istore6, ↓e_iload6, ↓e_cmp_ne, ↓e_lload4, ↓e_cv3, ↓e_ladd, ↓e_iinc6, ↓e_goto, ↓e_lcmp, ↓e_lconst1, ↓e_lshr, ↓g_0_1, ↓g_3_3, ↓g_7_3, ↓g_11_3, ↓e_imul, ↓e_isub, ↓e_lshl, ↓e_nil, b_72_0, b_72_1, b_72_2, b_72_3, b_72_4, b_72_5, b_72_6, b_72_7, b_72_8, b_72_9, b_72_10, ↓ev_72_5, q_everyEvent, h33 y hy, E1, hgt, one0, eq_self, ne_eq, not_true_eq_false, not_false_eq_true, true_implies, false_implies, true_and, and_true, and_self]
        by_cases hA : A = 0
        · subst hA
          rw [Nat.gcd_zero_left, Nat.zero_div, Nat.div_self p4p] at hfin
          have hc : l_cmp ((0 : Nat) : Int) 0 = 0 := by decide
          simp only [↓e_iload1, ↓e_if_lt, ↓e_bipush, ↓e_cmp_gt, ↓e_aload0, ↓e_iload2, ↓e_cv2, i_0, e_rpn, e_rps, e_few0, e_few1, e_few2, e_few3, e_few4, ↓e_if_eq, ↓e_iload3, ↓e_cs1, ↓e_if_ne, ↓e_ldc2_w, ↓e_lret, ↓e_cv1, ↓e_lconst0, ↓e_lstore4, e_klI, e_klR, e_klX, e_klL, ↓e_iconst, ↓e_istore6, ↓e_iload6, ↓e_cmp_ne, ↓e_lload4, ↓e_cv3, ↓e_ladd, ↓e_iinc6, ↓e_goto, ↓e_lcmp, ↓e_lconst1, ↓e_lshr, ↓g_0_1, ↓g_3_3, ↓g_7_3, ↓g_11_3, ↓e_imul, ↓e_isub, ↓e_lshl, ↓e_nil, b_72_0, b_72_1, b_72_2, b_72_3, b_72_4, b_72_5, b_72_6, b_72_7, b_72_8, b_72_9, b_72_10, ↓ev_72_6, ↓ev_72_7, hc, one0, eq_self, ne_eq, not_true_eq_false, not_false_eq_true, true_implies, false_implies, true_and, and_true, and_self]
          refine ⟨fun g => ?_, fun g => ?_⟩
          · rw [if_neg g] at hfin; exact hfin
          · rw [if_pos (Classical.not_not.mp g)] at hfin; exact hfin
        · have hc : l_cmp (A : Int) 0 = 1 := by unfold l_cmp; rw [if_pos (by omega)]
          simp only [↓e_iload1, ↓e_if_lt, ↓e_bipush, ↓e_cmp_gt, ↓e_aload0, ↓e_iload2, ↓e_cv2, i_0, e_rpn, e_rps, e_few0, e_few1, e_few2, e_few3, e_few4, ↓e_if_eq, ↓e_iload3, ↓e_cs1, ↓e_if_ne, ↓e_ldc2_w, ↓e_lret, ↓e_cv1, ↓e_lconst0, ↓e_lstore4, e_klI, e_klR, e_klX, e_klL, ↓e_iconst, ↓e_istore6, ↓e_iload6, ↓e_cmp_ne, ↓e_lload4, ↓e_cv3, ↓e_ladd, ↓e_iinc6, ↓e_goto, ↓e_lcmp, ↓e_lconst1, ↓e_lshr, ↓g_0_1, ↓g_3_3, ↓g_7_3, ↓g_11_3, ↓e_imul, ↓e_isub, ↓e_lshl, ↓e_nil, b_72_0, b_72_1, b_72_2, b_72_3, b_72_4, b_72_5, b_72_6, b_72_7, b_72_8, b_72_9, b_72_10, ↓ev_72_8, hc, one0, eq_self, ne_eq, not_true_eq_false, not_false_eq_true, true_implies, false_implies, true_and, and_true, and_self]
          refine q_sharedTwos (hy.told ht) (by omega) (fun j j1 j2 j3 => ?_)
          have hg := gcd_two j1 j2 j3
          have hd1 : l_shr (A : Int) (j : Int) = ((A / 2 ^ j : Nat) : Int) := b_lshr (by omega) (by omega)
          have p4 : 2 ^ (4 * D.k - j) ≤ 2 ^ 32 := Nat.pow_le_pow_right (by decide) (by omega)
          have p4 : 2 ^ (4 * D.k - j) ≤ 4294967296 := p4
          have hd2 : l_shl 1 ((4 * D.k - j : Nat) : Int) = ((1 * 2 ^ (4 * D.k - j) : Nat) : Int) := b_lshl (a := 1) (by omega) (by omega)
          rw [Nat.one_mul] at hd2
          rw [hg, Nat.pow_div j1 (by decide)] at hfin
          obtain ⟨w1, w2⟩ : iW (4 * (D.k : Int)) = 4 * (D.k : Int) ∧ iW (4 * (D.k : Int) - j) = ((4 * D.k - j : Nat) : Int) := ⟨iW_id (by omega) (by omega), (iW_id (by omega) (by omega)).trans (by omega)⟩
          simp only [↓e_iload1, ↓e_if_lt, ↓e_bipush, ↓e_cmp_gt, ↓e_aload0, ↓e_iload2, ↓e_cv2, i_0, e_rpn, e_rps, e_few0, e_few1, e_few2, e_few3, e_few4, ↓e_if_eq, ↓e_iload3, ↓e_cs1, ↓e_if_ne, ↓e_ldc2_w, ↓e_lret, ↓e_cv1, ↓e_lconst0, ↓e_lstore4, e_klI, e_klR, e_klX, e_klL, ↓e_iconst, ↓e_istore6, ↓e_iload6, ↓e_cmp_ne, ↓e_lload4, ↓e_cv3, ↓e_ladd, ↓e_iinc6, ↓e_goto, ↓e_lcmp, ↓e_lconst1, ↓e_lshr, ↓g_0_1, ↓g_3_3, ↓g_7_3, ↓g_11_3, ↓e_imul, ↓e_isub, ↓e_lshl, ↓e_nil, b_72_0, b_72_1, b_72_2, b_72_3, b_72_4, b_72_5, b_72_6, b_72_7, b_72_8, b_72_9, b_72_10, ↓ev_72_9, ↓ev_72_10, h33 y hy, w1, w2, hd1, hd2, one0, eq_self, ne_eq, not_true_eq_false, not_false_eq_true, true_implies, false_implies, true_and, and_true, and_self]
          refine ⟨fun g => ?_, fun g => ?_⟩
          · rw [if_neg g] at hfin; exact hfin
          · rw [if_pos (Classical.not_not.mp g)] at hfin; exact hfin
      | succ k ih =>
        intro s hs y hy
        have hno : ¬ ((2 ^ D.k - 1 : Nat) : Int) < (s : Int) := by omega
        have hs8 : s < 256 := by omega
        have hI : ∀ (y : ab_W) (z : Nat), c_wk w y D → z = D.ks C b (s + 1) → Ev Ls (Sm Ls (d + 5)) q bk_72 3 [vR 0, vI C, vI b, vI x, vL (z : Int), vX, vI ((s : Int) + 1)] [] y := fun y z hy hz => by rw [hz]; exact ih (s + 1) (by omega) y hy
        rw [Td.ks_s] at hI
        have b1 := hkw (cb s 8)
        have b2 := hks s (by omega)
        obtain ⟨w1, w2⟩ : iW ((s : Int) + 1) = (s : Int) + 1 ∧ lW ((D.ks C b s : Nat) + (kw C (cb s 8) D.k : Nat)) = ((D.ks C b s + kw C (cb s 8) D.k : Nat) : Int) := ⟨iW_id (by omega) (by omega), (lW_id (by omega) (by omega)).trans (by omega)⟩
        rw [ev_72_3]
        simp only [↓e_iload1, ↓e_if_lt, ↓e_bipush, ↓e_cmp_gt, ↓e_aload0, ↓e_iload2, ↓e_cv2, i_0, e_rpn, e_rps, e_few0, e_few1, e_few2, e_few3, e_few4, ↓e_if_eq, ↓e_iload3, ↓e_cs1, ↓e_if_ne, ↓e_ldc2_w, ↓e_lret, ↓e_cv1, ↓e_lconst0, ↓e_lstore4, e_klI, e_klR, e_klX, e_klL, ↓e_iconst, ↓e_istore6, ↓e_iload6, ↓e_cmp_ne, ↓e_lload4, ↓e_cv3, ↓e_ladd, ↓e_iinc6, ↓e_goto, ↓e_lcmp, ↓e_lconst1, ↓e_lshr, ↓g_0_1, ↓g_3_3, ↓g_7_3, ↓g_11_3, ↓e_imul, ↓e_isub, ↓e_lshl, ↓e_nil, b_72_0, b_72_1, b_72_2, b_72_3, b_72_4, b_72_5, b_72_6, b_72_7, b_72_8, b_72_9, b_72_10, q_everyEvent, h33 y hy, E1, hno, one0, eq_self, ne_eq, not_true_eq_false, not_false_eq_true, true_implies, false_implies, true_and, and_true, and_self]
        refine q_winnerWith ht hy hs8 (fun v hv => ?_)
        simp only [↓e_iload1, ↓e_if_lt, ↓e_bipush, ↓e_cmp_gt, ↓e_aload0, ↓e_iload2, ↓e_cv2, i_0, e_rpn, e_rps, e_few0, e_few1, e_few2, e_few3, e_few4, ↓e_if_eq, ↓e_iload3, ↓e_cs1, ↓e_if_ne, ↓e_ldc2_w, ↓e_lret, ↓e_cv1, ↓e_lconst0, ↓e_lstore4, e_klI, e_klR, e_klX, e_klL, ↓e_iconst, ↓e_istore6, ↓e_iload6, ↓e_cmp_ne, ↓e_lload4, ↓e_cv3, ↓e_ladd, ↓e_iinc6, ↓e_goto, ↓e_lcmp, ↓e_lconst1, ↓e_lshr, ↓g_0_1, ↓g_3_3, ↓g_7_3, ↓g_11_3, ↓e_imul, ↓e_isub, ↓e_lshl, ↓e_nil, b_72_0, b_72_1, b_72_2, b_72_3, b_72_4, b_72_5, b_72_6, b_72_7, b_72_8, b_72_9, b_72_10, ↓ev_72_4, w1, q_bitI hs8, one0, eq_self, ne_eq, not_true_eq_false, not_false_eq_true, true_implies, false_implies, true_and, and_true, and_self]
        refine ⟨fun g => ?_, fun g => ?_⟩
        · exact hI v _ hv (by rw [if_neg g]; rfl)
        · refine q_weight (hv.told ht) hC ?_
          simp only [↓e_iload1, ↓e_if_lt, ↓e_bipush, ↓e_cmp_gt, ↓e_aload0, ↓e_iload2, ↓e_cv2, i_0, e_rpn, e_rps, e_few0, e_few1, e_few2, e_few3, e_few4, ↓e_if_eq, ↓e_iload3, ↓e_cs1, ↓e_if_ne, ↓e_ldc2_w, ↓e_lret, ↓e_cv1, ↓e_lconst0, ↓e_lstore4, e_klI, e_klR, e_klX, e_klL, ↓e_iconst, ↓e_istore6, ↓e_iload6, ↓e_cmp_ne, ↓e_lload4, ↓e_cv3, ↓e_ladd, ↓e_iinc6, ↓e_goto, ↓e_lcmp, ↓e_lconst1, ↓e_lshr, ↓g_0_1, ↓g_3_3, ↓g_7_3, ↓g_11_3, ↓e_imul, ↓e_isub, ↓e_lshl, ↓e_nil, b_72_0, b_72_1, b_72_2, b_72_3, b_72_4, b_72_5, b_72_6, b_72_7, b_72_8, b_72_9, b_72_10, ↓ev_72_4, w1, w2, one0, eq_self, ne_eq, not_true_eq_false, not_false_eq_true, true_implies, false_implies, true_and, and_true, and_self]
          exact hI v _ hv (by rw [if_pos (Classical.not_not.mp g)])
    rw [ev_72_2]
    simp only [↓e_iload1, ↓e_if_lt, ↓e_bipush, ↓e_cmp_gt, ↓e_aload0, ↓e_iload2, ↓e_cv2, i_0, e_rpn, e_rps, e_few0, e_few1, e_few2, e_few3, e_few4, ↓e_if_eq, ↓e_iload3, ↓e_cs1, ↓e_if_ne, ↓e_ldc2_w, ↓e_lret, ↓e_cv1, ↓e_lconst0, ↓e_lstore4, e_klI, e_klR, e_klX, e_klL, ↓e_iconst, ↓e_istore6, ↓e_iload6, ↓e_cmp_ne, ↓e_lload4, ↓e_cv3, ↓e_ladd, ↓e_iinc6, ↓e_goto, ↓e_lcmp, ↓e_lconst1, ↓e_lshr, ↓g_0_1, ↓g_3_3, ↓g_7_3, ↓g_11_3, ↓e_imul, ↓e_isub, ↓e_lshl, ↓e_nil, b_72_0, b_72_1, b_72_2, b_72_3, b_72_4, b_72_5, b_72_6, b_72_7, b_72_8, b_72_9, b_72_10, one0, eq_self, ne_eq, not_true_eq_false, not_false_eq_true, true_implies, false_implies, true_and, and_true, and_self]
    refine q_prepare ht hcc (fun y hy => ?_)
    simp only [↓e_iload1, ↓e_if_lt, ↓e_bipush, ↓e_cmp_gt, ↓e_aload0, ↓e_iload2, ↓e_cv2, i_0, e_rpn, e_rps, e_few0, e_few1, e_few2, e_few3, e_few4, ↓e_if_eq, ↓e_iload3, ↓e_cs1, ↓e_if_ne, ↓e_ldc2_w, ↓e_lret, ↓e_cv1, ↓e_lconst0, ↓e_lstore4, e_klI, e_klR, e_klX, e_klL, ↓e_iconst, ↓e_istore6, ↓e_iload6, ↓e_cmp_ne, ↓e_lload4, ↓e_cv3, ↓e_ladd, ↓e_iinc6, ↓e_goto, ↓e_lcmp, ↓e_lconst1, ↓e_lshr, ↓g_0_1, ↓g_3_3, ↓g_7_3, ↓g_11_3, ↓e_imul, ↓e_isub, ↓e_lshl, ↓e_nil, b_72_0, b_72_1, b_72_2, b_72_3, b_72_4, b_72_5, b_72_6, b_72_7, b_72_8, b_72_9, b_72_10, one0, eq_self, ne_eq, not_true_eq_false, not_false_eq_true, true_implies, false_implies, true_and, and_true, and_self]
    exact key (2 ^ D.k) 0 (by omega) y hy
  · have := h w (c_scr.refl w) hcc; rw [if_neg (by omega)] at this; exact this
  · have := h w (c_scr.refl w) hcc; rw [if_neg (by omega)] at this; exact this
end CChance55
