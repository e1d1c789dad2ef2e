/-! the model: chance, years -/
theorem b_lq {a k : Nat} (ha : a < 2 ^ 62) (h0 : 0 < k) (hk : k < 2 ^ 62) : lN a / lN k = lN (a / k) := by
  have hk1 : lN k ≠ -1 := fun z => by
    have := congrArg Int64.toInt z
    rw [pk_lT (by omega)] at this
    have e : (-1 : Int64).toInt = -1 := by decide
    rw [e] at this
    omega
  apply Int64.toInt_inj.mp
  rw [Int64.toInt_div_of_ne_right _ _ hk1, pk_lT (by omega), pk_lT (by omega), pk_lT (Nat.lt_of_le_of_lt (Nat.div_le_self _ _) (by omega))]
  exact Int.ofNat_tdiv a k
theorem b_ldiv {a k : Nat} (ha : a < 2 ^ 62) (h0 : 0 < k) (hk : k < 2 ^ 62) : l_div (a : Int) (k : Int) = ((a / k : Nat) : Int) := by
  unfold l_div
  rw [l_of, l_of, b_lq ha h0 hk, pk_lT (Nat.lt_of_le_of_lt (Nat.div_le_self _ _) (by omega))]
theorem b_lrem {a k : Nat} (ha : a < 2 ^ 62) (h0 : 0 < k) (hk : k < 2 ^ 62) : l_rem (a : Int) (k : Int) = ((a % k : Nat) : Int) := by
  unfold l_rem
  have h1 : a / k * k ≤ a := Nat.div_mul_le_self a k
  have h2 : a % k = a - a / k * k := by rw [Nat.mod_def, Nat.mul_comm]
  have h3 : a / k < 2 ^ 62 := Nat.lt_of_le_of_lt (Nat.div_le_self _ _) ha
  rw [l_of, l_of, b_lq ha h0 hk, Int64.toInt_sub, Int64.toInt_mul, pk_lT (by omega), pk_lT (by omega), pk_lT (by omega)]
  have e1 : Int.bmod (((a / k : Nat) : Int) * (k : Int)) (2 ^ 64) = ((a / k * k : Nat) : Int) := by
    rw [show (((a / k : Nat) : Int) * (k : Int)) = ((a / k * k : Nat) : Int) from (Int.natCast_mul _ _).symm]
    exact lW_id (by omega) (by omega)
  rw [e1, h2]
  have e2 : Int.bmod ((a : Int) - ((a / k * k : Nat) : Int)) (2 ^ 64) = (a : Int) - ((a / k * k : Nat) : Int) := lW_id (by omega) (by omega)
  rw [e2]
  omega
section MChance41
variable {Ls d : Nat} {w : ab_W} {q : Option ab_V → ab_W → Prop} {D : Td}
theorem q_lowest {a b : Nat} {x : Int} (ha : a < 2 ^ 62) (hb0 : 0 < b) (hb : b < 2 ^ 62) (h : q (some (vL (if x = 0 then ((a / Nat.gcd a b : Nat) : Int) else ((b / Nat.gcd a b : Nat) : Int)))) w) : Sm Ls (d + 1) 104 [vL a, vL b, vI x] w q := by
  have hg0 : 0 < Nat.gcd a b := Nat.gcd_pos_of_pos_right a hb0
  have hgb : Nat.gcd a b ≤ b := Nat.gcd_le_right a hb0
  have key : ∀ (k X Y : Nat), Y ≤ k → X < 2 ^ 62 → Y < 2 ^ 62 → Nat.gcd X Y = Nat.gcd a b → ∀ y z : ab_V, Ev Ls (Sm Ls d) q bk_104 1 [vL a, vX, vL b, vX, vI x, vL X, vX, vL Y, vX, y, z] [] w := by
    intro k
    induction k with
    | zero =>
      intro X Y hY hX hY2 hg y z
      have : Y = 0 := by omega
      subst this
      rw [Nat.gcd_zero_right] at hg
      have d1 := b_ldiv (a := a) (k := X) ha (by omega) (by omega)
      have d2 := b_ldiv (a := b) (k := X) hb (by omega) (by omega)
      rw [← hg] at h
      have hX0 : ((X : Nat) : Int) ≠ 0 := by omega
      have hc : l_cmp ((0 : Nat) : Int) 0 = 0 := by decide
      rw [ev_104_1]
      simp only [↓e_lload0, ↓e_lstore5, e_klI, e_klR, e_klX, e_klL, ↓e_lload2, ↓e_lstore7, ↓e_lload7, ↓e_lconst0, ↓e_lcmp, ↓e_if_eq, ↓e_lload5, ↓e_lrem, ↓e_lstore9, ↓e_lload9, ↓e_goto, ↓e_iload4, ↓e_if_ne, ↓e_ldiv, ↓e_lret, ↓e_nil, b_104_0, b_104_1, b_104_2, b_104_3, b_104_4, ↓ev_104_2, ↓ev_104_3, ↓ev_104_4, hc, d1, d2, hX0, one0, eq_self, ne_eq, not_true_eq_false, not_false_eq_true, true_implies, false_implies, true_and, and_true, and_self]
      refine ⟨fun g => ?_, fun g => ?_⟩
      · rw [if_neg g] at h; exact h
      · rw [if_pos (Classical.not_not.mp g)] at h; exact h
    | succ k ih =>
      intro X Y hY hX hY2 hg y z
      by_cases h0 : Y = 0
      · subst h0; exact ih X 0 (by omega) hX hY2 hg y z
      · have hr := b_lrem (a := X) (k := Y) hX (by omega) hY2
        have hm : X % Y < Y := Nat.mod_lt _ (by omega)
        have hnext := fun y z => ih Y (X % Y) (by omega) hY2 (by omega) (by rw [← hg, Nat.gcd_comm X Y, Nat.gcd_rec Y X, Nat.gcd_comm]) y z
        have hc : l_cmp (Y : Int) 0 = 1 := by unfold l_cmp; rw [if_pos (by omega)]
        have hY0 : ((Y : Nat) : Int) ≠ 0 := by omega
        rw [ev_104_1]
        simp only [↓e_lload0, ↓e_lstore5, e_klI, e_klR, e_klX, e_klL, ↓e_lload2, ↓e_lstore7, ↓e_lload7, ↓e_lconst0, ↓e_lcmp, ↓e_if_eq, ↓e_lload5, ↓e_lrem, ↓e_lstore9, ↓e_lload9, ↓e_goto, ↓e_iload4, ↓e_if_ne, ↓e_ldiv, ↓e_lret, ↓e_nil, b_104_0, b_104_1, b_104_2, b_104_3, b_104_4, hc, hr, hY0, one0, one0, eq_self, ne_eq, not_true_eq_false, not_false_eq_true, true_implies, false_implies, true_and, and_true, and_self]
        exact hnext _ _
  have h0 := key b a b (Nat.le_refl _) ha hb rfl
  rw [en_104]
  simp only [↓e_lload0, ↓e_lstore5, e_klI, e_klR, e_klX, e_klL, ↓e_lload2, ↓e_lstore7, ↓e_lload7, ↓e_lconst0, ↓e_lcmp, ↓e_if_eq, ↓e_lload5, ↓e_lrem, ↓e_lstore9, ↓e_lload9, ↓e_goto, ↓e_iload4, ↓e_if_ne, ↓e_ldiv, ↓e_lret, ↓e_nil, b_104_0, b_104_1, b_104_2, b_104_3, b_104_4]
  exact h0 _ _
end MChance41
/-- the weight of a set of the first n, in sixteenths -/
def cw (C s : Nat) : Nat → Nat
  | 0 => 1
  | n + 1 => cw C s n * (if s.testBit n then 16 - C else C)
theorem cw_s {C s n : Nat} : cw C s (n + 1) = cw C s n * (if s.testBit n then 16 - C else C) := rfl
theorem cw_le {C s : Nat} (hC : C ≤ 16) : ∀ n, cw C s n ≤ 16 ^ n
  | 0 => Nat.le_refl _
  | n + 1 => by
    rw [cw_s, Nat.pow_succ]
    exact Nat.mul_le_mul (cw_le hC n) (by split <;> omega)
/-- the weights of the sets below k that are left out as t wins -/
noncomputable def Td.cs (D : Td) (C : Nat) (t : Int) : Nat → Nat
  | 0 => 0
  | s + 1 => D.cs C t s + (if (D.cx s).won = t then cw C s D.k else 0)
theorem Td.cs_s {D : Td} {C : Nat} {t : Int} {s : Nat} : D.cs C t (s + 1) = D.cs C t s + (if (D.cx s).won = t then cw C s D.k else 0) := rfl
theorem Td.cs_le {D : Td} {C : Nat} {t : Int} (hC : C ≤ 16) : ∀ s, D.cs C t s ≤ s * 16 ^ D.k
  | 0 => by rw [Nat.zero_mul]; exact Nat.le_refl _
  | s + 1 => by
    have h1 := Td.cs_le (D := D) (t := t) hC s
    have h2 := cw_le (s := s) hC D.k
    rw [Td.cs_s, Nat.succ_mul]
    split <;> omega
noncomputable def Td.cha (D : Td) (C : Nat) (t : Int) (x : Int) : Int := if x = 0 then ((D.cs C t (2 ^ D.k) / Nat.gcd (D.cs C t (2 ^ D.k)) (2 ^ (4 * D.k)) : Nat) : Int) else ((2 ^ (4 * D.k) / Nat.gcd (D.cs C t (2 ^ D.k)) (2 ^ (4 * D.k)) : Nat) : Int)
section MChance41b
variable {Ls d : Nat} {w : ab_W} {q : Option ab_V → ab_W → Prop} {D : Td}
set_option maxHeartbeats 2000000 in
theorem q_chanceOf (ht : m_told w D) {C : Nat} (hC : C ≤ 16) {t x : Int} (h : ∀ w', m_post D w w' → q (some (vL (D.cha C t x))) w') : Sm Ls (d + 7) 173 [vR 39, vI C, vI t, vI x] w q := by
  have hk8 : D.k ≤ 8 := ht.ok.2.2.2.1.1
  have hK : ∀ x, m_scr w x → x 39 6 = (D.k : Int) := fun x hx => (ht.scr hx).2.2.1
  have p1 := b_2pw (a := D.k) (by omega)
  have hp8 : 2 ^ D.k ≤ 2 ^ 8 := Nat.pow_le_pow_right (by decide) hk8
  have hp8 : 2 ^ D.k ≤ 256 := hp8
  have h16 : ∀ n, n ≤ 8 → 16 ^ n ≤ 16 ^ 8 := fun n hn => Nat.pow_le_pow_right (by decide) hn
  have h16 : ∀ n, n ≤ 8 → 16 ^ n ≤ 4294967296 := h16
  have hcw : ∀ s n, n ≤ 8 → cw C s n ≤ 4294967296 := fun s n hn => Nat.le_trans (cw_le hC n) (h16 n hn)
  have hcs : ∀ s, s ≤ 256 → D.cs C t s ≤ 1099511627776 := fun s hs => by
    have h1 := Td.cs_le (D := D) (t := t) hC s
    have h2 : s * 16 ^ D.k ≤ 256 * 4294967296 := Nat.mul_le_mul hs (h16 D.k hk8)
    omega
  have p4 : 2 ^ (4 * D.k) ≤ 2 ^ 32 := Nat.pow_le_pow_right (by decide) (by omega)
  have p4 : 2 ^ (4 * D.k) ≤ 4294967296 := p4
  have p4s : l_shl 1 (((4 * D.k : Nat)) : Int) = ((1 * 2 ^ (4 * D.k) : Nat) : Int) := b_lshl (a := 1) (by omega) (by omega)
  rw [Nat.one_mul] at p4s
  have p4p := Nat.two_pow_pos (4 * D.k)
  have outer : ∀ (k s : Nat), s + k = 2 ^ D.k → ∀ v : ab_W, m_scr w v → m_am v D → ∀ a b c : ab_V, Ev Ls (Sm Ls (d + 6)) q bk_173 1 [vR 39, vI C, vI t, vI x, vL (D.cs C t s : Nat), vX, vI s, a, b, c] [] v := by
    intro k
    induction k with
    | zero =>
      intro s hs v v0 v1 a b c
      have : s = 2 ^ D.k := by omega
      subst this
      have hfin := h v ⟨v0, v1.rd⟩
      have w1 : iW (4 * (D.k : Int)) = ((4 * D.k : Nat) : Int) := (iW_id (by omega) (by omega)).trans (by omega)
      have hcs2 := hcs (2 ^ D.k) hp8
      rw [ev_173_1]
      simp only [↓e_aload0, ↓e_cv1, i_39, e_rpn, e_rps, e_few0, e_few1, e_few2, e_few3, e_few4, ↓e_lconst0, ↓e_lstore4, e_klI, e_klR, e_klX, e_klL, ↓e_iconst, ↓e_istore6, ↓e_iload6, ↓g_39_6, ↓e_ishl, ↓e_cmp_ge, ↓e_lconst1, ↓e_lstore7, ↓e_istore9, ↓e_iload9, ↓e_lload7, ↓e_cs2, ↓e_if_eq, ↓e_bipush, ↓e_iload1, ↓e_isub, ↓e_i2l, ↓e_goto, ↓e_lmul, ↓e_iinc9, ↓e_lcmp, ↓e_if_le, ↓p_39_15, ↓e_lload4, ↓e_iload2, ↓e_cmp_ne, ↓e_ladd, ↓e_iinc6, ↓e_imul, ↓e_lshl, ↓e_iload3, ↓e_cs3, ↓e_lret, ↓e_nil, b_173_0, b_173_1, b_173_2, b_173_3, b_173_4, b_173_5, b_173_6, b_173_7, b_173_8, b_173_9, ↓ev_173_9, hK v v0, p1, w1, p4s, one0, eq_self, ne_eq, not_true_eq_false, not_false_eq_true, true_implies, false_implies, true_and, and_true, and_self]
      clear w1
      refine ⟨fun _ => ?_, fun z => absurd (Int.le_refl _) z⟩
      refine q_lowest (by omega) p4p (by omega) ?_
      simp only [↓e_aload0, ↓e_cv1, i_39, e_rpn, e_rps, e_few0, e_few1, e_few2, e_few3, e_few4, ↓e_lconst0, ↓e_lstore4, e_klI, e_klR, e_klX, e_klL, ↓e_iconst, ↓e_istore6, ↓e_iload6, ↓g_39_6, ↓e_ishl, ↓e_cmp_ge, ↓e_lconst1, ↓e_lstore7, ↓e_istore9, ↓e_iload9, ↓e_lload7, ↓e_cs2, ↓e_if_eq, ↓e_bipush, ↓e_iload1, ↓e_isub, ↓e_i2l, ↓e_goto, ↓e_lmul, ↓e_iinc9, ↓e_lcmp, ↓e_if_le, ↓p_39_15, ↓e_lload4, ↓e_iload2, ↓e_cmp_ne, ↓e_ladd, ↓e_iinc6, ↓e_imul, ↓e_lshl, ↓e_iload3, ↓e_cs3, ↓e_lret, ↓e_nil, b_173_0, b_173_1, b_173_2, b_173_3, b_173_4, b_173_5, b_173_6, b_173_7, b_173_8, b_173_9]
      exact hfin
    | succ k ih =>
      intro s hs v v0 v1 a b c
      have hno : ¬ ((2 ^ D.k : Nat) : Int) ≤ (s : Int) := by omega
      have hs8 : s < 256 := by omega
      have inner : ∀ (k2 e : Nat), e + k2 = D.k → Ev Ls (Sm Ls (d + 6)) q bk_173 2 [vR 39, vI C, vI t, vI x, vL (D.cs C t s : Nat), vX, vI s, vL (cw C s e : Nat), vX, vI e] [] v := by
        intro k2
        induction k2 with
        | zero =>
          intro e he
          have : e = D.k := by omega
          subst this
          have b1 := hcw s D.k hk8
          have b2 := hcs s (by omega)
          have hr := v1.ready ht.ok hs8
          have hI : ∀ (v : ab_W) (y : Nat), m_scr w v → m_am v D → y = D.cs C t (s + 1) → ∀ a b c : ab_V, Ev Ls (Sm Ls (d + 6)) q bk_173 1 [vR 39, vI C, vI t, vI x, vL (y : Int), vX, vI ((s : Int) + 1), a, b, c] [] v := fun v y y0 y1 hy a b c => by rw [hy]; exact ih (s + 1) (by omega) v y0 y1 a b c
          rw [Td.cs_s] at hI
          obtain ⟨w1, w2, w3⟩ : iW ((s : Int) + 1) = (s : Int) + 1 ∧ lW ((D.cs C t s : Nat) + (cw C s D.k : Nat)) = ((D.cs C t s + cw C s D.k : Nat) : Int) ∧ lW ((D.cs C t s : Nat) + (0 : Int)) = ((D.cs C t s : Nat) : Int) := ⟨iW_id (by omega) (by omega), (lW_id (by omega) (by omega)).trans (by omega), (lW_id (by omega) (by omega)).trans (by omega)⟩
          by_cases hz : cw C s D.k = 0
          · have hc : l_cmp ((cw C s D.k : Nat) : Int) 0 = 0 := by rw [hz]; decide
            have hn := hI v (D.cs C t s) v0 v1 (by rw [hz]; simp)
            rw [ev_173_2]
            simp only [↓e_aload0, ↓e_cv1, i_39, e_rpn, e_rps, e_few0, e_few1, e_few2, e_few3, e_few4, ↓e_lconst0, ↓e_lstore4, e_klI, e_klR, e_klX, e_klL, ↓e_iconst, ↓e_istore6, ↓e_iload6, ↓g_39_6, ↓e_ishl, ↓e_cmp_ge, ↓e_lconst1, ↓e_lstore7, ↓e_istore9, ↓e_iload9, ↓e_lload7, ↓e_cs2, ↓e_if_eq, ↓e_bipush, ↓e_iload1, ↓e_isub, ↓e_i2l, ↓e_goto, ↓e_lmul, ↓e_iinc9, ↓e_lcmp, ↓e_if_le, ↓p_39_15, ↓e_lload4, ↓e_iload2, ↓e_cmp_ne, ↓e_ladd, ↓e_iinc6, ↓e_imul, ↓e_lshl, ↓e_iload3, ↓e_cs3, ↓e_lret, ↓e_nil, b_173_0, b_173_1, b_173_2, b_173_3, b_173_4, b_173_5, b_173_6, b_173_7, b_173_8, b_173_9, ↓ev_173_5, ↓ev_173_8, hK v v0, hc, w1, one0, eq_self, ne_eq, not_true_eq_false, not_false_eq_true, true_implies, false_implies, true_and, and_true, and_self]
            exact ⟨fun _ => ⟨fun _ => hn _ _ _, fun z => absurd (Int.le_refl _) z⟩, fun z => absurd (Int.le_refl _) z⟩
          · have hc : l_cmp ((cw C s D.k : Nat) : Int) 0 = 1 := by unfold l_cmp; rw [if_pos (by clear w1 w2 w3; omega)]
            have hone : ¬ (1 : Int) ≤ 0 := by decide
            rw [ev_173_2]
            simp only [↓e_aload0, ↓e_cv1, i_39, e_rpn, e_rps, e_few0, e_few1, e_few2, e_few3, e_few4, ↓e_lconst0, ↓e_lstore4, e_klI, e_klR, e_klX, e_klL, ↓e_iconst, ↓e_istore6, ↓e_iload6, ↓g_39_6, ↓e_ishl, ↓e_cmp_ge, ↓e_lconst1, ↓e_lstore7, ↓e_istore9, ↓e_iload9, ↓e_lload7, ↓e_cs2, ↓e_if_eq, ↓e_bipush, ↓e_iload1, ↓e_isub, ↓e_i2l, ↓e_goto, ↓e_lmul, ↓e_iinc9, ↓e_lcmp, ↓e_if_le, ↓p_39_15, ↓e_lload4, ↓e_iload2, ↓e_cmp_ne, ↓e_ladd, ↓e_iinc6, ↓e_imul, ↓e_lshl, ↓e_iload3, ↓e_cs3, ↓e_lret, ↓e_nil, b_173_0, b_173_1, b_173_2, b_173_3, b_173_4, b_173_5, b_173_6, b_173_7, b_173_8, b_173_9, ↓ev_173_5, hK v v0, hc, hone, one0, eq_self, ne_eq, not_true_eq_false, not_false_eq_true, true_implies, false_implies, true_and, and_true, and_self]
            refine ⟨fun _ => q_run hr (fun y y0 => ?_), fun z => absurd (Int.le_refl _) z⟩
            simp only [↓e_aload0, ↓e_cv1, i_39, e_rpn, e_rps, e_few0, e_few1, e_few2, e_few3, e_few4, ↓e_lconst0, ↓e_lstore4, e_klI, e_klR, e_klX, e_klL, ↓e_iconst, ↓e_istore6, ↓e_iload6, ↓g_39_6, ↓e_ishl, ↓e_cmp_ge, ↓e_lconst1, ↓e_lstore7, ↓e_istore9, ↓e_iload9, ↓e_lload7, ↓e_cs2, ↓e_if_eq, ↓e_bipush, ↓e_iload1, ↓e_isub, ↓e_i2l, ↓e_goto, ↓e_lmul, ↓e_iinc9, ↓e_lcmp, ↓e_if_le, ↓p_39_15, ↓e_lload4, ↓e_iload2, ↓e_cmp_ne, ↓e_ladd, ↓e_iinc6, ↓e_imul, ↓e_lshl, ↓e_iload3, ↓e_cs3, ↓e_lret, ↓e_nil, b_173_0, b_173_1, b_173_2, b_173_3, b_173_4, b_173_5, b_173_6, b_173_7, b_173_8, b_173_9, one0, eq_self, ne_eq, not_true_eq_false, not_false_eq_true, true_implies, false_implies, true_and, and_true, and_self]
            refine q_wonNow (y0.res hr) ?_
            have hI2 := fun z hz => hI y z (v0.trans (m_scr.mask y0)) (v1.ran y0) hz
            simp only [↓e_aload0, ↓e_cv1, i_39, e_rpn, e_rps, e_few0, e_few1, e_few2, e_few3, e_few4, ↓e_lconst0, ↓e_lstore4, e_klI, e_klR, e_klX, e_klL, ↓e_iconst, ↓e_istore6, ↓e_iload6, ↓g_39_6, ↓e_ishl, ↓e_cmp_ge, ↓e_lconst1, ↓e_lstore7, ↓e_istore9, ↓e_iload9, ↓e_lload7, ↓e_cs2, ↓e_if_eq, ↓e_bipush, ↓e_iload1, ↓e_isub, ↓e_i2l, ↓e_goto, ↓e_lmul, ↓e_iinc9, ↓e_lcmp, ↓e_if_le, ↓p_39_15, ↓e_lload4, ↓e_iload2, ↓e_cmp_ne, ↓e_ladd, ↓e_iinc6, ↓e_imul, ↓e_lshl, ↓e_iload3, ↓e_cs3, ↓e_lret, ↓e_nil, b_173_0, b_173_1, b_173_2, b_173_3, b_173_4, b_173_5, b_173_6, b_173_7, b_173_8, b_173_9, ↓ev_173_6, ↓ev_173_7, ↓ev_173_8, w1, w2, w3, one0, eq_self, ne_eq, not_true_eq_false, not_false_eq_true, true_implies, false_implies, true_and, and_true, and_self]
            clear w1 w2 w3
            refine ⟨fun g => hI2 _ ?_ _ _ _, fun g => hI2 _ ?_ _ _ _⟩
            · rw [if_neg g]; rfl
            · rw [if_pos (Classical.not_not.mp g)]
        | succ k2 ih2 =>
          intro e he
          have hno2 : ¬ (D.k : Int) ≤ (e : Int) := by omega
          have hbit := b_ibit (a := s) (k := e) (by omega) (by omega)
          have b1 := hcw s e (by omega)
          have b2 := hcw s (e + 1) (by omega)
          have hI := ih2 (e + 1) (by omega)
          rw [cw_s] at hI b2
          cases hb : s.testBit e
          · rw [hb] at hI b2 hbit
            simp only [Bool.false_eq_true, if_false] at hI b2 hbit
            have c2 : ((cw C s e : Nat) : Int) * (C : Int) = ((cw C s e * C : Nat) : Int) := (Int.natCast_mul _ _).symm
            obtain ⟨w1, w2⟩ : iW ((e : Int) + 1) = (e : Int) + 1 ∧ lW (((cw C s e : Nat) : Int) * (C : Int)) = ((cw C s e * C : Nat) : Int) := ⟨iW_id (by omega) (by omega), by rw [c2]; exact lW_id (by omega) (by omega)⟩
            have h01 : ((0 : Int) = 1) = False := by decide
            rw [ev_173_2]
            simp only [↓e_aload0, ↓e_cv1, i_39, e_rpn, e_rps, e_few0, e_few1, e_few2, e_few3, e_few4, ↓e_lconst0, ↓e_lstore4, e_klI, e_klR, e_klX, e_klL, ↓e_iconst, ↓e_istore6, ↓e_iload6, ↓g_39_6, ↓e_ishl, ↓e_cmp_ge, ↓e_lconst1, ↓e_lstore7, ↓e_istore9, ↓e_iload9, ↓e_lload7, ↓e_cs2, ↓e_if_eq, ↓e_bipush, ↓e_iload1, ↓e_isub, ↓e_i2l, ↓e_goto, ↓e_lmul, ↓e_iinc9, ↓e_lcmp, ↓e_if_le, ↓p_39_15, ↓e_lload4, ↓e_iload2, ↓e_cmp_ne, ↓e_ladd, ↓e_iinc6, ↓e_imul, ↓e_lshl, ↓e_iload3, ↓e_cs3, ↓e_lret, ↓e_nil, b_173_0, b_173_1, b_173_2, b_173_3, b_173_4, b_173_5, b_173_6, b_173_7, b_173_8, b_173_9, ↓ev_173_3, ↓ev_173_4, hK v v0, hno2, q_isIn, hbit, h01, w1, w2, ab_yn, one0, eq_self, ne_eq, not_true_eq_false, not_false_eq_true, true_implies, false_implies, true_and, and_true, and_self]
            exact hI
          · rw [hb] at hI b2 hbit
            simp only [if_true] at hI b2 hbit
            have c1 : (16 : Int) - (C : Int) = ((16 - C : Nat) : Int) := by omega
            have c2 : ((cw C s e : Nat) : Int) * ((16 - C : Nat) : Int) = ((cw C s e * (16 - C) : Nat) : Int) := (Int.natCast_mul _ _).symm
            obtain ⟨w1, w2, w3⟩ : iW ((e : Int) + 1) = (e : Int) + 1 ∧ lW (((cw C s e : Nat) : Int) * ((16 - C : Nat) : Int)) = ((cw C s e * (16 - C) : Nat) : Int) ∧ iW (16 - (C : Int)) = ((16 - C : Nat) : Int) := ⟨iW_id (by omega) (by omega), by rw [c2]; exact lW_id (by omega) (by omega), by rw [c1]; exact iW_id (by omega) (by omega)⟩
            rw [ev_173_2]
            simp only [↓e_aload0, ↓e_cv1, i_39, e_rpn, e_rps, e_few0, e_few1, e_few2, e_few3, e_few4, ↓e_lconst0, ↓e_lstore4, e_klI, e_klR, e_klX, e_klL, ↓e_iconst, ↓e_istore6, ↓e_iload6, ↓g_39_6, ↓e_ishl, ↓e_cmp_ge, ↓e_lconst1, ↓e_lstore7, ↓e_istore9, ↓e_iload9, ↓e_lload7, ↓e_cs2, ↓e_if_eq, ↓e_bipush, ↓e_iload1, ↓e_isub, ↓e_i2l, ↓e_goto, ↓e_lmul, ↓e_iinc9, ↓e_lcmp, ↓e_if_le, ↓p_39_15, ↓e_lload4, ↓e_iload2, ↓e_cmp_ne, ↓e_ladd, ↓e_iinc6, ↓e_imul, ↓e_lshl, ↓e_iload3, ↓e_cs3, ↓e_lret, ↓e_nil, b_173_0, b_173_1, b_173_2, b_173_3, b_173_4, b_173_5, b_173_6, b_173_7, b_173_8, b_173_9, ↓ev_173_3, ↓ev_173_4, hK v v0, hno2, q_isIn, hbit, w1, w2, w3, ab_yn, one0, eq_self, ne_eq, not_true_eq_false, not_false_eq_true, true_implies, false_implies, true_and, and_true, and_self]
            exact hI
      have hin := inner D.k 0 (by omega)
      rw [ev_173_1]
      simp only [↓e_aload0, ↓e_cv1, i_39, e_rpn, e_rps, e_few0, e_few1, e_few2, e_few3, e_few4, ↓e_lconst0, ↓e_lstore4, e_klI, e_klR, e_klX, e_klL, ↓e_iconst, ↓e_istore6, ↓e_iload6, ↓g_39_6, ↓e_ishl, ↓e_cmp_ge, ↓e_lconst1, ↓e_lstore7, ↓e_istore9, ↓e_iload9, ↓e_lload7, ↓e_cs2, ↓e_if_eq, ↓e_bipush, ↓e_iload1, ↓e_isub, ↓e_i2l, ↓e_goto, ↓e_lmul, ↓e_iinc9, ↓e_lcmp, ↓e_if_le, ↓p_39_15, ↓e_lload4, ↓e_iload2, ↓e_cmp_ne, ↓e_ladd, ↓e_iinc6, ↓e_imul, ↓e_lshl, ↓e_iload3, ↓e_cs3, ↓e_lret, ↓e_nil, b_173_0, b_173_1, b_173_2, b_173_3, b_173_4, b_173_5, b_173_6, b_173_7, b_173_8, b_173_9, hK v v0, p1, hno, one0, eq_self, ne_eq, not_true_eq_false, not_false_eq_true, true_implies, false_implies, true_and, and_true, and_self]
      exact hin
  rw [en_173]
  simp only [↓e_aload0, ↓e_cv1, i_39, e_rpn, e_rps, e_few0, e_few1, e_few2, e_few3, e_few4, ↓e_lconst0, ↓e_lstore4, e_klI, e_klR, e_klX, e_klL, ↓e_iconst, ↓e_istore6, ↓e_iload6, ↓g_39_6, ↓e_ishl, ↓e_cmp_ge, ↓e_lconst1, ↓e_lstore7, ↓e_istore9, ↓e_iload9, ↓e_lload7, ↓e_cs2, ↓e_if_eq, ↓e_bipush, ↓e_iload1, ↓e_isub, ↓e_i2l, ↓e_goto, ↓e_lmul, ↓e_iinc9, ↓e_lcmp, ↓e_if_le, ↓p_39_15, ↓e_lload4, ↓e_iload2, ↓e_cmp_ne, ↓e_ladd, ↓e_iinc6, ↓e_imul, ↓e_lshl, ↓e_iload3, ↓e_cs3, ↓e_lret, ↓e_nil, b_173_0, b_173_1, b_173_2, b_173_3, b_173_4, b_173_5, b_173_6, b_173_7, b_173_8, b_173_9, one0, eq_self, ne_eq, not_true_eq_false, not_false_eq_true, true_implies, false_implies, true_and, and_true, and_self]
  refine q_asTold ht (fun v v0 v1 => ?_)
  simp only [↓e_aload0, ↓e_cv1, i_39, e_rpn, e_rps, e_few0, e_few1, e_few2, e_few3, e_few4, ↓e_lconst0, ↓e_lstore4, e_klI, e_klR, e_klX, e_klL, ↓e_iconst, ↓e_istore6, ↓e_iload6, ↓g_39_6, ↓e_ishl, ↓e_cmp_ge, ↓e_lconst1, ↓e_lstore7, ↓e_istore9, ↓e_iload9, ↓e_lload7, ↓e_cs2, ↓e_if_eq, ↓e_bipush, ↓e_iload1, ↓e_isub, ↓e_i2l, ↓e_goto, ↓e_lmul, ↓e_iinc9, ↓e_lcmp, ↓e_if_le, ↓p_39_15, ↓e_lload4, ↓e_iload2, ↓e_cmp_ne, ↓e_ladd, ↓e_iinc6, ↓e_imul, ↓e_lshl, ↓e_iload3, ↓e_cs3, ↓e_lret, ↓e_nil, b_173_0, b_173_1, b_173_2, b_173_3, b_173_4, b_173_5, b_173_6, b_173_7, b_173_8, b_173_9, one0, eq_self, ne_eq, not_true_eq_false, not_false_eq_true, true_implies, false_implies, true_and, and_true, and_self]
  exact outer (2 ^ D.k) 0 (by omega) v v0.1 v1.am _ _ _
noncomputable def p_chance (D : Td) (a b x : Int) : Int := if (0 ≤ a ∧ a ≤ 16) ∧ (0 ≤ b ∧ b < D.T) ∧ (x = 0 ∨ x = 1) then D.cha a.toNat b x else -9223372036854775806
theorem q_chanceM (ht : m_told w D) {a b x : Int} (h : ∀ w', m_scr w w' → q (some (vL (p_chance D a b x))) w') : Sm Ls (d + 8) 174 [vR 39, vI a, vI b, vI x] w q := by
  unfold p_chance at h
  have hT4 := Td.T4 ht.ok
  have hl : lW (-9223372036854775808 - -2) = -9223372036854775806 := by decide
  rw [en_174]
  simp only [↓e_iload1, ↓e_iconst, ↓e_bipush, e_rpn, e_rps, e_few0, e_few1, e_few2, e_few3, e_few4, ↓e_cs3, ↓e_if_eq, ↓e_aload0, ↓e_iload2, ↓e_cv2, i_39, ↓e_iload3, ↓e_cs1, ↓e_cv4, ↓e_goto, ↓e_lret, ↓e_nil, b_174_0, b_174_1, b_174_2, ↓ev_174_1, ↓ev_174_2, q_in, q_no, hl, ab_yn, one0, eq_self, ne_eq, not_true_eq_false, not_false_eq_true, true_implies, false_implies, true_and, and_true, and_self]
  refine ⟨fun g1 => q_isTeamM ht (fun w1 h1 => ?_), fun g1 => ?_⟩
  · simp only [↓e_iload1, ↓e_iconst, ↓e_bipush, e_rpn, e_rps, e_few0, e_few1, e_few2, e_few3, e_few4, ↓e_cs3, ↓e_if_eq, ↓e_aload0, ↓e_iload2, ↓e_cv2, i_39, ↓e_iload3, ↓e_cs1, ↓e_cv4, ↓e_goto, ↓e_lret, ↓e_nil, b_174_0, b_174_1, b_174_2, ↓ev_174_1, ↓ev_174_2, q_isTwo, q_no, hl, ab_yn, one0, eq_self, ne_eq, not_true_eq_false, not_false_eq_true, true_implies, false_implies, true_and, and_true, and_self]
    refine ⟨fun g2 => ⟨fun g3 => ?_, fun g3 => ?_⟩, fun g2 => ?_⟩
    · obtain ⟨C, rfl⟩ : ∃ C : Nat, a = C := ⟨a.toNat, by omega⟩
      refine q_chanceOf (h1.told ht) (by omega) (fun w2 h2 => ?_)
      have := h w2 (h1.1.trans h2.1)
      rw [if_pos (by omega), Int.toNat_natCast] at this
      simp only [↓e_iload1, ↓e_iconst, ↓e_bipush, e_rpn, e_rps, e_few0, e_few1, e_few2, e_few3, e_few4, ↓e_cs3, ↓e_if_eq, ↓e_aload0, ↓e_iload2, ↓e_cv2, i_39, ↓e_iload3, ↓e_cs1, ↓e_cv4, ↓e_goto, ↓e_lret, ↓e_nil, b_174_0, b_174_1, b_174_2, ↓ev_174_2]
      exact this
    · have := h w1 h1.1; rw [if_neg (by omega)] at this; exact this
    · have := h w1 h1.1; rw [if_neg (by omega)] at this; exact this
  · have := h w (m_scr.refl w); rw [if_neg (by omega)] at this; exact this
end MChance41b
