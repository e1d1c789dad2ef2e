/-! the class's spare -/
theorem Td.cf_out2 {D : Td} (h : D.ok) {a b : Nat} (ha : a < 8) (hb : b < 8) : D.cf (((2 ^ D.k - 1) &&& (255 - 2 ^ a)) &&& (255 - 2 ^ b)) = D.cx (2 ^ a ||| 2 ^ b) := by
  refine Td.cf_ext (fun e he => ?_)
  have hk := h.2.2.2.1.1
  rw [Nat.testBit_and, Nat.testBit_and, b_every_bit he, b_out_bit a ha e (by omega), b_out_bit b hb e (by omega), b_x255 (by omega), Nat.testBit_or, Nat.testBit_two_pow, Nat.testBit_two_pow]
  have e1 : (decide (a = e)) = !(decide (e ≠ a)) := by
    by_cases hea : e = a
    · subst hea; simp
    · have : ¬ a = e := fun z => hea z.symm
      simp [hea, this]
  have e2 : (decide (b = e)) = !(decide (e ≠ b)) := by
    by_cases hea : e = b
    · subst hea; simp
    · have : ¬ b = e := fun z => hea z.symm
      simp [hea, this]
  rw [e1, e2]
  cases decide (e ≠ a) <;> cases decide (e ≠ b) <;> rfl
section CSpare53
variable {Ls d : Nat} {w : ab_W} {q : Option ab_V → ab_W → Prop} {D : Td} {c : Cf}
set_option maxHeartbeats 2000000 in
theorem q_spareC (ht : c_told w D) (hcc : c_cache w D) {i : Int} (h : ∀ x, c_scr w x → c_cache x D → q (some (vI (p_spare D i))) x) : Sm Ls (d + 6) 57 [vR 0, vI i] w q := by
  have hk8 : D.k ≤ 8 := ht.ok.2.2.2.1.1
  obtain ⟨E1, E2⟩ := b_every hk8
  unfold p_spare at h
  rw [en_57]
  simp only [↓e_iload1, ↓e_iconst, ↓e_cmp_lt, ↓e_cmp_le, ↓e_bipush, ↓e_iret, ↓e_aload0, ↓e_cv1, i_0, e_rpn, e_rps, e_few0, e_few1, e_few2, e_few3, e_few4, ↓e_istore2, e_klI, e_klR, e_klX, e_klL, ↓e_iload2, ↓e_cv2, ↓e_if_ne, ↓e_cmp_ne, ↓e_goto, ↓e_istore3, ↓e_iload3, ↓g_0_1, ↓g_3_3, ↓g_7_3, ↓g_11_3, ↓e_cmp_ge, ↓e_ishl, ↓e_ixor, ↓e_iand, ↓e_cs4, ↓e_iinc3, ↓e_iadd, ↓e_istore4, ↓e_iload4, ↓e_iinc4, ↓e_nil, b_57_0, b_57_1, b_57_2, b_57_3, b_57_4, b_57_5, b_57_6, b_57_7, b_57_8, b_57_9, b_57_10, b_57_11, b_57_12, b_57_13, ↓ev_57_1, one0, eq_self, ne_eq, not_true_eq_false, not_false_eq_true, true_implies, false_implies, true_and, and_true, and_self]
  refine ⟨fun g1 => ?_, fun g1 => ⟨fun g2 => ?_, fun g2 => ?_⟩⟩
  · have := h w (c_scr.refl w) hcc; rw [if_neg (by omega)] at this; exact this
  · rw [if_pos (by omega)] at h
    have hq : ∀ y, c_wk w y D → q (some (vI (D.spa i))) y := fun y hy => h y hy.1 hy.cache
    have h33 : ∀ y, c_wk w y D → y 3 3 = (D.k : Int) := fun y hy => (hy.told ht).2.2.1.1
    have h0 : (D.cx 0).won = (D.cf (2 ^ D.k - 1)).won := by rw [Td.cx_0, Td.cf_every ht.ok]
    have hC : ¬ (D.cx 0).won = 0 → sp1 D.W1 D.k 0 = -1 → ∀ (k a : Nat), a + k = D.k → sp2 D.W2 D.k k a = sp2 D.W2 D.k D.k 0 → ∀ x : ab_W, c_wk w x D → ∀ y : ab_V, Ev Ls (Sm Ls (d + 5)) q bk_57 9 [vR 0, vI i, vI (2 ^ D.k - 1 : Nat), vI a, y] [] x := by
      intro z0 z1
      have hspr : D.spr = if (sp2 D.W2 D.k D.k 0).1 ≠ -1 then (2, (sp2 D.W2 D.k D.k 0).1, (sp2 D.W2 D.k D.k 0).2) else (-1, -1, -1) := by
        unfold Td.spr; rw [if_neg z0, if_neg (fun z => z z1)]
      intro k
      induction k with
      | zero =>
        intro a ha hs x hx y
        have : a = D.k := by omega
        subst this
        have e : D.spr = (-1, -1, -1) := by rw [hspr, ← hs]; rfl
        have hfin := hq x hx
        have e2 : D.spa i = -1 := by unfold Td.spa; rw [e]; dsimp only; split <;> try rfl
                                     split <;> rfl
        rw [e2] at hfin
        rw [ev_57_9]
        simp only [↓e_iload1, ↓e_iconst, ↓e_cmp_lt, ↓e_cmp_le, ↓e_bipush, ↓e_iret, ↓e_aload0, ↓e_cv1, i_0, e_rpn, e_rps, e_few0, e_few1, e_few2, e_few3, e_few4, ↓e_istore2, e_klI, e_klR, e_klX, e_klL, ↓e_iload2, ↓e_cv2, ↓e_if_ne, ↓e_cmp_ne, ↓e_goto, ↓e_istore3, ↓e_iload3, ↓g_0_1, ↓g_3_3, ↓g_7_3, ↓g_11_3, ↓e_cmp_ge, ↓e_ishl, ↓e_ixor, ↓e_iand, ↓e_cs4, ↓e_iinc3, ↓e_iadd, ↓e_istore4, ↓e_iload4, ↓e_iinc4, ↓e_nil, b_57_0, b_57_1, b_57_2, b_57_3, b_57_4, b_57_5, b_57_6, b_57_7, b_57_8, b_57_9, b_57_10, b_57_11, b_57_12, b_57_13, ↓ev_57_13, h33 x hx]
        exact ⟨fun _ => hfin, fun z => absurd (Int.le_refl _) z⟩
      | succ k ih =>
        intro a ha hs x hx y
        have hno : ¬ (D.k : Int) ≤ (a : Int) := by omega
        rw [sp2_s] at hs
        have pa := b_2pw (a := a) (by omega)
        have inner : ∀ (k2 b : Nat), b + k2 = D.k → a + 1 ≤ b → sp1 (D.W2 a) k2 b = sp1 (D.W2 a) (D.k - (a + 1)) (a + 1) → ∀ x : ab_W, c_wk w x D → Ev Ls (Sm Ls (d + 5)) q bk_57 10 [vR 0, vI i, vI (2 ^ D.k - 1 : Nat), vI a, vI b] [] x := by
          intro k2
          induction k2 with
          | zero =>
            intro b hb hab hi x hx
            have : b = D.k := by omega
            subst this
            have h9 : sp1 (D.W2 a) (D.k - (a + 1)) (a + 1) = -1 := by rw [← hi]; rfl
            rw [if_pos h9] at hs
            have hnext := fun y => ih (a + 1) (by omega) hs x hx y
            have w1 : iW ((a : Int) + 1) = (a : Int) + 1 := iW_id (by omega) (by omega)
            rw [ev_57_10]
            simp only [↓e_iload1, ↓e_iconst, ↓e_cmp_lt, ↓e_cmp_le, ↓e_bipush, ↓e_iret, ↓e_aload0, ↓e_cv1, i_0, e_rpn, e_rps, e_few0, e_few1, e_few2, e_few3, e_few4, ↓e_istore2, e_klI, e_klR, e_klX, e_klL, ↓e_iload2, ↓e_cv2, ↓e_if_ne, ↓e_cmp_ne, ↓e_goto, ↓e_istore3, ↓e_iload3, ↓g_0_1, ↓g_3_3, ↓g_7_3, ↓g_11_3, ↓e_cmp_ge, ↓e_ishl, ↓e_ixor, ↓e_iand, ↓e_cs4, ↓e_iinc3, ↓e_iadd, ↓e_istore4, ↓e_iload4, ↓e_iinc4, ↓e_nil, b_57_0, b_57_1, b_57_2, b_57_3, b_57_4, b_57_5, b_57_6, b_57_7, b_57_8, b_57_9, b_57_10, b_57_11, b_57_12, b_57_13, ↓ev_57_12, h33 x hx, w1]
            exact ⟨fun _ => hnext _, fun z => absurd (Int.le_refl _) z⟩
          | succ k2 ih2 =>
            intro b hb hab hi x hx
            have hno2 : ¬ (D.k : Int) ≤ (b : Int) := by omega
            have pb := b_2pw (a := b) (by omega)
            have q1 : i_and ((2 ^ D.k - 1 : Nat) : Int) (i_xor (((2 ^ a : Nat)) : Int) (-1)) = (((2 ^ D.k - 1) &&& (255 - 2 ^ a) : Nat) : Int) := by
              rw [← pa]; exact b_out _ E2 a (by omega)
            have q2 : (2 ^ D.k - 1) &&& (255 - 2 ^ a) < 256 := Nat.lt_of_le_of_lt Nat.and_le_left E2
            have q3 : i_and (((2 ^ D.k - 1) &&& (255 - 2 ^ a) : Nat) : Int) (i_xor (((2 ^ b : Nat)) : Int) (-1)) = ((((2 ^ D.k - 1) &&& (255 - 2 ^ a)) &&& (255 - 2 ^ b) : Nat) : Int) := by
              rw [← pb]; exact b_out _ q2 b (by omega)
            have q4 : ((2 ^ D.k - 1) &&& (255 - 2 ^ a)) &&& (255 - 2 ^ b) < 256 := Nat.lt_of_le_of_lt Nat.and_le_left q2
            have hcx := Td.cf_out2 (D := D) ht.ok (a := a) (b := b) (by omega) (by omega)
            rw [sp1_s] at hi
            have w1 : iW ((b : Int) + 1) = (b : Int) + 1 := iW_id (by omega) (by omega)
            rw [ev_57_10]
            simp only [↓e_iload1, ↓e_iconst, ↓e_cmp_lt, ↓e_cmp_le, ↓e_bipush, ↓e_iret, ↓e_aload0, ↓e_cv1, i_0, e_rpn, e_rps, e_few0, e_few1, e_few2, e_few3, e_few4, ↓e_istore2, e_klI, e_klR, e_klX, e_klL, ↓e_iload2, ↓e_cv2, ↓e_if_ne, ↓e_cmp_ne, ↓e_goto, ↓e_istore3, ↓e_iload3, ↓g_0_1, ↓g_3_3, ↓g_7_3, ↓g_11_3, ↓e_cmp_ge, ↓e_ishl, ↓e_ixor, ↓e_iand, ↓e_cs4, ↓e_iinc3, ↓e_iadd, ↓e_istore4, ↓e_iload4, ↓e_iinc4, ↓e_nil, b_57_0, b_57_1, b_57_2, b_57_3, b_57_4, b_57_5, b_57_6, b_57_7, b_57_8, b_57_9, b_57_10, b_57_11, b_57_12, b_57_13, h33 x hx, hno2, pa, pb, q1, q3, one0, eq_self, ne_eq, not_true_eq_false, not_false_eq_true, true_implies, false_implies, true_and, and_true, and_self]
            refine q_winnerWith ht hx q4 (fun x4 f2 => ?_)
            rw [hcx]
            simp only [↓e_iload1, ↓e_iconst, ↓e_cmp_lt, ↓e_cmp_le, ↓e_bipush, ↓e_iret, ↓e_aload0, ↓e_cv1, i_0, e_rpn, e_rps, e_few0, e_few1, e_few2, e_few3, e_few4, ↓e_istore2, e_klI, e_klR, e_klX, e_klL, ↓e_iload2, ↓e_cv2, ↓e_if_ne, ↓e_cmp_ne, ↓e_goto, ↓e_istore3, ↓e_iload3, ↓g_0_1, ↓g_3_3, ↓g_7_3, ↓g_11_3, ↓e_cmp_ge, ↓e_ishl, ↓e_ixor, ↓e_iand, ↓e_cs4, ↓e_iinc3, ↓e_iadd, ↓e_istore4, ↓e_iload4, ↓e_iinc4, ↓e_nil, b_57_0, b_57_1, b_57_2, b_57_3, b_57_4, b_57_5, b_57_6, b_57_7, b_57_8, b_57_9, b_57_10, b_57_11, b_57_12, b_57_13, ↓ev_57_11, w1, q_spared, one0, eq_self, ne_eq, not_true_eq_false, not_false_eq_true, true_implies, false_implies, true_and, and_true, and_self]
            refine ⟨fun g => ?_, fun g => ?_⟩
            · have hi2 : sp1 (D.W2 a) k2 (b + 1) = sp1 (D.W2 a) (D.k - (a + 1)) (a + 1) := by rw [← hi, if_neg (by unfold Td.W2; simp [g])]
              exact ih2 (b + 1) (by clear w1; omega) (by clear w1; omega) hi2 x4 f2
            · have e1 : sp1 (D.W2 a) (D.k - (a + 1)) (a + 1) = b := by rw [← hi, if_pos (by unfold Td.W2; exact decide_eq_true (Classical.not_not.mp g))]
              rw [e1, if_neg (by clear w1; omega)] at hs
              have e : D.spr = (2, (a : Int), (b : Int)) := by rw [hspr, ← hs, if_pos (by dsimp only; clear w1; omega)]
              have hfin := hq x4 f2
              unfold Td.spa at hfin
              rw [e] at hfin
              exact hfin
        have hin := inner (D.k - (a + 1)) (a + 1) (by omega) (Nat.le_refl _) rfl x hx
        have w1 : iW ((a : Int) + 1) = (a : Int) + 1 := iW_id (by omega) (by omega)
        rw [ev_57_9]
        simp only [↓e_iload1, ↓e_iconst, ↓e_cmp_lt, ↓e_cmp_le, ↓e_bipush, ↓e_iret, ↓e_aload0, ↓e_cv1, i_0, e_rpn, e_rps, e_few0, e_few1, e_few2, e_few3, e_few4, ↓e_istore2, e_klI, e_klR, e_klX, e_klL, ↓e_iload2, ↓e_cv2, ↓e_if_ne, ↓e_cmp_ne, ↓e_goto, ↓e_istore3, ↓e_iload3, ↓g_0_1, ↓g_3_3, ↓g_7_3, ↓g_11_3, ↓e_cmp_ge, ↓e_ishl, ↓e_ixor, ↓e_iand, ↓e_cs4, ↓e_iinc3, ↓e_iadd, ↓e_istore4, ↓e_iload4, ↓e_iinc4, ↓e_nil, b_57_0, b_57_1, b_57_2, b_57_3, b_57_4, b_57_5, b_57_6, b_57_7, b_57_8, b_57_9, b_57_10, b_57_11, b_57_12, b_57_13, h33 x hx, hno, w1, one0, eq_self, ne_eq, not_true_eq_false, not_false_eq_true, true_implies, false_implies, true_and, and_true, and_self]
        exact hin
    have hB : ¬ (D.cx 0).won = 0 → ∀ (k a : Nat), a + k = D.k → sp1 D.W1 k a = sp1 D.W1 D.k 0 → ∀ x : ab_W, c_wk w x D → ∀ y : ab_V, Ev Ls (Sm Ls (d + 5)) q bk_57 6 [vR 0, vI i, vI (2 ^ D.k - 1 : Nat), vI a, y] [] x := by
      intro z0 k
      induction k with
      | zero =>
        intro a ha hs x hx y
        have : a = D.k := by omega
        subst this
        have hnext := fun y => hC z0 hs.symm D.k 0 (by omega) rfl x hx y
        rw [ev_57_6]
        simp only [↓e_iload1, ↓e_iconst, ↓e_cmp_lt, ↓e_cmp_le, ↓e_bipush, ↓e_iret, ↓e_aload0, ↓e_cv1, i_0, e_rpn, e_rps, e_few0, e_few1, e_few2, e_few3, e_few4, ↓e_istore2, e_klI, e_klR, e_klX, e_klL, ↓e_iload2, ↓e_cv2, ↓e_if_ne, ↓e_cmp_ne, ↓e_goto, ↓e_istore3, ↓e_iload3, ↓g_0_1, ↓g_3_3, ↓g_7_3, ↓g_11_3, ↓e_cmp_ge, ↓e_ishl, ↓e_ixor, ↓e_iand, ↓e_cs4, ↓e_iinc3, ↓e_iadd, ↓e_istore4, ↓e_iload4, ↓e_iinc4, ↓e_nil, b_57_0, b_57_1, b_57_2, b_57_3, b_57_4, b_57_5, b_57_6, b_57_7, b_57_8, b_57_9, b_57_10, b_57_11, b_57_12, b_57_13, ↓ev_57_8, h33 x hx]
        exact ⟨fun _ => hnext _, fun z => absurd (Int.le_refl _) z⟩
      | succ k ih =>
        intro a ha hs x hx y
        have hno : ¬ (D.k : Int) ≤ (a : Int) := by omega
        have pa := b_2pw (a := a) (by omega)
        have q1 : i_and ((2 ^ D.k - 1 : Nat) : Int) (i_xor (((2 ^ a : Nat)) : Int) (-1)) = (((2 ^ D.k - 1) &&& (255 - 2 ^ a) : Nat) : Int) := by
          rw [← pa]; exact b_out _ E2 a (by omega)
        have q2 : (2 ^ D.k - 1) &&& (255 - 2 ^ a) < 256 := Nat.lt_of_le_of_lt Nat.and_le_left E2
        have hcx := Td.cf_out (D := D) ht.ok (a := a) (by omega)
        rw [sp1_s] at hs
        have w1 : iW ((a : Int) + 1) = (a : Int) + 1 := iW_id (by omega) (by omega)
        rw [ev_57_6]
        simp only [↓e_iload1, ↓e_iconst, ↓e_cmp_lt, ↓e_cmp_le, ↓e_bipush, ↓e_iret, ↓e_aload0, ↓e_cv1, i_0, e_rpn, e_rps, e_few0, e_few1, e_few2, e_few3, e_few4, ↓e_istore2, e_klI, e_klR, e_klX, e_klL, ↓e_iload2, ↓e_cv2, ↓e_if_ne, ↓e_cmp_ne, ↓e_goto, ↓e_istore3, ↓e_iload3, ↓g_0_1, ↓g_3_3, ↓g_7_3, ↓g_11_3, ↓e_cmp_ge, ↓e_ishl, ↓e_ixor, ↓e_iand, ↓e_cs4, ↓e_iinc3, ↓e_iadd, ↓e_istore4, ↓e_iload4, ↓e_iinc4, ↓e_nil, b_57_0, b_57_1, b_57_2, b_57_3, b_57_4, b_57_5, b_57_6, b_57_7, b_57_8, b_57_9, b_57_10, b_57_11, b_57_12, b_57_13, h33 x hx, hno, pa, q1, one0, eq_self, ne_eq, not_true_eq_false, not_false_eq_true, true_implies, false_implies, true_and, and_true, and_self]
        refine q_winnerWith ht hx q2 (fun x4 f2 => ?_)
        rw [hcx]
        simp only [↓e_iload1, ↓e_iconst, ↓e_cmp_lt, ↓e_cmp_le, ↓e_bipush, ↓e_iret, ↓e_aload0, ↓e_cv1, i_0, e_rpn, e_rps, e_few0, e_few1, e_few2, e_few3, e_few4, ↓e_istore2, e_klI, e_klR, e_klX, e_klL, ↓e_iload2, ↓e_cv2, ↓e_if_ne, ↓e_cmp_ne, ↓e_goto, ↓e_istore3, ↓e_iload3, ↓g_0_1, ↓g_3_3, ↓g_7_3, ↓g_11_3, ↓e_cmp_ge, ↓e_ishl, ↓e_ixor, ↓e_iand, ↓e_cs4, ↓e_iinc3, ↓e_iadd, ↓e_istore4, ↓e_iload4, ↓e_iinc4, ↓e_nil, b_57_0, b_57_1, b_57_2, b_57_3, b_57_4, b_57_5, b_57_6, b_57_7, b_57_8, b_57_9, b_57_10, b_57_11, b_57_12, b_57_13, ↓ev_57_7, w1, q_spared, one0, eq_self, ne_eq, not_true_eq_false, not_false_eq_true, true_implies, false_implies, true_and, and_true, and_self]
        refine ⟨fun g => ?_, fun g => ?_⟩
        · have hs2 : sp1 D.W1 k (a + 1) = sp1 D.W1 D.k 0 := by rw [← hs, if_neg (by unfold Td.W1; simp [g])]
          exact ih (a + 1) (by clear w1; omega) hs2 x4 f2 _
        · have e1 : sp1 D.W1 D.k 0 = a := by rw [← hs, if_pos (by unfold Td.W1; exact decide_eq_true (Classical.not_not.mp g))]
          have e : D.spr = (1, (a : Int), -1) := by
            unfold Td.spr
            rw [if_neg z0, e1, if_pos (by clear w1; omega)]
          have hfin := hq x4 f2
          unfold Td.spa at hfin
          rw [e] at hfin
          exact hfin
    rw [ev_57_2]
    simp only [↓e_iload1, ↓e_iconst, ↓e_cmp_lt, ↓e_cmp_le, ↓e_bipush, ↓e_iret, ↓e_aload0, ↓e_cv1, i_0, e_rpn, e_rps, e_few0, e_few1, e_few2, e_few3, e_few4, ↓e_istore2, e_klI, e_klR, e_klX, e_klL, ↓e_iload2, ↓e_cv2, ↓e_if_ne, ↓e_cmp_ne, ↓e_goto, ↓e_istore3, ↓e_iload3, ↓g_0_1, ↓g_3_3, ↓g_7_3, ↓g_11_3, ↓e_cmp_ge, ↓e_ishl, ↓e_ixor, ↓e_iand, ↓e_cs4, ↓e_iinc3, ↓e_iadd, ↓e_istore4, ↓e_iload4, ↓e_iinc4, ↓e_nil, b_57_0, b_57_1, b_57_2, b_57_3, b_57_4, b_57_5, b_57_6, b_57_7, b_57_8, b_57_9, b_57_10, b_57_11, b_57_12, b_57_13, one0, eq_self, ne_eq, not_true_eq_false, not_false_eq_true, true_implies, false_implies, true_and, and_true, and_self]
    refine q_prepare ht hcc (fun x hx => ?_)
    simp only [↓e_iload1, ↓e_iconst, ↓e_cmp_lt, ↓e_cmp_le, ↓e_bipush, ↓e_iret, ↓e_aload0, ↓e_cv1, i_0, e_rpn, e_rps, e_few0, e_few1, e_few2, e_few3, e_few4, ↓e_istore2, e_klI, e_klR, e_klX, e_klL, ↓e_iload2, ↓e_cv2, ↓e_if_ne, ↓e_cmp_ne, ↓e_goto, ↓e_istore3, ↓e_iload3, ↓g_0_1, ↓g_3_3, ↓g_7_3, ↓g_11_3, ↓e_cmp_ge, ↓e_ishl, ↓e_ixor, ↓e_iand, ↓e_cs4, ↓e_iinc3, ↓e_iadd, ↓e_istore4, ↓e_iload4, ↓e_iinc4, ↓e_nil, b_57_0, b_57_1, b_57_2, b_57_3, b_57_4, b_57_5, b_57_6, b_57_7, b_57_8, b_57_9, b_57_10, b_57_11, b_57_12, b_57_13, q_everyEvent, h33 x hx, E1, one0, eq_self, ne_eq, not_true_eq_false, not_false_eq_true, true_implies, false_implies, true_and, and_true, and_self]
    refine q_winnerWith ht hx E2 (fun x4 f2 => ?_)
    rw [← h0]
    simp only [↓e_iload1, ↓e_iconst, ↓e_cmp_lt, ↓e_cmp_le, ↓e_bipush, ↓e_iret, ↓e_aload0, ↓e_cv1, i_0, e_rpn, e_rps, e_few0, e_few1, e_few2, e_few3, e_few4, ↓e_istore2, e_klI, e_klR, e_klX, e_klL, ↓e_iload2, ↓e_cv2, ↓e_if_ne, ↓e_cmp_ne, ↓e_goto, ↓e_istore3, ↓e_iload3, ↓g_0_1, ↓g_3_3, ↓g_7_3, ↓g_11_3, ↓e_cmp_ge, ↓e_ishl, ↓e_ixor, ↓e_iand, ↓e_cs4, ↓e_iinc3, ↓e_iadd, ↓e_istore4, ↓e_iload4, ↓e_iinc4, ↓e_nil, b_57_0, b_57_1, b_57_2, b_57_3, b_57_4, b_57_5, b_57_6, b_57_7, b_57_8, b_57_9, b_57_10, b_57_11, b_57_12, b_57_13, ↓ev_57_3, ↓ev_57_4, ↓ev_57_5, one0, eq_self, ne_eq, not_true_eq_false, not_false_eq_true, true_implies, false_implies, true_and, and_true, and_self]
    refine ⟨fun g => hB g D.k 0 (by omega) rfl x4 f2 _, fun g => ?_⟩
    have e : D.spr = (0, -1, -1) := by unfold Td.spr; rw [if_pos (Classical.not_not.mp g)]
    have hfin := hq x4 f2
    unfold Td.spa at hfin
    rw [e] at hfin
    dsimp only at hfin
    refine ⟨fun g2 => ?_, fun g2 => ?_⟩
    · rw [if_neg g2] at hfin
      have e3 : (if i = 0 then (-1 : Int) else -1) = -1 := by split <;> rfl
      rw [e3] at hfin; exact hfin
    · rw [if_pos (Classical.not_not.mp g2)] at hfin; exact hfin
  · have := h w (c_scr.refl w) hcc; rw [if_neg (by omega)] at this; exact this
end CSpare53
