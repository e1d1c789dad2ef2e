/-! the class: never, was -/
theorem b_every {k : Nat} (hk : k ≤ 8) : iW (i_shl 1 (k : Int) - 1) = ((2 ^ k - 1 : Nat) : Int) ∧ 2 ^ k - 1 < 256 := by
  have h : 2 ^ k ≤ 2 ^ 8 := Nat.pow_le_pow_right (by decide) hk
  have h : 2 ^ k ≤ 256 := h
  have hp := Nat.two_pow_pos k
  rw [b_2pw (by omega)]
  exact ⟨(iW_id (by omega) (by omega)).trans (by omega), by omega⟩
theorem b_every_bit {k j : Nat} (hj : j < k) : (2 ^ k - 1).testBit j = true := by
  rw [Nat.testBit_two_pow_sub_one]; exact decide_eq_true hj
theorem Td.cf_every {D : Td} (h : D.ok) : D.cf (2 ^ D.k - 1) = D.cf 255 := by
  refine Td.cf_ext (fun e he => ?_)
  rw [b_every_bit he, b_255 e (by have := h.2.2.2.1.1; omega)]
theorem Td.cf_out {D : Td} (h : D.ok) {a : Nat} (ha : a < 8) : D.cf ((2 ^ D.k - 1) &&& (255 - 2 ^ a)) = D.cx (2 ^ a) := by
  refine Td.cf_ext (fun e he => ?_)
  have hk := h.2.2.2.1.1
  rw [Nat.testBit_and, b_every_bit he, b_out_bit a ha e (by omega), b_x255 (by omega), Nat.testBit_two_pow]
  by_cases hea : e = a
  · subst hea; simp
  · have : ¬ a = e := fun z => hea z.symm
    simp [hea, this]
section CWas47
variable {Ls d : Nat} {w : ab_W} {q : Option ab_V → ab_W → Prop} {D : Td} {c : Cf}
theorem q_seenC {x : ab_W} (hr : c_rc 21 x c) (hx : c_told x D) {Q' : Option ab_V → ab_W → Prop} (h : Q' (some (vI (bI (c.sb D)))) x) : Sm Ls (d + 4) 22 [vR 21, vR 7] x Q' := by
  refine q_comesOut (Or.inr rfl) hr.2.2.2 (Cf.rok hr.2.2.1) hx.2.2.2.1 hx.ok.2.2.2.2 ⟨fun g => ?_, fun g => ?_⟩
  · rw [Cf.sb_t g] at h; exact h
  · rw [Cf.sb_f g] at h; exact h
/-- the trial run with a set of the told events -/
theorem q_setRun {x : ab_W} {s : Nat} (hs : s < 256) (hx : c_told x D) (hru : c_run 21 x D.T D.so D.pa) (h5 : x 21 5 = D.T) {Q' : Option ab_V → ab_W → Prop}
    (h : ∀ y, (∀ p, p ≠ 21 → p ≠ 24 → y p = x p) → y 21 5 = x 21 5 → c_cond 21 y D.lg (D.cf s).rn (D.cf s).sd → Q' none y) : Sm Ls (d + 2) 9 [vR 21, vI D.lg, vR 3, vI s] x Q' := by
  refine q_setc (Or.inr rfl) (Or.inl rfl) hs hx.2.2.1 hx.ok.2.2.2.1 (fun y y1 y2 y3 => h y y1 (y2 5 (by decide) (by decide)) y3)
theorem q_neverC (ht : c_told w D) (h : ∀ x, c_tr w x → q (some (vI (nb D.nev D.k : Nat))) x) : Sm Ls (d + 5) 65 [vR 0] w q := by
  have hk8 : D.k ≤ 8 := ht.ok.2.2.2.1.1
  obtain ⟨v1, v2⟩ := b_every hk8
  have key : ∀ (k e : Nat), e + k = D.k → ∀ x : ab_W, c_tr w x → c_run 21 x D.T D.so D.pa → x 21 5 = D.T → Ev Ls (Sm Ls (d + 4)) q bk_65 1 [vR 0, vI (nb D.nev e : Nat), vI e] [] x := by
    intro k
    induction k with
    | zero =>
      intro e he x x0 x1 x2
      have : e = D.k := by omega
      subst this
      have hfin := h x x0
      have h3 : x 3 3 = (D.k : Int) := (x0.told ht).2.2.1.1
      rw [ev_65_1]
      simp only [↓e_iconst, ↓e_istore1, e_klI, e_klR, e_klX, e_klL, ↓e_aload0, ↓g_0_5, ↓g_0_4, ↓e_cv2, i_15, i_21, e_rpn, e_rps, e_few0, e_few1, e_few2, e_few3, e_few4, ↓e_istore2, ↓e_iload2, ↓g_0_1, ↓g_3_3, ↓g_7_3, ↓g_11_3, ↓e_cmp_ge, ↓g_0_11, ↓e_cv1, i_0, ↓e_ishl, ↓e_ixor, ↓e_iand, ↓e_cv4, ↓g_0_2, ↓e_if_eq, ↓e_iload1, ↓e_ior, ↓e_iinc2, ↓e_goto, ↓e_iret, ↓e_nil, b_65_0, b_65_1, b_65_2, b_65_3, ↓ev_65_3, h3]
      exact ⟨fun _ => hfin, fun z => absurd (Int.le_refl _) z⟩
    | succ k ih =>
      intro e he x x0 x1 x2
      have hxt := x0.told ht
      have h3 : x 3 3 = (D.k : Int) := hxt.2.2.1.1
      have h11 : x 0 11 = D.lg := hxt.2.1
      have hno : ¬ (D.k : Int) ≤ (e : Int) := by omega
      have p1 := b_2pw (a := e) (by omega)
      have p2 : i_and ((2 ^ D.k - 1 : Nat) : Int) (i_xor (((2 ^ e : Nat)) : Int) (-1)) = (((2 ^ D.k - 1) &&& (255 - 2 ^ e) : Nat) : Int) := by
        rw [← p1]; exact b_out _ v2 e (by omega)
      have p3 : (2 ^ D.k - 1) &&& (255 - 2 ^ e) < 256 := Nat.lt_of_le_of_lt Nat.and_le_left v2
      have hcx := Td.cf_out (D := D) ht.ok (a := e) (by omega)
      have hor := b_or1 (nb_lt (P := D.nev) e) (show e < 12 by omega) (b := D.nev e)
      have w1 : iW ((e : Int) + 1) = (e : Int) + 1 := iW_id (by omega) (by omega)
      rw [ev_65_1]
      simp only [↓e_iconst, ↓e_istore1, e_klI, e_klR, e_klX, e_klL, ↓e_aload0, ↓g_0_5, ↓g_0_4, ↓e_cv2, i_15, i_21, e_rpn, e_rps, e_few0, e_few1, e_few2, e_few3, e_few4, ↓e_istore2, ↓e_iload2, ↓g_0_1, ↓g_3_3, ↓g_7_3, ↓g_11_3, ↓e_cmp_ge, ↓g_0_11, ↓e_cv1, i_0, ↓e_ishl, ↓e_ixor, ↓e_iand, ↓e_cv4, ↓g_0_2, ↓e_if_eq, ↓e_iload1, ↓e_ior, ↓e_iinc2, ↓e_goto, ↓e_iret, ↓e_nil, b_65_0, b_65_1, b_65_2, b_65_3, h3, h11, hno, q_everyEvent, v1, p1, p2, one0, eq_self, ne_eq, not_true_eq_false, not_false_eq_true, true_implies, false_implies, true_and, and_true, and_self]
      refine q_setRun p3 hxt x1 x2 (fun y y1 y2 y3 => ?_)
      rw [hcx] at y3
      have hru : c_run 21 y (D.cx (2 ^ e)).T (D.cx (2 ^ e)).so (D.cx (2 ^ e)).pa := fun t ht' l hl => by
        rw [y1 (21 + 1) (by decide) (by decide), y1 (21 + 2) (by decide) (by decide)]; exact x1 t ht' l hl
      simp only [↓e_iconst, ↓e_istore1, e_klI, e_klR, e_klX, e_klL, ↓e_aload0, ↓g_0_5, ↓g_0_4, ↓e_cv2, i_15, i_21, e_rpn, e_rps, e_few0, e_few1, e_few2, e_few3, e_few4, ↓e_istore2, ↓e_iload2, ↓g_0_1, ↓g_3_3, ↓g_7_3, ↓g_11_3, ↓e_cmp_ge, ↓g_0_11, ↓e_cv1, i_0, ↓e_ishl, ↓e_ixor, ↓e_iand, ↓e_cv4, ↓g_0_2, ↓e_if_eq, ↓e_iload1, ↓e_ior, ↓e_iinc2, ↓e_goto, ↓e_iret, ↓e_nil, b_65_0, b_65_1, b_65_2, b_65_3, one0, eq_self, ne_eq, not_true_eq_false, not_false_eq_true, true_implies, false_implies, true_and, and_true, and_self]
      refine q_runAll (Or.inr rfl) y3 hru (Td.cok ht.ok _) (by rw [y2]; exact x2) (fun z z1 z2 => ?_)
      have ztr : c_tr w z := x0.trans (fun p hp => by rw [z1 p (by clear w1; omega) (by clear w1; omega), y1 p (by clear w1; omega) (by clear w1; omega)])
      have zrun : c_run 21 z D.T D.so D.pa := fun t ht' l hl => by
        rw [z1 (21 + 1) (by decide) (by decide), z1 (21 + 2) (by decide) (by decide)]; exact hru t ht' l hl
      have z5 : z 21 5 = D.T := by rw [z1 21 (by decide) (by decide), y2]; exact x2
      have zcd : c_cond 21 z D.lg (D.cx (2 ^ e)).rn (D.cx (2 ^ e)).sd := by
        unfold c_cond
        rw [z1 21 (by decide) (by decide), z1 (21 + 3) (by decide) (by decide)]
        exact y3
      have zrc : c_rc 21 z (D.cx (2 ^ e)) := ⟨fun _ => zcd, zrun, Td.cok ht.ok _, z2⟩
      have hI := ih (e + 1) (by clear w1; omega) z ztr zrun z5
      rw [nb_s, ← hor] at hI
      simp only [↓e_iconst, ↓e_istore1, e_klI, e_klR, e_klX, e_klL, ↓e_aload0, ↓g_0_5, ↓g_0_4, ↓e_cv2, i_15, i_21, e_rpn, e_rps, e_few0, e_few1, e_few2, e_few3, e_few4, ↓e_istore2, ↓e_iload2, ↓g_0_1, ↓g_3_3, ↓g_7_3, ↓g_11_3, ↓e_cmp_ge, ↓g_0_11, ↓e_cv1, i_0, ↓e_ishl, ↓e_ixor, ↓e_iand, ↓e_cv4, ↓g_0_2, ↓e_if_eq, ↓e_iload1, ↓e_ior, ↓e_iinc2, ↓e_goto, ↓e_iret, ↓e_nil, b_65_0, b_65_1, b_65_2, b_65_3, one0, eq_self, ne_eq, not_true_eq_false, not_false_eq_true, true_implies, false_implies, true_and, and_true, and_self]
      refine q_seenC zrc (ztr.told ht) ?_
      rw [show (D.cx (2 ^ e)).sb D = D.nev e from rfl]
      cases hb : D.nev e
      · rw [hb] at hI hor
        simp only [Bool.false_eq_true, if_false, Nat.or_zero] at hI hor
        rw [hor] at hI
        simp only [↓e_iconst, ↓e_istore1, e_klI, e_klR, e_klX, e_klL, ↓e_aload0, ↓g_0_5, ↓g_0_4, ↓e_cv2, i_15, i_21, e_rpn, e_rps, e_few0, e_few1, e_few2, e_few3, e_few4, ↓e_istore2, ↓e_iload2, ↓g_0_1, ↓g_3_3, ↓g_7_3, ↓g_11_3, ↓e_cmp_ge, ↓g_0_11, ↓e_cv1, i_0, ↓e_ishl, ↓e_ixor, ↓e_iand, ↓e_cv4, ↓g_0_2, ↓e_if_eq, ↓e_iload1, ↓e_ior, ↓e_iinc2, ↓e_goto, ↓e_iret, ↓e_nil, b_65_0, b_65_1, b_65_2, b_65_3, ↓ev_65_2, w1, bI, Bool.false_eq_true, if_false, one0, eq_self, ne_eq, not_true_eq_false, not_false_eq_true, true_implies, false_implies, true_and, and_true, and_self]
        exact hI
      · rw [hb] at hI
        simp only [if_true] at hI
        simp only [↓e_iconst, ↓e_istore1, e_klI, e_klR, e_klX, e_klL, ↓e_aload0, ↓g_0_5, ↓g_0_4, ↓e_cv2, i_15, i_21, e_rpn, e_rps, e_few0, e_few1, e_few2, e_few3, e_few4, ↓e_istore2, ↓e_iload2, ↓g_0_1, ↓g_3_3, ↓g_7_3, ↓g_11_3, ↓e_cmp_ge, ↓g_0_11, ↓e_cv1, i_0, ↓e_ishl, ↓e_ixor, ↓e_iand, ↓e_cv4, ↓g_0_2, ↓e_if_eq, ↓e_iload1, ↓e_ior, ↓e_iinc2, ↓e_goto, ↓e_iret, ↓e_nil, b_65_0, b_65_1, b_65_2, b_65_3, ↓ev_65_2, w1, p1, bI, if_true, one0, eq_self, ne_eq, not_true_eq_false, not_false_eq_true, true_implies, false_implies, true_and, and_true, and_self]
        exact hI
  rw [en_65]
  simp only [↓e_iconst, ↓e_istore1, e_klI, e_klR, e_klX, e_klL, ↓e_aload0, ↓g_0_5, ↓g_0_4, ↓e_cv2, i_15, i_21, e_rpn, e_rps, e_few0, e_few1, e_few2, e_few3, e_few4, ↓e_istore2, ↓e_iload2, ↓g_0_1, ↓g_3_3, ↓g_7_3, ↓g_11_3, ↓e_cmp_ge, ↓g_0_11, ↓e_cv1, i_0, ↓e_ishl, ↓e_ixor, ↓e_iand, ↓e_cv4, ↓g_0_2, ↓e_if_eq, ↓e_iload1, ↓e_ior, ↓e_iinc2, ↓e_goto, ↓e_iret, ↓e_nil, b_65_0, b_65_1, b_65_2, b_65_3, one0, eq_self, ne_eq, not_true_eq_false, not_false_eq_true, true_implies, false_implies, true_and, and_true, and_self]
  refine q_takeRace (fun x x0 => ?_)
  have hr := x0.rc ht.rc
  simp only [↓e_iconst, ↓e_istore1, e_klI, e_klR, e_klX, e_klL, ↓e_aload0, ↓g_0_5, ↓g_0_4, ↓e_cv2, i_15, i_21, e_rpn, e_rps, e_few0, e_few1, e_few2, e_few3, e_few4, ↓e_istore2, ↓e_iload2, ↓g_0_1, ↓g_3_3, ↓g_7_3, ↓g_11_3, ↓e_cmp_ge, ↓g_0_11, ↓e_cv1, i_0, ↓e_ishl, ↓e_ixor, ↓e_iand, ↓e_cv4, ↓g_0_2, ↓e_if_eq, ↓e_iload1, ↓e_ior, ↓e_iinc2, ↓e_goto, ↓e_iret, ↓e_nil, b_65_0, b_65_1, b_65_2, b_65_3]
  exact key D.k 0 (by omega) x x0.tr hr.2.1 hr.2.2.2.1
end CWas47
