/-! the model: what was seen, what never was, what was -/
theorem r_rk_lt {F : Nat → Nat → Int} {H : Nat → Int} {t m : Nat} : ∀ n, t < n → r_rk F H t m n < n
  | 0, h => by omega
  | n + 1, h => by
    have h1 := r_rk_in (F := F) (H := H) t m n
    rw [r_rk_s]
    by_cases htn : t = n
    · rw [htn, if_neg (Int.lt_irrefl _)]; rw [htn] at h1; omega
    · have := r_rk_lt (F := F) (H := H) (t := t) (m := m) n (by omega)
      split <;> omega
theorem Cf.R_lt {c : Cf} {t m : Nat} (h : t < c.T) : c.R t m < c.T := r_rk_lt c.T h
/-- c comes out as seen -/
def Cf.seen (c : Cf) (D : Td) : Prop := r_seen c.F c.H c.T D.sn D.sm D.st D.sr
noncomputable def Cf.sb (c : Cf) (D : Td) : Bool := @decide (c.seen D) (Classical.propDecidable _)
theorem Cf.sb_t {c : Cf} {D : Td} (h : c.seen D) : c.sb D = true := @decide_eq_true _ (Classical.propDecidable _) h
theorem Cf.sb_f {c : Cf} {D : Td} (h : ¬ c.seen D) : c.sb D = false := @decide_eq_false _ (Classical.propDecidable _) h
/-- bits below n -/
def nb (P : Nat → Bool) : Nat → Nat
  | 0 => 0
  | n + 1 => nb P n ||| (if P n = true then 2 ^ n else 0)
theorem nb_s {P : Nat → Bool} {n : Nat} : nb P (n + 1) = nb P n ||| (if P n = true then 2 ^ n else 0) := rfl
theorem nb_lt {P : Nat → Bool} : ∀ n, nb P n < 2 ^ n
  | 0 => Nat.zero_lt_one
  | n + 1 => by
    have h := nb_lt (P := P) n
    have h2 : 2 ^ (n + 1) = 2 * 2 ^ n := by rw [Nat.pow_succ, Nat.mul_comm]
    rw [nb_s]
    refine Nat.or_lt_two_pow (by omega) ?_
    split <;> omega
theorem nb_bit {P : Nat → Bool} : ∀ n j, (nb P n).testBit j = (decide (j < n) && P j)
  | 0, j => by simp [nb]
  | n + 1, j => by
    rw [nb_s, Nat.testBit_or, nb_bit n j]
    by_cases hj : j = n
    · subst hj
      cases hP : P j <;> simp [Nat.testBit_two_pow_self]
    · cases hP : P n
      · have : decide (j < n + 1) = decide (j < n) := by by_cases h : j < n <;> simp [h] <;> omega
        simp [this]
      · have : decide (j < n + 1) = decide (j < n) := by by_cases h : j < n <;> simp [h] <;> omega
        simp [this, Nat.testBit_two_pow_of_ne (Ne.symm hj)]
def p_at' (pa : Nat → Int) (l : Nat) (v : Int) : Nat → Int := fun l' => if l' = l then v else pa l'
def Cf.pc (c : Cf) (t l : Nat) (v : Int) : Cf := c.sub t (c.so t) (p_at' (c.pa t) l v)
def Cf.sc (c : Cf) (t l : Nat) (v : Int) : Cf := c.sub t (p_at' (c.so t) l v) (c.pa t)
/-- the ranks behind m as one number, of the first n teams -/
def Cf.rw' (c : Cf) (m : Nat) : Nat → Int
  | 0 => 0
  | n + 1 => 4 * c.rw' m n + c.R n m
theorem Cf.rw_s {c : Cf} {m n : Nat} : c.rw' m (n + 1) = 4 * c.rw' m n + c.R n m := rfl
noncomputable def Td.pb (D : Td) (t l : Nat) (v : Nat) : Bool := decide (1 ≤ v) && ((D.cf 255).pc t l v).sb D
noncomputable def Td.sbb (D : Td) (t l : Nat) (v : Nat) : Bool := ((D.cf 255).sc t l v).sb D
noncomputable def Td.nev (D : Td) (e : Nat) : Bool := (D.cx (2 ^ e)).sb D
section MSeen39
variable {Ls d : Nat} {w : ab_W} {q : Option ab_V → ab_W → Prop} {D : Td} {c : Cf}
theorem q_isSeen {x : ab_W} (hr : m_ready x c) (ht : m_told x D) (h : ∀ y, m_done x y c → q (some (vI (bI (c.sb D)))) y) : Sm Ls (d + 6) 165 [vR 39] x q := by
  rw [en_165]
  simp only [↓e_aload0, ↓e_cv1, i_39, e_rpn, e_rps, e_few0, e_few1, e_few2, e_few3, e_few4, ↓e_iconst, ↓e_istore1, e_klI, e_klR, e_klX, e_klL, ↓e_istore2, ↓e_iload2, ↓g_39_27, ↓e_cmp_ge, ↓e_iload1, ↓e_if_eq, ↓g_39_29, ↓g_39_2, ↓g_39_25, ↓g_39_28, ↓e_imul, ↓e_iadd, ↓g_39_30, ↓e_cmp_ne, ↓e_goto, ↓e_iinc2, ↓e_zret, ↓x_58, ↓x_60, ↓x_61, ↓x_62, ↓e_nil, b_165_0, b_165_1, b_165_2, b_165_3, b_165_4, one0, eq_self, ne_eq, not_true_eq_false, not_false_eq_true, true_implies, false_implies, true_and, and_true, and_self]
  refine q_run hr (fun y y0 => ?_)
  have hty := ht.scr y0.scr
  have hres := y0.res hr
  have hsn : y 39 27 = (D.sn : Int) := hty.2.2.2.2.1
  have hT : y 39 2 = (c.T : Int) := hres.1
  have hT4 := hr.2.1.1
  have hs := hty.2.2.2.2.2.1
  obtain ⟨hn8, hso⟩ := hty.ok.2.2.2.2
  have hfin := h y y0
  have h0 : ¬ c.seen D → ∀ i : Nat, Ev Ls (Sm Ls (d + 5)) q bk_165 1 [vR 39, vI 0, vI i] [] y := fun hn i => by
    rw [Cf.sb_f hn] at hfin
    rw [ev_165_1]
    simp only [↓e_aload0, ↓e_cv1, i_39, e_rpn, e_rps, e_few0, e_few1, e_few2, e_few3, e_few4, ↓e_iconst, ↓e_istore1, e_klI, e_klR, e_klX, e_klL, ↓e_istore2, ↓e_iload2, ↓g_39_27, ↓e_cmp_ge, ↓e_iload1, ↓e_if_eq, ↓g_39_29, ↓g_39_2, ↓g_39_25, ↓g_39_28, ↓e_imul, ↓e_iadd, ↓g_39_30, ↓e_cmp_ne, ↓e_goto, ↓e_iinc2, ↓e_zret, ↓x_58, ↓x_60, ↓x_61, ↓x_62, ↓e_nil, b_165_0, b_165_1, b_165_2, b_165_3, b_165_4, ↓ev_165_4, hsn, one0, eq_self, ne_eq, not_true_eq_false, not_false_eq_true, true_implies, false_implies, true_and, and_true, and_self]
    exact ⟨fun _ => ⟨Or.inl trivial, hfin⟩, fun _ => ⟨Or.inl trivial, hfin⟩⟩
  have key : ∀ (k i : Nat), i + k = D.sn → (∀ j, j < i → D.st j < c.T ∧ r_rk c.F c.H (D.st j).toNat (D.sm j).toNat c.T = D.sr j) → Ev Ls (Sm Ls (d + 5)) q bk_165 1 [vR 39, vI 1, vI i] [] y := by
    intro k
    induction k with
    | zero =>
      intro i hi hall
      have : i = D.sn := by omega
      subst this
      rw [Cf.sb_t hall] at hfin
      rw [ev_165_1]
      simp only [↓e_aload0, ↓e_cv1, i_39, e_rpn, e_rps, e_few0, e_few1, e_few2, e_few3, e_few4, ↓e_iconst, ↓e_istore1, e_klI, e_klR, e_klX, e_klL, ↓e_istore2, ↓e_iload2, ↓g_39_27, ↓e_cmp_ge, ↓e_iload1, ↓e_if_eq, ↓g_39_29, ↓g_39_2, ↓g_39_25, ↓g_39_28, ↓e_imul, ↓e_iadd, ↓g_39_30, ↓e_cmp_ne, ↓e_goto, ↓e_iinc2, ↓e_zret, ↓x_58, ↓x_60, ↓x_61, ↓x_62, ↓e_nil, b_165_0, b_165_1, b_165_2, b_165_3, b_165_4, ↓ev_165_4, hsn, one0, eq_self, ne_eq, not_true_eq_false, not_false_eq_true, true_implies, false_implies, true_and, and_true, and_self]
      exact ⟨fun _ => ⟨Or.inr trivial, hfin⟩, fun z => absurd (Int.le_refl _) z⟩
    | succ k ih =>
      intro i hi hall
      obtain ⟨e1, e2, e3⟩ := hs i (by omega)
      obtain ⟨o1, o2, o3⟩ := hso i (by omega)
      have hno : ¬ (D.sn : Int) ≤ (i : Int) := by omega
      have hin : 0 ≤ (i : Int) ∧ (i : Int) < 8 := by omega
      have hn0 := h0
      have hbad : ¬ (D.st i < c.T ∧ r_rk c.F c.H (D.st i).toNat (D.sm i).toNat c.T = D.sr i) → Ev Ls (Sm Ls (d + 5)) q bk_165 1 [vR 39, vI 0, vI ((i : Int) + 1)] [] y := fun hz => h0 (fun hq => hz (hq i (by omega))) (i + 1)
      have hgood : (D.st i < c.T ∧ r_rk c.F c.H (D.st i).toNat (D.sm i).toNat c.T = D.sr i) → Ev Ls (Sm Ls (d + 5)) q bk_165 1 [vR 39, vI 1, vI ((i : Int) + 1)] [] y := fun hz => ih (i + 1) (by omega) (fun j hj => by
        by_cases hji : j = i
        · rw [hji]; exact hz
        · exact hall j (by omega))
      have hR : D.st i < c.T → y 58 (4 * D.sm i + D.st i) = r_rk c.F c.H (D.st i).toNat (D.sm i).toNat c.T := fun hlt => by
        have := y0.R (t := (D.st i).toNat) (m := (D.sm i).toNat) (by omega) (by omega)
        rw [show ((D.sm i).toNat : Int) = D.sm i by omega, show ((D.st i).toNat : Int) = D.st i by omega] at this
        exact this
      have hin2 : 0 ≤ 4 * D.sm i + D.st i ∧ 4 * D.sm i + D.st i < 192 := by omega
      obtain ⟨w1, w2, w3⟩ : iW ((i : Int) + 1) = (i : Int) + 1 ∧ iW (4 * D.sm i) = 4 * D.sm i ∧ iW (4 * D.sm i + D.st i) = 4 * D.sm i + D.st i := ⟨iW_id (by omega) (by omega), iW_id (by omega) (by omega), iW_id (by omega) (by omega)⟩
      rw [ev_165_1]
      simp only [↓e_aload0, ↓e_cv1, i_39, e_rpn, e_rps, e_few0, e_few1, e_few2, e_few3, e_few4, ↓e_iconst, ↓e_istore1, e_klI, e_klR, e_klX, e_klL, ↓e_istore2, ↓e_iload2, ↓g_39_27, ↓e_cmp_ge, ↓e_iload1, ↓e_if_eq, ↓g_39_29, ↓g_39_2, ↓g_39_25, ↓g_39_28, ↓e_imul, ↓e_iadd, ↓g_39_30, ↓e_cmp_ne, ↓e_goto, ↓e_iinc2, ↓e_zret, ↓x_58, ↓x_60, ↓x_61, ↓x_62, ↓e_nil, b_165_0, b_165_1, b_165_2, b_165_3, b_165_4, ↓ev_165_2, ↓ev_165_3, hsn, hT, hno, hin, hin2, e1, e2, e3, w1, w2, w3, one0, eq_self, ne_eq, not_true_eq_false, not_false_eq_true, true_implies, false_implies, true_and, and_true, and_self]
      clear w1 w2 w3
      refine ⟨fun g => hbad (fun z => by omega), fun g => ?_⟩
      rw [hR (by omega)]
      exact ⟨fun g2 => hbad (fun z => g2 z.2), fun g2 => hgood ⟨by omega, Classical.not_not.mp g2⟩⟩
  simp only [↓e_aload0, ↓e_cv1, i_39, e_rpn, e_rps, e_few0, e_few1, e_few2, e_few3, e_few4, ↓e_iconst, ↓e_istore1, e_klI, e_klR, e_klX, e_klL, ↓e_istore2, ↓e_iload2, ↓g_39_27, ↓e_cmp_ge, ↓e_iload1, ↓e_if_eq, ↓g_39_29, ↓g_39_2, ↓g_39_25, ↓g_39_28, ↓e_imul, ↓e_iadd, ↓g_39_30, ↓e_cmp_ne, ↓e_goto, ↓e_iinc2, ↓e_zret, ↓x_58, ↓x_60, ↓x_61, ↓x_62, ↓e_nil, b_165_0, b_165_1, b_165_2, b_165_3, b_165_4]
  exact key D.sn 0 (by omega) (fun j hj => by omega)
theorem b_or1 {A n : Nat} (hA : A < 2 ^ n) (hn : n < 12) {b : Bool} : i_or (A : Int) (if b = true then ((2 ^ n : Nat) : Int) else 0) = ((A ||| (if b = true then 2 ^ n else 0) : Nat) : Int) := by
  have h : 2 ^ n < 2 ^ 12 := Nat.pow_lt_pow_right (by decide) hn
  cases b
  · have : ((0 : Nat) : Int) = 0 := rfl
    simp only [Bool.false_eq_true, if_false]
    rw [← this, b_ior (by omega) (by omega)]
  · simp only [if_true]
    rw [b_ior (by omega) (by omega)]
theorem b_2pw {a : Nat} (ha : a < 12) : i_shl 1 (a : Int) = ((2 ^ a : Nat) : Int) := by
  have h : 2 ^ a < 2 ^ 12 := Nat.pow_lt_pow_right (by decide) ha
  rw [show (1 : Int) = ((1 : Nat) : Int) from rfl, b_ishl (by omega) (by omega), Nat.one_mul]
theorem q_neverNow (ht : m_told w D) (h : ∀ w', m_post D w w' → q (some (vI (nb D.nev D.k : Nat))) w') : Sm Ls (d + 7) 166 [vR 39] w q := by
  have hk8 := ht.ok.2.2.2.1.1
  have hK : ∀ x, m_scr w x → x 39 6 = (D.k : Int) := fun x hx => (ht.scr hx).2.2.1
  have key : ∀ (k e : Nat), e + k = D.k → ∀ x : ab_W, m_scr w x → m_am x D → Ev Ls (Sm Ls (d + 6)) q bk_166 1 [vR 39, vI (nb D.nev e : Nat), vI e] [] x := by
    intro k
    induction k with
    | zero =>
      intro e he x x0 x1
      have : e = D.k := by omega
      subst this
      have hfin := h x ⟨x0, x1.rd⟩
      rw [ev_166_1]
      simp only [↓e_aload0, ↓e_cv1, i_39, e_rpn, e_rps, e_few0, e_few1, e_few2, e_few3, e_few4, ↓e_iconst, ↓e_istore1, e_klI, e_klR, e_klX, e_klL, ↓e_istore2, ↓e_iload2, ↓g_39_6, ↓e_cmp_ge, ↓e_ishl, ↓p_39_15, ↓e_iload1, ↓e_if_eq, ↓e_goto, ↓e_ior, ↓e_iinc2, ↓e_iret, ↓e_nil, b_166_0, b_166_1, b_166_2, b_166_3, b_166_4, ↓ev_166_4, hK x x0]
      exact ⟨fun _ => hfin, fun z => absurd (Int.le_refl _) z⟩
    | succ k ih =>
      intro e he x x0 x1
      have hno : ¬ (D.k : Int) ≤ (e : Int) := by omega
      obtain ⟨p1, p2⟩ := b_2pow (a := e) (by omega)
      have hr := x1.ready ht.ok p2
      have htx : m_told (ab_up x 39 15 ((2 ^ e : Nat) : Int)) D := (ht.scr x0).scr ⟨fun p hp => by rw [ab_up_ne (by omega)], fun j _ _ _ j4 => by rw [ab_up_nj j4]⟩
      have hor := b_or1 (nb_lt (P := D.nev) e) (show e < 12 by omega) (b := D.nev e)
      have w1 : iW ((e : Int) + 1) = (e : Int) + 1 := iW_id (by omega) (by omega)
      rw [ev_166_1]
      simp only [↓e_aload0, ↓e_cv1, i_39, e_rpn, e_rps, e_few0, e_few1, e_few2, e_few3, e_few4, ↓e_iconst, ↓e_istore1, e_klI, e_klR, e_klX, e_klL, ↓e_istore2, ↓e_iload2, ↓g_39_6, ↓e_cmp_ge, ↓e_ishl, ↓p_39_15, ↓e_iload1, ↓e_if_eq, ↓e_goto, ↓e_ior, ↓e_iinc2, ↓e_iret, ↓e_nil, b_166_0, b_166_1, b_166_2, b_166_3, b_166_4, hK x x0, hno, p1, one0, eq_self, ne_eq, not_true_eq_false, not_false_eq_true, true_implies, false_implies, true_and, and_true, and_self]
      refine q_isSeen hr htx (fun y y0 => ?_)
      have hI := ih (e + 1) (by clear w1; omega) y (x0.trans (m_scr.mask y0)) (x1.ran y0)
      rw [nb_s, ← hor] at hI
      rw [show (D.cx (2 ^ e)).sb D = D.nev e from rfl]
      cases hb : D.nev e
      · rw [hb] at hI
        simp only [↓e_aload0, ↓e_cv1, i_39, e_rpn, e_rps, e_few0, e_few1, e_few2, e_few3, e_few4, ↓e_iconst, ↓e_istore1, e_klI, e_klR, e_klX, e_klL, ↓e_istore2, ↓e_iload2, ↓g_39_6, ↓e_cmp_ge, ↓e_ishl, ↓p_39_15, ↓e_iload1, ↓e_if_eq, ↓e_goto, ↓e_ior, ↓e_iinc2, ↓e_iret, ↓e_nil, b_166_0, b_166_1, b_166_2, b_166_3, b_166_4, ↓ev_166_2, ↓ev_166_3, w1, p1, bI, Bool.false_eq_true, if_false, one0, eq_self, ne_eq, not_true_eq_false, not_false_eq_true, true_implies, false_implies, true_and, and_true, and_self]
        exact hI
      · rw [hb] at hI
        simp only [↓e_aload0, ↓e_cv1, i_39, e_rpn, e_rps, e_few0, e_few1, e_few2, e_few3, e_few4, ↓e_iconst, ↓e_istore1, e_klI, e_klR, e_klX, e_klL, ↓e_istore2, ↓e_iload2, ↓g_39_6, ↓e_cmp_ge, ↓e_ishl, ↓p_39_15, ↓e_iload1, ↓e_if_eq, ↓e_goto, ↓e_ior, ↓e_iinc2, ↓e_iret, ↓e_nil, b_166_0, b_166_1, b_166_2, b_166_3, b_166_4, ↓ev_166_2, ↓ev_166_3, w1, p1, bI, if_true, one0, eq_self, ne_eq, not_true_eq_false, not_false_eq_true, true_implies, false_implies, true_and, and_true, and_self]
        exact hI
  rw [en_166]
  simp only [↓e_aload0, ↓e_cv1, i_39, e_rpn, e_rps, e_few0, e_few1, e_few2, e_few3, e_few4, ↓e_iconst, ↓e_istore1, e_klI, e_klR, e_klX, e_klL, ↓e_istore2, ↓e_iload2, ↓g_39_6, ↓e_cmp_ge, ↓e_ishl, ↓p_39_15, ↓e_iload1, ↓e_if_eq, ↓e_goto, ↓e_ior, ↓e_iinc2, ↓e_iret, ↓e_nil, b_166_0, b_166_1, b_166_2, b_166_3, b_166_4, one0, eq_self, ne_eq, not_true_eq_false, not_false_eq_true, true_implies, false_implies, true_and, and_true, and_self]
  refine q_asTold ht (fun x x0 x1 => ?_)
  simp only [↓e_aload0, ↓e_cv1, i_39, e_rpn, e_rps, e_few0, e_few1, e_few2, e_few3, e_few4, ↓e_iconst, ↓e_istore1, e_klI, e_klR, e_klX, e_klL, ↓e_istore2, ↓e_iload2, ↓g_39_6, ↓e_cmp_ge, ↓e_ishl, ↓p_39_15, ↓e_iload1, ↓e_if_eq, ↓e_goto, ↓e_ior, ↓e_iinc2, ↓e_iret, ↓e_nil, b_166_0, b_166_1, b_166_2, b_166_3, b_166_4]
  exact key D.k 0 (by omega) x x0.1 x1.am
theorem q_neverM (ht : m_told w D) (h : ∀ w', m_scr w w' → q (some (vI (nb D.nev D.k : Nat))) w') : Sm Ls (d + 8) 167 [vR 39] w q := by
  rw [en_167]
  simp only [↓e_aload0, ↓e_cv1, i_39, e_rpn, e_rps, e_few0, e_few1, e_few2, e_few3, e_few4, ↓e_iret, ↓e_nil, b_167_0, one0, eq_self, ne_eq, not_true_eq_false, not_false_eq_true, true_implies, false_implies, true_and, and_true, and_self]
  refine q_neverNow ht (fun w' h1 => ?_)
  simp only [↓e_aload0, ↓e_cv1, i_39, e_rpn, e_rps, e_few0, e_few1, e_few2, e_few3, e_few4, ↓e_iret, ↓e_nil, b_167_0]
  exact h w' h1.1
theorem Cf.R4 {c : Cf} (hT : c.T ≤ 4) {t m : Nat} (h : t < c.T) : 0 ≤ c.R t m ∧ c.R t m ≤ 3 := by
  have h1 := c.R_in t m
  have h2 := Cf.R_lt (m := m) h
  omega
theorem Cf.rw_in {c : Cf} (hT : c.T ≤ 4) {m : Nat} : ∀ n, n ≤ c.T → 0 ≤ c.rw' m n ∧ c.rw' m n < 4 ^ n
  | 0, _ => ⟨Int.le_refl _, (by decide : (0 : Int) < 1)⟩
  | n + 1, hn => by
    have h1 := Cf.rw_in hT (m := m) n (by omega)
    have h2 := Cf.R4 hT (m := m) (show n < c.T by omega)
    rw [Cf.rw_s, Int.pow_succ]
    omega
/-- the paces but one as told -/
theorem m_as.pace2 {x : ab_W} {t l : Nat} (h : m_as (ab_up x 42 (4 * (t : Int) + l) (D.pa t l)) D) (hok : D.ok) (htT : t < D.T) (hl : l < 4) {v : Int} (hv : 1 ≤ v ∧ v ≤ 9) : m_ready (ab_up x 42 (4 * (t : Int) + l) v) ((D.cf 255).pc t l v) := by
  have := h.pace hok htT hl (v := v) (pa' := p_at' (D.pa t) l v) (fun l' hl' => rfl) hv
  rw [ab_up_up] at this
  exact this
theorem m_pb_s {t l v : Nat} (h : 1 ≤ v) : ((D.cf 255).pc t l v).sb D = D.pb t l v := by
  unfold Td.pb; simp [h]
set_option maxHeartbeats 2000000 in
theorem q_pacesBy (ht : m_told w D) {t l : Nat} (htT : t < D.T) (hl : l < 4) (h : ∀ w', m_post D w w' → (∀ v m : Nat, 1 ≤ v → v < 10 → m < 48 → w' 63 (48 * (v : Int) + m) = ((D.cf 255).pc t l v).rw' m D.T) → q (some (vI (nb (D.pb t l) 10 : Nat))) w') : Sm Ls (d + 7) 168 [vR 39, vI (4 * (t : Int) + l)] w q := by
  have hT4 := Td.T4 ht.ok
  have hin : 0 ≤ 4 * (t : Int) + l ∧ 4 * (t : Int) + l < 20 := by omega
  have hsc : ∀ (x : ab_W) (v : Int), m_scr x (ab_up x 42 (4 * (t : Int) + l) v) := fun x v => ⟨fun p hp => by rw [ab_up_ne (by omega)], fun j _ _ _ _ => by rw [ab_up_p (by omega)]⟩
  have key : ∀ (k v : Nat), v + k = 10 → 1 ≤ v → ∀ x : ab_W, m_scr w x → m_as (ab_up x 42 (4 * (t : Int) + l) (D.pa t l)) D → (∀ v' m : Nat, 1 ≤ v' → v' < v → m < 48 → x 63 (48 * (v' : Int) + m) = ((D.cf 255).pc t l v').rw' m D.T) → ∀ y z u : ab_V, Ev Ls (Sm Ls (d + 6)) q bk_168 1 [vR 39, vI (4 * (t : Int) + l), vI (D.pa t l), vI (nb (D.pb t l) v : Nat), vI v, y, z, u] [] x := by
    intro k
    induction k with
    | zero =>
      intro v hv hv1 x x0 x1 x2 y z u
      have : v = 10 := by omega
      subst this
      have hfin := h (ab_up x 42 (4 * (t : Int) + l) (D.pa t l)) ⟨x0.trans (hsc x _), x1.rd⟩ (fun v m h1 h2 h3 => by rw [ab_up_p (by omega)]; exact x2 v m h1 h2 h3)
      rw [ev_168_1]
      simp only [↓e_aload0, ↓e_cv1, i_39, e_rpn, e_rps, e_few0, e_few1, e_few2, e_few3, e_few4, ↓g_39_4, ↓e_iload1, ↓e_istore2, e_klI, e_klR, e_klX, e_klL, ↓e_iconst, ↓e_istore3, ↓e_istore4, ↓e_iload4, ↓e_bipush, ↓e_cmp_ge, ↓e_iload3, ↓e_if_eq, ↓e_ishl, ↓e_goto, ↓e_ior, ↓e_istore5, ↓e_iload5, ↓e_istore6, ↓e_istore7, ↓e_iload7, ↓g_39_2, ↓e_iload6, ↓e_imul, ↓g_39_25, ↓e_iadd, ↓e_iinc7, ↓g_39_31, ↓e_iinc5, ↓e_iinc4, ↓e_iload2, ↓e_iret, ↓x_42, ↓y_42, ↓x_58, ↓y_58, ↓x_63, ↓y_63, ↓e_nil, b_168_0, b_168_1, b_168_2, b_168_3, b_168_4, b_168_5, b_168_6, b_168_7, b_168_8, ↓ev_168_8, hin, one0, eq_self, ne_eq, not_true_eq_false, not_false_eq_true, true_implies, false_implies, true_and, and_true, and_self]
      exact ⟨fun _ => hfin, fun z => absurd (by decide) z⟩
    | succ k ih =>
      intro v hv hv1 x x0 x1 x2 y z u
      have hno : ¬ 10 ≤ (v : Int) := by omega
      have hr := x1.pace2 ht.ok htT hl (v := v) (by omega)
      have htx : m_told (ab_up x 42 (4 * (t : Int) + l) v) D := (ht.scr x0).scr (hsc x _)
      have hor := b_or1 (nb_lt (P := D.pb t l) v) (show v < 12 by omega) (b := D.pb t l v)
      have p1 := b_2pw (a := v) (by omega)
      -- behind the question
      have h3 : ∀ y0 : ab_W, m_done (ab_up x 42 (4 * (t : Int) + l) v) y0 ((D.cf 255).pc t l v) → ∀ y z u : ab_V, Ev Ls (Sm Ls (d + 6)) q bk_168 4 [vR 39, vI (4 * (t : Int) + l), vI (D.pa t l), vI (nb (D.pb t l) (v + 1) : Nat), vI v, vI 0, z, u] [] y0 := fun y0 hd y z u => by
        have hT : y0 39 2 = (D.T : Int) := (hd.res hr).1
        have hR : ∀ m t' : Nat, m < 48 → t' < D.T → y0 58 (4 * (m : Int) + t') = ((D.cf 255).pc t l v).R t' m := fun m t' h1 h2 => hd.R h2 h1
        have hR4 : ∀ m t', t' < D.T → 0 ≤ ((D.cf 255).pc t l v).R t' m ∧ ((D.cf 255).pc t l v).R t' m ≤ 3 := fun m t' h2 => Cf.R4 (c := (D.cf 255).pc t l v) hT4 h2
        have hw4 : ∀ m n, n ≤ D.T → 0 ≤ ((D.cf 255).pc t l v).rw' m n ∧ ((D.cf 255).pc t l v).rw' m n < 4 ^ n := fun m n hn => Cf.rw_in (c := (D.cf 255).pc t l v) hT4 n hn
        have hp4 : ∀ n, n ≤ 4 → (4 : Int) ^ n ≤ 256 := fun n hn => by
          rcases (show n = 0 ∨ n = 1 ∨ n = 2 ∨ n = 3 ∨ n = 4 by omega) with rfl | rfl | rfl | rfl | rfl <;> decide
        have y63 : y0 63 = x 63 := by rw [hd.1 63 (by omega), ab_up_ne (by omega)]
        have ysc : m_scr w y0 := x0.trans ((hsc x v).trans hd.scr)
        have yas : m_as (ab_up y0 42 (4 * (t : Int) + l) (D.pa t l)) D := by
          refine x1.frame (fun p hp => ?_)
          by_cases h42 : p = 42
          · subst h42
            funext j
            by_cases hj : j = 4 * (t : Int) + l
            · subst hj; rw [ab_up_at, ab_up_at]
            · rw [ab_up_nj hj, ab_up_nj hj, hd.1 42 (by omega), ab_up_nj hj]
          · rw [ab_up_ne h42, ab_up_ne h42, hd.1 p (Or.inl hp), ab_up_ne h42]
        generalize hcc : (D.cf 255).pc t l v = cc at hR hR4 hw4
        have mid : ∀ (k2 m : Nat), m + k2 = 48 → ∀ x3 : ab_W, (∀ p, p ≠ 63 → x3 p = y0 p) → (∀ i : Int, i < 48 * (v : Int) → x3 63 i = y0 63 i) → (∀ m' : Nat, m' < m → x3 63 (48 * (v : Int) + m') = cc.rw' m' D.T) → ∀ z u : ab_V, Ev Ls (Sm Ls (d + 6)) q bk_168 4 [vR 39, vI (4 * (t : Int) + l), vI (D.pa t l), vI (nb (D.pb t l) (v + 1) : Nat), vI v, vI m, z, u] [] x3 := by
          intro k2
          induction k2 with
          | zero =>
            intro m hm x3 a1 a2 a3 z u
            have : m = 48 := by omega
            subst this
            have hnext := fun y z u => ih (v + 1) (by omega) (by omega) x3 (ysc.trans ⟨fun p hp => a1 p (by omega), fun j _ _ _ _ => by rw [a1 39 (by omega)]⟩) (yas.frame (fun p hp => by
              by_cases h42 : p = 42
              · subst h42; funext j
                by_cases hj : j = 4 * (t : Int) + l
                · subst hj; rw [ab_up_at, ab_up_at]
                · rw [ab_up_nj hj, ab_up_nj hj, a1 42 (by omega)]
              · rw [ab_up_ne h42, ab_up_ne h42, a1 p (by omega)])) (fun v' m' b1 b2 b3 => by
              by_cases hvv : v' = v
              · subst hvv; rw [hcc]; exact a3 m' b3
              · rw [a2 _ (by omega), y63]; exact x2 v' m' b1 (by omega) b3) y z u
            have w1 : iW ((v : Int) + 1) = (v : Int) + 1 := iW_id (by omega) (by omega)
            rw [ev_168_4]
            simp only [↓e_aload0, ↓e_cv1, i_39, e_rpn, e_rps, e_few0, e_few1, e_few2, e_few3, e_few4, ↓g_39_4, ↓e_iload1, ↓e_istore2, e_klI, e_klR, e_klX, e_klL, ↓e_iconst, ↓e_istore3, ↓e_istore4, ↓e_iload4, ↓e_bipush, ↓e_cmp_ge, ↓e_iload3, ↓e_if_eq, ↓e_ishl, ↓e_goto, ↓e_ior, ↓e_istore5, ↓e_iload5, ↓e_istore6, ↓e_istore7, ↓e_iload7, ↓g_39_2, ↓e_iload6, ↓e_imul, ↓g_39_25, ↓e_iadd, ↓e_iinc7, ↓g_39_31, ↓e_iinc5, ↓e_iinc4, ↓e_iload2, ↓e_iret, ↓x_42, ↓y_42, ↓x_58, ↓y_58, ↓x_63, ↓y_63, ↓e_nil, b_168_0, b_168_1, b_168_2, b_168_3, b_168_4, b_168_5, b_168_6, b_168_7, b_168_8, ↓ev_168_7, w1]
            exact ⟨fun _ => hnext _ _ _, fun z => absurd (by decide) z⟩
          | succ k2 ih2 =>
            intro m hm x3 a1 a2 a3 z u
            have hno2 : ¬ 48 ≤ (m : Int) := by omega
            have hT3 : x3 39 2 = (D.T : Int) := by rw [a1 39 (by omega)]; exact hT
            have inner : ∀ (k3 n : Nat), n + k3 = D.T → Ev Ls (Sm Ls (d + 6)) q bk_168 5 [vR 39, vI (4 * (t : Int) + l), vI (D.pa t l), vI (nb (D.pb t l) (v + 1) : Nat), vI v, vI m, vI (cc.rw' m n), vI n] [] x3 := by
              intro k3
              induction k3 with
              | zero =>
                intro n hn
                have : n = D.T := by omega
                subst this
                have hin3 : 0 ≤ 48 * (v : Int) + m ∧ 48 * (v : Int) + m < 480 := by omega
                have hnext := fun z u => ih2 (m + 1) (by omega) (ab_up x3 63 (48 * (v : Int) + m) (cc.rw' m D.T)) (fun p hp => by rw [ab_up_ne hp]; exact a1 p hp) (fun i hi => by rw [ab_up_nj (by omega)]; exact a2 i hi) (fun m' hm' => by
                  by_cases hmm : m' = m
                  · subst hmm; rw [ab_up_at]
                  · rw [ab_up_nj (by omega)]; exact a3 m' (by omega)) z u
                obtain ⟨w1, w2, w3⟩ : iW ((m : Int) + 1) = (m : Int) + 1 ∧ iW (48 * (v : Int)) = 48 * (v : Int) ∧ iW (48 * (v : Int) + m) = 48 * (v : Int) + m := ⟨iW_id (by omega) (by omega), iW_id (by omega) (by omega), iW_id (by omega) (by omega)⟩
                rw [ev_168_5]
                simp only [↓e_aload0, ↓e_cv1, i_39, e_rpn, e_rps, e_few0, e_few1, e_few2, e_few3, e_few4, ↓g_39_4, ↓e_iload1, ↓e_istore2, e_klI, e_klR, e_klX, e_klL, ↓e_iconst, ↓e_istore3, ↓e_istore4, ↓e_iload4, ↓e_bipush, ↓e_cmp_ge, ↓e_iload3, ↓e_if_eq, ↓e_ishl, ↓e_goto, ↓e_ior, ↓e_istore5, ↓e_iload5, ↓e_istore6, ↓e_istore7, ↓e_iload7, ↓g_39_2, ↓e_iload6, ↓e_imul, ↓g_39_25, ↓e_iadd, ↓e_iinc7, ↓g_39_31, ↓e_iinc5, ↓e_iinc4, ↓e_iload2, ↓e_iret, ↓x_42, ↓y_42, ↓x_58, ↓y_58, ↓x_63, ↓y_63, ↓e_nil, b_168_0, b_168_1, b_168_2, b_168_3, b_168_4, b_168_5, b_168_6, b_168_7, b_168_8, ↓ev_168_6, hT3, w1, w2, w3, hin3, one0, eq_self, ne_eq, not_true_eq_false, not_false_eq_true, true_implies, false_implies, true_and, and_true, and_self]
                exact ⟨fun _ => hnext _ _, fun z => absurd (Int.le_refl _) z⟩
              | succ k3 ih3 =>
                intro n hn
                have hno3 : ¬ (D.T : Int) ≤ (n : Int) := by omega
                have hin3 : 0 ≤ 4 * (m : Int) + n ∧ 4 * (m : Int) + n < 192 := by omega
                have e58 : x3 58 (4 * (m : Int) + n) = cc.R n m := by rw [a1 58 (by omega)]; exact hR m n (by omega) (by omega)
                have b1 := hR4 m n (by omega)
                have b2 := hw4 m n (by omega)
                have b3 := hp4 n (by omega)
                have hnext := ih3 (n + 1) (by omega)
                rw [Cf.rw_s] at hnext
                obtain ⟨w1, w2, w3, w4, w5⟩ : iW ((n : Int) + 1) = (n : Int) + 1 ∧ iW (4 * (m : Int)) = 4 * (m : Int) ∧ iW (4 * (m : Int) + n) = 4 * (m : Int) + n ∧ iW (4 * cc.rw' m n) = 4 * cc.rw' m n ∧ iW (4 * cc.rw' m n + cc.R n m) = 4 * cc.rw' m n + cc.R n m := ⟨iW_id (by omega) (by omega), iW_id (by omega) (by omega), iW_id (by omega) (by omega), iW_id (by omega) (by omega), iW_id (by omega) (by omega)⟩
                rw [ev_168_5]
                simp only [↓e_aload0, ↓e_cv1, i_39, e_rpn, e_rps, e_few0, e_few1, e_few2, e_few3, e_few4, ↓g_39_4, ↓e_iload1, ↓e_istore2, e_klI, e_klR, e_klX, e_klL, ↓e_iconst, ↓e_istore3, ↓e_istore4, ↓e_iload4, ↓e_bipush, ↓e_cmp_ge, ↓e_iload3, ↓e_if_eq, ↓e_ishl, ↓e_goto, ↓e_ior, ↓e_istore5, ↓e_iload5, ↓e_istore6, ↓e_istore7, ↓e_iload7, ↓g_39_2, ↓e_iload6, ↓e_imul, ↓g_39_25, ↓e_iadd, ↓e_iinc7, ↓g_39_31, ↓e_iinc5, ↓e_iinc4, ↓e_iload2, ↓e_iret, ↓x_42, ↓y_42, ↓x_58, ↓y_58, ↓x_63, ↓y_63, ↓e_nil, b_168_0, b_168_1, b_168_2, b_168_3, b_168_4, b_168_5, b_168_6, b_168_7, b_168_8, hT3, hno3, hin3, e58, w1, w2, w3, w4, w5, one0, eq_self, ne_eq, not_true_eq_false, not_false_eq_true, true_implies, false_implies, true_and, and_true, and_self]
                exact hnext
            have hin4 := inner D.T 0 (by omega)
            rw [ev_168_4]
            simp only [↓e_aload0, ↓e_cv1, i_39, e_rpn, e_rps, e_few0, e_few1, e_few2, e_few3, e_few4, ↓g_39_4, ↓e_iload1, ↓e_istore2, e_klI, e_klR, e_klX, e_klL, ↓e_iconst, ↓e_istore3, ↓e_istore4, ↓e_iload4, ↓e_bipush, ↓e_cmp_ge, ↓e_iload3, ↓e_if_eq, ↓e_ishl, ↓e_goto, ↓e_ior, ↓e_istore5, ↓e_iload5, ↓e_istore6, ↓e_istore7, ↓e_iload7, ↓g_39_2, ↓e_iload6, ↓e_imul, ↓g_39_25, ↓e_iadd, ↓e_iinc7, ↓g_39_31, ↓e_iinc5, ↓e_iinc4, ↓e_iload2, ↓e_iret, ↓x_42, ↓y_42, ↓x_58, ↓y_58, ↓x_63, ↓y_63, ↓e_nil, b_168_0, b_168_1, b_168_2, b_168_3, b_168_4, b_168_5, b_168_6, b_168_7, b_168_8, hno2, one0, eq_self, ne_eq, not_true_eq_false, not_false_eq_true, true_implies, false_implies, true_and, and_true, and_self]
            exact hin4
        exact mid 48 0 (by omega) y0 (fun _ _ => rfl) (fun _ _ => rfl) (fun m' hm' => by omega) _ _
      have w1 : True := trivial
      rw [ev_168_1]
      simp only [↓e_aload0, ↓e_cv1, i_39, e_rpn, e_rps, e_few0, e_few1, e_few2, e_few3, e_few4, ↓g_39_4, ↓e_iload1, ↓e_istore2, e_klI, e_klR, e_klX, e_klL, ↓e_iconst, ↓e_istore3, ↓e_istore4, ↓e_iload4, ↓e_bipush, ↓e_cmp_ge, ↓e_iload3, ↓e_if_eq, ↓e_ishl, ↓e_goto, ↓e_ior, ↓e_istore5, ↓e_iload5, ↓e_istore6, ↓e_istore7, ↓e_iload7, ↓g_39_2, ↓e_iload6, ↓e_imul, ↓g_39_25, ↓e_iadd, ↓e_iinc7, ↓g_39_31, ↓e_iinc5, ↓e_iinc4, ↓e_iload2, ↓e_iret, ↓x_42, ↓y_42, ↓x_58, ↓y_58, ↓x_63, ↓y_63, ↓e_nil, b_168_0, b_168_1, b_168_2, b_168_3, b_168_4, b_168_5, b_168_6, b_168_7, b_168_8, hno, hin, one0, eq_self, ne_eq, not_true_eq_false, not_false_eq_true, true_implies, false_implies, true_and, and_true, and_self]
      refine q_isSeen hr htx (fun y0 hd => ?_)
      have hI := fun y z u => h3 y0 hd y z u
      rw [nb_s, ← hor] at hI
      rw [m_pb_s hv1]
      cases hb : D.pb t l v
      · rw [hb] at hI
        simp only [↓e_aload0, ↓e_cv1, i_39, e_rpn, e_rps, e_few0, e_few1, e_few2, e_few3, e_few4, ↓g_39_4, ↓e_iload1, ↓e_istore2, e_klI, e_klR, e_klX, e_klL, ↓e_iconst, ↓e_istore3, ↓e_istore4, ↓e_iload4, ↓e_bipush, ↓e_cmp_ge, ↓e_iload3, ↓e_if_eq, ↓e_ishl, ↓e_goto, ↓e_ior, ↓e_istore5, ↓e_iload5, ↓e_istore6, ↓e_istore7, ↓e_iload7, ↓g_39_2, ↓e_iload6, ↓e_imul, ↓g_39_25, ↓e_iadd, ↓e_iinc7, ↓g_39_31, ↓e_iinc5, ↓e_iinc4, ↓e_iload2, ↓e_iret, ↓x_42, ↓y_42, ↓x_58, ↓y_58, ↓x_63, ↓y_63, ↓e_nil, b_168_0, b_168_1, b_168_2, b_168_3, b_168_4, b_168_5, b_168_6, b_168_7, b_168_8, ↓ev_168_2, ↓ev_168_3, p1, bI, Bool.false_eq_true, if_false, one0, eq_self, ne_eq, not_true_eq_false, not_false_eq_true, true_implies, false_implies, true_and, and_true, and_self]
        exact hI y _ _
      · rw [hb] at hI
        simp only [↓e_aload0, ↓e_cv1, i_39, e_rpn, e_rps, e_few0, e_few1, e_few2, e_few3, e_few4, ↓g_39_4, ↓e_iload1, ↓e_istore2, e_klI, e_klR, e_klX, e_klL, ↓e_iconst, ↓e_istore3, ↓e_istore4, ↓e_iload4, ↓e_bipush, ↓e_cmp_ge, ↓e_iload3, ↓e_if_eq, ↓e_ishl, ↓e_goto, ↓e_ior, ↓e_istore5, ↓e_iload5, ↓e_istore6, ↓e_istore7, ↓e_iload7, ↓g_39_2, ↓e_iload6, ↓e_imul, ↓g_39_25, ↓e_iadd, ↓e_iinc7, ↓g_39_31, ↓e_iinc5, ↓e_iinc4, ↓e_iload2, ↓e_iret, ↓x_42, ↓y_42, ↓x_58, ↓y_58, ↓x_63, ↓y_63, ↓e_nil, b_168_0, b_168_1, b_168_2, b_168_3, b_168_4, b_168_5, b_168_6, b_168_7, b_168_8, ↓ev_168_2, ↓ev_168_3, p1, bI, if_true, one0, eq_self, ne_eq, not_true_eq_false, not_false_eq_true, true_implies, false_implies, true_and, and_true, and_self]
        exact hI y _ _
  rw [en_168]
  simp only [↓e_aload0, ↓e_cv1, i_39, e_rpn, e_rps, e_few0, e_few1, e_few2, e_few3, e_few4, ↓g_39_4, ↓e_iload1, ↓e_istore2, e_klI, e_klR, e_klX, e_klL, ↓e_iconst, ↓e_istore3, ↓e_istore4, ↓e_iload4, ↓e_bipush, ↓e_cmp_ge, ↓e_iload3, ↓e_if_eq, ↓e_ishl, ↓e_goto, ↓e_ior, ↓e_istore5, ↓e_iload5, ↓e_istore6, ↓e_istore7, ↓e_iload7, ↓g_39_2, ↓e_iload6, ↓e_imul, ↓g_39_25, ↓e_iadd, ↓e_iinc7, ↓g_39_31, ↓e_iinc5, ↓e_iinc4, ↓e_iload2, ↓e_iret, ↓x_42, ↓y_42, ↓x_58, ↓y_58, ↓x_63, ↓y_63, ↓e_nil, b_168_0, b_168_1, b_168_2, b_168_3, b_168_4, b_168_5, b_168_6, b_168_7, b_168_8, one0, eq_self, ne_eq, not_true_eq_false, not_false_eq_true, true_implies, false_implies, true_and, and_true, and_self]
  refine q_asTold ht (fun x x0 x1 => ?_)
  have e42 : x 42 (4 * (t : Int) + l) = D.pa t l := (x1.rd.2 t htT l hl).2
  have hnb : nb (D.pb t l) 1 = 0 := by rw [nb_s]; simp [nb, Td.pb]
  have hk := key 9 1 (by omega) (by omega) x x0.1 (by rw [ab_up_same e42]; exact x1) (fun v' m h1 h2 => by omega)
  rw [hnb] at hk
  simp only [↓e_aload0, ↓e_cv1, i_39, e_rpn, e_rps, e_few0, e_few1, e_few2, e_few3, e_few4, ↓g_39_4, ↓e_iload1, ↓e_istore2, e_klI, e_klR, e_klX, e_klL, ↓e_iconst, ↓e_istore3, ↓e_istore4, ↓e_iload4, ↓e_bipush, ↓e_cmp_ge, ↓e_iload3, ↓e_if_eq, ↓e_ishl, ↓e_goto, ↓e_ior, ↓e_istore5, ↓e_iload5, ↓e_istore6, ↓e_istore7, ↓e_iload7, ↓g_39_2, ↓e_iload6, ↓e_imul, ↓g_39_25, ↓e_iadd, ↓e_iinc7, ↓g_39_31, ↓e_iinc5, ↓e_iinc4, ↓e_iload2, ↓e_iret, ↓x_42, ↓y_42, ↓x_58, ↓y_58, ↓x_63, ↓y_63, ↓e_nil, b_168_0, b_168_1, b_168_2, b_168_3, b_168_4, b_168_5, b_168_6, b_168_7, b_168_8, hin, e42, one0, eq_self, ne_eq, not_true_eq_false, not_false_eq_true, true_implies, false_implies, true_and, and_true, and_self]
  exact hk _ _ _
end MSeen39
