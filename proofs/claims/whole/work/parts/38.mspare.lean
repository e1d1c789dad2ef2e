/-! the model's spare -/
theorem ab_up_same {w : ab_W} {p : Nat} {i v : Int} (h : w p i = v) : ab_up w p i v = w := by
  funext r j
  by_cases hp : r = p
  · subst hp
    by_cases hj : j = i
    · subst hj; rw [ab_up_at]; exact h.symm
    · rw [ab_up_nj hj]
  · rw [ab_up_p hp]
theorem ab_up_up {w : ab_W} {p : Nat} {i u v : Int} : ab_up (ab_up w p i u) p i v = ab_up w p i v := by
  funext r j
  by_cases hp : r = p
  · subst hp
    by_cases hj : j = i
    · subst hj; rw [ab_up_at, ab_up_at]
    · rw [ab_up_nj hj, ab_up_nj hj, ab_up_nj hj]
  · rw [ab_up_p hp, ab_up_p hp, ab_up_p hp]
theorem e_rn_ext {ek ew : Nat → Int} {s s' m : Nat} : ∀ n, (∀ e, e < n → s.testBit e = s'.testBit e) → e_rn ek ew s m n = e_rn ek ew s' m n
  | 0, _ => rfl
  | n + 1, h => by rw [e_rn_s, e_rn_s, e_rn_ext n (fun e he => h e (by omega)), h n (by omega)]
theorem e_sd_ext {ek ew en : Nat → Int} {s s' t m : Nat} : ∀ n, (∀ e, e < n → s.testBit e = s'.testBit e) → e_sd ek ew en s t m n = e_sd ek ew en s' t m n
  | 0, _ => rfl
  | n + 1, h => by rw [e_sd_s, e_sd_s, e_sd_ext n (fun e he => h e (by omega)), h n (by omega)]
theorem Td.cf_ext {D : Td} {s s' : Nat} (h : ∀ e, e < D.k → s.testBit e = s'.testBit e) : D.cf s = D.cf s' := by
  unfold Td.cf
  have h1 : D.rn s = D.rn s' := by funext m; exact e_rn_ext D.k h
  have h2 : D.sd s = D.sd s' := by funext t m; exact e_sd_ext D.k h
  rw [h1, h2]
theorem b_255 : ∀ e : Nat, e < 8 → (255 : Nat).testBit e = true := by decide
theorem b_x255 {mk e : Nat} (he : e < 8) : (255 ^^^ mk).testBit e = !mk.testBit e := by
  rw [Nat.testBit_xor, b_255 e he]; cases mk.testBit e <;> rfl
/-- with the events of mk left out -/
noncomputable def Td.cx (D : Td) (mk : Nat) : Cf := D.cf (255 ^^^ mk)
theorem Td.cx_0 {D : Td} : D.cx 0 = D.cf 255 := rfl
/-- as told, but for the mask -/
def m_am (x : ab_W) (D : Td) : Prop := m_as (ab_up x 39 15 0) D
section MSpare38
variable {Ls d : Nat} {w : ab_W} {q : Option ab_V → ab_W → Prop} {D : Td} {c : Cf}
theorem m_as.am {x : ab_W} (h : m_as x D) : m_am x D := by unfold m_am; rw [ab_up_same h.2.2.1]; exact h
theorem m_am.rd {x : ab_W} (h : m_am x D) : m_rd x D := by
  have := m_as.rd h
  refine ⟨?_, fun t ht l hl => ?_⟩
  · have h1 := this.1; rw [ab_up_nj (by omega)] at h1; exact h1
  · have h1 := this.2 t ht l hl; rw [ab_up_p (by omega), ab_up_p (by omega)] at h1; exact h1
theorem m_am.frame {x y : ab_W} (h : m_am x D) (hv : ∀ p, p < 50 → p ≠ 39 → y p = x p) (hv2 : ∀ j, j ≠ 15 → y 39 j = x 39 j) : m_am y D := by
  refine m_as.frame h (fun p hp => ?_)
  funext j
  by_cases hp9 : p = 39
  · subst hp9
    by_cases hj : j = 15
    · subst hj; rw [ab_up_at, ab_up_at]
    · rw [ab_up_nj hj, ab_up_nj hj]; exact hv2 j hj
  · rw [ab_up_p hp9, ab_up_p hp9, hv p hp hp9]
theorem m_am.ready {x : ab_W} (h : m_am x D) (hok : D.ok) {mk : Nat} (hmk : mk < 256) : m_ready (ab_up x 39 15 mk) (D.cx mk) := by
  have h0 : m_as (ab_up x 39 15 0) D := h
  have hcf := h0.cfg (Td.T4 hok)
  obtain ⟨a1, a2, a3, a4⟩ := h0.now
  refine ⟨⟨?_, fun t ht l hl => ?_⟩, Td.cok hok _, D.k, D.ek, D.ew, D.en, 255 ^^^ mk, ⟨?_, ?_, ⟨mk, hmk, ab_up_at, fun e he => b_x255 he⟩, fun e he => ?_⟩, hok.2.2.2.1, fun _ _ => rfl, fun _ _ _ _ => rfl⟩
  · have := hcf.1; rw [ab_up_nj (by omega)] at this ⊢; exact this
  · have := hcf.2 t ht l hl
    rw [ab_up_p (by omega), ab_up_p (by omega), ab_up_p (by omega)] at this ⊢
    exact this
  · rw [ab_up_nj (by omega)] at a1 ⊢; exact a1
  · rw [ab_up_nj (by omega)] at a2 ⊢; exact a2
  · have := a4 e he
    rw [ab_up_p (by omega), ab_up_p (by omega), ab_up_p (by omega)] at this ⊢
    exact this
/-- behind a run with a mask -/
theorem m_am.ran {x y : ab_W} (h : m_am x D) {mk : Int} {c : Cf} (hd : m_done (ab_up x 39 15 mk) y c) : m_am y D := by
  refine h.frame (fun p hp hp9 => by rw [hd.1 p (Or.inl hp), ab_up_ne hp9]) (fun j hj => by rw [hd.1 39 (by omega), ab_up_nj hj])
theorem m_scr.mask {x y : ab_W} {mk : Int} {c : Cf} (hd : m_done (ab_up x 39 15 mk) y c) : m_scr x y :=
  m_scr.trans (b := ab_up x 39 15 mk) ⟨fun p hp => by rw [ab_up_ne (by omega)], fun j _ _ _ j4 => by rw [ab_up_nj j4]⟩ hd.scr
theorem q_isSpared {x : ab_W} (h : m_am x D) (hok : D.ok) {mk : Nat} (hmk : mk < 256) (hq : ∀ x', m_scr x x' → m_am x' D → x' 59 = x 59 → ab_yn ((D.cx mk).won = 0) q x') : Sm Ls (d + 6) 159 [vR 39, vI mk] x q := by
  have hr := h.ready hok hmk
  rw [en_159]
  simp only [↓e_aload0, ↓e_iload1, ↓p_39_15, ↓e_cv1, i_39, e_rpn, e_rps, e_few0, e_few1, e_few2, e_few3, e_few4, ↓e_if_ne, ↓e_iconst, ↓e_goto, ↓e_zret, ↓e_nil, b_159_0, b_159_1, b_159_2, one0, eq_self, ne_eq, not_true_eq_false, not_false_eq_true, true_implies, false_implies, true_and, and_true, and_self]
  refine q_run hr (fun y y0 => ?_)
  simp only [↓e_aload0, ↓e_iload1, ↓p_39_15, ↓e_cv1, i_39, e_rpn, e_rps, e_few0, e_few1, e_few2, e_few3, e_few4, ↓e_if_ne, ↓e_iconst, ↓e_goto, ↓e_zret, ↓e_nil, b_159_0, b_159_1, b_159_2, one0, eq_self, ne_eq, not_true_eq_false, not_false_eq_true, true_implies, false_implies, true_and, and_true, and_self]
  refine q_wonNow (y0.res hr) ?_
  have := hq y (m_scr.mask y0) (h.ran y0) (by rw [y0.1 59 (by omega), ab_up_ne (by omega)])
  simp only [↓e_aload0, ↓e_iload1, ↓p_39_15, ↓e_cv1, i_39, e_rpn, e_rps, e_few0, e_few1, e_few2, e_few3, e_few4, ↓e_if_ne, ↓e_iconst, ↓e_goto, ↓e_zret, ↓e_nil, b_159_0, b_159_1, b_159_2, ↓ev_159_1, ↓ev_159_2, one0, eq_self, ne_eq, not_true_eq_false, not_false_eq_true, true_implies, false_implies, true_and, and_true, and_self]
  exact ⟨fun g => ⟨Or.inl trivial, this.2 g⟩, fun g => ⟨Or.inr trivial, this.1 (Classical.not_not.mp g)⟩⟩
end MSpare38
/-- the first from a on, of k -/
def sp1 (W : Nat → Bool) : Nat → Nat → Int
  | 0, _ => -1
  | k + 1, a => if W a = true then (a : Int) else sp1 W k (a + 1)
theorem sp1_s {W : Nat → Bool} {k a : Nat} : sp1 W (k + 1) a = if W a = true then (a : Int) else sp1 W k (a + 1) := rfl
theorem sp1_in {W : Nat → Bool} : ∀ k a, -1 ≤ sp1 W k a
  | 0, _ => Int.le_refl _
  | k + 1, a => by have := sp1_in (W := W) k (a + 1); rw [sp1_s]; split <;> omega
/-- the first pair from a on, of k; n in all -/
def sp2 (W : Nat → Nat → Bool) (n : Nat) : Nat → Nat → Int × Int
  | 0, _ => (-1, -1)
  | k + 1, a => if sp1 (W a) (n - (a + 1)) (a + 1) = -1 then sp2 W n k (a + 1) else ((a : Int), sp1 (W a) (n - (a + 1)) (a + 1))
theorem sp2_s {W : Nat → Nat → Bool} {n k a : Nat} : sp2 W n (k + 1) a = if sp1 (W a) (n - (a + 1)) (a + 1) = -1 then sp2 W n k (a + 1) else ((a : Int), sp1 (W a) (n - (a + 1)) (a + 1)) := rfl
noncomputable def Td.W1 (D : Td) (a : Nat) : Bool := decide ((D.cx (2 ^ a)).won = 0)
noncomputable def Td.W2 (D : Td) (a b : Nat) : Bool := decide ((D.cx (2 ^ a ||| 2 ^ b)).won = 0)
/-- how many to spare, which -/
noncomputable def Td.spr (D : Td) : Int × Int × Int :=
  if (D.cx 0).won = 0 then (0, -1, -1)
  else if sp1 D.W1 D.k 0 ≠ -1 then (1, sp1 D.W1 D.k 0, -1)
  else if (sp2 D.W2 D.k D.k 0).1 ≠ -1 then (2, (sp2 D.W2 D.k D.k 0).1, (sp2 D.W2 D.k D.k 0).2)
  else (-1, -1, -1)
section MSpare38b
variable {Ls d : Nat} {w : ab_W} {q : Option ab_V → ab_W → Prop} {D : Td} {c : Cf}
theorem b_2pow {a : Nat} (ha : a < 8) : i_shl 1 (a : Int) = ((2 ^ a : Nat) : Int) ∧ 2 ^ a < 256 := by
  have h : 2 ^ a < 2 ^ 8 := Nat.pow_lt_pow_right (by decide) ha
  have h : 2 ^ a < 256 := h
  exact ⟨by rw [show (1 : Int) = ((1 : Nat) : Int) from rfl, b_ishl (by omega) (by omega), Nat.one_mul], h⟩
set_option maxHeartbeats 2000000 in
theorem q_spareBy (ht : m_told w D) (h : ∀ w', m_post D w w' → (0 < D.spr.1 → w' 59 0 = D.spr.2.1) → (1 < D.spr.1 → w' 59 1 = D.spr.2.2) → q (some (vI D.spr.1)) w') : Sm Ls (d + 7) 160 [vR 39] w q := by
  have hk8 := ht.ok.2.2.2.1.1
  have hK : ∀ x, m_scr w x → x 39 6 = (D.k : Int) := fun x hx => (ht.scr hx).2.2.1
  -- pairs
  have hC : ¬ (D.cx 0).won = 0 → sp1 D.W1 D.k 0 = -1 → ∀ (k a : Nat), a + k = D.k → sp2 D.W2 D.k k a = sp2 D.W2 D.k D.k 0 → ∀ x : ab_W, m_scr w x → m_am x D → ∀ y : ab_V, Ev Ls (Sm Ls (d + 6)) q bk_160 5 [vR 39, vI a, y] [] x := by
    intro z0 z1
    have hspr : D.spr = if (sp2 D.W2 D.k D.k 0).1 ≠ -1 then (2, (sp2 D.W2 D.k D.k 0).1, (sp2 D.W2 D.k D.k 0).2) else (-1, -1, -1) := by
      unfold Td.spr; rw [if_neg z0, if_neg (fun z => z z1)]
    intro k
    induction k with
    | zero =>
      intro a ha hs x x0 x1 y
      have : a = D.k := by omega
      subst this
      have e : D.spr = (-1, -1, -1) := by rw [hspr, ← hs]; rfl
      have hfin := h x ⟨x0, x1.rd⟩ (fun z => by rw [e] at z; exact absurd z (by decide)) (fun z => by rw [e] at z; exact absurd z (by decide))
      rw [e] at hfin
      rw [ev_160_5]
      simp only [↓e_aload0, ↓e_cv1, i_39, e_rpn, e_rps, e_few0, e_few1, e_few2, e_few3, e_few4, ↓e_iconst, ↓e_cv2, ↓e_if_eq, ↓e_iret, ↓e_istore1, e_klI, e_klR, e_klX, e_klL, ↓e_iload1, ↓g_39_6, ↓e_cmp_ge, ↓g_39_26, ↓e_ishl, ↓e_iinc1, ↓e_goto, ↓e_iadd, ↓e_istore2, ↓e_iload2, ↓e_ior, ↓e_iinc2, ↓y_59, ↓e_nil, b_160_0, b_160_1, b_160_2, b_160_3, b_160_4, b_160_5, b_160_6, b_160_7, b_160_8, b_160_9, ↓ev_160_9, hK x x0]
      exact ⟨fun _ => hfin, fun z => absurd (Int.le_refl _) z⟩
    | succ k ih =>
      intro a ha hs x x0 x1 y
      have hno : ¬ (D.k : Int) ≤ (a : Int) := by omega
      rw [sp2_s] at hs
      have inner : ∀ (k2 b : Nat), b + k2 = D.k → a + 1 ≤ b → sp1 (D.W2 a) k2 b = sp1 (D.W2 a) (D.k - (a + 1)) (a + 1) → ∀ x : ab_W, m_scr w x → m_am x D → Ev Ls (Sm Ls (d + 6)) q bk_160 6 [vR 39, vI a, vI b] [] x := by
        intro k2
        induction k2 with
        | zero =>
          intro b hb hab hi x x0 x1
          have : b = D.k := by omega
          subst this
          have h9 : sp1 (D.W2 a) (D.k - (a + 1)) (a + 1) = -1 := by rw [← hi]; rfl
          rw [if_pos h9] at hs
          have hnext := fun y => ih (a + 1) (by omega) hs x x0 x1 y
          have w1 : iW ((a : Int) + 1) = (a : Int) + 1 := iW_id (by omega) (by omega)
          rw [ev_160_6]
          simp only [↓e_aload0, ↓e_cv1, i_39, e_rpn, e_rps, e_few0, e_few1, e_few2, e_few3, e_few4, ↓e_iconst, ↓e_cv2, ↓e_if_eq, ↓e_iret, ↓e_istore1, e_klI, e_klR, e_klX, e_klL, ↓e_iload1, ↓g_39_6, ↓e_cmp_ge, ↓g_39_26, ↓e_ishl, ↓e_iinc1, ↓e_goto, ↓e_iadd, ↓e_istore2, ↓e_iload2, ↓e_ior, ↓e_iinc2, ↓y_59, ↓e_nil, b_160_0, b_160_1, b_160_2, b_160_3, b_160_4, b_160_5, b_160_6, b_160_7, b_160_8, b_160_9, ↓ev_160_8, hK x x0, w1]
          exact ⟨fun _ => hnext _, fun z => absurd (Int.le_refl _) z⟩
        | succ k2 ih2 =>
          intro b hb hab hi x x0 x1
          have hno2 : ¬ (D.k : Int) ≤ (b : Int) := by omega
          obtain ⟨p1, p2⟩ := b_2pow (a := a) (by omega)
          obtain ⟨p3, p4⟩ := b_2pow (a := b) (by omega)
          have p5 : i_or ((2 ^ a : Nat) : Int) ((2 ^ b : Nat) : Int) = ((2 ^ a ||| 2 ^ b : Nat) : Int) := b_ior (by omega) (by omega)
          have p6 : 2 ^ a ||| 2 ^ b < 256 := Nat.or_lt_two_pow (n := 8) p2 p4
          rw [sp1_s] at hi
          have x3s : m_scr w (ab_up (ab_up x 59 0 a) 59 1 b) := x0.trans ⟨fun p hp => by rw [ab_up_ne (by omega), ab_up_ne (by omega)], fun j _ _ _ _ => by rw [ab_up_p (by omega), ab_up_p (by omega)]⟩
          have x3a : m_am (ab_up (ab_up x 59 0 a) 59 1 b) D := x1.frame (fun p hp _ => by rw [ab_up_ne (by omega), ab_up_ne (by omega)]) (fun j _ => by rw [ab_up_p (by omega), ab_up_p (by omega)])
          have w1 : iW ((b : Int) + 1) = (b : Int) + 1 := iW_id (by omega) (by omega)
          rw [ev_160_6]
          simp only [↓e_aload0, ↓e_cv1, i_39, e_rpn, e_rps, e_few0, e_few1, e_few2, e_few3, e_few4, ↓e_iconst, ↓e_cv2, ↓e_if_eq, ↓e_iret, ↓e_istore1, e_klI, e_klR, e_klX, e_klL, ↓e_iload1, ↓g_39_6, ↓e_cmp_ge, ↓g_39_26, ↓e_ishl, ↓e_iinc1, ↓e_goto, ↓e_iadd, ↓e_istore2, ↓e_iload2, ↓e_ior, ↓e_iinc2, ↓y_59, ↓e_nil, b_160_0, b_160_1, b_160_2, b_160_3, b_160_4, b_160_5, b_160_6, b_160_7, b_160_8, b_160_9, hK x x0, hno2, p1, p3, p5, one0, eq_self, ne_eq, not_true_eq_false, not_false_eq_true, true_implies, false_implies, true_and, and_true, and_self]
          refine ⟨by decide, by decide, q_isSpared x3a ht.ok p6 (fun x4 f1 f2 f3 => ?_)⟩
          simp only [↓e_aload0, ↓e_cv1, i_39, e_rpn, e_rps, e_few0, e_few1, e_few2, e_few3, e_few4, ↓e_iconst, ↓e_cv2, ↓e_if_eq, ↓e_iret, ↓e_istore1, e_klI, e_klR, e_klX, e_klL, ↓e_iload1, ↓g_39_6, ↓e_cmp_ge, ↓g_39_26, ↓e_ishl, ↓e_iinc1, ↓e_goto, ↓e_iadd, ↓e_istore2, ↓e_iload2, ↓e_ior, ↓e_iinc2, ↓y_59, ↓e_nil, b_160_0, b_160_1, b_160_2, b_160_3, b_160_4, b_160_5, b_160_6, b_160_7, b_160_8, b_160_9, ↓ev_160_7, w1, ab_yn, one0, eq_self, ne_eq, not_true_eq_false, not_false_eq_true, true_implies, false_implies, true_and, and_true, and_self]
          refine ⟨fun g => ?_, fun g => ?_⟩
          · have e1 : sp1 (D.W2 a) (D.k - (a + 1)) (a + 1) = b := by rw [← hi, if_pos (by unfold Td.W2; exact decide_eq_true g)]
            rw [e1, if_neg (by clear w1; omega)] at hs
            have e : D.spr = (2, (a : Int), (b : Int)) := by rw [hspr, ← hs, if_pos (by dsimp only; clear w1; omega)]
            have hfin := h x4 ⟨x3s.trans f1, f2.rd⟩ (fun _ => by rw [e, f3, ab_up_nj (by omega), ab_up_at]) (fun _ => by rw [e, f3, ab_up_at])
            rw [e] at hfin
            exact hfin
          · have hi2 : sp1 (D.W2 a) k2 (b + 1) = sp1 (D.W2 a) (D.k - (a + 1)) (a + 1) := by rw [← hi, if_neg (by unfold Td.W2; simp [g])]
            exact ih2 (b + 1) (by clear w1; omega) (by clear w1; omega) hi2 x4 (x3s.trans f1) f2
      have hin := inner (D.k - (a + 1)) (a + 1) (by omega) (Nat.le_refl _) rfl x x0 x1
      have w1 : iW ((a : Int) + 1) = (a : Int) + 1 := iW_id (by omega) (by omega)
      rw [ev_160_5]
      simp only [↓e_aload0, ↓e_cv1, i_39, e_rpn, e_rps, e_few0, e_few1, e_few2, e_few3, e_few4, ↓e_iconst, ↓e_cv2, ↓e_if_eq, ↓e_iret, ↓e_istore1, e_klI, e_klR, e_klX, e_klL, ↓e_iload1, ↓g_39_6, ↓e_cmp_ge, ↓g_39_26, ↓e_ishl, ↓e_iinc1, ↓e_goto, ↓e_iadd, ↓e_istore2, ↓e_iload2, ↓e_ior, ↓e_iinc2, ↓y_59, ↓e_nil, b_160_0, b_160_1, b_160_2, b_160_3, b_160_4, b_160_5, b_160_6, b_160_7, b_160_8, b_160_9, hK x x0, hno, w1, one0, eq_self, ne_eq, not_true_eq_false, not_false_eq_true, true_implies, false_implies, true_and, and_true, and_self]
      exact hin
  -- one
  have hB : ¬ (D.cx 0).won = 0 → ∀ (k a : Nat), a + k = D.k → sp1 D.W1 k a = sp1 D.W1 D.k 0 → ∀ x : ab_W, m_scr w x → m_am x D → ∀ y : ab_V, Ev Ls (Sm Ls (d + 6)) q bk_160 2 [vR 39, vI a, y] [] x := by
    intro z0 k
    induction k with
    | zero =>
      intro a ha hs x x0 x1 y
      have : a = D.k := by omega
      subst this
      have hnext := fun y => hC z0 hs.symm D.k 0 (by omega) rfl x x0 x1 y
      rw [ev_160_2]
      simp only [↓e_aload0, ↓e_cv1, i_39, e_rpn, e_rps, e_few0, e_few1, e_few2, e_few3, e_few4, ↓e_iconst, ↓e_cv2, ↓e_if_eq, ↓e_iret, ↓e_istore1, e_klI, e_klR, e_klX, e_klL, ↓e_iload1, ↓g_39_6, ↓e_cmp_ge, ↓g_39_26, ↓e_ishl, ↓e_iinc1, ↓e_goto, ↓e_iadd, ↓e_istore2, ↓e_iload2, ↓e_ior, ↓e_iinc2, ↓y_59, ↓e_nil, b_160_0, b_160_1, b_160_2, b_160_3, b_160_4, b_160_5, b_160_6, b_160_7, b_160_8, b_160_9, ↓ev_160_4, hK x x0]
      exact ⟨fun _ => hnext _, fun z => absurd (Int.le_refl _) z⟩
    | succ k ih =>
      intro a ha hs x x0 x1 y
      have hno : ¬ (D.k : Int) ≤ (a : Int) := by omega
      obtain ⟨p1, p2⟩ := b_2pow (a := a) (by omega)
      rw [sp1_s] at hs
      have x3s : m_scr w (ab_up x 59 0 a) := x0.trans ⟨fun p hp => by rw [ab_up_ne (by omega)], fun j _ _ _ _ => by rw [ab_up_p (by omega)]⟩
      have x3a : m_am (ab_up x 59 0 a) D := x1.frame (fun p hp _ => by rw [ab_up_ne (by omega)]) (fun j _ => by rw [ab_up_p (by omega)])
      have w1 : iW ((a : Int) + 1) = (a : Int) + 1 := iW_id (by omega) (by omega)
      rw [ev_160_2]
      simp only [↓e_aload0, ↓e_cv1, i_39, e_rpn, e_rps, e_few0, e_few1, e_few2, e_few3, e_few4, ↓e_iconst, ↓e_cv2, ↓e_if_eq, ↓e_iret, ↓e_istore1, e_klI, e_klR, e_klX, e_klL, ↓e_iload1, ↓g_39_6, ↓e_cmp_ge, ↓g_39_26, ↓e_ishl, ↓e_iinc1, ↓e_goto, ↓e_iadd, ↓e_istore2, ↓e_iload2, ↓e_ior, ↓e_iinc2, ↓y_59, ↓e_nil, b_160_0, b_160_1, b_160_2, b_160_3, b_160_4, b_160_5, b_160_6, b_160_7, b_160_8, b_160_9, hK x x0, hno, p1, one0, eq_self, ne_eq, not_true_eq_false, not_false_eq_true, true_implies, false_implies, true_and, and_true, and_self]
      refine ⟨by decide, q_isSpared x3a ht.ok p2 (fun x4 f1 f2 f3 => ?_)⟩
      simp only [↓e_aload0, ↓e_cv1, i_39, e_rpn, e_rps, e_few0, e_few1, e_few2, e_few3, e_few4, ↓e_iconst, ↓e_cv2, ↓e_if_eq, ↓e_iret, ↓e_istore1, e_klI, e_klR, e_klX, e_klL, ↓e_iload1, ↓g_39_6, ↓e_cmp_ge, ↓g_39_26, ↓e_ishl, ↓e_iinc1, ↓e_goto, ↓e_iadd, ↓e_istore2, ↓e_iload2, ↓e_ior, ↓e_iinc2, ↓y_59, ↓e_nil, b_160_0, b_160_1, b_160_2, b_160_3, b_160_4, b_160_5, b_160_6, b_160_7, b_160_8, b_160_9, ↓ev_160_3, w1, ab_yn, one0, eq_self, ne_eq, not_true_eq_false, not_false_eq_true, true_implies, false_implies, true_and, and_true, and_self]
      refine ⟨fun g => ?_, fun g => ?_⟩
      · have e1 : sp1 D.W1 D.k 0 = a := by rw [← hs, if_pos (by unfold Td.W1; exact decide_eq_true g)]
        have e : D.spr = (1, (a : Int), -1) := by
          unfold Td.spr
          rw [if_neg z0, e1, if_pos (by clear w1; omega)]
        have hfin := h x4 ⟨x3s.trans f1, f2.rd⟩ (fun _ => by rw [e, f3, ab_up_at]) (fun z => by rw [e] at z; exact absurd z (by dsimp only; decide))
        rw [e] at hfin
        exact hfin
      · have hs2 : sp1 D.W1 k (a + 1) = sp1 D.W1 D.k 0 := by rw [← hs, if_neg (by unfold Td.W1; simp [g])]
        exact ih (a + 1) (by clear w1; omega) hs2 x4 (x3s.trans f1) f2 _
  rw [en_160]
  simp only [↓e_aload0, ↓e_cv1, i_39, e_rpn, e_rps, e_few0, e_few1, e_few2, e_few3, e_few4, ↓e_iconst, ↓e_cv2, ↓e_if_eq, ↓e_iret, ↓e_istore1, e_klI, e_klR, e_klX, e_klL, ↓e_iload1, ↓g_39_6, ↓e_cmp_ge, ↓g_39_26, ↓e_ishl, ↓e_iinc1, ↓e_goto, ↓e_iadd, ↓e_istore2, ↓e_iload2, ↓e_ior, ↓e_iinc2, ↓y_59, ↓e_nil, b_160_0, b_160_1, b_160_2, b_160_3, b_160_4, b_160_5, b_160_6, b_160_7, b_160_8, b_160_9, true_and]
  refine q_asTold ht (fun x x0 x1 => ?_)
  simp only [↓e_aload0, ↓e_cv1, i_39, e_rpn, e_rps, e_few0, e_few1, e_few2, e_few3, e_few4, ↓e_iconst, ↓e_cv2, ↓e_if_eq, ↓e_iret, ↓e_istore1, e_klI, e_klR, e_klX, e_klL, ↓e_iload1, ↓g_39_6, ↓e_cmp_ge, ↓g_39_26, ↓e_ishl, ↓e_iinc1, ↓e_goto, ↓e_iadd, ↓e_istore2, ↓e_iload2, ↓e_ior, ↓e_iinc2, ↓y_59, ↓e_nil, b_160_0, b_160_1, b_160_2, b_160_3, b_160_4, b_160_5, b_160_6, b_160_7, b_160_8, b_160_9, one0, eq_self, ne_eq, not_true_eq_false, not_false_eq_true, true_implies, false_implies, true_and, and_true, and_self]
  refine q_isSpared (mk := 0) x1.am ht.ok (by omega) (fun x4 f1 f2 f3 => ?_)
  simp only [↓e_aload0, ↓e_cv1, i_39, e_rpn, e_rps, e_few0, e_few1, e_few2, e_few3, e_few4, ↓e_iconst, ↓e_cv2, ↓e_if_eq, ↓e_iret, ↓e_istore1, e_klI, e_klR, e_klX, e_klL, ↓e_iload1, ↓g_39_6, ↓e_cmp_ge, ↓g_39_26, ↓e_ishl, ↓e_iinc1, ↓e_goto, ↓e_iadd, ↓e_istore2, ↓e_iload2, ↓e_ior, ↓e_iinc2, ↓y_59, ↓e_nil, b_160_0, b_160_1, b_160_2, b_160_3, b_160_4, b_160_5, b_160_6, b_160_7, b_160_8, b_160_9, ↓ev_160_1, ab_yn, one0, eq_self, ne_eq, not_true_eq_false, not_false_eq_true, true_implies, false_implies, true_and, and_true, and_self]
  refine ⟨fun g => ?_, fun g => hB g D.k 0 (by omega) rfl x4 (x0.1.trans f1) f2 _⟩
  have e : D.spr = (0, -1, -1) := by unfold Td.spr; rw [if_pos g]
  have hfin := h x4 ⟨x0.1.trans f1, f2.rd⟩ (fun z => by rw [e] at z; exact absurd z (by decide)) (fun z => by rw [e] at z; exact absurd z (by decide))
  rw [e] at hfin
  exact hfin
noncomputable def Td.spa (D : Td) (i : Int) : Int := if i = -1 then D.spr.1 else if i = 0 then D.spr.2.1 else D.spr.2.2
theorem Td.spr_in (D : Td) : (D.spr.1 ≤ 0 → D.spr.2.1 = -1) ∧ (D.spr.1 ≤ 1 → D.spr.2.2 = -1) := by
  unfold Td.spr
  repeat' split
  all_goals exact ⟨fun h => by first | rfl | exact absurd h (by dsimp only; decide), fun h => by first | rfl | exact absurd h (by dsimp only; decide)⟩
theorem q_ofRow {i : Int} (hi : -1 ≤ i ∧ i ≤ 1) (h0 : 0 < D.spr.1 → w 59 0 = D.spr.2.1) (h1 : 1 < D.spr.1 → w 59 1 = D.spr.2.2) (h : q (some (vI (D.spa i))) w) : Sm Ls (d + 1) 161 [vR 39, vI D.spr.1, vI i] w q := by
  have hs := D.spr_in
  unfold Td.spa at h
  generalize D.spr = s at h0 h1 h hs
  rw [en_161]
  simp only [↓e_iload2, ↓e_iconst, ↓e_cmp_ne, ↓e_iload1, ↓e_goto, ↓e_cmp_ge, ↓e_aload0, ↓g_39_26, ↓e_iret, ↓x_59, ↓e_nil, b_161_0, b_161_1, b_161_2, b_161_3, ↓ev_161_1, ↓ev_161_2, ↓ev_161_3, one0, eq_self, ne_eq, not_true_eq_false, not_false_eq_true, true_implies, false_implies, true_and, and_true, and_self]
  refine ⟨fun g1 => ⟨fun g2 => ?_, fun g2 => ⟨by omega, ?_⟩⟩, fun g1 => ?_⟩
  · rw [if_neg g1] at h
    by_cases i0 : i = 0
    · rw [if_pos i0, hs.1 (by omega)] at h; exact h
    · rw [if_neg i0, hs.2 (by omega)] at h; exact h
  · rw [if_neg g1] at h
    by_cases i0 : i = 0
    · subst i0
      rw [if_pos rfl] at h
      rw [h0 (by omega)]; exact h
    · have i1 : i = 1 := by omega
      subst i1
      rw [if_neg i0] at h
      rw [h1 (by omega)]; exact h
  · rw [if_pos (Classical.not_not.mp g1)] at h; exact h
noncomputable def p_spare (D : Td) (i : Int) : Int := if -1 ≤ i ∧ i ≤ 1 then D.spa i else -2
theorem q_spareM (ht : m_told w D) {i : Int} (h : ∀ w', m_scr w w' → q (some (vI (p_spare D i))) w') : Sm Ls (d + 8) 162 [vR 39, vI i] w q := by
  unfold p_spare at h
  rw [en_162]
  simp only [↓e_iload1, ↓e_iconst, e_rpn, e_rps, e_few0, e_few1, e_few2, e_few3, e_few4, ↓e_cs3, ↓e_if_eq, ↓e_aload0, ↓e_cv1, i_39, ↓e_cv3, ↓e_goto, ↓e_bipush, ↓e_iret, ↓e_nil, b_162_0, b_162_1, b_162_2, ↓ev_162_1, ↓ev_162_2, q_in, ab_yn, one0, eq_self, ne_eq, not_true_eq_false, not_false_eq_true, true_implies, false_implies, true_and, and_true, and_self]
  refine ⟨fun g => ?_, fun g => ?_⟩
  · refine q_spareBy ht (fun w' h1 h2 h3 => ?_)
    have := h w' h1.1
    rw [if_pos g] at this
    simp only [↓e_iload1, ↓e_iconst, e_rpn, e_rps, e_few0, e_few1, e_few2, e_few3, e_few4, ↓e_cs3, ↓e_if_eq, ↓e_aload0, ↓e_cv1, i_39, ↓e_cv3, ↓e_goto, ↓e_bipush, ↓e_iret, ↓e_nil, b_162_0, b_162_1, b_162_2, one0, eq_self, ne_eq, not_true_eq_false, not_false_eq_true, true_implies, false_implies, true_and, and_true, and_self]
    refine q_ofRow g h2 h3 ?_
    simp only [↓e_iload1, ↓e_iconst, e_rpn, e_rps, e_few0, e_few1, e_few2, e_few3, e_few4, ↓e_cs3, ↓e_if_eq, ↓e_aload0, ↓e_cv1, i_39, ↓e_cv3, ↓e_goto, ↓e_bipush, ↓e_iret, ↓e_nil, b_162_0, b_162_1, b_162_2, ↓ev_162_2]
    exact this
  · have := h w (m_scr.refl w); rw [if_neg g] at this; exact this
end MSpare38b
