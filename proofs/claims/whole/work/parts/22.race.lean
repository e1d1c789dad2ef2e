/-! the class's race: conditions -/
theorem ab_e {q : Option ab_V → ab_W → Prop} {w : ab_W} {v v' : Int} (h : q (some (vI v)) w) (e : v = v') : q (some (vI v')) w := e ▸ h
/-- rain by the first n events, of those in the set s -/
def e_rn (ek ew : Nat → Int) (s : Nat) (m : Nat) : Nat → Bool
  | 0 => false
  | n + 1 => e_rn ek ew s m n || (s.testBit n && decide (ek n = 0 ∧ ew n ≤ m))
/-- team t stands in moment m -/
def e_sd (ek ew en : Nat → Int) (s : Nat) (t m : Nat) : Nat → Bool
  | 0 => false
  | n + 1 => e_sd ek ew en s t m n || (s.testBit n && decide (en n = t ∧ ((ek n = 1 ∧ ew n = m) ∨ (ek n = 2 ∧ ew n ≤ m ∧ m ≤ ew n + 2))))
def e_ok (n : Nat) (ek ew en : Nat → Int) : Prop := n ≤ 8 ∧ ∀ e, e < n → (0 ≤ ek e ∧ ek e ≤ 2) ∧ (0 ≤ ew e ∧ ew e ≤ 47) ∧ (0 ≤ en e ∧ en e ≤ 3)
/-- a Triples object at p holds them -/
def c_ev (p : Nat) (w : ab_W) (n : Nat) (ek ew en : Nat → Int) : Prop := w p 3 = n ∧ ∀ e, e < n → w (p + 1) e = ek e ∧ w (p + 2) e = ew e ∧ w (p + 3) e = en e
/-- a Race object at P has this length, rain and stops -/
def c_cond (P : Nat) (w : ab_W) (lg : Int) (rn : Nat → Bool) (sd : Nat → Nat → Bool) : Prop :=
  w P 6 = lg ∧ (0 ≤ w P 7 ∧ w P 7 ≤ 48) ∧ (∀ m : Nat, m < 48 → decide (w P 7 ≤ (m : Int)) = rn m) ∧ ∀ t : Nat, t < 4 → ∃ N : Nat, N < 2 ^ 50 ∧ w (P + 3) (t : Int) = N ∧ ∀ m : Nat, m < 48 → N.testBit m = sd t m
section Race22
variable {Ls d : Nat} {w : ab_W} {q : Option ab_V → ab_W → Prop}
theorem q_stride {P : Nat} (hP : P = 15 ∨ P = 21) {a b c : Int} (ha : 0 ≤ a ∧ a < 16) (hp : 1 ≤ w (P + 2) a ∧ w (P + 2) a ≤ 9) (h : q (some (vI (t_str (w (P + 1) a) (w (P + 2) a) b (decide (w P 7 ≤ c))))) w) : Sm Ls (d + 2) 13 [vR P, vI a, vI b, vI c] w q := by
  rcases hP with rfl | rfl
  all_goals
    rw [en_13]
    simp only [↓e_aload0, ↓g_15_1, ↓g_21_1, ↓e_iload1, ↓e_istore4, e_klI, e_klR, e_klX, e_klL, ↓g_15_0, ↓g_21_0, ↓e_if_ne, ↓e_iload4, ↓e_iload2, ↓e_iconst, ↓e_cmp_ge, ↓e_goto, ↓e_iadd, ↓e_bipush, ↓e_cmp_lt, ↓e_isub, ↓e_cmp_ne, ↓e_iinc4, ↓e_iload3, ↓g_15_7, ↓g_21_7, e_rpn, e_rps, e_few0, e_few1, e_few2, e_few3, e_few4, ↓e_mmax, ↓e_999, ↓e_iret, ↓x_16, ↓x_17, ↓x_22, ↓x_23, ↓e_nil, b_13_0, b_13_1, b_13_2, b_13_3, b_13_4, b_13_5, b_13_6, b_13_7, ↓ev_13_1, ↓ev_13_2, ↓ev_13_3, ↓ev_13_4, ↓ev_13_5, ↓ev_13_6, ↓ev_13_7, true_and, ha, and_self]
    dsimp only [Nat.reduceAdd] at hp h
    simp (disch := omega) only [iW_id]
    repeat' (first | apply And.intro | intro _)
    all_goals
      refine ab_e h ?_
      unfold t_str i_max
      simp only [decide_eq_true_eq]
      repeat' split
      all_goals omega
/-- what an event does to a race -/
def c_bf (P : Nat) (w : ab_W) (a b c : Int) : ab_W := if a = 0 then ab_up w P 7 (if w P 7 ≤ b then w P 7 else b) else ab_up w (P + 3) c (l_or (w (P + 3) c) (l_shl (if a = 1 then 1 else 7) b))
theorem q_befall {P : Nat} (hP : P = 15 ∨ P = 21) {a b c : Int} (hc : 0 ≤ c ∧ c < 4) (h : q none (c_bf P w a b c)) : Sm Ls (d + 1) 10 [vR P, vI a, vI b, vI c] w q := by
  rcases hP with rfl | rfl
  all_goals
    rw [en_10]
    simp only [↓e_iload1, ↓e_if_ne, ↓e_aload0, ↓e_iload2, ↓g_15_7, ↓g_21_7, ↓e_cmp_ge, ↓e_goto, ↓p_15_7, ↓p_21_7, ↓e_iconst, ↓e_cmp_ne, ↓g_15_2, ↓g_21_2, ↓e_iload3, ↓e_dup2, ↓e_lconst1, ↓e_lshl, ↓e_lor, ↓e_ldc2_w, ↓e_vret, ↓x_18, ↓y_18, ↓x_24, ↓y_24, ↓e_nil, b_10_0, b_10_1, b_10_2, b_10_3, b_10_4, b_10_5, ↓ev_10_1, ↓ev_10_2, ↓ev_10_3, ↓ev_10_4, ↓ev_10_5, true_and, hc, and_self]
    unfold c_bf at h
    dsimp only [Nat.reduceAdd] at h
    refine ⟨fun h1 => ⟨fun h2 => ?_, fun h2 => ?_⟩, fun h1 => ⟨fun h2 => ?_, fun h2 => ?_⟩⟩
    · rw [if_neg h1, if_neg h2] at h; exact h
    · rw [if_neg h1, if_pos (by omega)] at h; exact h
    · rw [if_pos (by omega), if_pos h2] at h; exact h
    · rw [if_pos (by omega), if_neg h2] at h; exact h
/-- an event more -/
theorem c_bf_cond {P : Nat} {v : ab_W} {lg : Int} {n s : Nat} {ek ew en : Nat → Int} (h : c_cond P v lg (fun m => e_rn ek ew s m n) (fun t m => e_sd ek ew en s t m n)) (hs : s.testBit n = true) (h1 : 0 ≤ ek n ∧ ek n ≤ 2) (h2 : 0 ≤ ew n ∧ ew n ≤ 47) (h3 : 0 ≤ en n ∧ en n ≤ 3) :
    c_cond P (c_bf P v (ek n) (ew n) (en n)) lg (fun m => e_rn ek ew s m (n + 1)) (fun t m => e_sd ek ew en s t m (n + 1)) := by
  obtain ⟨g1, g2, g3, g4⟩ := h
  unfold c_bf
  by_cases hk : ek n = 0
  · rw [if_pos hk]
    refine ⟨?_, ?_, fun m hm => ?_, fun t ht => ?_⟩
    · rw [ab_up_nj (by omega)]; exact g1
    · rw [ab_up_at]; split <;> omega
    · rw [ab_up_at]
      show _ = (e_rn ek ew s m n || (s.testBit n && decide (ek n = 0 ∧ ew n ≤ m)))
      have g3' : decide (v P 7 ≤ (m : Int)) = e_rn ek ew s m n := g3 m hm
      rw [← g3', hs]
      by_cases hr : v P 7 ≤ ew n
      · rw [if_pos hr]
        by_cases hm2 : v P 7 ≤ (m : Int)
        · simp [hm2]
        · have : ¬ ew n ≤ (m : Int) := by omega
          simp [hm2, this]
      · rw [if_neg hr]
        by_cases hm2 : v P 7 ≤ (m : Int)
        · have : ew n ≤ (m : Int) := by omega
          simp [hm2, this]
        · simp [hm2, hk]
    · obtain ⟨N, n1, n2, n3⟩ := g4 t ht
      refine ⟨N, n1, by rw [ab_up_p (by omega)]; exact n2, fun m hm => ?_⟩
      rw [n3 m hm]
      show _ = (e_sd ek ew en s t m n || (s.testBit n && decide (en n = t ∧ ((ek n = 1 ∧ ew n = m) ∨ (ek n = 2 ∧ ew n ≤ m ∧ m ≤ ew n + 2)))))
      have : ¬ (en n = t ∧ ((ek n = 1 ∧ ew n = m) ∨ (ek n = 2 ∧ ew n ≤ m ∧ m ≤ ew n + 2))) := by omega
      simp [this]
  · rw [if_neg hk]
    refine ⟨?_, ?_, fun m hm => ?_, fun t ht => ?_⟩
    · rw [ab_up_p (by omega)]; exact g1
    · rw [ab_up_p (by omega)]; exact g2
    · rw [ab_up_p (by omega)]
      show _ = (e_rn ek ew s m n || (s.testBit n && decide (ek n = 0 ∧ ew n ≤ m)))
      have g3' : decide (v P 7 ≤ (m : Int)) = e_rn ek ew s m n := g3 m hm
      rw [← g3']
      simp [hk]
    · obtain ⟨N, n1, n2, n3⟩ := g4 t ht
      by_cases htn : en n = (t : Int)
      · rw [htn, ab_up_at]
        obtain ⟨b, hb⟩ : ∃ b : Nat, ew n = (b : Int) := ⟨(ew n).toNat, by omega⟩
        have hb48 : b < 48 := by omega
        have hpw : 2 ^ b ≤ 2 ^ 47 := Nat.pow_le_pow_right (by decide) (by omega)
        obtain ⟨M, hM1, hM2, hM3⟩ : ∃ M : Nat, l_shl (if ek n = 1 then 1 else 7) (ew n) = (M : Int) ∧ M < 2 ^ 50 ∧ ∀ j, M.testBit j = decide ((ek n = 1 ∧ ew n = (j : Int)) ∨ (ek n = 2 ∧ ew n ≤ (j : Int) ∧ (j : Int) ≤ ew n + 2)) := by
          rw [hb]
          by_cases h11 : ek n = 1
          · refine ⟨1 * 2 ^ b, ?_, by omega, fun j => ?_⟩
            · rw [if_pos h11]; exact b_lshl (a := 1) (by omega) (by omega)
            · rw [b_1s]
              congr 1
              rw [eq_iff_iff]
              omega
          · refine ⟨7 * 2 ^ b, ?_, by omega, fun j => ?_⟩
            · rw [if_neg h11]; exact b_lshl (a := 7) (by omega) (by omega)
            · rw [b_7s]
              congr 1
              rw [eq_iff_iff]
              omega
        refine ⟨N ||| M, Nat.or_lt_two_pow n1 hM2, ?_, fun m hm => ?_⟩
        · rw [n2, hM1, b_lor (by omega) (by omega)]
        · rw [Nat.testBit_or, n3 m hm, hM3]
          show _ = (e_sd ek ew en s t m n || (s.testBit n && decide (en n = t ∧ ((ek n = 1 ∧ ew n = m) ∨ (ek n = 2 ∧ ew n ≤ m ∧ m ≤ ew n + 2)))))
          rw [hs]
          simp [htn]
      · rw [ab_up_nj (by omega)]
        refine ⟨N, n1, n2, fun m hm => ?_⟩
        rw [n3 m hm]
        show _ = (e_sd ek ew en s t m n || (s.testBit n && decide (en n = t ∧ ((ek n = 1 ∧ ew n = m) ∨ (ek n = 2 ∧ ew n ≤ m ∧ m ≤ ew n + 2)))))
        simp [htn]
theorem c_skip_cond {P : Nat} {v : ab_W} {lg : Int} {n s : Nat} {ek ew en : Nat → Int} (h : c_cond P v lg (fun m => e_rn ek ew s m n) (fun t m => e_sd ek ew en s t m n)) (hs : s.testBit n = false) :
    c_cond P v lg (fun m => e_rn ek ew s m (n + 1)) (fun t m => e_sd ek ew en s t m (n + 1)) := by
  obtain ⟨g1, g2, g3, g4⟩ := h
  refine ⟨g1, g2, fun m hm => ?_, fun t ht => ?_⟩
  · have g3' : decide (v P 7 ≤ (m : Int)) = e_rn ek ew s m n := g3 m hm
    show _ = (e_rn ek ew s m n || (s.testBit n && decide (ek n = 0 ∧ ew n ≤ m)))
    rw [g3', hs]; simp
  · obtain ⟨N, n1, n2, n3⟩ := g4 t ht
    refine ⟨N, n1, n2, fun m hm => ?_⟩
    rw [n3 m hm]
    show _ = (e_sd ek ew en s t m n || (s.testBit n && decide (en n = t ∧ ((ek n = 1 ∧ ew n = m) ∨ (ek n = 2 ∧ ew n ≤ m ∧ m ≤ ew n + 2)))))
    rw [hs]; simp
theorem q_setc {P p0 : Nat} (hP : P = 15 ∨ P = 21) (h0 : p0 = 3 ∨ p0 = 11) {lg : Int} {s n : Nat} {ek ew en : Nat → Int} (hs : s < 256) (hE : c_ev p0 w n ek ew en) (hok : e_ok n ek ew en)
    (h : ∀ w' : ab_W, (∀ p, p ≠ P → p ≠ P + 3 → w' p = w p) → (∀ j, j ≠ 6 → j ≠ 7 → w' P j = w P j) → c_cond P w' lg (fun m => e_rn ek ew s m n) (fun t m => e_sd ek ew en s t m n) → q none w') : Sm Ls (d + 2) 9 [vR P, vI lg, vR p0, vI s] w q := by
  have key : ∀ (k e : Nat), e + k = n → ∀ v : ab_W, (∀ p, p ≠ P → p ≠ P + 3 → v p = w p) → (∀ j, j ≠ 6 → j ≠ 7 → v P j = w P j) → c_cond P v lg (fun m => e_rn ek ew s m e) (fun t m => e_sd ek ew en s t m e) → Ev Ls (Sm Ls (d + 1)) q bk_9 1 [vR P, vI lg, vR p0, vI s, vI (e : Int)] [] v := by
    intro k
    induction k with
    | zero =>
      intro e he v v1 v2 v3
      have : e = n := by omega
      subst this
      have hz : v p0 3 = (e : Int) := by rw [v1 p0 (by omega) (by omega)]; exact hE.1
      have hfin := h v v1 v2 v3
      rw [ev_9_1]
      rcases h0 with rfl | rfl
      all_goals
        simp only [↓e_aload0, ↓e_iload1, ↓p_15_6, ↓p_21_6, ↓e_bipush, ↓p_15_7, ↓p_21_7, ↓g_15_2, ↓g_21_2, ↓e_lconst0, e_rpn, e_rps, e_few0, e_few1, e_few2, e_few3, e_few4, ↓e_cs2, ↓e_iconst, ↓e_istore4, e_klI, e_klR, e_klX, e_klL, ↓e_iload4, ↓e_aload2, ↓g_3_3, ↓g_7_3, ↓g_11_3, ↓e_cmp_ge, ↓e_iload3, ↓e_ishr, ↓e_iand, ↓e_if_eq, ↓g_3_0, ↓g_7_0, ↓g_11_0, ↓g_3_1, ↓g_7_1, ↓g_11_1, ↓g_3_2, ↓g_7_2, ↓g_11_2, ↓e_cv4, i_15, i_21, ↓e_iinc4, ↓e_goto, ↓e_vret, ↓x_4, ↓x_5, ↓x_6, ↓x_8, ↓x_9, ↓x_10, ↓x_12, ↓x_13, ↓x_14, ↓e_nil, b_9_0, b_9_1, b_9_2, b_9_3, ↓ev_9_3]
        exact ⟨fun _ => hfin, fun hq => absurd (by omega) hq⟩
    | succ k ih =>
      intro e he v v1 v2 v3
      have hz : v p0 3 = (n : Int) := by rw [v1 p0 (by omega) (by omega)]; exact hE.1
      obtain ⟨e1, e2, e3⟩ := hE.2 e (by omega)
      obtain ⟨o1, o2, o3⟩ := hok.2 e (by omega)
      have hn8 := hok.1
      have x1 : v (p0 + 1) e = ek e := by rw [v1 _ (by omega) (by omega)]; exact e1
      have x2 : v (p0 + 2) e = ew e := by rw [v1 _ (by omega) (by omega)]; exact e2
      have x3 : v (p0 + 3) e = en e := by rw [v1 _ (by omega) (by omega)]; exact e3
      have hbit := b_ibit (a := s) (k := e) (by omega) (by omega)
      rw [ev_9_1]
      have hnext : s.testBit e = false → Ev Ls (Sm Ls (d + 1)) q bk_9 1 [vR P, vI lg, vR p0, vI s, vI (iW ((e : Int) + 1))] [] v := fun hf => by
        rw [iW_id (by omega) (by omega)]
        exact ih (e + 1) (by omega) v v1 v2 (c_skip_cond v3 hf)
      have hnext2 : s.testBit e = true → Ev Ls (Sm Ls (d + 1)) q bk_9 1 [vR P, vI lg, vR p0, vI s, vI (iW ((e : Int) + 1))] [] (c_bf P v (ek e) (ew e) (en e)) := fun hf => by
        rw [iW_id (by omega) (by omega)]
        refine ih (e + 1) (by omega) _ (fun p p1 p2 => ?_) (fun j j1 j2 => ?_) (c_bf_cond v3 hf o1 o2 o3)
        · rw [← v1 p p1 p2]
          unfold c_bf
          split
          · exact ab_up_ne p1
          · exact ab_up_ne p2
        · rw [← v2 j j1 j2]
          unfold c_bf
          split
          · exact ab_up_nj j2
          · exact ab_up_p (by omega)
      have hcall : s.testBit e = true → Sm Ls (d + 1) 10 [vR P, vI (ek e), vI (ew e), vI (en e)] v (fun r w' => Ev Ls (Sm Ls (d + 1)) q bk_9 1 [vR P, vI lg, vR p0, vI s, vI (iW ((e : Int) + 1))] (ab_rp r []) w') := fun hf => q_befall hP (by omega) (hnext2 hf)
      have hin : (0 ≤ (e : Int) ∧ (e : Int) < 8) := by omega
      rcases h0 with rfl | rfl
      all_goals rcases hP with rfl | rfl
      all_goals
        dsimp only [Nat.reduceAdd] at x1 x2 x3
        simp only [↓e_aload0, ↓e_iload1, ↓p_15_6, ↓p_21_6, ↓e_bipush, ↓p_15_7, ↓p_21_7, ↓g_15_2, ↓g_21_2, ↓e_lconst0, e_rpn, e_rps, e_few0, e_few1, e_few2, e_few3, e_few4, ↓e_cs2, ↓e_iconst, ↓e_istore4, e_klI, e_klR, e_klX, e_klL, ↓e_iload4, ↓e_aload2, ↓g_3_3, ↓g_7_3, ↓g_11_3, ↓e_cmp_ge, ↓e_iload3, ↓e_ishr, ↓e_iand, ↓e_if_eq, ↓g_3_0, ↓g_7_0, ↓g_11_0, ↓g_3_1, ↓g_7_1, ↓g_11_1, ↓g_3_2, ↓g_7_2, ↓g_11_2, ↓e_cv4, i_15, i_21, ↓e_iinc4, ↓e_goto, ↓e_vret, ↓x_4, ↓x_5, ↓x_6, ↓x_8, ↓x_9, ↓x_10, ↓x_12, ↓x_13, ↓x_14, ↓e_nil, b_9_0, b_9_1, b_9_2, b_9_3, ↓ev_9_2, hin, and_self, true_and, x1, x2, x3, hz, hbit]
        refine ⟨fun hq => absurd hq (by omega), fun _ => ?_⟩
        cases hb : s.testBit e with
        | false => simp; exact hnext hb
        | true => simp; exact hcall hb
  rw [en_9]
  have hfin : Ev Ls (Sm Ls (d + 1)) q bk_9 1 [vR P, vI lg, vR p0, vI s, vI 0] [] (ab_fl (ab_up (ab_up w P 6 lg) P 7 48) (P + 3) 0 4 0) := by
    refine key n 0 (by omega) _ (fun p p1 p2 => ?_) (fun j j1 j2 => ?_) ⟨?_, ?_, fun m hm => ?_, fun t ht => ?_⟩
    · rw [ab_fl_pp p2, ab_up_ne p1, ab_up_ne p1]
    · rw [ab_fl_p (by omega), ab_up_nj j2, ab_up_nj j1]
    · rw [ab_fl_p (by omega), ab_up_nj (by omega), ab_up_at]
    · rw [ab_fl_p (by omega), ab_up_at]; omega
    · rw [ab_fl_p (by omega), ab_up_at]
      show decide ((48 : Int) ≤ m) = false
      have : ¬ (48 : Int) ≤ m := by omega
      simp [this]
    · refine ⟨0, by omega, ?_, fun m hm => ?_⟩
      · rw [ab_fl_in (by omega)]; rfl
      · simp [e_sd]
  rcases hP with rfl | rfl
  all_goals
    simp only [↓e_aload0, ↓e_iload1, ↓p_15_6, ↓p_21_6, ↓e_bipush, ↓p_15_7, ↓p_21_7, ↓g_15_2, ↓g_21_2, ↓e_lconst0, e_rpn, e_rps, e_few0, e_few1, e_few2, e_few3, e_few4, ↓e_cs2, ↓e_iconst, ↓e_istore4, e_klI, e_klR, e_klX, e_klL, ↓e_iload4, ↓e_aload2, ↓g_3_3, ↓g_7_3, ↓g_11_3, ↓e_cmp_ge, ↓e_iload3, ↓e_ishr, ↓e_iand, ↓e_if_eq, ↓g_3_0, ↓g_7_0, ↓g_11_0, ↓g_3_1, ↓g_7_1, ↓g_11_1, ↓g_3_2, ↓g_7_2, ↓g_11_2, ↓e_cv4, i_15, i_21, ↓e_iinc4, ↓e_goto, ↓e_vret, ↓x_4, ↓x_5, ↓x_6, ↓x_8, ↓x_9, ↓x_10, ↓x_12, ↓x_13, ↓x_14, ↓e_nil, b_9_0, b_9_1, b_9_2, b_9_3, true_and]
    exact q_fillL (n := 4) rfl (by omega) hfin
end Race22
