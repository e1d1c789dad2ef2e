/-! the class's standings: what is kept is right -/
def c_cv (w : ab_W) (D : Td) : Prop := ∀ t s : Nat, t < D.T → s < 256 → w 27 ((t : Int) * 256 + s) = 0 ∨ w 27 ((t : Int) * 256 + s) = r_V (D.cf s).F (D.cf s).H t 47
def c_cache (w : ab_W) (D : Td) : Prop := (w 0 7 = 0 ∨ w 0 7 = 1) ∧ (w 0 7 = 0 → c_cv w D)
/-- the trial has the runners as told, the standings are in use -/
def c_wk (w x : ab_W) (D : Td) : Prop := c_scr w x ∧ c_run 21 x D.T D.so D.pa ∧ x 21 5 = D.T ∧ x 0 7 = 0 ∧ c_cv x D
def e_tch (ek en : Nat → Int) (t : Nat) (e : Nat) : Bool := decide (ek e = 0 ∨ en e = t)
theorem e_rn_tch {ek ew : Nat → Int} {s B m : Nat} : ∀ n, (∀ e, e < n → ek e = 0 → B.testBit e = true) → e_rn ek ew (s &&& B) m n = e_rn ek ew s m n
  | 0, _ => rfl
  | n + 1, h => by
    rw [e_rn_s, e_rn_s, e_rn_tch n (fun e he => h e (by omega)), Nat.testBit_and]
    by_cases g : ek n = 0
    · rw [h n (by omega) g, Bool.and_true]
    · have : decide (ek n = 0 ∧ ew n ≤ (m : Int)) = false := decide_eq_false (fun z => g z.1)
      rw [this, Bool.and_false, Bool.and_false]
theorem e_sd_tch {ek ew en : Nat → Int} {s B t m : Nat} : ∀ n, (∀ e, e < n → en e = t → B.testBit e = true) → e_sd ek ew en (s &&& B) t m n = e_sd ek ew en s t m n
  | 0, _ => rfl
  | n + 1, h => by
    rw [e_sd_s, e_sd_s, e_sd_tch n (fun e he => h e (by omega)), Nat.testBit_and]
    by_cases g : en n = t
    · rw [h n (by omega) g, Bool.and_true]
    · have : decide (en n = t ∧ ((ek n = 1 ∧ ew n = m) ∨ (ek n = 2 ∧ ew n ≤ m ∧ m ≤ ew n + 2))) = false := decide_eq_false (fun z => g z.1)
      rw [this, Bool.and_false, Bool.and_false]
/-- only what touches t counts for t -/
theorem Td.V_tch {D : Td} {s t : Nat} : r_V (D.cf (s &&& nb (e_tch D.ek D.en t) D.k)).F (D.cf (s &&& nb (e_tch D.ek D.en t) D.k)).H t 47 = r_V (D.cf s).F (D.cf s).H t 47 := by
  have hb : ∀ e, e < D.k → (nb (e_tch D.ek D.en t) D.k).testBit e = e_tch D.ek D.en t e := fun e he => by rw [nb_bit]; simp [he]
  have h1 : (D.cf (s &&& nb (e_tch D.ek D.en t) D.k)).rn = (D.cf s).rn := by
    funext m
    exact e_rn_tch D.k (fun e he g => by rw [hb e he]; exact decide_eq_true (Or.inl g))
  have h2 : (D.cf (s &&& nb (e_tch D.ek D.en t) D.k)).sd t = (D.cf s).sd t := by
    funext m
    exact e_sd_tch D.k (fun e he g => by rw [hb e he]; exact decide_eq_true (Or.inr g))
  have h3 : (D.cf (s &&& nb (e_tch D.ek D.en t) D.k)).F t 47 = (D.cf s).F t 47 := by
    show (t_S (D.so t) (D.pa t) D.lg (D.cf (s &&& nb (e_tch D.ek D.en t) D.k)).rn ((D.cf (s &&& nb (e_tch D.ek D.en t) D.k)).sd t) 48).1 = _
    rw [h1, h2]; rfl
  have h4 : (D.cf (s &&& nb (e_tch D.ek D.en t) D.k)).H t = (D.cf s).H t := by
    show t_E (D.so t) (D.pa t) D.lg (D.cf (s &&& nb (e_tch D.ek D.en t) D.k)).rn ((D.cf (s &&& nb (e_tch D.ek D.en t) D.k)).sd t) 3 48 = _
    rw [h1, h2]; rfl
  unfold r_V
  rw [h3, h4]
section Cache51
variable {Ls d : Nat} {w : ab_W} {q : Option ab_V → ab_W → Prop} {D : Td} {c : Cf}
theorem c_cache.tr {x : ab_W} (h : c_cache w D) (hx : c_tr w x) : c_cache x D := by
  unfold c_cache c_cv
  rw [hx 0 (by omega), hx 27 (by omega)]
  exact h
theorem c_wk.told {x : ab_W} (h : c_wk w x D) (ht : c_told w D) : c_told x D := ht.scr h.1
theorem c_wk.cache {x : ab_W} (h : c_wk w x D) : c_cache x D := ⟨Or.inl h.2.2.2.1, fun _ => h.2.2.2.2⟩
theorem q_touch (ht : c_told w D) {t : Nat} (ht4 : t < 4) {Q' : Option ab_V → ab_W → Prop} (h : Q' (some (vI (nb (e_tch D.ek D.en t) D.k : Nat))) w) : Sm Ls (d + 1) 62 [vR 0, vI t] w Q' := by
  have hk8 : D.k ≤ 8 := ht.ok.2.2.2.1.1
  have h3 : w 3 3 = (D.k : Int) := ht.2.2.1.1
  have key : ∀ (k e : Nat), e + k = D.k → Ev Ls (Sm Ls d) Q' bk_62 1 [vR 0, vI t, vI (nb (e_tch D.ek D.en t) e : Nat), vI e] [] w := by
    intro k
    induction k with
    | zero =>
      intro e he
      have : e = D.k := by omega
      subst this
      rw [ev_62_1]
      simp only [↓e_iconst, ↓e_istore2, e_klI, e_klR, e_klX, e_klL, ↓e_istore3, ↓e_iload3, ↓e_aload0, ↓g_0_1, ↓g_3_3, ↓g_7_3, ↓g_11_3, ↓e_cmp_ge, ↓g_3_0, ↓g_7_0, ↓g_11_0, ↓e_if_eq, ↓g_3_2, ↓g_7_2, ↓g_11_2, ↓e_iload1, ↓e_cmp_ne, ↓e_iload2, ↓e_ishl, ↓e_ior, ↓e_iinc3, ↓e_goto, ↓e_iret, ↓x_4, ↓x_6, ↓x_8, ↓x_10, ↓x_12, ↓x_14, ↓e_nil, b_62_0, b_62_1, b_62_2, b_62_3, b_62_4, ↓ev_62_4, h3]
      exact ⟨fun _ => h, fun z => absurd (Int.le_refl _) z⟩
    | succ k ih =>
      intro e he
      have hno : ¬ (D.k : Int) ≤ (e : Int) := by omega
      have hin : 0 ≤ (e : Int) ∧ (e : Int) < 8 := by omega
      obtain ⟨e1, e2, e3⟩ := ht.2.2.1.2 e (by omega)
      have e1 : w 4 e = D.ek e := e1
      have e3 : w 6 e = D.en e := e3
      have p1 := b_2pw (a := e) (by omega)
      have hor := b_or1 (nb_lt (P := e_tch D.ek D.en t) e) (show e < 12 by omega) (b := e_tch D.ek D.en t e)
      have hI := ih (e + 1) (by omega)
      rw [nb_s, ← hor] at hI
      have hy : (D.ek e = 0 ∨ D.en e = t) → Ev Ls (Sm Ls d) Q' bk_62 1 [vR 0, vI t, vI (i_or ((nb (e_tch D.ek D.en t) e : Nat) : Int) ((2 ^ e : Nat) : Int)), vI ((e : Int) + 1)] [] w := fun g => by
        have : e_tch D.ek D.en t e = true := decide_eq_true g
        rw [this] at hI; exact hI
      have hn : ¬ (D.ek e = 0 ∨ D.en e = t) → Ev Ls (Sm Ls d) Q' bk_62 1 [vR 0, vI t, vI (nb (e_tch D.ek D.en t) e : Nat), vI ((e : Int) + 1)] [] w := fun g => by
        have hf : e_tch D.ek D.en t e = false := decide_eq_false g
        rw [hf] at hor hI
        simp only [Bool.false_eq_true, if_false, Nat.or_zero] at hor hI
        rw [hor] at hI; exact hI
      have w1 : iW ((e : Int) + 1) = (e : Int) + 1 := iW_id (by omega) (by omega)
      rw [ev_62_1]
      simp only [↓e_iconst, ↓e_istore2, e_klI, e_klR, e_klX, e_klL, ↓e_istore3, ↓e_iload3, ↓e_aload0, ↓g_0_1, ↓g_3_3, ↓g_7_3, ↓g_11_3, ↓e_cmp_ge, ↓g_3_0, ↓g_7_0, ↓g_11_0, ↓e_if_eq, ↓g_3_2, ↓g_7_2, ↓g_11_2, ↓e_iload1, ↓e_cmp_ne, ↓e_iload2, ↓e_ishl, ↓e_ior, ↓e_iinc3, ↓e_goto, ↓e_iret, ↓x_4, ↓x_6, ↓x_8, ↓x_10, ↓x_12, ↓x_14, ↓e_nil, b_62_0, b_62_1, b_62_2, b_62_3, b_62_4, ↓ev_62_2, ↓ev_62_3, h3, hno, hin, e1, e3, p1, w1, one0, eq_self, ne_eq, not_true_eq_false, not_false_eq_true, true_implies, false_implies, true_and, and_true, and_self]
      exact ⟨fun g => hy (Or.inl g), fun g => ⟨fun g2 => hn (fun z => z.elim g g2), fun g2 => hy (Or.inr (Classical.not_not.mp g2))⟩⟩
  have h0 := key D.k 0 (by omega)
  rw [en_62]
  simp only [↓e_iconst, ↓e_istore2, e_klI, e_klR, e_klX, e_klL, ↓e_istore3, ↓e_iload3, ↓e_aload0, ↓g_0_1, ↓g_3_3, ↓g_7_3, ↓g_11_3, ↓e_cmp_ge, ↓g_3_0, ↓g_7_0, ↓g_11_0, ↓e_if_eq, ↓g_3_2, ↓g_7_2, ↓g_11_2, ↓e_iload1, ↓e_cmp_ne, ↓e_iload2, ↓e_ishl, ↓e_ior, ↓e_iinc3, ↓e_goto, ↓e_iret, ↓x_4, ↓x_6, ↓x_8, ↓x_10, ↓x_12, ↓x_14, ↓e_nil, b_62_0, b_62_1, b_62_2, b_62_3, b_62_4]
  exact h0
theorem q_stand1 {F E : Nat → Nat → Int} {t m : Nat} (ht : t < 4) (hm : m < 48) (hF : w 25 ((t : Int) * 48 + m) = F t m) (hE : w 26 ((t : Int) * 4 + 3) = E t 3) (f : 0 ≤ F t m ∧ F t m ≤ 249) (g : -1 ≤ E t 3 ∧ E t 3 ≤ 47) (h : q (some (vI (r_V F (Eh E) t m))) w) : Sm Ls (d + 2) 18 [vR 21, vI t, vI m] w q := by
  have hc1 : ∀ Q' : Option ab_V → ab_W → Prop, Q' (some (vI (E t 3))) w → Sm Ls (d + 1) 15 [vR 21, vI t] w Q' := fun Q' hQ => q_homeOf (Or.inr rfl) (by omega) (by rw [show w (21 + 5) ((t : Int) * 4 + 3) = E t 3 from hE]; exact hQ)
  have hc2 : ∀ Q' : Option ab_V → ab_W → Prop, Q' (some (vI (F t m))) w → Sm Ls (d + 1) 14 [vR 21, vI t, vI m] w Q' := fun Q' hQ => q_metresAt (Or.inr rfl) (by omega) (by omega) (by rw [show w (21 + 4) ((t : Int) * 48 + m) = F t m from hF]; exact hQ)
  have hfin : ∀ s : Int, (s = if E t 3 ≠ -1 ∧ E t 3 ≤ m then 48 - E t 3 else 0) → Ev Ls (Sm Ls (d + 1)) q bk_18 2 [vR 21, vI t, vI m, vI (E t 3), vX] [vI s] w := fun s hs => by
    have hs1 : 0 ≤ s ∧ s ≤ 48 := by rw [hs]; split <;> omega
    have hV : r_V F (Eh E) t m = s * 4096 + 4 * F t m + 3 - t := by
      rw [hs]; unfold r_V
      dsimp only [Eh]
      split <;> omega
    obtain ⟨w1, w2, w3, w4, w5⟩ : iW (s * 4096) = s * 4096 ∧ iW (4 * F t m) = 4 * F t m ∧ iW (s * 4096 + 4 * F t m) = s * 4096 + 4 * F t m ∧ iW (s * 4096 + 4 * F t m + 3) = s * 4096 + 4 * F t m + 3 ∧ iW (s * 4096 + 4 * F t m + 3 - t) = s * 4096 + 4 * F t m + 3 - t :=
      ⟨iW_id (by omega) (by omega), iW_id (by omega) (by omega), iW_id (by omega) (by omega), iW_id (by omega) (by omega), iW_id (by omega) (by omega)⟩
    rw [ev_18_2]
    simp only [↓e_aload0, ↓e_iload1, ↓e_cv2, i_15, i_21, e_rpn, e_rps, e_few0, e_few1, e_few2, e_few3, e_few4, ↓e_istore3, e_klI, e_klR, e_klX, e_klL, ↓e_iload3, ↓e_iconst, ↓e_cmp_eq, ↓e_iload2, ↓e_cmp_gt, ↓e_bipush, ↓e_isub, ↓e_goto, ↓e_istore4, ↓e_iload4, ↓e_sipush, ↓e_imul, ↓e_cv3, ↓e_iadd, ↓e_iret, ↓e_nil, b_18_0, b_18_1, b_18_2, true_and]
    refine hc2 _ ?_
    simp only [↓e_aload0, ↓e_iload1, ↓e_cv2, i_15, i_21, e_rpn, e_rps, e_few0, e_few1, e_few2, e_few3, e_few4, ↓e_istore3, e_klI, e_klR, e_klX, e_klL, ↓e_iload3, ↓e_iconst, ↓e_cmp_eq, ↓e_iload2, ↓e_cmp_gt, ↓e_bipush, ↓e_isub, ↓e_goto, ↓e_istore4, ↓e_iload4, ↓e_sipush, ↓e_imul, ↓e_cv3, ↓e_iadd, ↓e_iret, ↓e_nil, b_18_0, b_18_1, b_18_2, w1, w2, w3, w4, w5]
    rw [← hV]; exact h
  have h0 := hfin 0
  have h1 := hfin (48 - E t 3)
  have w1 : iW (48 - E t 3) = 48 - E t 3 := iW_id (by omega) (by omega)
  rw [en_18]
  simp only [↓e_aload0, ↓e_iload1, ↓e_cv2, i_15, i_21, e_rpn, e_rps, e_few0, e_few1, e_few2, e_few3, e_few4, ↓e_istore3, e_klI, e_klR, e_klX, e_klL, ↓e_iload3, ↓e_iconst, ↓e_cmp_eq, ↓e_iload2, ↓e_cmp_gt, ↓e_bipush, ↓e_isub, ↓e_goto, ↓e_istore4, ↓e_iload4, ↓e_sipush, ↓e_imul, ↓e_cv3, ↓e_iadd, ↓e_iret, ↓e_nil, b_18_0, b_18_1, b_18_2, true_and]
  refine hc1 _ ?_
  simp only [↓e_aload0, ↓e_iload1, ↓e_cv2, i_15, i_21, e_rpn, e_rps, e_few0, e_few1, e_few2, e_few3, e_few4, ↓e_istore3, e_klI, e_klR, e_klX, e_klL, ↓e_iload3, ↓e_iconst, ↓e_cmp_eq, ↓e_iload2, ↓e_cmp_gt, ↓e_bipush, ↓e_isub, ↓e_goto, ↓e_istore4, ↓e_iload4, ↓e_sipush, ↓e_imul, ↓e_cv3, ↓e_iadd, ↓e_iret, ↓e_nil, b_18_0, b_18_1, b_18_2, ↓ev_18_1]
  refine ⟨fun hq => h0 (by rw [if_neg (by intro z; exact z.1 hq)]), fun hq => ⟨fun hz => h0 (by rw [if_neg (by intro z; clear w1; omega)]), fun hz => ?_⟩⟩
  rw [w1]
  exact h1 (by rw [if_pos ⟨hq, by clear w1; omega⟩])
set_option maxHeartbeats 2000000 in
theorem q_standingWith (ht : c_told w D) {x : ab_W} (hx : c_wk w x D) {t s : Nat} (htT : t < D.T) (hs : s < 256) {Q' : Option ab_V → ab_W → Prop} (h : ∀ y, c_wk w y D → Q' (some (vI (r_V (D.cf s).F (D.cf s).H t 47))) y) : Sm Ls (d + 4) 61 [vR 0, vI t, vI s] x Q' := by
  have hT4 := Td.T4 ht.ok
  have hxt := hx.told ht
  have h11 : x 0 11 = D.lg := hxt.2.1
  have hk8 : D.k ≤ 8 := ht.ok.2.2.2.1.1
  rw [← Td.V_tch] at h
  have hB : nb (e_tch D.ek D.en t) D.k < 256 := Nat.lt_of_lt_of_le (nb_lt D.k) (Nat.pow_le_pow_right (n := 2) (j := 8) (by decide) hk8)
  generalize hBB : nb (e_tch D.ek D.en t) D.k = B at hB h
  have hand : i_and (s : Int) (B : Int) = ((s &&& B : Nat) : Int) := b_iand (by omega)
  have hs' : s &&& B < 256 := Nat.lt_of_le_of_lt Nat.and_le_left hs
  generalize s &&& B = z at hand hs' h
  have hin : 0 ≤ (t : Int) * 256 + z ∧ (t : Int) * 256 + z < 1024 := by omega
  have hend : ∀ y, c_wk w y D → y 27 ((t : Int) * 256 + z) = r_V (D.cf z).F (D.cf z).H t 47 → Ev Ls (Sm Ls (d + 3)) Q' bk_61 1 [vR 0, vI t, vI s, vI z, vI ((t : Int) * 256 + z)] [] y := fun y y0 y1 => by
    rw [ev_61_1]
    simp only [↓e_iload2, ↓e_aload0, ↓e_iload1, ↓e_cv2, i_0, e_rpn, e_rps, e_few0, e_few1, e_few2, e_few3, e_few4, ↓e_iand, ↓e_istore3, e_klI, e_klR, e_klX, e_klL, ↓e_sipush, ↓e_imul, ↓e_iload3, ↓e_iadd, ↓e_istore4, ↓g_0_6, ↓e_iload4, ↓e_if_ne, ↓g_0_5, ↓g_0_11, ↓g_0_1, ↓e_cv4, i_15, i_21, ↓e_bipush, ↓e_cv3, ↓e_iret, ↓x_27, ↓y_27, ↓e_nil, b_61_0, b_61_1, hin, y1, one0, eq_self, ne_eq, not_true_eq_false, not_false_eq_true, true_implies, false_implies, true_and, and_true, and_self]
    exact h y y0
  have hcok := Td.cok ht.ok z
  obtain ⟨w1, w2⟩ : iW ((t : Int) * 256) = (t : Int) * 256 ∧ iW ((t : Int) * 256 + z) = (t : Int) * 256 + z := ⟨iW_id (by omega) (by omega), iW_id (by omega) (by omega)⟩
  rw [en_61]
  simp only [↓e_iload2, ↓e_aload0, ↓e_iload1, ↓e_cv2, i_0, e_rpn, e_rps, e_few0, e_few1, e_few2, e_few3, e_few4, ↓e_iand, ↓e_istore3, e_klI, e_klR, e_klX, e_klL, ↓e_sipush, ↓e_imul, ↓e_iload3, ↓e_iadd, ↓e_istore4, ↓g_0_6, ↓e_iload4, ↓e_if_ne, ↓g_0_5, ↓g_0_11, ↓g_0_1, ↓e_cv4, i_15, i_21, ↓e_bipush, ↓e_cv3, ↓e_iret, ↓x_27, ↓y_27, ↓e_nil, b_61_0, b_61_1, one0, eq_self, ne_eq, not_true_eq_false, not_false_eq_true, true_implies, false_implies, true_and, and_true, and_self]
  refine q_touch hxt (by clear w1 w2; omega) ?_
  rw [hBB]
  simp only [↓e_iload2, ↓e_aload0, ↓e_iload1, ↓e_cv2, i_0, e_rpn, e_rps, e_few0, e_few1, e_few2, e_few3, e_few4, ↓e_iand, ↓e_istore3, e_klI, e_klR, e_klX, e_klL, ↓e_sipush, ↓e_imul, ↓e_iload3, ↓e_iadd, ↓e_istore4, ↓g_0_6, ↓e_iload4, ↓e_if_ne, ↓g_0_5, ↓g_0_11, ↓g_0_1, ↓e_cv4, i_15, i_21, ↓e_bipush, ↓e_cv3, ↓e_iret, ↓x_27, ↓y_27, ↓e_nil, b_61_0, b_61_1, hand, w1, w2, hin, h11, one0, eq_self, ne_eq, not_true_eq_false, not_false_eq_true, true_implies, false_implies, true_and, and_true, and_self]
  clear w1 w2
  refine ⟨fun g => hend x hx ((hx.2.2.2.2 t z htT hs').resolve_left g), fun g => ?_⟩
  refine q_setRun hs' hxt hx.2.1 hx.2.2.1 (fun y y1 y2 y3 => ?_)
  simp only [↓e_iload2, ↓e_aload0, ↓e_iload1, ↓e_cv2, i_0, e_rpn, e_rps, e_few0, e_few1, e_few2, e_few3, e_few4, ↓e_iand, ↓e_istore3, e_klI, e_klR, e_klX, e_klL, ↓e_sipush, ↓e_imul, ↓e_iload3, ↓e_iadd, ↓e_istore4, ↓g_0_6, ↓e_iload4, ↓e_if_ne, ↓g_0_5, ↓g_0_11, ↓g_0_1, ↓e_cv4, i_15, i_21, ↓e_bipush, ↓e_cv3, ↓e_iret, ↓x_27, ↓y_27, ↓e_nil, b_61_0, b_61_1, one0, eq_self, ne_eq, not_true_eq_false, not_false_eq_true, true_implies, false_implies, true_and, and_true, and_self]
  refine q_runTeam (Or.inr rfl) (by omega) y3 (so := D.so t) (pa := D.pa t) (fun l hl => ?_) (fun l hl => ?_) (z_t_ok hcok htT) (fun v hr => ?_)
  · rw [y1 (21 + 1) (by decide) (by decide)]; exact (hx.2.1 t htT l hl).1
  · rw [y1 (21 + 2) (by decide) (by decide)]; exact (hx.2.1 t htT l hl).2
  obtain ⟨r1, r2, r3, r4, r5⟩ := hr
  have vscr : c_scr w v := hx.1.trans ⟨fun p hp => by rw [r1 p (by omega) (by omega), y1 p (by omega) (by omega)], fun j _ => by rw [r1 0 (by decide) (by decide), y1 0 (by decide) (by decide)]⟩
  have vrun : c_run 21 v D.T D.so D.pa := fun u hu l hl => by
    rw [r1 (21 + 1) (by decide) (by decide), r1 (21 + 2) (by decide) (by decide), y1 (21 + 1) (by decide) (by decide), y1 (21 + 2) (by decide) (by decide)]; exact hx.2.1 u hu l hl
  have v5 : v 21 5 = D.T := by rw [r1 21 (by decide) (by decide), y2]; exact hx.2.2.1
  have v07 : v 0 7 = 0 := by rw [r1 0 (by decide) (by decide), y1 0 (by decide) (by decide)]; exact hx.2.2.2.1
  have v27 : v 27 = x 27 := by rw [r1 27 (by decide) (by decide), y1 27 (by decide) (by decide)]
  simp only [↓e_iload2, ↓e_aload0, ↓e_iload1, ↓e_cv2, i_0, e_rpn, e_rps, e_few0, e_few1, e_few2, e_few3, e_few4, ↓e_iand, ↓e_istore3, e_klI, e_klR, e_klX, e_klL, ↓e_sipush, ↓e_imul, ↓e_iload3, ↓e_iadd, ↓e_istore4, ↓g_0_6, ↓e_iload4, ↓e_if_ne, ↓g_0_5, ↓g_0_11, ↓g_0_1, ↓e_cv4, i_15, i_21, ↓e_bipush, ↓e_cv3, ↓e_iret, ↓x_27, ↓y_27, ↓e_nil, b_61_0, b_61_1, one0, eq_self, ne_eq, not_true_eq_false, not_false_eq_true, true_implies, false_implies, true_and, and_true, and_self]
  refine q_stand1 (F := (D.cf z).F) (E := (D.cf z).E) (m := 47) (by omega) (by omega) (r2 47 (by omega)) (r3 3 (by omega)) (Cf.F_in hcok htT (by omega)) (Cf.H_in hcok htT) ?_
  simp only [↓e_iload2, ↓e_aload0, ↓e_iload1, ↓e_cv2, i_0, e_rpn, e_rps, e_few0, e_few1, e_few2, e_few3, e_few4, ↓e_iand, ↓e_istore3, e_klI, e_klR, e_klX, e_klL, ↓e_sipush, ↓e_imul, ↓e_iload3, ↓e_iadd, ↓e_istore4, ↓g_0_6, ↓e_iload4, ↓e_if_ne, ↓g_0_5, ↓g_0_11, ↓g_0_1, ↓e_cv4, i_15, i_21, ↓e_bipush, ↓e_cv3, ↓e_iret, ↓x_27, ↓y_27, ↓e_nil, b_61_0, b_61_1, hin, one0, eq_self, ne_eq, not_true_eq_false, not_false_eq_true, true_implies, false_implies, true_and, and_true, and_self]
  refine hend _ ⟨vscr.trans ⟨fun p hp => by rw [ab_up_ne (by omega)], fun j _ => by rw [ab_up_p (by decide)]⟩, fun u hu l hl => by rw [ab_up_p (by decide), ab_up_p (by decide)]; exact vrun u hu l hl, by rw [ab_up_p (by decide)]; exact v5, by rw [ab_up_p (by decide)]; exact v07, fun u s2 hu hs2 => ?_⟩ ab_up_at
  by_cases he : (u : Int) * 256 + s2 = (t : Int) * 256 + z
  · have e1 : u = t := by omega
    have e2 : s2 = z := by omega
    subst e1; subst e2
    rw [ab_up_at]; exact Or.inr rfl
  · rw [ab_up_nj he, v27]; exact hx.2.2.2.2 u s2 hu hs2
end Cache51
