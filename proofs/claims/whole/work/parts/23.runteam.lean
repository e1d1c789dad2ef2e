/-! the class's run of a team -/
section Home23
variable {so pa : Nat → Int} {lg : Int} {rn sd : Nat → Bool}
theorem t_home_S {a b : Nat} (h : (t_S so pa lg rn sd a).2.1 = 4) (hab : a ≤ b) : t_S so pa lg rn sd b = t_S so pa lg rn sd a := by
  induction b with
  | zero => have : a = 0 := by omega
            subst this; rfl
  | succ b ih =>
    by_cases hb : a = b + 1
    · subst hb; rfl
    · have h1 := ih (by omega)
      rw [t_S_home (by rw [h1]; exact h), h1]
theorem t_home_E {a b l : Nat} (h : (t_S so pa lg rn sd a).2.1 = 4) (hab : a ≤ b) : t_E so pa lg rn sd l b = t_E so pa lg rn sd l a := by
  induction b with
  | zero => have : a = 0 := by omega
            subst this; rfl
  | succ b ih =>
    by_cases hb : a = b + 1
    · subst hb; rfl
    · rw [t_E_s, if_neg, ih (by omega)]
      rw [t_home_S h (show a ≤ b by omega), t_home_S h (show a ≤ b + 1 by omega)]
      omega
end Home23
/-- in w' the race at P has run for team t: metres and ends are S's and E's, all else is as in w -/
def c_ran (P t : Nat) (S : Nat → Int × Nat × Int) (E : Nat → Int) (w w' : ab_W) : Prop :=
  (∀ p, p ≠ P + 4 → p ≠ P + 5 → w' p = w p) ∧ (∀ m : Nat, m < 48 → w' (P + 4) ((t : Int) * 48 + m) = (S (m + 1)).1) ∧ (∀ l : Nat, l < 4 → w' (P + 5) ((t : Int) * 4 + l) = E l) ∧
  (∀ i : Int, ¬ ((t : Int) * 48 ≤ i ∧ i < (t : Int) * 48 + 48) → w' (P + 4) i = w (P + 4) i) ∧ (∀ i : Int, ¬ ((t : Int) * 4 ≤ i ∧ i < (t : Int) * 4 + 4) → w' (P + 5) i = w (P + 5) i)
section RunTeam23
variable {Ls d : Nat} {w : ab_W} {q : Option ab_V → ab_W → Prop}
set_option maxRecDepth 100000 in
set_option maxHeartbeats 4000000 in
theorem q_runTeam {P t : Nat} (hP : P = 15 ∨ P = 21) (ht : t < 4) {so pa : Nat → Int} {lg : Int} {rn : Nat → Bool} {sd : Nat → Nat → Bool} (hc : c_cond P w lg rn sd) (hso : ∀ l : Nat, l < 4 → w (P + 1) ((t : Int) * 4 + l) = so l) (hpa : ∀ l : Nat, l < 4 → w (P + 2) ((t : Int) * 4 + l) = pa l) (hok : t_ok pa lg)
    (h : ∀ w', c_ran P t (t_S so pa lg rn (sd t)) (fun l => t_E so pa lg rn (sd t) l 48) w w' → q none w') : Sm Ls (d + 3) 12 [vR P, vI t] w q := by
  obtain ⟨hlg, hr1, hr2, hst⟩ := hc
  have hbits : ∀ m : Nat, m < 48 → l_and (l_shr (w (P + 3) (t : Int)) (m : Int)) 1 = if sd t m = true then 1 else 0 := by
    obtain ⟨N, hN1, hN2, hN3⟩ := hst t ht
    intro m hm
    rw [hN2, b_lbit (by omega) (Nat.lt_trans hN1 (by decide)), hN3 m hm]
  clear hst
  have hl1 := hok.2.1
  have hl2 := hok.2.2
  have hfar : ab_arr 0 (P + 4) = some 192 ∧ ab_arr 0 (P + 5) = some 16 := by rcases hP with rfl | rfl <;> exact ⟨rfl, rfl⟩
  -- behind the step of a moment
  have key : ∀ (k m : Nat), m + k = 48 → ∀ (v : ab_W) (f o : Int) (l : Nat), t_S so pa lg rn (sd t) m = (f, l, o) → l ≠ 4 →
      (∀ p, p ≠ P + 4 → p ≠ P + 5 → v p = w p) → (∀ j : Nat, j < m → v (P + 4) ((t : Int) * 48 + j) = (t_S so pa lg rn (sd t) (j + 1)).1) → (∀ l : Nat, l < 4 → v (P + 5) ((t : Int) * 4 + l) = t_E so pa lg rn (sd t) l m) →
      (∀ i : Int, ¬ ((t : Int) * 48 ≤ i ∧ i < (t : Int) * 48 + 48) → v (P + 4) i = w (P + 4) i) → (∀ i : Int, ¬ ((t : Int) * 4 ≤ i ∧ i < (t : Int) * 4 + 4) → v (P + 5) i = w (P + 5) i) →
      Ev Ls (Sm Ls (d + 2)) q bk_12 1 [vR P, vI t, vI ((t : Int) * 48), vI f, vI l, vI o, vI m] [] v := by
    intro k
    induction k with
    | zero =>
      intro m hm v f o l hS hl4 v1 v2 v3 v4 v5
      have : m = 48 := by omega
      subst this
      rw [ev_12_1]
      have hfin := h v ⟨v1, fun j hj => v2 j hj, v3, v4, v5⟩
      simp only [↓e_iload1, ↓e_bipush, ↓e_imul, ↓e_istore2, e_klI, e_klR, e_klX, e_klL, ↓e_iconst, ↓e_istore3, ↓e_istore4, ↓e_istore5, ↓e_aload0, ↓g_15_4, ↓g_21_4, ↓e_iadd, e_rpn, e_rps, e_few0, e_few1, e_few2, e_few3, e_few4, ↓e_cs4, ↓e_istore6, ↓e_iload6, ↓e_cmp_ge, ↓g_15_2, ↓g_21_2, ↓e_lshr, ↓e_lconst1, ↓e_land, ↓e_lconst0, ↓e_lcmp, ↓e_if_ne, ↓e_iload3, ↓e_iload4, ↓e_iload5, ↓e_cv4, i_15, i_21, ↓e_iinc5, ↓g_15_3, ↓g_21_3, ↓e_iload2, ↓g_15_6, ↓g_21_6, ↓e_cmp_lt, ↓e_iinc4, ↓e_cmp_ne, ↓e_goto, ↓e_iinc6, ↓e_vret, ↓x_18, ↓y_19, ↓y_20, ↓x_24, ↓y_25, ↓y_26, ↓e_nil, b_12_0, b_12_1, b_12_2, b_12_3, b_12_4, b_12_5, ↓ev_12_5]
      exact ⟨fun _ => hfin, fun hq => absurd (by omega) hq⟩
    | succ k ih =>
      intro m hm v f o l hS hl4 v1 v2 v3 v4 v5
      have hm48 : m < 48 := by omega
      have hinv := t_inv (so := so) (rn := rn) (sd := sd t) hok m
      have hle := t_leg_le (so := so) (pa := pa) (lg := lg) (rn := rn) (sd := sd t) m
      rw [hS] at hinv hle
      dsimp only at hinv hle
      obtain ⟨i1, i2, i3, i4, i5⟩ := hinv
      have hl : l < 4 := by omega
      have hnx : t_S so pa lg rn (sd t) (m + 1) = t_nx so pa lg (rn m) (sd t m) (f, l, o) := by rw [t_S_s, hS]
      generalize hg : t_far so pa (rn m) (sd t m) (f, l, o) = g
      have hgr : f ≤ g ∧ g ≤ f + 10 := by
        have hs := t_str_in (so := so l) (own := o) (rn := rn m) (hok.1 l hl)
        rw [← hg]
        unfold t_far
        dsimp only
        split <;> omega
      have hmul : lg * ((l : Int) + 1) = ((l : Int) + 1) * lg := Int.mul_comm _ _
      have hmb : 0 ≤ ((l : Int) + 1) * lg ∧ ((l : Int) + 1) * lg ≤ 240 := by
        rcases (show l = 0 ∨ l = 1 ∨ l = 2 ∨ l = 3 by omega) with rfl | rfl | rfl | rfl <;> simp <;> omega
      -- behind the going
      have hb2 : Ev Ls (Sm Ls (d + 2)) q bk_12 2 [vR P, vI t, vI ((t : Int) * 48), vI g, vI l, vI o, vI m] [] v := by
        have hlgv : (ab_up v (P + 4) ((t : Int) * 48 + m) g) P 6 = lg := by rw [ab_up_p (by omega), v1 P (by omega) (by omega)]; exact hlg
        have u1 : ∀ p, p ≠ P + 4 → p ≠ P + 5 → (ab_up v (P + 4) ((t : Int) * 48 + m) g) p = w p := fun p p1 p2 => by rw [ab_up_ne p1]; exact v1 p p1 p2
        have hadv : lg * ((l : Int) + 1) ≤ g → t_S so pa lg rn (sd t) (m + 1) = (g, l + 1, 0) := fun hge => by
          rw [hnx]; unfold t_nx; dsimp only; rw [if_neg hl4, hg, if_pos hge]
        have hstay : ¬ lg * ((l : Int) + 1) ≤ g → t_S so pa lg rn (sd t) (m + 1) = (g, l, o + 1) := fun hge => by
          rw [hnx]; unfold t_nx; dsimp only; rw [if_neg hl4, hg, if_neg hge]
        have u2 : (t_S so pa lg rn (sd t) (m + 1)).1 = g → ∀ j : Nat, j < m + 1 → (ab_up v (P + 4) ((t : Int) * 48 + m) g) (P + 4) ((t : Int) * 48 + j) = (t_S so pa lg rn (sd t) (j + 1)).1 := fun hgs j hj => by
          by_cases hjm : j = m
          · subst hjm; rw [ab_up_at, hgs]
          · rw [ab_up_nj (by omega)]; exact v2 j (by omega)
        have u4 : ∀ i : Int, ¬ ((t : Int) * 48 ≤ i ∧ i < (t : Int) * 48 + 48) → (ab_up v (P + 4) ((t : Int) * 48 + m) g) (P + 4) i = w (P + 4) i := fun i hi => by rw [ab_up_nj (by omega)]; exact v4 i hi
        have hin1 : (0 ≤ (t : Int) * 48 + m ∧ (t : Int) * 48 + m < 192) := by omega
        have hin2 : (0 ≤ (t : Int) * 4 + l ∧ (t : Int) * 4 + l < 16) := by omega
        -- it stays on its leg
        have hA : g < ((l : Int) + 1) * lg → Ev Ls (Sm Ls (d + 2)) q bk_12 1 [vR P, vI t, vI ((t : Int) * 48), vI g, vI l, vI (o + 1), vI ((m : Int) + 1)] [] (ab_up v (P + 4) ((t : Int) * 48 + m) g) := fun hlt => by
          have hs := hstay (by omega)
          refine ih (m + 1) (by omega) _ g (o + 1) l hs hl4 u1 (u2 (by rw [hs])) (fun l' hl' => ?_) u4 (fun i hi => by rw [ab_up_p (by omega)]; exact v5 i hi)
          rw [ab_up_p (by omega), v3 l' hl', t_E_s, if_neg]
          rw [hs, hS]; dsimp only; omega
        -- the leg is done
        have e3 : ¬ g < ((l : Int) + 1) * lg → ∀ l' : Nat, l' < 4 → (ab_up (ab_up v (P + 4) ((t : Int) * 48 + m) g) (P + 5) ((t : Int) * 4 + l) m) (P + 5) ((t : Int) * 4 + l') = t_E so pa lg rn (sd t) l' (m + 1) := fun hge l' hl' => by
          have hs := hadv (by omega)
          rw [t_E_s, hs, hS]
          dsimp only
          by_cases hll : l' = l
          · subst hll; rw [ab_up_at, if_pos ⟨rfl, rfl⟩]
          · rw [ab_up_nj (by omega), ab_up_p (by omega), v3 l' hl', if_neg (by omega)]
        have hB : ¬ g < ((l : Int) + 1) * lg → ¬ (l : Int) + 1 = 4 → Ev Ls (Sm Ls (d + 2)) q bk_12 1 [vR P, vI t, vI ((t : Int) * 48), vI g, vI ((l : Int) + 1), vI 0, vI ((m : Int) + 1)] [] (ab_up (ab_up v (P + 4) ((t : Int) * 48 + m) g) (P + 5) ((t : Int) * 4 + l) m) := fun hge hl3 => by
          have hs := hadv (by omega)
          refine ih (m + 1) (by omega) _ g 0 (l + 1) hs (by omega) (fun p p1 p2 => by rw [ab_up_ne p2]; exact u1 p p1 p2) (fun j hj => by rw [ab_up_p (by omega)]; exact u2 (by rw [hs]) j hj) (e3 hge) (fun i hi => by rw [ab_up_p (by omega)]; exact u4 i hi) (fun i hi => by rw [ab_up_nj (by omega), ab_up_p (by omega)]; exact v5 i hi)
        have hC : ∀ Q' : Option ab_V → ab_W → Prop, (∀ w', q none w' → Q' none w') → ¬ g < ((l : Int) + 1) * lg → ¬ ¬ (l : Int) + 1 = 4 → Sm Ls (d + 2) 5 [vR (P + 4), vI ((t : Int) * 48 + m), vI ((t : Int) * 48 + 48), vI g] (ab_up (ab_up v (P + 4) ((t : Int) * 48 + m) g) (P + 5) ((t : Int) * 4 + l) m) Q' := fun Q' hQ hge hl3 => by
          have hs := hadv (by omega)
          have hh : (t_S so pa lg rn (sd t) (m + 1)).2.1 = 4 := by rw [hs]; dsimp only; omega
          refine q_fill3 (n := 192) hfar.1 (by omega) (by omega) (by omega) (by omega) (hQ _ (h _ ⟨fun p p1 p2 => ?_, fun j hj => ?_, fun l' hl' => ?_, fun i hi => ?_, fun i hi => ?_⟩))
          · rw [ab_fl_pp p1, ab_up_ne p2]; exact u1 p p1 p2
          · by_cases hjm : m ≤ j
            · rw [ab_fl_in (by omega), t_home_S hh (show m + 1 ≤ j + 1 by omega), hs]
            · rw [ab_fl_out (by omega), ab_up_p (by omega)]; exact u2 (by rw [hs]) j (by omega)
          · rw [ab_fl_p (by omega)]
            show _ = t_E so pa lg rn (sd t) l' 48
            rw [t_home_E hh (show m + 1 ≤ 48 by omega)]
            exact e3 hge l' hl'
          · rw [ab_fl_out (by omega), ab_up_p (by omega)]; exact u4 i hi
          · rw [ab_fl_p (by omega), ab_up_nj (by omega), ab_up_p (by omega)]; exact v5 i hi
        have hl44 : ¬ (l : Int) = 4 := by omega
        obtain ⟨w1, w2, w3, w4, w5, w6, w7, w8⟩ : iW ((t : Int) * 48 + m) = (t : Int) * 48 + m ∧ iW ((l : Int) + 1) = (l : Int) + 1 ∧ iW (((l : Int) + 1) * lg) = ((l : Int) + 1) * lg ∧ iW ((t : Int) * 4) = (t : Int) * 4 ∧ iW ((t : Int) * 4 + l) = (t : Int) * 4 + l ∧ iW (o + 1) = o + 1 ∧ iW ((m : Int) + 1) = (m : Int) + 1 ∧ iW ((t : Int) * 48 + 48) = (t : Int) * 48 + 48 :=
          ⟨iW_id (by omega) (by omega), iW_id (by omega) (by omega), iW_id (by omega) (by omega), iW_id (by omega) (by omega), iW_id (by omega) (by omega), iW_id (by omega) (by omega), iW_id (by omega) (by omega), iW_id (by omega) (by omega)⟩
        rw [ev_12_2]
        clear ih v2 v3 v4 v5 u1 u2 u4 hstay hadv e3
        rcases hP with rfl | rfl
        all_goals
          dsimp only [Nat.reduceAdd] at hA hB hC hlgv
          simp only [↓e_iload1, ↓e_bipush, ↓e_imul, ↓e_istore2, e_klI, e_klR, e_klX, e_klL, ↓e_iconst, ↓e_istore3, ↓e_istore4, ↓e_istore5, ↓e_aload0, ↓g_15_4, ↓g_21_4, ↓e_iadd, e_rpn, e_rps, e_few0, e_few1, e_few2, e_few3, e_few4, ↓e_cs4, ↓e_istore6, ↓e_iload6, ↓e_cmp_ge, ↓g_15_2, ↓g_21_2, ↓e_lshr, ↓e_lconst1, ↓e_land, ↓e_lconst0, ↓e_lcmp, ↓e_if_ne, ↓e_iload3, ↓e_iload4, ↓e_iload5, ↓e_cv4, i_15, i_21, ↓e_iinc5, ↓g_15_3, ↓g_21_3, ↓e_iload2, ↓g_15_6, ↓g_21_6, ↓e_cmp_lt, ↓e_iinc4, ↓e_cmp_ne, ↓e_goto, ↓e_iinc6, ↓e_vret, ↓x_18, ↓y_19, ↓y_20, ↓x_24, ↓y_25, ↓y_26, ↓e_nil, b_12_0, b_12_1, b_12_2, b_12_3, b_12_4, b_12_5, ↓ev_12_3, ↓ev_12_4, ↓ev_12_5, w1, w2, w3, w4, w5, w6, w7, w8, hlgv, hin1, hin2, and_self, true_and]
          refine ⟨fun hq => ⟨fun _ => hA hq, fun h4 => absurd hl44 h4⟩, fun hq => ⟨fun h4 => hB hq h4, fun h4 => ?_⟩⟩
          refine hC _ (fun w' hw => ?_) hq h4
          simp only [e_rpn, e_vret]
          exact hw
      have hb3 : v (P + 3) (t : Int) = w (P + 3) t := by rw [v1 _ (by omega) (by omega)]
      have hbit := hbits m hm48
      have hso' : v (P + 1) ((t : Int) * 4 + l) = so l := by rw [v1 _ (by omega) (by omega)]; exact hso l hl
      have hpa' : v (P + 2) ((t : Int) * 4 + l) = pa l := by rw [v1 _ (by omega) (by omega)]; exact hpa l hl
      have hrn : decide (v P 7 ≤ (m : Int)) = rn m := by rw [v1 _ (by omega) (by omega)]; exact hr2 m hm48
      have hin3 : (0 ≤ (t : Int) ∧ (t : Int) < 4) := by omega
      have hp1 := hok.1 l hl
      have hsg : sd t m = true → g = f := fun hs => by rw [← hg]; unfold t_far; rw [if_pos hs]
      have hgg : sd t m = false → g = f + t_str (so l) (pa l) o (rn m) := fun hs => by rw [← hg]; unfold t_far; rw [if_neg (by rw [hs]; decide)]
      have hgi : iW g = g := iW_id (by omega) (by omega)
      have hcall : sd t m = false → ∀ Q' : Option ab_V → ab_W → Prop, Q' (some (vI (t_str (so l) (pa l) o (rn m)))) v → Sm Ls (d + 2) 13 [vR P, vI ((t : Int) * 4 + l), vI o, vI m] v Q' := fun hs Q' hQ => by
        refine q_stride hP (by clear hgi; omega) (by rw [hpa']; exact hp1) ?_
        rw [hso', hpa', hrn]; exact hQ
      have hnm : ¬ 48 ≤ (m : Int) := by clear hgi; omega
      obtain ⟨w4, w5⟩ : iW ((t : Int) * 4) = (t : Int) * 4 ∧ iW ((t : Int) * 4 + l) = (t : Int) * 4 + l := ⟨iW_id (by clear hgi; omega) (by clear hgi; omega), iW_id (by clear hgi; omega) (by clear hgi; omega)⟩
      rw [ev_12_1]
      clear ih v2 v3 v4 v5 hok hbits
      rcases hP with rfl | rfl
      all_goals
        dsimp only [Nat.reduceAdd] at hb3 hbit hcall
        simp only [↓e_iload1, ↓e_bipush, ↓e_imul, ↓e_istore2, e_klI, e_klR, e_klX, e_klL, ↓e_iconst, ↓e_istore3, ↓e_istore4, ↓e_istore5, ↓e_aload0, ↓g_15_4, ↓g_21_4, ↓e_iadd, e_rpn, e_rps, e_few0, e_few1, e_few2, e_few3, e_few4, ↓e_cs4, ↓e_istore6, ↓e_iload6, ↓e_cmp_ge, ↓g_15_2, ↓g_21_2, ↓e_lshr, ↓e_lconst1, ↓e_land, ↓e_lconst0, ↓e_lcmp, ↓e_if_ne, ↓e_iload3, ↓e_iload4, ↓e_iload5, ↓e_cv4, i_15, i_21, ↓e_iinc5, ↓g_15_3, ↓g_21_3, ↓e_iload2, ↓g_15_6, ↓g_21_6, ↓e_cmp_lt, ↓e_iinc4, ↓e_cmp_ne, ↓e_goto, ↓e_iinc6, ↓e_vret, ↓x_18, ↓y_19, ↓y_20, ↓x_24, ↓y_25, ↓y_26, ↓e_nil, b_12_0, b_12_1, b_12_2, b_12_3, b_12_4, b_12_5, hnm, hin3, and_self, true_and, false_implies, not_false_eq_true, true_implies, hb3, hbit, w4, w5]
        cases hs : sd t m with
        | true =>
          rw [hsg hs] at hb2
          exact ⟨fun _ => hb2, fun hq => absurd (by decide) hq⟩
        | false =>
          refine ⟨fun hq => absurd (by decide) hq, fun _ => hcall hs _ ?_⟩
          simp only [↓e_iload1, ↓e_bipush, ↓e_imul, ↓e_istore2, e_klI, e_klR, e_klX, e_klL, ↓e_iconst, ↓e_istore3, ↓e_istore4, ↓e_istore5, ↓e_aload0, ↓g_15_4, ↓g_21_4, ↓e_iadd, e_rpn, e_rps, e_few0, e_few1, e_few2, e_few3, e_few4, ↓e_cs4, ↓e_istore6, ↓e_iload6, ↓e_cmp_ge, ↓g_15_2, ↓g_21_2, ↓e_lshr, ↓e_lconst1, ↓e_land, ↓e_lconst0, ↓e_lcmp, ↓e_if_ne, ↓e_iload3, ↓e_iload4, ↓e_iload5, ↓e_cv4, i_15, i_21, ↓e_iinc5, ↓g_15_3, ↓g_21_3, ↓e_iload2, ↓g_15_6, ↓g_21_6, ↓e_cmp_lt, ↓e_iinc4, ↓e_cmp_ne, ↓e_goto, ↓e_iinc6, ↓e_vret, ↓x_18, ↓y_19, ↓y_20, ↓x_24, ↓y_25, ↓y_26, ↓e_nil, b_12_0, b_12_1, b_12_2, b_12_3, b_12_4, b_12_5]
          rw [← hgg hs, hgi]
          exact hb2
  have h0 : Ev Ls (Sm Ls (d + 2)) q bk_12 1 [vR P, vI t, vI ((t : Int) * 48), vI 0, vI 0, vI 0, vI 0] [] (ab_fl w (P + 5) ((t : Int) * 4) ((t : Int) * 4 + 4) (-1)) := by
    refine key 48 0 (by omega) _ 0 0 0 rfl (by omega) (fun p p1 p2 => ab_fl_pp p2) (fun j hj => by omega) (fun l hl => ?_) (fun i hi => ab_fl_p (by omega)) (fun i hi => ab_fl_out hi)
    rw [ab_fl_in (by omega)]; rfl
  have hcall : ∀ Q' : Option ab_V → ab_W → Prop, Q' none (ab_fl w (P + 5) ((t : Int) * 4) ((t : Int) * 4 + 4) (-1)) → Sm Ls (d + 2) 5 [vR (P + 5), vI ((t : Int) * 4), vI ((t : Int) * 4 + 4), vI (-1)] w Q' := fun Q' hQ => q_fill3 (n := 16) hfar.2 (by omega) (by omega) (by omega) (by omega) hQ
  obtain ⟨w1, w2, w3⟩ : iW ((t : Int) * 48) = (t : Int) * 48 ∧ iW ((t : Int) * 4) = (t : Int) * 4 ∧ iW ((t : Int) * 4 + 4) = (t : Int) * 4 + 4 := ⟨iW_id (by omega) (by omega), iW_id (by omega) (by omega), iW_id (by omega) (by omega)⟩
  rw [en_12]
  clear key
  rcases hP with rfl | rfl
  all_goals
    dsimp only [Nat.reduceAdd] at h0 hcall
    simp only [↓e_iload1, ↓e_bipush, ↓e_imul, ↓e_istore2, e_klI, e_klR, e_klX, e_klL, ↓e_iconst, ↓e_istore3, ↓e_istore4, ↓e_istore5, ↓e_aload0, ↓g_15_4, ↓g_21_4, ↓e_iadd, e_rpn, e_rps, e_few0, e_few1, e_few2, e_few3, e_few4, ↓e_cs4, ↓e_istore6, ↓e_iload6, ↓e_cmp_ge, ↓g_15_2, ↓g_21_2, ↓e_lshr, ↓e_lconst1, ↓e_land, ↓e_lconst0, ↓e_lcmp, ↓e_if_ne, ↓e_iload3, ↓e_iload4, ↓e_iload5, ↓e_cv4, i_15, i_21, ↓e_iinc5, ↓g_15_3, ↓g_21_3, ↓e_iload2, ↓g_15_6, ↓g_21_6, ↓e_cmp_lt, ↓e_iinc4, ↓e_cmp_ne, ↓e_goto, ↓e_iinc6, ↓e_vret, ↓x_18, ↓y_19, ↓y_20, ↓x_24, ↓y_25, ↓y_26, ↓e_nil, b_12_0, b_12_1, b_12_2, b_12_3, b_12_4, b_12_5, w1, w2, w3, true_and]
    exact hcall _ h0
end RunTeam23
