/-! the class's races: all teams, one race like another, what was seen -/
/-- runners: sorts and paces of the race at P -/
def c_run (P : Nat) (w : ab_W) (T : Nat) (so pa : Nat → Nat → Int) : Prop := ∀ t : Nat, t < T → ∀ l : Nat, l < 4 → w (P + 1) ((t : Int) * 4 + l) = so t l ∧ w (P + 2) ((t : Int) * 4 + l) = pa t l
/-- how far, and when legs end, of a race with these runners, this length, this rain and these stops -/
def z_F (so pa : Nat → Nat → Int) (lg : Int) (rn : Nat → Bool) (sd : Nat → Nat → Bool) (t m : Nat) : Int := (t_S (so t) (pa t) lg rn (sd t) (m + 1)).1
def z_E (so pa : Nat → Nat → Int) (lg : Int) (rn : Nat → Bool) (sd : Nat → Nat → Bool) (t l : Nat) : Int := t_E (so t) (pa t) lg rn (sd t) l 48
def z_ok (T : Nat) (pa : Nat → Nat → Int) (lg : Int) : Prop := T ≤ 4 ∧ 10 ≤ lg ∧ lg ≤ 60 ∧ ∀ t, t < T → ∀ l, l < 4 → 1 ≤ pa t l ∧ pa t l ≤ 9
theorem z_t_ok {T : Nat} {pa : Nat → Nat → Int} {lg : Int} (h : z_ok T pa lg) {t : Nat} (ht : t < T) : t_ok (pa t) lg := ⟨h.2.2.2 t ht, h.2.1, h.2.2.1⟩
theorem z_r_ok {T : Nat} {so pa : Nat → Nat → Int} {lg : Int} {rn : Nat → Bool} {sd : Nat → Nat → Bool} (h : z_ok T pa lg) : r_ok (z_F so pa lg rn sd) (Eh (z_E so pa lg rn sd)) T := by
  refine ⟨h.1, fun t ht => ⟨fun m hm => ?_, ?_⟩⟩
  · have := t_inv (so := so t) (rn := rn) (sd := sd t) (z_t_ok h ht) (m + 1)
    exact ⟨this.1, this.2.2.1⟩
  · have := t_E_in (so := so t) (pa := pa t) (lg := lg) (rn := rn) (sd := sd t) 3 48
    show -1 ≤ t_E (so t) (pa t) lg rn (sd t) 3 48 ∧ t_E (so t) (pa t) lg rn (sd t) 3 48 ≤ 47
    omega
section Races25
variable {Ls d : Nat} {w : ab_W} {q : Option ab_V → ab_W → Prop} {P T : Nat}
/-- only metres and ends of the race at P have changed -/
def c_fr (P : Nat) (w w' : ab_W) : Prop := ∀ p, p ≠ P + 4 → p ≠ P + 5 → w' p = w p
theorem q_runAll (hP : P = 15 ∨ P = 21) {so pa : Nat → Nat → Int} {lg : Int} {rn : Nat → Bool} {sd : Nat → Nat → Bool} (hc : c_cond P w lg rn sd) (hru : c_run P w T so pa) (hok : z_ok T pa lg) (hteams : w P 5 = T)
    (h : ∀ w', c_fr P w w' → c_race P w' T (z_F so pa lg rn sd) (z_E so pa lg rn sd) → q none w') : Sm Ls (d + 4) 11 [vR P] w q := by
  have hT := hok.1
  have key : ∀ (k o : Nat), o + k = T → ∀ v : ab_W, c_fr P w v → (∀ t : Nat, t < o → (∀ m : Nat, m < 48 → v (P + 4) ((t : Int) * 48 + m) = z_F so pa lg rn sd t m) ∧ ∀ l : Nat, l < 4 → v (P + 5) ((t : Int) * 4 + l) = z_E so pa lg rn sd t l) → Ev Ls (Sm Ls (d + 3)) q bk_11 1 [vR P, vI o] [] v := by
    intro k
    induction k with
    | zero =>
      intro o ho v v1 v2
      have : o = T := by omega
      subst this
      have hvT : v P 5 = (o : Int) := by rw [v1 P (by omega) (by omega)]; exact hteams
      have hfin := h v v1 ⟨hvT, v2⟩
      rw [ev_11_1]
      rcases hP with rfl | rfl
      all_goals
        simp only [↓e_iconst, ↓e_istore1, e_klI, e_klR, e_klX, e_klL, ↓e_iload1, ↓e_aload0, ↓g_15_5, ↓g_21_5, ↓e_cmp_ge, ↓e_cv2, i_15, i_21, e_rpn, e_rps, e_few0, e_few1, e_few2, e_few3, e_few4, ↓e_iinc1, ↓e_goto, ↓e_vret, ↓e_nil, b_11_0, b_11_1, b_11_2, ↓ev_11_2, hvT]
        exact ⟨fun _ => hfin, fun z => absurd (Int.le_refl _) z⟩
    | succ k ih =>
      intro o ho v v1 v2
      have hvT : v P 5 = (T : Int) := by rw [v1 P (by omega) (by omega)]; exact hteams
      have hno : ¬ (T : Int) ≤ (o : Int) := by omega
      have hcv : c_cond P v lg rn sd := by
        obtain ⟨c1, c2, c3, c4⟩ := hc
        refine ⟨?_, ?_, ?_, ?_⟩
        · rw [v1 P (by omega) (by omega)]; exact c1
        · rw [v1 P (by omega) (by omega)]; exact c2
        · rw [v1 P (by omega) (by omega)]; exact c3
        · rw [v1 (P + 3) (by omega) (by omega)]; exact c4
      have hcall : ∀ Q' : Option ab_V → ab_W → Prop, (∀ v', c_fr P w v' → (∀ t : Nat, t < o + 1 → (∀ m : Nat, m < 48 → v' (P + 4) ((t : Int) * 48 + m) = z_F so pa lg rn sd t m) ∧ ∀ l : Nat, l < 4 → v' (P + 5) ((t : Int) * 4 + l) = z_E so pa lg rn sd t l) → Q' none v') → Sm Ls (d + 3) 12 [vR P, vI o] v Q' := fun Q' hQ => by
        refine q_runTeam hP (show o < 4 by omega) hcv (so := so o) (pa := pa o) (fun l hl => ?_) (fun l hl => ?_) (z_t_ok hok (show o < T by omega)) (fun v' hr => hQ v' (fun p p1 p2 => ?_) (fun t ht => ?_))
        · rw [v1 _ (by omega) (by omega)]; exact (hru o (by omega) l hl).1
        · rw [v1 _ (by omega) (by omega)]; exact (hru o (by omega) l hl).2
        · rw [hr.1 p p1 p2]; exact v1 p p1 p2
        · obtain ⟨r1, r2, r3, r4, r5⟩ := hr
          by_cases hto : t = o
          · subst hto; exact ⟨r2, r3⟩
          · refine ⟨fun m hm => ?_, fun l hl => ?_⟩
            · rw [r4 _ (by omega)]; exact (v2 t (by omega)).1 m hm
            · rw [r5 _ (by omega)]; exact (v2 t (by omega)).2 l hl
      have w1 : iW ((o : Int) + 1) = (o : Int) + 1 := iW_id (by omega) (by omega)
      rw [ev_11_1]
      rcases hP with rfl | rfl
      all_goals
        simp only [↓e_iconst, ↓e_istore1, e_klI, e_klR, e_klX, e_klL, ↓e_iload1, ↓e_aload0, ↓g_15_5, ↓g_21_5, ↓e_cmp_ge, ↓e_cv2, i_15, i_21, e_rpn, e_rps, e_few0, e_few1, e_few2, e_few3, e_few4, ↓e_iinc1, ↓e_goto, ↓e_vret, ↓e_nil, b_11_0, b_11_1, b_11_2, hvT, hno, false_implies, not_false_eq_true, true_implies, true_and]
        refine hcall _ (fun v' h1 h2 => ?_)
        simp only [↓e_iconst, ↓e_istore1, e_klI, e_klR, e_klX, e_klL, ↓e_iload1, ↓e_aload0, ↓g_15_5, ↓g_21_5, ↓e_cmp_ge, ↓e_cv2, i_15, i_21, e_rpn, e_rps, e_few0, e_few1, e_few2, e_few3, e_few4, ↓e_iinc1, ↓e_goto, ↓e_vret, ↓e_nil, b_11_0, b_11_1, b_11_2, w1]
        exact ih (o + 1) (by clear w1; omega) v' h1 h2
  have h0 := key T 0 (by omega) w (fun _ _ _ => rfl) (fun t ht => by omega)
  rw [en_11]
  simp only [↓e_iconst, ↓e_istore1, e_klI, e_klR, e_klX, e_klL, ↓e_iload1, ↓e_aload0, ↓g_15_5, ↓g_21_5, ↓e_cmp_ge, ↓e_cv2, i_15, i_21, e_rpn, e_rps, e_few0, e_few1, e_few2, e_few3, e_few4, ↓e_iinc1, ↓e_goto, ↓e_vret, ↓e_nil, b_11_0, b_11_1, b_11_2]
  exact h0
/-- the trial has become like the told race -/
def c_took (w w' : ab_W) : Prop := (∀ p, (p < 21 ∨ 26 < p) → w' p = w p) ∧ (w' 21 5 = w 15 5 ∧ w' 21 6 = w 15 6 ∧ w' 21 7 = w 15 7) ∧ (∀ j, 0 ≤ j ∧ j < 16 → w' 22 j = w 16 j) ∧ (∀ j, 0 ≤ j ∧ j < 16 → w' 23 j = w 17 j) ∧ (∀ j, 0 ≤ j ∧ j < 4 → w' 24 j = w 18 j) ∧ (∀ j, 0 ≤ j ∧ j < 192 → w' 25 j = w 19 j) ∧ (∀ j, 0 ≤ j ∧ j < 16 → w' 26 j = w 20 j)
theorem q_takeRace (h : ∀ w', c_took w w' → q none w') : Sm Ls (d + 2) 7 [vR 21, vR 15] w q := by
  rw [en_7]
  simp only [↓e_aload0, ↓e_aload1, ↓g_15_5, ↓g_21_5, ↓p_15_5, ↓p_21_5, ↓g_15_6, ↓g_21_6, ↓p_15_6, ↓p_21_6, ↓g_15_7, ↓g_21_7, ↓p_15_7, ↓p_21_7, ↓g_15_0, ↓g_21_0, ↓e_iconst, e_rpn, e_rps, e_few0, e_few1, e_few2, e_few3, e_few4, ↓e_copy, ↓e_999, ↓g_15_1, ↓g_21_1, ↓g_15_2, ↓g_21_2, ↓g_15_3, ↓g_21_3, ↓g_15_4, ↓g_21_4, ↓e_vret, ↓n_16, ↓n_17, ↓n_18, ↓n_19, ↓n_20, ↓n_22, ↓n_23, ↓n_24, ↓n_25, ↓n_26, ↓e_nil, b_7_0, n_22, n_23, n_24, n_25, n_26, true_and]
  refine ⟨⟨0, 16, 16, Or.inl rfl, rfl, rfl, by decide, by decide, by decide, by decide, by decide⟩, ⟨0, 16, 16, Or.inl rfl, rfl, rfl, by decide, by decide, by decide, by decide, by decide⟩, ⟨1, 4, 4, Or.inr rfl, rfl, rfl, by decide, by decide, by decide, by decide, by decide⟩, ⟨0, 192, 192, Or.inl rfl, rfl, rfl, by decide, by decide, by decide, by decide, by decide⟩, ⟨0, 16, 16, Or.inl rfl, rfl, rfl, by decide, by decide, by decide, by decide, by decide⟩, h _ ⟨fun p hp => ?_, ⟨?_, ?_, ?_⟩, fun j hj => ?_, fun j hj => ?_, fun j hj => ?_, fun j hj => ?_, fun j hj => ?_⟩⟩
  · rw [ab_cp_ne (by omega), ab_cp_ne (by omega), ab_cp_ne (by omega), ab_cp_ne (by omega), ab_cp_ne (by omega), ab_up_ne (by omega), ab_up_ne (by omega), ab_up_ne (by omega)]
  all_goals simp [ab_cp, ab_up]
  all_goals omega
theorem q_takeRunner {t : Nat} (ht : t < 4) {a b : Int} (ha : 0 ≤ a ∧ a < 4) (hb : 0 ≤ b ∧ b < 4) (h : q none (ab_up (ab_up w 22 ((t : Int) * 4 + a) (w 16 ((t : Int) * 4 + b))) 23 ((t : Int) * 4 + a) (w 17 ((t : Int) * 4 + b)))) : Sm Ls (d + 1) 8 [vR 21, vR 15, vI t, vI a, vI b] w q := by
  have h1 : 0 ≤ (t : Int) * 4 + a ∧ (t : Int) * 4 + a < 16 := by omega
  have h2 : 0 ≤ (t : Int) * 4 + b ∧ (t : Int) * 4 + b < 16 := by omega
  obtain ⟨w1, w2, w3⟩ : iW ((t : Int) * 4) = (t : Int) * 4 ∧ iW ((t : Int) * 4 + a) = (t : Int) * 4 + a ∧ iW ((t : Int) * 4 + b) = (t : Int) * 4 + b := ⟨iW_id (by omega) (by omega), iW_id (by omega) (by omega), iW_id (by omega) (by omega)⟩
  rw [en_8]
  simp only [↓e_aload0, ↓g_15_0, ↓g_21_0, ↓e_iload2, ↓e_iconst, ↓e_imul, ↓e_iload3, ↓e_iadd, ↓e_aload1, ↓e_iload4, ↓g_15_1, ↓g_21_1, ↓e_vret, ↓x_16, ↓y_16, ↓x_17, ↓y_17, ↓x_22, ↓y_22, ↓x_23, ↓y_23, ↓e_nil, b_8_0, w1, w2, w3, h1, h2, and_self, true_and]
  rw [ab_up_p (by omega)]
  exact h
/-- all that was seen comes out so -/
def r_seen (F : Nat → Nat → Int) (H : Nat → Int) (T : Nat) (n : Nat) (sm st sr : Nat → Int) : Prop := ∀ k, k < n → st k < T ∧ r_rk F H (st k).toNat (sm k).toNat T = sr k
def s_ok (n : Nat) (sm st sr : Nat → Int) : Prop := n ≤ 8 ∧ ∀ k, k < n → (0 ≤ sm k ∧ sm k ≤ 47) ∧ (0 ≤ st k ∧ st k ≤ 3) ∧ (0 ≤ sr k ∧ sr k ≤ 3)
theorem q_comesOut (hP : P = 15 ∨ P = 21) {F E : Nat → Nat → Int} (hr : c_race P w T F E) (hok : r_ok F (Eh E) T) {n : Nat} {sm st sr : Nat → Int} (hs : c_ev 7 w n sm st sr) (hsok : s_ok n sm st sr) (h : ab_yn (r_seen F (Eh E) T n sm st sr) q w) : Sm Ls (d + 4) 22 [vR P, vR 7] w q := by
  have hteams := hr.1
  have hT := hok.1
  have hn8 := hsok.1
  have hsz := hs.1
  have key : ∀ (k o : Nat), o + k = n → (∀ j, j < o → st j < T ∧ r_rk F (Eh E) (st j).toNat (sm j).toNat T = sr j) → ∀ x : ab_V, Ev Ls (Sm Ls (d + 3)) q bk_22 1 [vR P, vR 7, vI o, x] [] w := by
    intro k
    induction k with
    | zero =>
      intro o ho hall x
      have : o = n := by omega
      subst this
      have hfin := h.1 hall
      rw [ev_22_1]
      rcases hP with rfl | rfl
      all_goals
        simp only [↓e_iconst, ↓e_istore2, e_klI, e_klR, e_klX, e_klL, ↓e_iload2, ↓e_aload1, ↓g_3_3, ↓g_7_3, ↓g_11_3, ↓e_cmp_ge, ↓g_3_1, ↓g_7_1, ↓g_11_1, ↓e_istore3, ↓e_iload3, ↓e_aload0, ↓g_15_5, ↓g_21_5, ↓g_3_0, ↓g_7_0, ↓g_11_0, ↓e_cv3, i_15, i_21, e_rpn, e_rps, e_few0, e_few1, e_few2, e_few3, e_few4, ↓g_3_2, ↓g_7_2, ↓g_11_2, ↓e_cmp_eq, ↓e_zret, ↓e_iinc2, ↓e_goto, ↓x_4, ↓x_5, ↓x_6, ↓x_8, ↓x_9, ↓x_10, ↓x_12, ↓x_13, ↓x_14, ↓e_nil, b_22_0, b_22_1, b_22_2, b_22_3, b_22_4, ↓ev_22_4, hsz]
        exact ⟨fun _ => ⟨Or.inr trivial, hfin⟩, fun z => absurd (Int.le_refl _) z⟩
    | succ k ih =>
      intro o ho hall x
      obtain ⟨e1, e2, e3⟩ := hs.2 o (by omega)
      obtain ⟨s1, s2, s3⟩ := hsok.2 o (by omega)
      have e1 : w 8 o = sm o := e1
      have e2 : w 9 o = st o := e2
      have e3 : w 10 o = sr o := e3
      have hno : ¬ (n : Int) ≤ (o : Int) := by omega
      have hin : 0 ≤ (o : Int) ∧ (o : Int) < 8 := by omega
      obtain ⟨a, ha⟩ : ∃ a : Nat, st o = (a : Int) := ⟨(st o).toNat, by omega⟩
      obtain ⟨b, hb⟩ : ∃ b : Nat, sm o = (b : Int) := ⟨(sm o).toNat, by omega⟩
      have hbad : ¬ (st o < T ∧ r_rk F (Eh E) (st o).toNat (sm o).toNat T = sr o) → q (some (vI 0)) w := fun hz => h.2 (fun hall2 => hz (hall2 o (by omega)))
      rw [ha, hb, Int.toNat_natCast, Int.toNat_natCast] at hbad
      have hgood : ((a : Int) < T ∧ r_rk F (Eh E) a b T = sr o) → ∀ y : ab_V, Ev Ls (Sm Ls (d + 3)) q bk_22 1 [vR P, vR 7, vI ((o : Int) + 1), y] [] w := fun hz y => ih (o + 1) (by omega) (fun j hj => by
        by_cases hjo : j = o
        · subst hjo; rw [ha, hb, Int.toNat_natCast, Int.toNat_natCast]; exact hz
        · exact hall j (by omega)) y
      have hcall : (a : Int) < T → ∀ Q' : Option ab_V → ab_W → Prop, Q' (some (vI (r_rk F (Eh E) a b T))) w → Sm Ls (d + 3) 19 [vR P, vI (a : Int), vI (b : Int)] w Q' := fun hz Q' hQ => q_rankAt hP hr hok (by omega) (by omega) hQ
      have w1 : iW ((o : Int) + 1) = (o : Int) + 1 := iW_id (by omega) (by omega)
      rw [ha] at e2
      rw [hb] at e1
      rw [ev_22_1]
      rcases hP with rfl | rfl
      all_goals
        simp only [↓e_iconst, ↓e_istore2, e_klI, e_klR, e_klX, e_klL, ↓e_iload2, ↓e_aload1, ↓g_3_3, ↓g_7_3, ↓g_11_3, ↓e_cmp_ge, ↓g_3_1, ↓g_7_1, ↓g_11_1, ↓e_istore3, ↓e_iload3, ↓e_aload0, ↓g_15_5, ↓g_21_5, ↓g_3_0, ↓g_7_0, ↓g_11_0, ↓e_cv3, i_15, i_21, e_rpn, e_rps, e_few0, e_few1, e_few2, e_few3, e_few4, ↓g_3_2, ↓g_7_2, ↓g_11_2, ↓e_cmp_eq, ↓e_zret, ↓e_iinc2, ↓e_goto, ↓x_4, ↓x_5, ↓x_6, ↓x_8, ↓x_9, ↓x_10, ↓x_12, ↓x_13, ↓x_14, ↓e_nil, b_22_0, b_22_1, b_22_2, b_22_3, b_22_4, ↓ev_22_2, hsz, hno, hteams, hin, e1, e2, e3, and_self, false_implies, not_false_eq_true, true_implies, true_and]
        refine ⟨fun hz => ⟨Or.inl trivial, hbad (by clear w1; omega)⟩, fun hz => hcall (by clear w1; omega) _ ?_⟩
        simp only [↓e_iconst, ↓e_istore2, e_klI, e_klR, e_klX, e_klL, ↓e_iload2, ↓e_aload1, ↓g_3_3, ↓g_7_3, ↓g_11_3, ↓e_cmp_ge, ↓g_3_1, ↓g_7_1, ↓g_11_1, ↓e_istore3, ↓e_iload3, ↓e_aload0, ↓g_15_5, ↓g_21_5, ↓g_3_0, ↓g_7_0, ↓g_11_0, ↓e_cv3, i_15, i_21, e_rpn, e_rps, e_few0, e_few1, e_few2, e_few3, e_few4, ↓g_3_2, ↓g_7_2, ↓g_11_2, ↓e_cmp_eq, ↓e_zret, ↓e_iinc2, ↓e_goto, ↓x_4, ↓x_5, ↓x_6, ↓x_8, ↓x_9, ↓x_10, ↓x_12, ↓x_13, ↓x_14, ↓e_nil, b_22_0, b_22_1, b_22_2, b_22_3, b_22_4, ↓ev_22_2, ↓ev_22_3, hin, e3, and_self, true_and, w1]
        refine ⟨fun hy => hgood ⟨by clear w1; omega, hy⟩ _, fun hy => ⟨Or.inl trivial, hbad (fun hx => hy hx.2)⟩⟩
  have h0 := key n 0 (by omega) (fun j hj => by omega) vX
  rw [en_22]
  simp only [↓e_iconst, ↓e_istore2, e_klI, e_klR, e_klX, e_klL, ↓e_iload2, ↓e_aload1, ↓g_3_3, ↓g_7_3, ↓g_11_3, ↓e_cmp_ge, ↓g_3_1, ↓g_7_1, ↓g_11_1, ↓e_istore3, ↓e_iload3, ↓e_aload0, ↓g_15_5, ↓g_21_5, ↓g_3_0, ↓g_7_0, ↓g_11_0, ↓e_cv3, i_15, i_21, e_rpn, e_rps, e_few0, e_few1, e_few2, e_few3, e_few4, ↓g_3_2, ↓g_7_2, ↓g_11_2, ↓e_cmp_eq, ↓e_zret, ↓e_iinc2, ↓e_goto, ↓x_4, ↓x_5, ↓x_6, ↓x_8, ↓x_9, ↓x_10, ↓x_12, ↓x_13, ↓x_14, ↓e_nil, b_22_0, b_22_1, b_22_2, b_22_3, b_22_4]
  exact h0
end Races25
