/-! the model runs a race -/
section MRuns31
variable {Ls d : Nat} {w : ab_W} {q : Option ab_V → ab_W → Prop} {n s : Nat} {ek ew en : Nat → Int} {lg : Int}
theorem m_now.kept {v : ab_W} (h : m_now w n ek ew en s lg) (hv : ∀ p, p < 50 → v p = w p) : m_now v n ek ew en s lg := by
  obtain ⟨a1, a2, a3, a4⟩ := h
  unfold m_now
  rw [hv 39 (by omega), hv 46 (by omega), hv 47 (by omega), hv 48 (by omega)]
  exact ⟨a1, a2, a3, a4⟩
theorem m_cfg.kept {v : ab_W} {T : Nat} {so pa : Nat → Nat → Int} (h : m_cfg w T so pa) (hv : ∀ p, p < 50 → v p = w p) : m_cfg v T so pa := by
  unfold m_cfg
  rw [hv 39 (by omega), hv 49 (by omega), hv 41 (by omega), hv 42 (by omega)]
  exact h
theorem m_team.kept {v : ab_W} {t m : Nat} {so pa : Nat → Int} {rn sd : Nat → Bool} (h : m_team w t so pa lg rn sd m) (hv : v 50 t = w 50 t ∧ v 51 t = w 51 t ∧ v 52 t = w 52 t ∧ v 53 t = w 53 t ∧ v 54 t = w 54 t ∧ ∀ l : Nat, l < 4 → v 55 (4 * (t : Int) + l) = w 55 (4 * (t : Int) + l)) : m_team v t so pa lg rn sd m := by
  obtain ⟨a1, a2, a3, a4, a5, a6⟩ := h
  obtain ⟨b1, b2, b3, b4, b5, b6⟩ := hv
  exact ⟨b1.trans a1, b2.trans a2, b3.trans a3, b4.trans a4, b5.trans a5, fun l hl => (b6 l hl).trans (a6 l hl)⟩
def z_L (so pa : Nat → Nat → Int) (lg : Int) (rn : Nat → Bool) (sd : Nat → Nat → Bool) (t m : Nat) : Int := (t_S (so t) (pa t) lg rn (sd t) (m + 1)).2.1
/-- the rows behind moment m -/
def m_row (w : ab_W) (T : Nat) (so pa : Nat → Nat → Int) (lg : Int) (rn : Nat → Bool) (sd : Nat → Nat → Bool) (m t : Nat) : Prop :=
  w 56 (4 * (m : Int) + t) = z_F so pa lg rn sd t m ∧ w 57 (4 * (m : Int) + t) = z_L so pa lg rn sd t m ∧ w 58 (4 * (m : Int) + t) = r_rk (z_F so pa lg rn sd) (Eh (z_E so pa lg rn sd)) t m T
set_option maxHeartbeats 4000000 in
theorem q_goesBy {T m : Nat} {so pa : Nat → Nat → Int} {rn : Nat → Bool} {sd : Nat → Nat → Bool} (hn : m_now w n ek ew en s lg) (hok : e_ok n ek ew en) (hrn : rn m = e_rn ek ew s m n) (hsd : ∀ t, t < T → sd t m = e_sd ek ew en s t m n) (hcf : m_cfg w T so pa) (hz : z_ok T pa lg) (hm : m < 48)
    (hall : ∀ t, t < T → m_team w t (so t) (pa t) lg rn (sd t) m)
    (h : ∀ w', (∀ p, p < 50 ∨ 58 < p → w' p = w p) → (∀ t, t < T → m_team w' t (so t) (pa t) lg rn (sd t) (m + 1)) → (∀ t, t < T → m_row w' T so pa lg rn sd m t) → (∀ i : Int, ¬ (4 * (m : Int) ≤ i ∧ i < 4 * (m : Int) + 4) → w' 56 i = w 56 i ∧ w' 57 i = w 57 i ∧ w' 58 i = w 58 i) → (∀ u : Nat, T ≤ u → w' 50 u = w 50 u) → q none w') : Sm Ls (d + 4) 131 [vR 39, vI m] w q := by
  have hT4 := hz.1
  have hrok := z_r_ok (so := so) (rn := rn) (sd := sd) hz
  -- the second loop
  have second : ∀ (v : ab_W) (r : Int), (∀ p, p < 50 ∨ 55 < p → v p = w p) → (∀ t, t < T → m_team v t (so t) (pa t) lg rn (sd t) (m + 1)) → (∀ u : Nat, T ≤ u → v 50 u = w 50 u) →
      ∀ (k t : Nat), t + k = T → ∀ (x : ab_W) (y z : ab_V), (∀ p, p < 56 ∨ 58 < p → x p = v p) → (∀ u, u < t → m_row x T so pa lg rn sd m u) → (∀ i : Int, ¬ (4 * (m : Int) ≤ i ∧ i < 4 * (m : Int) + 4) → x 56 i = w 56 i ∧ x 57 i = w 57 i ∧ x 58 i = w 58 i) → Ev Ls (Sm Ls (d + 3)) q bk_131 4 [vR 39, vI m, vI r, vI t, y, z] [] x := by
    intro v r v1 v2 v3 k
    induction k with
    | zero =>
      intro t ht x y z x1 x2 x3
      have : t = T := by omega
      subst this
      have hfin := h x (fun p hp => by rw [x1 p (by omega)]; exact v1 p (by omega)) (fun u hu => (v2 u hu).kept (by rw [x1 50 (by omega), x1 51 (by omega), x1 52 (by omega), x1 53 (by omega), x1 54 (by omega), x1 55 (by omega)]; exact ⟨rfl, rfl, rfl, rfl, rfl, fun _ _ => rfl⟩)) x2 x3 (fun u hu => by rw [x1 50 (by omega)]; exact v3 u hu)
      have hxT : x 39 2 = (t : Int) := by rw [x1 39 (by omega), v1 39 (by omega)]; exact hcf.1
      rw [ev_131_4]
      simp only [↓e_aload0, ↓e_iload1, ↓e_cv2, i_39, e_rpn, e_rps, e_few0, e_few1, e_few2, e_few3, e_few4, ↓e_istore2, e_klI, e_klR, e_klX, e_klL, ↓e_iconst, ↓e_istore3, ↓e_iload3, ↓g_39_2, ↓e_cmp_ge, ↓g_39_20, ↓e_cmp_ne, ↓e_iload2, ↓e_cv4, ↓e_iinc3, ↓e_goto, ↓e_istore4, ↓e_istore5, ↓e_iload5, ↓e_iload4, ↓e_cmp_eq, ↓e_cv3, ↓e_if_eq, ↓e_iadd, ↓e_iinc5, ↓g_39_23, ↓e_imul, ↓g_39_17, ↓g_39_24, ↓g_39_18, ↓g_39_25, ↓e_vret, ↓x_50, ↓y_50, ↓x_51, ↓y_51, ↓x_53, ↓y_53, ↓x_56, ↓y_56, ↓x_57, ↓y_57, ↓x_58, ↓y_58, ↓e_nil, b_131_0, b_131_1, b_131_2, b_131_3, b_131_4, b_131_5, b_131_6, b_131_7, b_131_8, b_131_9, ↓ev_131_9, hxT]
      exact ⟨fun _ => hfin, fun z => absurd (Int.le_refl _) z⟩
    | succ k ih =>
      intro t ht x y z x1 x2 x3
      have hxT : x 39 2 = (T : Int) := by rw [x1 39 (by omega), v1 39 (by omega)]; exact hcf.1
      have hno : ¬ (T : Int) ≤ (t : Int) := by omega
      have hx : ∀ u, u < T → x 50 u = z_F so pa lg rn sd u m ∧ x 51 u = z_L so pa lg rn sd u m ∧ x 53 u = (if Eh (z_E so pa lg rn sd) u ≠ -1 ∧ Eh (z_E so pa lg rn sd) u ≤ m then Eh (z_E so pa lg rn sd) u else -1) := fun u hu => by
        obtain ⟨a1, a2, a3, a4, a5, a6⟩ := v2 u hu
        rw [x1 50 (by omega), x1 51 (by omega), x1 53 (by omega)]
        refine ⟨a1, a2, a4.trans ?_⟩
        exact t_E_end hm
      -- the ranks
      have inner : ∀ (k2 o : Nat), o + k2 = T → Ev Ls (Sm Ls (d + 3)) q bk_131 5 [vR 39, vI m, vI r, vI t, vI (r_rk (z_F so pa lg rn sd) (Eh (z_E so pa lg rn sd)) t m o), vI o] [] x := by
        intro k2
        induction k2 with
        | zero =>
          intro o ho
          have : o = T := by omega
          subst this
          obtain ⟨e1, e2, e3⟩ := hx t (by omega)
          have hin : 0 ≤ (t : Int) ∧ (t : Int) < 4 := by omega
          have hin2 : 0 ≤ 4 * (m : Int) + t ∧ 4 * (m : Int) + t < 192 := by omega
          have hnext := fun y z => ih (t + 1) (by omega) (ab_up (ab_up (ab_up x 56 (4 * (m : Int) + t) (z_F so pa lg rn sd t m)) 57 (4 * (m : Int) + t) (z_L so pa lg rn sd t m)) 58 (4 * (m : Int) + t) (r_rk (z_F so pa lg rn sd) (Eh (z_E so pa lg rn sd)) t m o)) y z (fun p hp => by rw [ab_up_ne (by omega), ab_up_ne (by omega), ab_up_ne (by omega)]; exact x1 p hp) (fun u hu => by
            unfold m_row
            by_cases hut : u = t
            · subst hut
              rw [ab_up_p (by omega), ab_up_p (by omega), ab_up_at, ab_up_p (by omega), ab_up_at, ab_up_at]
              exact ⟨rfl, rfl, rfl⟩
            · rw [ab_up_p (by omega), ab_up_p (by omega), ab_up_nj (by omega), ab_up_p (by omega), ab_up_nj (by omega), ab_up_p (by omega), ab_up_nj (by omega), ab_up_p (by omega), ab_up_p (by omega)]
              exact x2 u (by omega)) (fun i hi => by
            rw [ab_up_p (by omega), ab_up_p (by omega), ab_up_nj (by omega), ab_up_p (by omega), ab_up_nj (by omega), ab_up_p (by omega), ab_up_nj (by omega), ab_up_p (by omega), ab_up_p (by omega)]
            exact x3 i hi)
          have f1 : ab_up x 56 (4 * (m : Int) + t) (z_F so pa lg rn sd t m) 51 t = z_L so pa lg rn sd t m := by rw [ab_up_p (by omega)]; exact e2
          obtain ⟨w1, w2, w3⟩ : iW (4 * (m : Int)) = 4 * (m : Int) ∧ iW (4 * (m : Int) + t) = 4 * (m : Int) + t ∧ iW ((t : Int) + 1) = (t : Int) + 1 := ⟨iW_id (by omega) (by omega), iW_id (by omega) (by omega), iW_id (by omega) (by omega)⟩
          rw [ev_131_5]
          simp only [↓e_aload0, ↓e_iload1, ↓e_cv2, i_39, e_rpn, e_rps, e_few0, e_few1, e_few2, e_few3, e_few4, ↓e_istore2, e_klI, e_klR, e_klX, e_klL, ↓e_iconst, ↓e_istore3, ↓e_iload3, ↓g_39_2, ↓e_cmp_ge, ↓g_39_20, ↓e_cmp_ne, ↓e_iload2, ↓e_cv4, ↓e_iinc3, ↓e_goto, ↓e_istore4, ↓e_istore5, ↓e_iload5, ↓e_iload4, ↓e_cmp_eq, ↓e_cv3, ↓e_if_eq, ↓e_iadd, ↓e_iinc5, ↓g_39_23, ↓e_imul, ↓g_39_17, ↓g_39_24, ↓g_39_18, ↓g_39_25, ↓e_vret, ↓x_50, ↓y_50, ↓x_51, ↓y_51, ↓x_53, ↓y_53, ↓x_56, ↓y_56, ↓x_57, ↓y_57, ↓x_58, ↓y_58, ↓e_nil, b_131_0, b_131_1, b_131_2, b_131_3, b_131_4, b_131_5, b_131_6, b_131_7, b_131_8, b_131_9, ↓ev_131_8, hxT, hin, hin2, w1, w2, w3, e1, f1, and_self, true_and]
          exact ⟨fun _ => hnext _ _, fun z => absurd (Int.le_refl _) z⟩
        | succ k2 ih2 =>
          intro o ho
          have hrk := r_rk_in (F := z_F so pa lg rn sd) (H := Eh (z_E so pa lg rn sd)) t m o
          have hno2 : ¬ (T : Int) ≤ (o : Int) := by omega
          have hI : ∀ y : Int, r_rk (z_F so pa lg rn sd) (Eh (z_E so pa lg rn sd)) t m o + y = r_rk (z_F so pa lg rn sd) (Eh (z_E so pa lg rn sd)) t m (o + 1) → Ev Ls (Sm Ls (d + 3)) q bk_131 5 [vR 39, vI m, vI r, vI t, vI (r_rk (z_F so pa lg rn sd) (Eh (z_E so pa lg rn sd)) t m o + y), vI ((o : Int) + 1)] [] x := fun y hy => by rw [hy]; exact ih2 (o + 1) (by omega)
          have hI0 := hI 0
          have hI1 := hI 1
          have hah : o ≠ t → (m_ah (x 53 o) (x 53 t) (x 50 o) (x 50 t) o t ↔ r_V (z_F so pa lg rn sd) (Eh (z_E so pa lg rn sd)) t m < r_V (z_F so pa lg rn sd) (Eh (z_E so pa lg rn sd)) o m) := fun hne => by
            obtain ⟨e1, e2, e3⟩ := hx t (by omega)
            obtain ⟨g1, g2, g3⟩ := hx o (by omega)
            rw [r_ahead hrok (show o < T by omega) (show t < T by omega) hm hne g3 e3]
            unfold m_ah
            rw [e1, g1, Int.ofNat_lt]
          obtain ⟨w1, w2, w3⟩ : iW (r_rk (z_F so pa lg rn sd) (Eh (z_E so pa lg rn sd)) t m o + 0) = r_rk (z_F so pa lg rn sd) (Eh (z_E so pa lg rn sd)) t m o + 0 ∧ iW (r_rk (z_F so pa lg rn sd) (Eh (z_E so pa lg rn sd)) t m o + 1) = r_rk (z_F so pa lg rn sd) (Eh (z_E so pa lg rn sd)) t m o + 1 ∧ iW ((o : Int) + 1) = (o : Int) + 1 := ⟨iW_id (by omega) (by omega), iW_id (by omega) (by omega), iW_id (by omega) (by omega)⟩
          rw [ev_131_5]
          simp only [↓e_aload0, ↓e_iload1, ↓e_cv2, i_39, e_rpn, e_rps, e_few0, e_few1, e_few2, e_few3, e_few4, ↓e_istore2, e_klI, e_klR, e_klX, e_klL, ↓e_iconst, ↓e_istore3, ↓e_iload3, ↓g_39_2, ↓e_cmp_ge, ↓g_39_20, ↓e_cmp_ne, ↓e_iload2, ↓e_cv4, ↓e_iinc3, ↓e_goto, ↓e_istore4, ↓e_istore5, ↓e_iload5, ↓e_iload4, ↓e_cmp_eq, ↓e_cv3, ↓e_if_eq, ↓e_iadd, ↓e_iinc5, ↓g_39_23, ↓e_imul, ↓g_39_17, ↓g_39_24, ↓g_39_18, ↓g_39_25, ↓e_vret, ↓x_50, ↓y_50, ↓x_51, ↓y_51, ↓x_53, ↓y_53, ↓x_56, ↓y_56, ↓x_57, ↓y_57, ↓x_58, ↓y_58, ↓e_nil, b_131_0, b_131_1, b_131_2, b_131_3, b_131_4, b_131_5, b_131_6, b_131_7, b_131_8, b_131_9, ↓ev_131_6, ↓ev_131_7, hxT, hno2, false_implies, not_false_eq_true, true_implies, true_and, w1, w2, w3, q_isAhead (show 0 ≤ (o : Int) ∧ (o : Int) < 4 by clear w1 w2 w3; omega) (show 0 ≤ (t : Int) ∧ (t : Int) < 4 by clear w1 w2 w3; omega), ab_yn]
          refine ⟨fun he => hI0 ?_, fun he => ⟨fun g1 => ⟨fun z => absurd z (by decide), fun _ => hI1 ?_⟩, fun g1 => ⟨hI0 ?_, fun z => absurd trivial z⟩⟩⟩
          · rw [r_rk_s, if_neg]
            have : o = t := by clear w1 w2 w3; omega
            rw [this]; exact Int.lt_irrefl _
          · rw [r_rk_s, if_pos ((hah (by clear w1 w2 w3; omega)).mp g1)]
          · rw [r_rk_s, if_neg (fun z => g1 ((hah (by clear w1 w2 w3; omega)).mpr z))]
      have hin := inner T 0 (by omega)
      rw [ev_131_4]
      simp only [↓e_aload0, ↓e_iload1, ↓e_cv2, i_39, e_rpn, e_rps, e_few0, e_few1, e_few2, e_few3, e_few4, ↓e_istore2, e_klI, e_klR, e_klX, e_klL, ↓e_iconst, ↓e_istore3, ↓e_iload3, ↓g_39_2, ↓e_cmp_ge, ↓g_39_20, ↓e_cmp_ne, ↓e_iload2, ↓e_cv4, ↓e_iinc3, ↓e_goto, ↓e_istore4, ↓e_istore5, ↓e_iload5, ↓e_iload4, ↓e_cmp_eq, ↓e_cv3, ↓e_if_eq, ↓e_iadd, ↓e_iinc5, ↓g_39_23, ↓e_imul, ↓g_39_17, ↓g_39_24, ↓g_39_18, ↓g_39_25, ↓e_vret, ↓x_50, ↓y_50, ↓x_51, ↓y_51, ↓x_53, ↓y_53, ↓x_56, ↓y_56, ↓x_57, ↓y_57, ↓x_58, ↓y_58, ↓e_nil, b_131_0, b_131_1, b_131_2, b_131_3, b_131_4, b_131_5, b_131_6, b_131_7, b_131_8, b_131_9, hxT, hno, false_implies, not_false_eq_true, true_implies, true_and]
      exact hin
  -- the first loop
  have first : ∀ (k t : Nat), t + k = T → ∀ (x : ab_W), (∀ p, p < 50 ∨ 55 < p → x p = w p) → (∀ u, u < t → m_team x u (so u) (pa u) lg rn (sd u) (m + 1)) → (∀ u, u < T → t ≤ u → m_team x u (so u) (pa u) lg rn (sd u) m) → (∀ u : Nat, T ≤ u → x 50 u = w 50 u) → Ev Ls (Sm Ls (d + 3)) q bk_131 1 [vR 39, vI m, vI (bI (rn m)), vI t, vX, vX] [] x := by
    intro k
    induction k with
    | zero =>
      intro t ht x x1 x2 x3 x4
      have : t = T := by omega
      subst this
      have hxT : x 39 2 = (t : Int) := by rw [x1 39 (by omega)]; exact hcf.1
      have hsec := second x (bI (rn m)) x1 x2 x4 t 0 (by omega) x vX vX (fun p _ => rfl) (fun u hu => by omega) (fun i _ => by rw [x1 56 (by omega), x1 57 (by omega), x1 58 (by omega)]; exact ⟨rfl, rfl, rfl⟩)
      rw [ev_131_1]
      simp only [↓e_aload0, ↓e_iload1, ↓e_cv2, i_39, e_rpn, e_rps, e_few0, e_few1, e_few2, e_few3, e_few4, ↓e_istore2, e_klI, e_klR, e_klX, e_klL, ↓e_iconst, ↓e_istore3, ↓e_iload3, ↓g_39_2, ↓e_cmp_ge, ↓g_39_20, ↓e_cmp_ne, ↓e_iload2, ↓e_cv4, ↓e_iinc3, ↓e_goto, ↓e_istore4, ↓e_istore5, ↓e_iload5, ↓e_iload4, ↓e_cmp_eq, ↓e_cv3, ↓e_if_eq, ↓e_iadd, ↓e_iinc5, ↓g_39_23, ↓e_imul, ↓g_39_17, ↓g_39_24, ↓g_39_18, ↓g_39_25, ↓e_vret, ↓x_50, ↓y_50, ↓x_51, ↓y_51, ↓x_53, ↓y_53, ↓x_56, ↓y_56, ↓x_57, ↓y_57, ↓x_58, ↓y_58, ↓e_nil, b_131_0, b_131_1, b_131_2, b_131_3, b_131_4, b_131_5, b_131_6, b_131_7, b_131_8, b_131_9, ↓ev_131_3, hxT]
      exact ⟨fun _ => hsec, fun z => absurd (Int.le_refl _) z⟩
    | succ k ih =>
      intro t ht x x1 x2 x3 x4
      have hxT : x 39 2 = (T : Int) := by rw [x1 39 (by omega)]; exact hcf.1
      have hno : ¬ (T : Int) ≤ (t : Int) := by omega
      have hin : 0 ≤ (t : Int) ∧ (t : Int) < 4 := by omega
      have hmt := x3 t (by omega) (Nat.le_refl _)
      have h53 : x 53 t = t_E (so t) (pa t) lg rn (sd t) 3 m := hmt.2.2.2.1
      have hE := t_E_no (so := so t) (pa := pa t) (lg := lg) (rn := rn) (sd := sd t) m
      have hskip : ¬ x 53 t = -1 → Ev Ls (Sm Ls (d + 3)) q bk_131 1 [vR 39, vI m, vI (bI (rn m)), vI ((t : Int) + 1), vX, vX] [] x := fun hz2 => by
        have h4 : (t_S (so t) (pa t) lg rn (sd t) m).2.1 = 4 := by
          rw [h53] at hz2
          by_cases z : (t_S (so t) (pa t) lg rn (sd t) m).2.1 = 4
          · exact z
          · exact absurd (hE.mpr z) hz2
        refine ih (t + 1) (by omega) x x1 (fun u hu => ?_) (fun u hu hut => x3 u hu (by omega)) x4
        by_cases hut : u = t
        · subst hut; exact m_team_home hmt h4
        · exact x2 u (by omega)
      have hgo : ¬ ¬ x 53 t = -1 → ∀ Q' : Option ab_V → ab_W → Prop, (∀ x', Ev Ls (Sm Ls (d + 3)) q bk_131 1 [vR 39, vI m, vI (bI (rn m)), vI ((t : Int) + 1), vX, vX] [] x' → Q' none x') → Sm Ls (d + 3) 129 [vR 39, vI m, vI t, vI (bI (rn m))] x Q' := fun hz2 Q' hQ => by
        have h4 : (t_S (so t) (pa t) lg rn (sd t) m).2.1 ≠ 4 := hE.mp (by rw [← h53]; exact Classical.not_not.mp hz2)
        refine q_goes (hn.kept (fun p hp => x1 p (by omega))) hok hrn (hsd t (by omega)) (hcf.kept (fun p hp => x1 p (by omega))) hz (by omega) hm hmt h4 (fun x' o1 o2 => hQ x' ?_)
        refine ih (t + 1) (by omega) x' (fun p hp => by rw [o1.1 p hp]; exact x1 p hp) (fun u hu => ?_) (fun u hu hut => (x3 u hu (by omega)).kept (o1.2 u (by omega))) (fun u hu => by rw [(o1.2 u (by omega)).1]; exact x4 u hu)
        by_cases hut : u = t
        · subst hut; exact o2
        · exact (x2 u (by omega)).kept (o1.2 u hut)
      have w1 : iW ((t : Int) + 1) = (t : Int) + 1 := iW_id (by omega) (by omega)
      rw [ev_131_1]
      simp only [↓e_aload0, ↓e_iload1, ↓e_cv2, i_39, e_rpn, e_rps, e_few0, e_few1, e_few2, e_few3, e_few4, ↓e_istore2, e_klI, e_klR, e_klX, e_klL, ↓e_iconst, ↓e_istore3, ↓e_iload3, ↓g_39_2, ↓e_cmp_ge, ↓g_39_20, ↓e_cmp_ne, ↓e_iload2, ↓e_cv4, ↓e_iinc3, ↓e_goto, ↓e_istore4, ↓e_istore5, ↓e_iload5, ↓e_iload4, ↓e_cmp_eq, ↓e_cv3, ↓e_if_eq, ↓e_iadd, ↓e_iinc5, ↓g_39_23, ↓e_imul, ↓g_39_17, ↓g_39_24, ↓g_39_18, ↓g_39_25, ↓e_vret, ↓x_50, ↓y_50, ↓x_51, ↓y_51, ↓x_53, ↓y_53, ↓x_56, ↓y_56, ↓x_57, ↓y_57, ↓x_58, ↓y_58, ↓e_nil, b_131_0, b_131_1, b_131_2, b_131_3, b_131_4, b_131_5, b_131_6, b_131_7, b_131_8, b_131_9, ↓ev_131_2, hxT, hno, hin, w1, false_implies, not_false_eq_true, true_implies, true_and, and_self]
      refine ⟨fun hz2 => hskip hz2, fun hz2 => hgo hz2 _ (fun x' hx' => ?_)⟩
      simp only [↓e_aload0, ↓e_iload1, ↓e_cv2, i_39, e_rpn, e_rps, e_few0, e_few1, e_few2, e_few3, e_few4, ↓e_istore2, e_klI, e_klR, e_klX, e_klL, ↓e_iconst, ↓e_istore3, ↓e_iload3, ↓g_39_2, ↓e_cmp_ge, ↓g_39_20, ↓e_cmp_ne, ↓e_iload2, ↓e_cv4, ↓e_iinc3, ↓e_goto, ↓e_istore4, ↓e_istore5, ↓e_iload5, ↓e_iload4, ↓e_cmp_eq, ↓e_cv3, ↓e_if_eq, ↓e_iadd, ↓e_iinc5, ↓g_39_23, ↓e_imul, ↓g_39_17, ↓g_39_24, ↓g_39_18, ↓g_39_25, ↓e_vret, ↓x_50, ↓y_50, ↓x_51, ↓y_51, ↓x_53, ↓y_53, ↓x_56, ↓y_56, ↓x_57, ↓y_57, ↓x_58, ↓y_58, ↓e_nil, b_131_0, b_131_1, b_131_2, b_131_3, b_131_4, b_131_5, b_131_6, b_131_7, b_131_8, b_131_9, ↓ev_131_2, w1]
      exact hx'
  have h0 := first T 0 (by omega) w (fun _ _ => rfl) (fun u hu => by omega) (fun u hu _ => hall u hu) (fun _ _ => rfl)
  rw [en_131]
  simp only [↓e_aload0, ↓e_iload1, ↓e_cv2, i_39, e_rpn, e_rps, e_few0, e_few1, e_few2, e_few3, e_few4, ↓e_istore2, e_klI, e_klR, e_klX, e_klL, ↓e_iconst, ↓e_istore3, ↓e_iload3, ↓g_39_2, ↓e_cmp_ge, ↓g_39_20, ↓e_cmp_ne, ↓e_iload2, ↓e_cv4, ↓e_iinc3, ↓e_goto, ↓e_istore4, ↓e_istore5, ↓e_iload5, ↓e_iload4, ↓e_cmp_eq, ↓e_cv3, ↓e_if_eq, ↓e_iadd, ↓e_iinc5, ↓g_39_23, ↓e_imul, ↓g_39_17, ↓g_39_24, ↓g_39_18, ↓g_39_25, ↓e_vret, ↓x_50, ↓y_50, ↓x_51, ↓y_51, ↓x_53, ↓y_53, ↓x_56, ↓y_56, ↓x_57, ↓y_57, ↓x_58, ↓y_58, ↓e_nil, b_131_0, b_131_1, b_131_2, b_131_3, b_131_4, b_131_5, b_131_6, b_131_7, b_131_8, b_131_9, true_and]
  refine q_isRain hn hok hm ?_
  rw [← hrn]
  simp only [↓e_aload0, ↓e_iload1, ↓e_cv2, i_39, e_rpn, e_rps, e_few0, e_few1, e_few2, e_few3, e_few4, ↓e_istore2, e_klI, e_klR, e_klX, e_klL, ↓e_iconst, ↓e_istore3, ↓e_iload3, ↓g_39_2, ↓e_cmp_ge, ↓g_39_20, ↓e_cmp_ne, ↓e_iload2, ↓e_cv4, ↓e_iinc3, ↓e_goto, ↓e_istore4, ↓e_istore5, ↓e_iload5, ↓e_iload4, ↓e_cmp_eq, ↓e_cv3, ↓e_if_eq, ↓e_iadd, ↓e_iinc5, ↓g_39_23, ↓e_imul, ↓g_39_17, ↓g_39_24, ↓g_39_18, ↓g_39_25, ↓e_vret, ↓x_50, ↓y_50, ↓x_51, ↓y_51, ↓x_53, ↓y_53, ↓x_56, ↓y_56, ↓x_57, ↓y_57, ↓x_58, ↓y_58, ↓e_nil, b_131_0, b_131_1, b_131_2, b_131_3, b_131_4, b_131_5, b_131_6, b_131_7, b_131_8, b_131_9]
  exact h0
/-- the model has run: every team after 48 moments, every row -/
def m_ran (w w' : ab_W) (T : Nat) (so pa : Nat → Nat → Int) (lg : Int) (rn : Nat → Bool) (sd : Nat → Nat → Bool) : Prop :=
  (∀ p, p < 50 ∨ 58 < p → w' p = w p) ∧ (∀ t, t < T → m_team w' t (so t) (pa t) lg rn (sd t) 48) ∧ (∀ m, m < 48 → ∀ t, t < T → m_row w' T so pa lg rn sd m t) ∧ (∀ u : Nat, T ≤ u → u < 4 → w' 50 u = 0)
theorem q_runs {T : Nat} {so pa : Nat → Nat → Int} {rn : Nat → Bool} {sd : Nat → Nat → Bool} (hn : m_now w n ek ew en s lg) (hok : e_ok n ek ew en) (hrn : ∀ m, m < 48 → rn m = e_rn ek ew s m n) (hsd : ∀ t m, t < T → m < 48 → sd t m = e_sd ek ew en s t m n) (hcf : m_cfg w T so pa) (hz : z_ok T pa lg)
    (h : ∀ w', m_ran w w' T so pa lg rn sd → q none w') : Sm Ls (d + 5) 132 [vR 39] w q := by
  have hT4 := hz.1
  have third : ∀ (k m : Nat), m + k = 48 → ∀ x : ab_W, (∀ p, p < 50 ∨ 58 < p → x p = w p) → (∀ t, t < T → m_team x t (so t) (pa t) lg rn (sd t) m) → (∀ m', m' < m → ∀ t, t < T → m_row x T so pa lg rn sd m' t) → (∀ u : Nat, T ≤ u → u < 4 → x 50 u = 0) → Ev Ls (Sm Ls (d + 4)) q bk_132 5 [vR 39, vI m] [] x := by
    intro k
    induction k with
    | zero =>
      intro m hm x x1 x2 x3 x4
      have : m = 48 := by omega
      subst this
      have hfin := h x ⟨x1, x2, x3, x4⟩
      rw [ev_132_5]
      simp only [↓e_iconst, ↓e_istore1, e_klI, e_klR, e_klX, e_klL, ↓e_iload1, ↓e_cmp_ge, ↓e_aload0, ↓g_39_17, ↓g_39_18, ↓g_39_19, ↓g_39_20, ↓g_39_21, ↓e_iinc1, ↓e_goto, ↓e_bipush, ↓g_39_22, ↓e_cv2, i_39, e_rpn, e_rps, e_few0, e_few1, e_few2, e_few3, e_few4, ↓e_vret, ↓y_50, ↓y_51, ↓y_52, ↓y_53, ↓y_54, ↓y_55, ↓e_nil, b_132_0, b_132_1, b_132_2, b_132_3, b_132_4, b_132_5, b_132_6, ↓ev_132_6]
      exact ⟨fun _ => hfin, fun z => absurd (by decide) z⟩
    | succ k ih =>
      intro m hm x x1 x2 x3 x4
      have hno : ¬ 48 ≤ (m : Int) := by omega
      have hcall : ∀ Q' : Option ab_V → ab_W → Prop, (∀ x', Ev Ls (Sm Ls (d + 4)) q bk_132 5 [vR 39, vI ((m : Int) + 1)] [] x' → Q' none x') → Sm Ls (d + 4) 131 [vR 39, vI m] x Q' := fun Q' hQ => by
        refine q_goesBy (hn.kept (fun p hp => x1 p (by omega))) hok (hrn m (by omega)) (fun t ht => hsd t m ht (by omega)) (hcf.kept (fun p hp => x1 p (by omega))) hz (by omega) x2 (fun x' g1 g2 g3 g4 g5 => hQ x' ?_)
        refine ih (m + 1) (by omega) x' (fun p hp => by rw [g1 p hp]; exact x1 p hp) g2 (fun m' hm' t ht => ?_) (fun u hu hu4 => by rw [g5 u hu]; exact x4 u hu hu4)
        by_cases hmm : m' = m
        · subst hmm; exact g3 t ht
        · have := x3 m' (by omega) t ht
          unfold m_row at this ⊢
          obtain ⟨q1, q2, q3⟩ := g4 (4 * (m' : Int) + t) (by omega)
          rw [q1, q2, q3]; exact this
      have w1 : iW ((m : Int) + 1) = (m : Int) + 1 := iW_id (by omega) (by omega)
      rw [ev_132_5]
      simp only [↓e_iconst, ↓e_istore1, e_klI, e_klR, e_klX, e_klL, ↓e_iload1, ↓e_cmp_ge, ↓e_aload0, ↓g_39_17, ↓g_39_18, ↓g_39_19, ↓g_39_20, ↓g_39_21, ↓e_iinc1, ↓e_goto, ↓e_bipush, ↓g_39_22, ↓e_cv2, i_39, e_rpn, e_rps, e_few0, e_few1, e_few2, e_few3, e_few4, ↓e_vret, ↓y_50, ↓y_51, ↓y_52, ↓y_53, ↓y_54, ↓y_55, ↓e_nil, b_132_0, b_132_1, b_132_2, b_132_3, b_132_4, b_132_5, b_132_6, hno, false_implies, not_false_eq_true, true_implies, true_and]
      refine hcall _ (fun x' hx' => ?_)
      simp only [↓e_iconst, ↓e_istore1, e_klI, e_klR, e_klX, e_klL, ↓e_iload1, ↓e_cmp_ge, ↓e_aload0, ↓g_39_17, ↓g_39_18, ↓g_39_19, ↓g_39_20, ↓g_39_21, ↓e_iinc1, ↓e_goto, ↓e_bipush, ↓g_39_22, ↓e_cv2, i_39, e_rpn, e_rps, e_few0, e_few1, e_few2, e_few3, e_few4, ↓e_vret, ↓y_50, ↓y_51, ↓y_52, ↓y_53, ↓y_54, ↓y_55, ↓e_nil, b_132_0, b_132_1, b_132_2, b_132_3, b_132_4, b_132_5, b_132_6, w1]
      exact hx'
  have second : ∀ (k i : Nat), i + k = 16 → ∀ x : ab_W, (∀ p, p < 50 ∨ 58 < p → x p = w p) → (∀ t : Nat, t < 4 → x 50 t = 0 ∧ x 51 t = 0 ∧ x 52 t = 0 ∧ x 53 t = -1 ∧ x 54 t = 0) → (∀ j : Nat, j < i → x 55 j = -1) → Ev Ls (Sm Ls (d + 4)) q bk_132 3 [vR 39, vI i] [] x := by
    intro k
    induction k with
    | zero =>
      intro i hi x x1 x2 x3
      have : i = 16 := by omega
      subst this
      have hth := third 48 0 (by omega) x x1 (fun t ht => by
        obtain ⟨a1, a2, a3, a4, a5⟩ := x2 t (by omega)
        refine ⟨a1, a2, a3, a4, a5, fun l hl => ?_⟩
        have := x3 (4 * t + l) (by omega)
        rw [show (((4 * t + l : Nat)) : Int) = 4 * (t : Int) + l by omega] at this
        rw [this]; rfl) (fun m' hm' => by omega) (fun u _ hu => (x2 u hu).1)
      rw [ev_132_3]
      simp only [↓e_iconst, ↓e_istore1, e_klI, e_klR, e_klX, e_klL, ↓e_iload1, ↓e_cmp_ge, ↓e_aload0, ↓g_39_17, ↓g_39_18, ↓g_39_19, ↓g_39_20, ↓g_39_21, ↓e_iinc1, ↓e_goto, ↓e_bipush, ↓g_39_22, ↓e_cv2, i_39, e_rpn, e_rps, e_few0, e_few1, e_few2, e_few3, e_few4, ↓e_vret, ↓y_50, ↓y_51, ↓y_52, ↓y_53, ↓y_54, ↓y_55, ↓e_nil, b_132_0, b_132_1, b_132_2, b_132_3, b_132_4, b_132_5, b_132_6, ↓ev_132_4]
      exact ⟨fun _ => hth, fun z => absurd (by decide) z⟩
    | succ k ih =>
      intro i hi x x1 x2 x3
      have hno : ¬ 16 ≤ (i : Int) := by omega
      have hin : 0 ≤ (i : Int) ∧ (i : Int) < 16 := by omega
      have hnext := ih (i + 1) (by omega) (ab_up x 55 i (-1)) (fun p hp => by rw [ab_up_ne (by omega)]; exact x1 p hp) (fun t ht => by rw [ab_up_p (by omega), ab_up_p (by omega), ab_up_p (by omega), ab_up_p (by omega), ab_up_p (by omega)]; exact x2 t ht) (fun j hj => by
        by_cases hji : j = i
        · subst hji; rw [ab_up_at]
        · rw [ab_up_nj (by omega)]; exact x3 j (by omega))
      have w1 : iW ((i : Int) + 1) = (i : Int) + 1 := iW_id (by omega) (by omega)
      rw [ev_132_3]
      simp only [↓e_iconst, ↓e_istore1, e_klI, e_klR, e_klX, e_klL, ↓e_iload1, ↓e_cmp_ge, ↓e_aload0, ↓g_39_17, ↓g_39_18, ↓g_39_19, ↓g_39_20, ↓g_39_21, ↓e_iinc1, ↓e_goto, ↓e_bipush, ↓g_39_22, ↓e_cv2, i_39, e_rpn, e_rps, e_few0, e_few1, e_few2, e_few3, e_few4, ↓e_vret, ↓y_50, ↓y_51, ↓y_52, ↓y_53, ↓y_54, ↓y_55, ↓e_nil, b_132_0, b_132_1, b_132_2, b_132_3, b_132_4, b_132_5, b_132_6, hno, hin, w1, and_self, false_implies, not_false_eq_true, true_implies, true_and]
      exact hnext
  have first : ∀ (k i : Nat), i + k = 4 → ∀ x : ab_W, (∀ p, p < 50 ∨ 58 < p → x p = w p) → (∀ t : Nat, t < i → x 50 t = 0 ∧ x 51 t = 0 ∧ x 52 t = 0 ∧ x 53 t = -1 ∧ x 54 t = 0) → Ev Ls (Sm Ls (d + 4)) q bk_132 1 [vR 39, vI i] [] x := by
    intro k
    induction k with
    | zero =>
      intro i hi x x1 x2
      have : i = 4 := by omega
      subst this
      have hs := second 16 0 (by omega) x x1 x2 (fun j hj => by omega)
      rw [ev_132_1]
      simp only [↓e_iconst, ↓e_istore1, e_klI, e_klR, e_klX, e_klL, ↓e_iload1, ↓e_cmp_ge, ↓e_aload0, ↓g_39_17, ↓g_39_18, ↓g_39_19, ↓g_39_20, ↓g_39_21, ↓e_iinc1, ↓e_goto, ↓e_bipush, ↓g_39_22, ↓e_cv2, i_39, e_rpn, e_rps, e_few0, e_few1, e_few2, e_few3, e_few4, ↓e_vret, ↓y_50, ↓y_51, ↓y_52, ↓y_53, ↓y_54, ↓y_55, ↓e_nil, b_132_0, b_132_1, b_132_2, b_132_3, b_132_4, b_132_5, b_132_6, ↓ev_132_2]
      exact ⟨fun _ => hs, fun z => absurd (by decide) z⟩
    | succ k ih =>
      intro i hi x x1 x2
      have hno : ¬ 4 ≤ (i : Int) := by omega
      have hin : 0 ≤ (i : Int) ∧ (i : Int) < 4 := by omega
      have hnext := ih (i + 1) (by omega) (ab_up (ab_up (ab_up (ab_up (ab_up x 50 i 0) 51 i 0) 52 i 0) 53 i (-1)) 54 i 0) (fun p hp => by rw [ab_up_ne (by omega), ab_up_ne (by omega), ab_up_ne (by omega), ab_up_ne (by omega), ab_up_ne (by omega)]; exact x1 p hp) (fun t ht => by
        by_cases hti : t = i
        · subst hti; simp [ab_up]
        · have hne : ¬ (t : Int) = (i : Int) := by omega
          have := x2 t (by omega)
          simp [ab_up, hne]; exact this)
      have w1 : iW ((i : Int) + 1) = (i : Int) + 1 := iW_id (by omega) (by omega)
      rw [ev_132_1]
      simp only [↓e_iconst, ↓e_istore1, e_klI, e_klR, e_klX, e_klL, ↓e_iload1, ↓e_cmp_ge, ↓e_aload0, ↓g_39_17, ↓g_39_18, ↓g_39_19, ↓g_39_20, ↓g_39_21, ↓e_iinc1, ↓e_goto, ↓e_bipush, ↓g_39_22, ↓e_cv2, i_39, e_rpn, e_rps, e_few0, e_few1, e_few2, e_few3, e_few4, ↓e_vret, ↓y_50, ↓y_51, ↓y_52, ↓y_53, ↓y_54, ↓y_55, ↓e_nil, b_132_0, b_132_1, b_132_2, b_132_3, b_132_4, b_132_5, b_132_6, hno, hin, w1, and_self, false_implies, not_false_eq_true, true_implies, true_and]
      exact hnext
  rw [en_132]
  simp only [↓e_iconst, ↓e_istore1, e_klI, e_klR, e_klX, e_klL, ↓e_iload1, ↓e_cmp_ge, ↓e_aload0, ↓g_39_17, ↓g_39_18, ↓g_39_19, ↓g_39_20, ↓g_39_21, ↓e_iinc1, ↓e_goto, ↓e_bipush, ↓g_39_22, ↓e_cv2, i_39, e_rpn, e_rps, e_few0, e_few1, e_few2, e_few3, e_few4, ↓e_vret, ↓y_50, ↓y_51, ↓y_52, ↓y_53, ↓y_54, ↓y_55, ↓e_nil, b_132_0, b_132_1, b_132_2, b_132_3, b_132_4, b_132_5, b_132_6]
  exact first 4 0 (by omega) w (fun _ _ => rfl) (fun t ht => by omega)
end MRuns31
