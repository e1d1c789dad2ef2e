/-! the model: a team goes on -/
/-- the model's rows of team t after m moments -/
def m_team (w : ab_W) (t : Nat) (so pa : Nat → Int) (lg : Int) (rn sd : Nat → Bool) (m : Nat) : Prop :=
  w 50 t = (t_S so pa lg rn sd m).1 ∧ w 51 t = (t_S so pa lg rn sd m).2.1 ∧ w 52 t = (t_S so pa lg rn sd m).2.2 ∧ w 53 t = t_E so pa lg rn sd 3 m ∧ w 54 t = t_D so pa lg rn sd m ∧ ∀ l : Nat, l < 4 → w 55 (4 * (t : Int) + l) = t_L so pa lg rn sd l m
/-- only team t's rows have changed -/
def m_only (t : Nat) (w w' : ab_W) : Prop := (∀ p, p < 50 ∨ 55 < p → w' p = w p) ∧ ∀ u : Nat, u ≠ t → w' 50 u = w 50 u ∧ w' 51 u = w 51 u ∧ w' 52 u = w 52 u ∧ w' 53 u = w 53 u ∧ w' 54 u = w 54 u ∧ ∀ l : Nat, l < 4 → w' 55 (4 * (u : Int) + l) = w 55 (4 * (u : Int) + l)
theorem t_E_no {so pa : Nat → Int} {lg : Int} {rn sd : Nat → Bool} (m : Nat) : t_E so pa lg rn sd 3 m = -1 ↔ (t_S so pa lg rn sd m).2.1 ≠ 4 := by
  have hle := t_leg_le (so := so) (pa := pa) (lg := lg) (rn := rn) (sd := sd) m
  cases m with
  | zero => exact ⟨fun _ => by simp [t_S], fun _ => rfl⟩
  | succ m =>
    have h1 := t_E_iff (so := so) (pa := pa) (lg := lg) (rn := rn) (sd := sd) 3 (m + 1) m (by omega)
    have h2 := t_E_in (so := so) (pa := pa) (lg := lg) (rn := rn) (sd := sd) 3 (m + 1)
    push_cast at h2
    omega
theorem m_team_home {w : ab_W} {t : Nat} {so pa : Nat → Int} {lg : Int} {rn sd : Nat → Bool} {m : Nat} (h : m_team w t so pa lg rn sd m) (h4 : (t_S so pa lg rn sd m).2.1 = 4) : m_team w t so pa lg rn sd (m + 1) := by
  obtain ⟨a1, a2, a3, a4, a5, a6⟩ := h
  have e := t_S_home h4
  refine ⟨by rw [e]; exact a1, by rw [e]; exact a2, by rw [e]; exact a3, ?_, ?_, fun l hl => ?_⟩
  · rw [a4, t_home_E h4 (show m ≤ m + 1 by omega)]
  · rw [a5]; unfold t_D; rw [if_neg (by omega)]; cases m <;> simp [t_D]
  · rw [a6 l hl, t_L_s, if_neg (by rw [e]; omega)]
/-- the model's config: teams and runners -/
def m_cfg (w : ab_W) (T : Nat) (so pa : Nat → Nat → Int) : Prop := w 39 2 = T ∧ ∀ t : Nat, t < T → ∀ l : Nat, l < 4 → (0 ≤ w 49 (4 * (t : Int) + l) ∧ w 49 (4 * (t : Int) + l) < 4) ∧ w 41 (4 * (t : Int) + w 49 (4 * (t : Int) + l)) = so t l ∧ w 42 (4 * (t : Int) + w 49 (4 * (t : Int) + l)) = pa t l
section MGoes30
variable {Ls d : Nat} {w : ab_W} {q : Option ab_V → ab_W → Prop} {n s : Nat} {ek ew en : Nat → Int} {lg : Int}
set_option maxHeartbeats 4000000 in
theorem q_goes {T t m : Nat} {so pa : Nat → Nat → Int} {rn : Nat → Bool} {sd : Nat → Nat → Bool} (hn : m_now w n ek ew en s lg) (hok : e_ok n ek ew en) (hrn : rn m = e_rn ek ew s m n) (hsd : sd t m = e_sd ek ew en s t m n) (hcf : m_cfg w T so pa) (hz : z_ok T pa lg) (ht : t < T) (hm : m < 48)
    (hT : m_team w t (so t) (pa t) lg rn (sd t) m) (h4 : (t_S (so t) (pa t) lg rn (sd t) m).2.1 ≠ 4)
    (h : ∀ w', m_only t w w' → m_team w' t (so t) (pa t) lg rn (sd t) (m + 1) → q none w') : Sm Ls (d + 3) 129 [vR 39, vI m, vI t, vI (bI (rn m))] w q := by
  have hT4 := hz.1
  have hl1 := hz.2.1
  have hl2 := hz.2.2.1
  have hlg : w 39 10 = lg := hn.2.1
  have hinv := t_inv (so := so t) (rn := rn) (sd := sd t) (z_t_ok hz ht) m
  have hle := t_leg_le (so := so t) (pa := pa t) (lg := lg) (rn := rn) (sd := sd t) m
  have hD0 : 0 ≤ t_D (so t) (pa t) lg rn (sd t) m ∧ t_D (so t) (pa t) lg rn (sd t) m ≤ m := by
    have : ∀ k : Nat, 0 ≤ t_D (so t) (pa t) lg rn (sd t) k ∧ t_D (so t) (pa t) lg rn (sd t) k ≤ k := by
      intro k
      induction k with
      | zero => simp [t_D]
      | succ k ih => unfold t_D; split <;> omega
    exact this m
  obtain ⟨a1, a2, a3, a4, a5, a6⟩ := hT
  have hS1 := t_S_s (so := so t) (pa := pa t) (lg := lg) (rn := rn) (sd := sd t) m
  have hE1 := t_E_s (so := so t) (pa := pa t) (lg := lg) (rn := rn) (sd := sd t) 3 m
  have hL1 := fun l => t_L_s (so := so t) (pa := pa t) (lg := lg) (rn := rn) (sd := sd t) l m
  have hD1 : t_D (so t) (pa t) lg rn (sd t) (m + 1) = t_D (so t) (pa t) lg rn (sd t) m + (if ¬ (t_S (so t) (pa t) lg rn (sd t) m).2.1 = 4 ∧ sd t m = true then 1 else 0) := rfl
  have hE0 : t_E (so t) (pa t) lg rn (sd t) 3 m = -1 := (t_E_no m).mpr h4
  generalize hSg : t_S (so t) (pa t) lg rn (sd t) m = st at *
  obtain ⟨f, l, o⟩ := st
  dsimp only at hinv hle a1 a2 a3 h4 hD1
  obtain ⟨i1, i2, i3, i4, i5⟩ := hinv
  have hl : l < 4 := by omega
  obtain ⟨⟨c1, c2⟩, c3, c4⟩ := hcf.2 t ht l hl
  have hp := hz.2.2.2 t ht l hl
  generalize hg : t_far (so t) (pa t) (rn m) (sd t m) (f, l, o) = g at *
  have hgr : f ≤ g ∧ g ≤ f + 10 := by
    have hs := t_str_in (so := so t l) (own := o) (rn := rn m) hp
    rw [← hg]; unfold t_far; dsimp only
    split <;> omega
  have hmb : 0 ≤ lg * ((l : Int) + 1) ∧ lg * ((l : Int) + 1) ≤ 240 := by
    rw [t_mul hl]; repeat' split
    all_goals omega
  have hin : 0 ≤ (t : Int) ∧ (t : Int) < 4 := by omega
  have hin2 : 0 ≤ 4 * (t : Int) + l ∧ 4 * (t : Int) + l < 16 := by omega
  -- behind going or standing: v is w with metres g and perhaps one stop more
  have h2 : ∀ v : ab_W, (∀ p, p ≠ 50 → p ≠ 54 → v p = w p) → (∀ u : Nat, u ≠ t → v 50 u = w 50 u ∧ v 54 u = w 54 u) → v 50 t = g → v 54 t = t_D (so t) (pa t) lg rn (sd t) (m + 1) → Ev Ls (Sm Ls (d + 2)) q bk_129 2 [vR 39, vI m, vI t, vI (bI (rn m)), vI l] [] v := by
    intro v v1 v2 v3 v4
    have e52 : v 52 t = o := by rw [v1 52 (by omega) (by omega)]; exact a3
    have e51 : v 51 t = l := by rw [v1 51 (by omega) (by omega)]; exact a2
    have elg : v 39 10 = lg := by rw [v1 39 (by omega) (by omega)]; exact hlg
    have hnx : (t_S (so t) (pa t) lg rn (sd t) (m + 1)) = t_nx (so t) (pa t) lg (rn m) (sd t m) (f, l, o) := hS1
    have hstay : g < lg * ((l : Int) + 1) → q none (ab_up v 52 t (o + 1)) := fun hlt => by
      have hs : t_S (so t) (pa t) lg rn (sd t) (m + 1) = (g, l, o + 1) := by
        rw [hnx]; unfold t_nx; dsimp only; rw [if_neg (by omega), hg, if_neg (by omega)]
      refine h _ ⟨fun p p1 => by rw [ab_up_ne (by omega)]; exact v1 p (by omega) (by omega), fun u hu => ?_⟩ ⟨?_, ?_, ?_, ?_, ?_, fun l' hl' => ?_⟩
      · rw [ab_up_p (by omega), ab_up_p (by omega), ab_up_nj (by omega), ab_up_p (by omega), ab_up_p (by omega)]
        refine ⟨(v2 u hu).1, by rw [v1 51 (by omega) (by omega)], by rw [v1 52 (by omega) (by omega)], by rw [v1 53 (by omega) (by omega)], (v2 u hu).2, fun l' hl' => ?_⟩
        rw [ab_up_p (by omega), v1 55 (by omega) (by omega)]
      · rw [ab_up_p (by omega), v3, hs]
      · rw [ab_up_p (by omega), e51, hs]
      · rw [ab_up_at, hs]
      · rw [ab_up_p (by omega), v1 53 (by omega) (by omega), a4, hE1, if_neg (by rw [hs]; dsimp only; omega)]
      · rw [ab_up_p (by omega)]; exact v4
      · rw [ab_up_p (by omega), v1 55 (by omega) (by omega), a6 l' hl', hL1, if_neg (by rw [hs]; dsimp only; omega)]
    have hdone : ¬ g < lg * ((l : Int) + 1) → ∀ y : Int, (y = if (l : Int) + 1 = 4 then (m : Int) else -1) → q none (ab_up (ab_up (ab_up (ab_up (ab_up v 52 t (o + 1)) 55 (4 * (t : Int) + l) (o + 1)) 52 t 0) 51 t ((l : Int) + 1)) 53 t y) := fun hge y hy => by
      have hs : t_S (so t) (pa t) lg rn (sd t) (m + 1) = (g, l + 1, 0) := by
        rw [hnx]; unfold t_nx; dsimp only; rw [if_neg (by omega), hg, if_pos (by omega)]
      refine h _ ⟨fun p p1 => ?_, fun u hu => ?_⟩ ⟨?_, ?_, ?_, ?_, ?_, fun l' hl' => ?_⟩
      · rw [ab_up_ne (by omega), ab_up_ne (by omega), ab_up_ne (by omega), ab_up_ne (by omega), ab_up_ne (by omega)]; exact v1 p (by omega) (by omega)
      · have hne : ¬ (u : Int) = (t : Int) := by omega
        refine ⟨?_, ?_, ?_, ?_, ?_, fun l' hl' => ?_⟩
        · simp only [ab_up_p (show (50 : Nat) ≠ 53 by omega), ab_up_p (show (50 : Nat) ≠ 51 by omega), ab_up_p (show (50 : Nat) ≠ 52 by omega), ab_up_p (show (50 : Nat) ≠ 55 by omega)]; exact (v2 u hu).1
        · simp only [ab_up_p (show (51 : Nat) ≠ 53 by omega), ab_up_nj hne, ab_up_p (show (51 : Nat) ≠ 52 by omega), ab_up_p (show (51 : Nat) ≠ 55 by omega)]; rw [v1 51 (by omega) (by omega)]
        · simp only [ab_up_p (show (52 : Nat) ≠ 53 by omega), ab_up_p (show (52 : Nat) ≠ 51 by omega), ab_up_nj hne, ab_up_p (show (52 : Nat) ≠ 55 by omega)]; rw [v1 52 (by omega) (by omega)]
        · simp only [ab_up_nj hne, ab_up_p (show (53 : Nat) ≠ 51 by omega), ab_up_p (show (53 : Nat) ≠ 52 by omega), ab_up_p (show (53 : Nat) ≠ 55 by omega)]; rw [v1 53 (by omega) (by omega)]
        · simp only [ab_up_p (show (54 : Nat) ≠ 53 by omega), ab_up_p (show (54 : Nat) ≠ 51 by omega), ab_up_p (show (54 : Nat) ≠ 52 by omega), ab_up_p (show (54 : Nat) ≠ 55 by omega)]; exact (v2 u hu).2
        · simp only [ab_up_p (show (55 : Nat) ≠ 53 by omega), ab_up_p (show (55 : Nat) ≠ 51 by omega), ab_up_p (show (55 : Nat) ≠ 52 by omega)]
          rw [ab_up_nj (by omega), ab_up_p (by omega), v1 55 (by omega) (by omega)]
      · simp only [ab_up_p (show (50 : Nat) ≠ 53 by omega), ab_up_p (show (50 : Nat) ≠ 51 by omega), ab_up_p (show (50 : Nat) ≠ 52 by omega), ab_up_p (show (50 : Nat) ≠ 55 by omega)]; rw [v3, hs]
      · simp only [ab_up_p (show (51 : Nat) ≠ 53 by omega), ab_up_at]; rw [hs]; rfl
      · simp only [ab_up_p (show (52 : Nat) ≠ 53 by omega), ab_up_p (show (52 : Nat) ≠ 51 by omega), ab_up_at]; rw [hs]
      · rw [ab_up_at, hy, hE1, hs]
        dsimp only
        by_cases hl3 : l = 3
        · rw [if_pos (by omega), if_pos (by omega)]
        · rw [if_neg (by omega), if_neg (by omega), hE0]
      · simp only [ab_up_p (show (54 : Nat) ≠ 53 by omega), ab_up_p (show (54 : Nat) ≠ 51 by omega), ab_up_p (show (54 : Nat) ≠ 52 by omega), ab_up_p (show (54 : Nat) ≠ 55 by omega)]; exact v4
      · simp only [ab_up_p (show (55 : Nat) ≠ 53 by omega), ab_up_p (show (55 : Nat) ≠ 51 by omega), ab_up_p (show (55 : Nat) ≠ 52 by omega)]
        rw [hL1, hs]
        dsimp only
        by_cases hll : l' = l
        · subst hll; rw [ab_up_at, if_pos ⟨rfl, rfl⟩]
        · rw [ab_up_nj (by omega), ab_up_p (by omega), v1 55 (by omega) (by omega), a6 l' hl', if_neg (by omega)]
    have hd1 := fun hge => hdone hge m
    have hd2 := fun hge => hdone hge (-1)
    have f50 : (ab_up v 52 t (o + 1)) 50 t = g := by rw [ab_up_p (by omega)]; exact v3
    have f39 : (ab_up v 52 t (o + 1)) 39 10 = lg := by rw [ab_up_p (by omega)]; exact elg
    have f52 : (ab_up v 52 t (o + 1)) 52 t = o + 1 := ab_up_at
    have f51 : (ab_up (ab_up (ab_up v 52 t (o + 1)) 55 (4 * (t : Int) + l) (o + 1)) 52 t 0) 51 t = l := by rw [ab_up_p (by omega), ab_up_p (by omega), ab_up_p (by omega)]; exact e51
    have f51b : (ab_up (ab_up (ab_up (ab_up v 52 t (o + 1)) 55 (4 * (t : Int) + l) (o + 1)) 52 t 0) 51 t ((l : Int) + 1)) 51 t = (l : Int) + 1 := ab_up_at
    clear v1 v2 hdone
    obtain ⟨w1, w2, w3, w4, w5⟩ : iW (o + 1) = o + 1 ∧ iW ((l : Int) + 1) = (l : Int) + 1 ∧ iW (lg * ((l : Int) + 1)) = lg * ((l : Int) + 1) ∧ iW (4 * (t : Int)) = 4 * (t : Int) ∧ iW (4 * (t : Int) + l) = 4 * (t : Int) + l :=
      ⟨iW_id (by omega) (by omega), iW_id (by omega) (by omega), iW_id (by omega) (by omega), iW_id (by omega) (by omega), iW_id (by omega) (by omega)⟩
    rw [ev_129_2]
    simp only [↓e_aload0, ↓g_39_18, ↓e_iload2, ↓e_istore4, e_klI, e_klR, e_klX, e_klL, ↓e_iload1, ↓e_cv3, i_39, e_rpn, e_rps, e_few0, e_few1, e_few2, e_few3, e_few4, ↓e_if_eq, ↓g_39_21, ↓e_dup2, ↓e_iconst, ↓e_iadd, ↓e_goto, ↓g_39_17, ↓e_imul, ↓g_39_16, ↓e_iload4, ↓g_39_19, ↓e_iload3, ↓e_cv4, ↓g_39_10, ↓e_cmp_lt, ↓g_39_22, ↓g_39_20, ↓e_cmp_ne, ↓e_vret, ↓x_49, ↓y_49, ↓x_50, ↓y_50, ↓x_51, ↓y_51, ↓x_52, ↓y_52, ↓x_53, ↓y_53, ↓x_54, ↓y_54, ↓x_55, ↓y_55, ↓e_nil, b_129_0, b_129_1, b_129_2, b_129_3, b_129_4, b_129_5, ↓ev_129_3, ↓ev_129_4, ↓ev_129_5, hin, hin2, e52, w1, f50, f39, w2, w3, w4, w5, f52, f51, f51b, and_self, true_and]
    refine ⟨fun hlt => hstay hlt, fun hge => ⟨fun hne => hd2 hge (by rw [if_neg hne]), fun hne => hd1 hge (by rw [if_pos (Classical.not_not.mp hne)])⟩⟩
  have hst : sd t m = true → Ev Ls (Sm Ls (d + 2)) q bk_129 2 [vR 39, vI m, vI t, vI (bI (rn m)), vI l] [] (ab_up w 54 t (t_D (so t) (pa t) lg rn (sd t) m + 1)) := fun hs => by
    refine h2 _ (fun p p1 p2 => ab_up_ne p2) (fun u hu => ⟨ab_up_p (by omega), ab_up_nj (by omega)⟩) ?_ ?_
    · rw [ab_up_p (by omega), a1, ← hg]; unfold t_far; rw [if_pos hs]
    · rw [ab_up_at, hD1, if_pos ⟨h4, hs⟩]
  have hgo : sd t m = false → Ev Ls (Sm Ls (d + 2)) q bk_129 2 [vR 39, vI m, vI t, vI (bI (rn m)), vI l] [] (ab_up w 50 t g) := fun hs => by
    refine h2 _ (fun p p1 p2 => ab_up_ne p1) (fun u hu => ⟨ab_up_nj (by omega), ab_up_p (by omega)⟩) ab_up_at ?_
    rw [ab_up_p (by omega), a5, hD1, if_neg (by rw [hs]; intro z; cases z.2), Int.add_zero]
  have hgg : sd t m = false → f + t_str (so t l) (pa t l) o (rn m) = g := fun hs => by rw [← hg]; unfold t_far; rw [if_neg (by rw [hs]; decide)]
  have hcs : ∀ Q' : Option ab_V → ab_W → Prop, Q' (some (vI (bI (sd t m)))) w → Sm Ls (d + 2) 127 [vR 39, vI m, vI t] w Q' := fun Q' hQ => q_stands hn hok hm (by omega) (by rw [← hsd]; exact hQ)
  have hcr : ∀ Q' : Option ab_V → ab_W → Prop, Q' (some (vI (t_str (so t l) (pa t l) o (rn m)))) w → Sm Ls (d + 2) 128 [vR 39, vI (4 * (t : Int) + w 49 (4 * (t : Int) + l)), vI o, vI (bI (rn m))] w Q' := fun Q' hQ => q_strideM (r := rn m) (by omega) (by rw [c4]; exact hp) rfl (by rw [c3, c4]; exact hQ)
  clear h2 hS1 hE1 hL1 a4 a6 hD1 hE0
  obtain ⟨w1, w2, w3, w4, w5⟩ : iW (4 * (t : Int)) = 4 * (t : Int) ∧ iW (4 * (t : Int) + l) = 4 * (t : Int) + l ∧ iW (4 * (t : Int) + w 49 (4 * (t : Int) + l)) = 4 * (t : Int) + w 49 (4 * (t : Int) + l) ∧ iW g = g ∧ iW (t_D (so t) (pa t) lg rn (sd t) m + 1) = t_D (so t) (pa t) lg rn (sd t) m + 1 :=
    ⟨iW_id (by omega) (by omega), iW_id (by omega) (by omega), iW_id (by omega) (by omega), iW_id (by omega) (by omega), iW_id (by omega) (by omega)⟩
  rw [en_129]
  simp only [↓e_aload0, ↓g_39_18, ↓e_iload2, ↓e_istore4, e_klI, e_klR, e_klX, e_klL, ↓e_iload1, ↓e_cv3, i_39, e_rpn, e_rps, e_few0, e_few1, e_few2, e_few3, e_few4, ↓e_if_eq, ↓g_39_21, ↓e_dup2, ↓e_iconst, ↓e_iadd, ↓e_goto, ↓g_39_17, ↓e_imul, ↓g_39_16, ↓e_iload4, ↓g_39_19, ↓e_iload3, ↓e_cv4, ↓g_39_10, ↓e_cmp_lt, ↓g_39_22, ↓g_39_20, ↓e_cmp_ne, ↓e_vret, ↓x_49, ↓y_49, ↓x_50, ↓y_50, ↓x_51, ↓y_51, ↓x_52, ↓y_52, ↓x_53, ↓y_53, ↓x_54, ↓y_54, ↓x_55, ↓y_55, ↓e_nil, b_129_0, b_129_1, b_129_2, b_129_3, b_129_4, b_129_5, hin, a2, true_and, and_self]
  refine hcs _ ?_
  simp only [↓e_aload0, ↓g_39_18, ↓e_iload2, ↓e_istore4, e_klI, e_klR, e_klX, e_klL, ↓e_iload1, ↓e_cv3, i_39, e_rpn, e_rps, e_few0, e_few1, e_few2, e_few3, e_few4, ↓e_if_eq, ↓g_39_21, ↓e_dup2, ↓e_iconst, ↓e_iadd, ↓e_goto, ↓g_39_17, ↓e_imul, ↓g_39_16, ↓e_iload4, ↓g_39_19, ↓e_iload3, ↓e_cv4, ↓g_39_10, ↓e_cmp_lt, ↓g_39_22, ↓g_39_20, ↓e_cmp_ne, ↓e_vret, ↓x_49, ↓y_49, ↓x_50, ↓y_50, ↓x_51, ↓y_51, ↓x_52, ↓y_52, ↓x_53, ↓y_53, ↓x_54, ↓y_54, ↓x_55, ↓y_55, ↓e_nil, b_129_0, b_129_1, b_129_2, b_129_3, b_129_4, b_129_5]
  cases hs : sd t m with
  | true =>
    refine ⟨fun z => absurd z (by decide), fun _ => ?_⟩
    simp only [hin, a5, w5, and_self, true_and]
    exact hst hs
  | false =>
    refine ⟨fun _ => ?_, fun z => absurd rfl z⟩
    rw [ev_129_1]
    simp only [↓e_aload0, ↓g_39_18, ↓e_iload2, ↓e_istore4, e_klI, e_klR, e_klX, e_klL, ↓e_iload1, ↓e_cv3, i_39, e_rpn, e_rps, e_few0, e_few1, e_few2, e_few3, e_few4, ↓e_if_eq, ↓g_39_21, ↓e_dup2, ↓e_iconst, ↓e_iadd, ↓e_goto, ↓g_39_17, ↓e_imul, ↓g_39_16, ↓e_iload4, ↓g_39_19, ↓e_iload3, ↓e_cv4, ↓g_39_10, ↓e_cmp_lt, ↓g_39_22, ↓g_39_20, ↓e_cmp_ne, ↓e_vret, ↓x_49, ↓y_49, ↓x_50, ↓y_50, ↓x_51, ↓y_51, ↓x_52, ↓y_52, ↓x_53, ↓y_53, ↓x_54, ↓y_54, ↓x_55, ↓y_55, ↓e_nil, b_129_0, b_129_1, b_129_2, b_129_3, b_129_4, b_129_5, hin, hin2, a1, a3, w1, w2, w3, and_self, true_and]
    refine hcr _ ?_
    simp only [↓e_aload0, ↓g_39_18, ↓e_iload2, ↓e_istore4, e_klI, e_klR, e_klX, e_klL, ↓e_iload1, ↓e_cv3, i_39, e_rpn, e_rps, e_few0, e_few1, e_few2, e_few3, e_few4, ↓e_if_eq, ↓g_39_21, ↓e_dup2, ↓e_iconst, ↓e_iadd, ↓e_goto, ↓g_39_17, ↓e_imul, ↓g_39_16, ↓e_iload4, ↓g_39_19, ↓e_iload3, ↓e_cv4, ↓g_39_10, ↓e_cmp_lt, ↓g_39_22, ↓g_39_20, ↓e_cmp_ne, ↓e_vret, ↓x_49, ↓y_49, ↓x_50, ↓y_50, ↓x_51, ↓y_51, ↓x_52, ↓y_52, ↓x_53, ↓y_53, ↓x_54, ↓y_54, ↓x_55, ↓y_55, ↓e_nil, b_129_0, b_129_1, b_129_2, b_129_3, b_129_4, b_129_5, hin, hgg hs, w4, and_self, true_and]
    exact hgo hs
def m_ah (x y f g a b : Int) : Prop := if (x ≠ -1 ∧ y = -1) ∨ (x = -1 ∧ y ≠ -1) then x ≠ -1 else if x ≠ -1 ∧ x ≠ y then x < y else if f ≠ g then g < f else a < b
theorem q_isAhead {a b : Int} (ha : 0 ≤ a ∧ a < 4) (hb : 0 ≤ b ∧ b < 4) : Sm Ls (d + 1) 130 [vR 39, vI a, vI b] w q = ab_yn (m_ah (w 53 a) (w 53 b) (w 50 a) (w 50 b) a b) q w := by
  rw [en_130]
  simp only [↓e_aload0, ↓g_39_20, ↓e_iload1, ↓e_iconst, ↓e_cmp_eq, ↓e_goto, ↓e_istore3, e_klI, e_klR, e_klX, e_klL, ↓e_iload2, ↓e_istore4, ↓e_iload3, ↓e_iload4, ↓e_zret, ↓e_if_eq, ↓e_cmp_ge, ↓g_39_17, ↓e_cmp_le, ↓x_50, ↓x_53, ↓e_nil, b_130_0, b_130_1, b_130_2, b_130_3, b_130_4, b_130_5, b_130_6, b_130_7, b_130_8, b_130_9, b_130_10, b_130_11, b_130_12, ↓ev_130_1, ↓ev_130_2, ↓ev_130_3, ↓ev_130_4, ↓ev_130_5, ↓ev_130_6, ↓ev_130_7, ↓ev_130_8, ↓ev_130_9, ↓ev_130_10, ↓ev_130_11, ↓ev_130_12, ha, hb, and_self, true_and]
  unfold m_ah
  by_cases h1 : w 53 a = -1
  · by_cases h2 : w 53 b = -1
    · by_cases h3 : w 50 a = w 50 b
      · by_cases h4 : b ≤ a
        · rw [yn_f (by rw [if_neg (by omega), if_neg (by omega), if_neg (by omega)]; omega)]; simp [h1, h2, h3, h4]
        · rw [yn_t (by rw [if_neg (by omega), if_neg (by omega), if_neg (by omega)]; omega)]; simp [h1, h2, h3, h4]
      · by_cases h4 : w 50 a ≤ w 50 b
        · rw [yn_f (by rw [if_neg (by omega), if_neg (by omega), if_pos (by omega)]; omega)]; simp [h1, h2, h3, h4]
        · rw [yn_t (by rw [if_neg (by omega), if_neg (by omega), if_pos (by omega)]; omega)]; simp [h1, h2, h3, h4]
    · rw [yn_f (by rw [if_pos (by omega)]; omega)]; simp [h1, h2]
  · by_cases h2 : w 53 b = -1
    · rw [yn_t (by rw [if_pos (by omega)]; omega)]; simp [h1, h2]
    · by_cases h5 : w 53 a = w 53 b
      · by_cases h3 : w 50 a = w 50 b
        · by_cases h4 : b ≤ a
          · rw [yn_f (by rw [if_neg (by omega), if_neg (by omega), if_neg (by omega)]; omega)]; simp [h2, h3, h4, h5]
          · rw [yn_t (by rw [if_neg (by omega), if_neg (by omega), if_neg (by omega)]; omega)]; simp [h2, h3, h4, h5]
        · by_cases h4 : w 50 a ≤ w 50 b
          · rw [yn_f (by rw [if_neg (by omega), if_neg (by omega), if_pos (by omega)]; omega)]; simp [h2, h3, h4, h5]
          · rw [yn_t (by rw [if_neg (by omega), if_neg (by omega), if_pos (by omega)]; omega)]; simp [h2, h3, h4, h5]
      · by_cases h4 : w 53 b ≤ w 53 a
        · rw [yn_f (by rw [if_neg (by omega), if_pos (by omega)]; omega)]; simp [h1, h2, h4, h5]
        · rw [yn_t (by rw [if_neg (by omega), if_pos (by omega)]; omega)]; simp [h1, h2, h4, h5]
end MGoes30
