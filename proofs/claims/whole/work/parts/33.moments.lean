/-! the model's questions about moments -/
/-- a finished run lies there -/
def m_res (w : ab_W) (c : Cf) : Prop := w 39 2 = c.T ∧ c.ok ∧ ∃ w0, m_done w0 w c
theorem m_done.res {w v : ab_W} {c : Cf} (h : m_done w v c) (hr : m_ready w c) : m_res v c := ⟨by rw [h.1 39 (by omega)]; exact hr.1.1, hr.2.1, w, h⟩
theorem Cf.H_in {c : Cf} (h : c.ok) {t : Nat} (ht : t < c.T) : -1 ≤ c.H t ∧ c.H t ≤ 47 := ((Cf.rok h).2 t ht).2
theorem Cf.F_in {c : Cf} (h : c.ok) {t m : Nat} (ht : t < c.T) (hm : m < 48) : 0 ≤ c.F t m ∧ c.F t m ≤ 249 := ((Cf.rok h).2 t ht).1 m hm
theorem Cf.R_in (c : Cf) (t m : Nat) : 0 ≤ c.R t m ∧ c.R t m ≤ c.T := r_rk_in t m c.T
theorem Cf.fo_in {c : Cf} (h : c.ok) {m : Nat} (hm : m < 48) : c.fo m = -1 ∨ ∃ t, t < c.T ∧ c.fo m = (t : Int) := by
  rcases r_fo_spec (Cf.rok h) hm c.T (Nat.le_refl _) with ⟨_, h2⟩ | ⟨t, h1, h2, _⟩
  · left; unfold Cf.fo; rw [h2]
  · right; exact ⟨t, h1, by unfold Cf.fo; rw [h2]⟩
theorem Cf.won_in {c : Cf} (h : c.ok) : c.won = -1 ∨ ∃ t, t < c.T ∧ c.won = (t : Int) := by
  unfold Cf.won r_won
  split
  · exact Cf.fo_in h (show 47 < 48 by omega)
  · exact Or.inl rfl
def Cf.wb (c : Cf) (x : Int) : Int := if c.won = -1 ∨ x = 0 then c.won else c.H c.won.toNat
def Cf.at' (c : Cf) (m t : Nat) (x : Int) : Int := if x = 0 then c.F t m else if x = 1 then c.L t m else c.R t m
/-- how often another is foremost, by moment n -/
def Cf.ch (c : Cf) : Nat → Int
  | 0 => 0
  | n + 1 => c.ch n + (if c.fo (n + 1) = c.fo n then 0 else 1)
theorem Cf.ch_s {c : Cf} {n : Nat} : c.ch (n + 1) = c.ch n + (if c.fo (n + 1) = c.fo n then 0 else 1) := rfl
theorem Cf.ch_in (c : Cf) : ∀ n, 0 ≤ c.ch n ∧ c.ch n ≤ n
  | 0 => ⟨Int.le_refl _, Int.le_refl _⟩
  | n + 1 => by have := c.ch_in n; rw [Cf.ch_s]; split <;> omega
/-- in how many of the first n moments t is foremost -/
def Cf.ah (c : Cf) (t : Nat) : Nat → Int
  | 0 => 0
  | n + 1 => c.ah t n + (if c.fo n = t then 1 else 0)
theorem Cf.ah_s {c : Cf} {t n : Nat} : c.ah t (n + 1) = c.ah t n + (if c.fo n = t then 1 else 0) := rfl
theorem Cf.ah_in (c : Cf) (t : Nat) : ∀ n, 0 ≤ c.ah t n ∧ c.ah t n ≤ n
  | 0 => ⟨Int.le_refl _, Int.le_refl _⟩
  | n + 1 => by have := c.ah_in t n; rw [Cf.ah_s]; split <;> omega
def Cf.le (c : Cf) : Nat → Int × Int
  | 0 => (-1, -1)
  | n + 1 => if (c.le n).2 < c.ah n 48 then ((n : Int), c.ah n 48) else c.le n
theorem Cf.le_s {c : Cf} {n : Nat} : c.le (n + 1) = if (c.le n).2 < c.ah n 48 then ((n : Int), c.ah n 48) else c.le n := rfl
def Cf.ho (c : Cf) : Nat → Int
  | 0 => 0
  | n + 1 => c.ho n + (if c.H n = -1 then 0 else 1)
theorem Cf.ho_s {c : Cf} {n : Nat} : c.ho (n + 1) = c.ho n + (if c.H n = -1 then 0 else 1) := rfl
theorem Cf.ho_in (c : Cf) : ∀ n, 0 ≤ c.ho n ∧ c.ho n ≤ n
  | 0 => ⟨Int.le_refl _, Int.le_refl _⟩
  | n + 1 => by have := c.ho_in n; rw [Cf.ho_s]; split <;> omega
def Cf.me (c : Cf) : Nat → Int
  | 0 => 0
  | n + 1 => c.me n + c.F n 47
theorem Cf.me_s {c : Cf} {n : Nat} : c.me (n + 1) = c.me n + c.F n 47 := rfl
theorem one0 : ((1 : Int) = 0) = False := by decide
section Moments33
variable {Ls d : Nat} {w : ab_W} {q : Option ab_V → ab_W → Prop} {D : Td} {c : Cf}
theorem r_wi_s {H R : Nat → Int} {n : Nat} : r_wi H R (n + 1) = if H n ≠ -1 ∧ R n = 0 then (n : Int) else r_wi H R n := rfl
theorem r_fi_s {R : Nat → Int} {n : Nat} : r_fi R (n + 1) = if R n = 0 then (n : Int) else r_fi R n := rfl
theorem q_wonNow (hr : m_res w c) (h : q (some (vI c.won)) w) : Sm Ls (d + 1) 140 [vR 39] w q := by
  obtain ⟨h2, hok, w0, hd⟩ := hr
  have hT := hok.1
  have hw : r_wi c.H (fun t => c.R t 47) c.T = c.won := r_wi_won (Cf.rok hok)
  rw [← hw] at h
  have key : ∀ (k t : Nat), t + k = c.T → Ev Ls (Sm Ls d) q bk_140 1 [vR 39, vI (r_wi c.H (fun t => c.R t 47) t), vI t] [] w := by
    intro k
    induction k with
    | zero =>
      intro t ht
      have : t = c.T := by omega
      subst this
      rw [ev_140_1]
      simp only [↓e_iconst, ↓e_istore1, e_klI, e_klR, e_klX, e_klL, ↓e_istore2, ↓e_iload2, ↓e_aload0, ↓g_39_2, ↓e_cmp_ge, ↓g_39_20, ↓e_cmp_eq, ↓g_39_25, ↓e_sipush, ↓e_iadd, ↓e_if_ne, ↓e_goto, ↓e_iload1, ↓e_iinc2, ↓e_iret, ↓x_53, ↓x_58, ↓e_nil, b_140_0, b_140_1, b_140_2, b_140_3, b_140_4, ↓ev_140_4, h2]
      exact ⟨fun _ => h, fun z => absurd (Int.le_refl _) z⟩
    | succ k ih =>
      intro t ht
      have hno : ¬ (c.T : Int) ≤ (t : Int) := by omega
      have hin : 0 ≤ (t : Int) ∧ (t : Int) < 4 := by omega
      have hin2 : 0 ≤ 188 + (t : Int) ∧ 188 + (t : Int) < 192 := by omega
      have e1 := hd.H (t := t) (by omega)
      have e2 : w 58 (188 + (t : Int)) = c.R t 47 := hd.R (t := t) (m := 47) (by omega) (by omega)
      have hI : ∀ x, x = r_wi c.H (fun t => c.R t 47) (t + 1) → Ev Ls (Sm Ls d) q bk_140 1 [vR 39, vI x, vI ((t : Int) + 1)] [] w := fun x hx => by rw [hx]; exact ih (t + 1) (by omega)
      rw [r_wi_s] at hI
      obtain ⟨w1, w2⟩ : iW ((t : Int) + 1) = (t : Int) + 1 ∧ iW (188 + (t : Int)) = 188 + (t : Int) := ⟨iW_id (by omega) (by omega), iW_id (by omega) (by omega)⟩
      rw [ev_140_1]
      simp only [↓e_iconst, ↓e_istore1, e_klI, e_klR, e_klX, e_klL, ↓e_istore2, ↓e_iload2, ↓e_aload0, ↓g_39_2, ↓e_cmp_ge, ↓g_39_20, ↓e_cmp_eq, ↓g_39_25, ↓e_sipush, ↓e_iadd, ↓e_if_ne, ↓e_goto, ↓e_iload1, ↓e_iinc2, ↓e_iret, ↓x_53, ↓x_58, ↓e_nil, b_140_0, b_140_1, b_140_2, b_140_3, b_140_4, ↓ev_140_2, ↓ev_140_3, h2, hno, hin, hin2, e1, e2, w1, w2, and_self, false_implies, not_false_eq_true, true_implies, true_and]
      refine ⟨fun g1 => hI _ ?_, fun g1 => ⟨fun g2 => hI _ ?_, fun g2 => hI _ ?_⟩⟩
      · rw [if_neg (fun z => z.1 g1)]
      · rw [if_neg (fun z => g2 z.2)]
      · rw [if_pos ⟨g1, Classical.not_not.mp g2⟩]
  have h0 := key c.T 0 (by omega)
  rw [en_140]
  simp only [↓e_iconst, ↓e_istore1, e_klI, e_klR, e_klX, e_klL, ↓e_istore2, ↓e_iload2, ↓e_aload0, ↓g_39_2, ↓e_cmp_ge, ↓g_39_20, ↓e_cmp_eq, ↓g_39_25, ↓e_sipush, ↓e_iadd, ↓e_if_ne, ↓e_goto, ↓e_iload1, ↓e_iinc2, ↓e_iret, ↓x_53, ↓x_58, ↓e_nil, b_140_0, b_140_1, b_140_2, b_140_3, b_140_4]
  exact h0
theorem q_wonBy (hr : m_res w c) {x : Int} (h : q (some (vI (c.wb x))) w) : Sm Ls (d + 2) 141 [vR 39, vI x] w q := by
  obtain ⟨h2, hok, w0, hd⟩ := id hr
  have hT := hok.1
  have hw := Cf.won_in hok
  rw [en_141]
  simp only [↓e_aload0, ↓e_cv1, i_39, e_rpn, e_rps, e_few0, e_few1, e_few2, e_few3, e_few4, ↓e_istore2, e_klI, e_klR, e_klX, e_klL, ↓e_iload2, ↓e_iconst, ↓e_cmp_eq, ↓e_iload1, ↓e_if_ne, ↓e_goto, ↓g_39_20, ↓e_iret, ↓x_53, ↓e_nil, b_141_0, b_141_1, b_141_2, b_141_3, true_and]
  refine q_wonNow hr ?_
  unfold Cf.wb at h
  simp only [↓e_aload0, ↓e_cv1, i_39, e_rpn, e_rps, e_few0, e_few1, e_few2, e_few3, e_few4, ↓e_istore2, e_klI, e_klR, e_klX, e_klL, ↓e_iload2, ↓e_iconst, ↓e_cmp_eq, ↓e_iload1, ↓e_if_ne, ↓e_goto, ↓g_39_20, ↓e_iret, ↓x_53, ↓e_nil, b_141_0, b_141_1, b_141_2, b_141_3, ↓ev_141_1, ↓ev_141_2, ↓ev_141_3]
  refine ⟨fun g1 => ?_, fun g1 => ⟨fun g2 => ?_, fun g2 => ?_⟩⟩
  · rw [if_pos (Or.inl g1)] at h; exact h
  · rw [if_neg (by omega)] at h
    rcases hw with hw | ⟨t, ht, hw⟩
    · exact absurd hw g1
    · rw [hw] at h ⊢
      rw [Int.toNat_natCast] at h
      have e1 := hd.H (t := t) (by omega)
      rw [e1]
      exact ⟨by omega, h⟩
  · rw [if_pos (by omega)] at h; exact h
theorem q_wonOf (ht : m_told w D) {x : Int} (h : ∀ w', m_post D w w' → q (some (vI ((D.cf 255).wb x))) w') : Sm Ls (d + 8) 142 [vR 39, vI x] w q := by
  rw [en_142]
  simp only [↓e_aload0, ↓e_cv1, i_39, e_rpn, e_rps, e_few0, e_few1, e_few2, e_few3, e_few4, ↓e_iload1, ↓e_cv2, ↓e_iret, ↓e_nil, b_142_0, true_and]
  refine q_runsTold ht (fun w1 w2 h1 h2 => ?_)
  simp only [↓e_aload0, ↓e_cv1, i_39, e_rpn, e_rps, e_few0, e_few1, e_few2, e_few3, e_few4, ↓e_iload1, ↓e_cv2, ↓e_iret, ↓e_nil, b_142_0, true_and]
  refine q_wonBy (c := D.cf 255) ⟨h1.2.1, Td.cok ht.2.2.2.2.2.2 _, w1, h2⟩ ?_
  simp only [↓e_aload0, ↓e_cv1, i_39, e_rpn, e_rps, e_few0, e_few1, e_few2, e_few3, e_few4, ↓e_iload1, ↓e_cv2, ↓e_iret, ↓e_nil, b_142_0]
  exact h w2 h1
theorem q_firstAt (hr : m_res w c) {m : Nat} (hm : m < 48) : Sm Ls (d + 1) 144 [vR 39, vI m] w q = q (some (vI (c.fo m))) w := by
  obtain ⟨h2, hok, w0, hd⟩ := hr
  have hT := hok.1
  have hw : r_fi (fun t => c.R t m) c.T = c.fo m := r_fi_fo (Cf.rok hok) hm
  rw [← hw]
  have key : ∀ (k t : Nat), t + k = c.T → Ev Ls (Sm Ls d) q bk_144 1 [vR 39, vI m, vI (r_fi (fun t => c.R t m) t), vI t] [] w = q (some (vI (r_fi (fun t => c.R t m) c.T))) w := by
    intro k
    induction k with
    | zero =>
      intro t ht
      have : t = c.T := by omega
      subst this
      rw [ev_144_1]
      simp only [↓e_iconst, ↓e_istore2, e_klI, e_klR, e_klX, e_klL, ↓e_istore3, ↓e_iload3, ↓e_aload0, ↓g_39_2, ↓e_cmp_ge, ↓g_39_25, ↓e_iload1, ↓e_imul, ↓e_iadd, ↓e_if_ne, ↓e_goto, ↓e_iload2, ↓e_iinc3, ↓e_iret, ↓x_58, ↓e_nil, b_144_0, b_144_1, b_144_2, b_144_3, b_144_4, ↓ev_144_4, h2, Int.le_refl, not_true_eq_false, false_implies, true_implies, and_true]
    | succ k ih =>
      intro t ht
      have hno : ¬ (c.T : Int) ≤ (t : Int) := by omega
      have hin2 : 0 ≤ 4 * (m : Int) + (t : Int) ∧ 4 * (m : Int) + (t : Int) < 192 := by omega
      have e2 : w 58 (4 * (m : Int) + (t : Int)) = c.R t m := hd.R (t := t) (m := m) (by omega) (by omega)
      have hI : ∀ x, x = r_fi (fun t => c.R t m) (t + 1) → Ev Ls (Sm Ls d) q bk_144 1 [vR 39, vI m, vI x, vI ((t : Int) + 1)] [] w = q (some (vI (r_fi (fun t => c.R t m) c.T))) w := fun x hx => by rw [hx]; exact ih (t + 1) (by omega)
      rw [r_fi_s] at hI
      obtain ⟨w1, w2, w3⟩ : iW ((t : Int) + 1) = (t : Int) + 1 ∧ iW (4 * (m : Int)) = 4 * (m : Int) ∧ iW (4 * (m : Int) + (t : Int)) = 4 * (m : Int) + (t : Int) := ⟨iW_id (by omega) (by omega), iW_id (by omega) (by omega), iW_id (by omega) (by omega)⟩
      rw [ev_144_1]
      simp only [↓e_iconst, ↓e_istore2, e_klI, e_klR, e_klX, e_klL, ↓e_istore3, ↓e_iload3, ↓e_aload0, ↓g_39_2, ↓e_cmp_ge, ↓g_39_25, ↓e_iload1, ↓e_imul, ↓e_iadd, ↓e_if_ne, ↓e_goto, ↓e_iload2, ↓e_iinc3, ↓e_iret, ↓x_58, ↓e_nil, b_144_0, b_144_1, b_144_2, b_144_3, b_144_4, ↓ev_144_2, ↓ev_144_3, h2, hno, hin2, e2, w1, w2, w3, and_self, false_implies, not_false_eq_true, true_implies, true_and]
      by_cases g : c.R t m = 0
      · rw [if_pos g] at hI
        simp only [g, not_true_eq_false, false_implies, not_false_eq_true, true_implies, true_and]
        exact hI _ rfl
      · rw [if_neg g] at hI
        simp only [g, not_true_eq_false, false_implies, not_false_eq_true, true_implies, and_true]
        exact hI _ rfl
  have h0 := key c.T 0 (by omega)
  rw [en_144]
  simp only [↓e_iconst, ↓e_istore2, e_klI, e_klR, e_klX, e_klL, ↓e_istore3, ↓e_iload3, ↓e_aload0, ↓g_39_2, ↓e_cmp_ge, ↓g_39_25, ↓e_iload1, ↓e_imul, ↓e_iadd, ↓e_if_ne, ↓e_goto, ↓e_iload2, ↓e_iinc3, ↓e_iret, ↓x_58, ↓e_nil, b_144_0, b_144_1, b_144_2, b_144_3, b_144_4]
  exact h0
theorem q_changesOf (ht : m_told w D) (h : ∀ w', m_post D w w' → q (some (vI ((D.cf 255).ch 47))) w') : Sm Ls (d + 8) 145 [vR 39] w q := by
  rw [en_145]
  simp only [↓e_aload0, ↓e_cv1, i_39, e_rpn, e_rps, e_few0, e_few1, e_few2, e_few3, e_few4, ↓e_iconst, ↓e_istore1, e_klI, e_klR, e_klX, e_klL, ↓e_istore2, ↓e_iload2, ↓e_bipush, ↓e_cmp_ge, ↓e_iload1, ↓e_cv2, ↓e_isub, ↓e_cmp_eq, ↓e_goto, ↓e_iadd, ↓e_iinc2, ↓e_iret, ↓e_nil, b_145_0, b_145_1, b_145_2, b_145_3, b_145_4, true_and]
  refine q_runsTold ht (fun w1 w2 h1 h2 => ?_)
  have hr : m_res w2 (D.cf 255) := ⟨h1.2.1, Td.cok ht.2.2.2.2.2.2 _, w1, h2⟩
  have hfin := h w2 h1
  have key : ∀ (k m : Nat), m + k = 47 → Ev Ls (Sm Ls (d + 7)) q bk_145 1 [vR 39, vI ((D.cf 255).ch m), vI ((m : Int) + 1)] [] w2 := by
    intro k
    induction k with
    | zero =>
      intro m hm
      have : m = 47 := by omega
      subst this
      rw [ev_145_1]
      simp only [↓e_aload0, ↓e_cv1, i_39, e_rpn, e_rps, e_few0, e_few1, e_few2, e_few3, e_few4, ↓e_iconst, ↓e_istore1, e_klI, e_klR, e_klX, e_klL, ↓e_istore2, ↓e_iload2, ↓e_bipush, ↓e_cmp_ge, ↓e_iload1, ↓e_cv2, ↓e_isub, ↓e_cmp_eq, ↓e_goto, ↓e_iadd, ↓e_iinc2, ↓e_iret, ↓e_nil, b_145_0, b_145_1, b_145_2, b_145_3, b_145_4, ↓ev_145_4]
      exact ⟨fun _ => hfin, fun z => absurd (by decide) z⟩
    | succ k ih =>
      intro m hm
      have hno : ¬ 48 ≤ (m : Int) + 1 := by omega
      have hch := (D.cf 255).ch_in m
      have hI : ∀ x, x = (D.cf 255).ch (m + 1) → Ev Ls (Sm Ls (d + 7)) q bk_145 1 [vR 39, vI x, vI ((m : Int) + 1 + 1)] [] w2 := fun x hx => by rw [hx]; exact ih (m + 1) (by omega)
      rw [Cf.ch_s] at hI
      have c1 : ∀ Q' : Option ab_V → ab_W → Prop, Sm Ls (d + 7) 144 [vR 39, vI ((m : Int) + 1)] w2 Q' = Q' (some (vI ((D.cf 255).fo (m + 1)))) w2 := fun Q' => q_firstAt hr (m := m + 1) (by omega)
      have c2 : ∀ Q' : Option ab_V → ab_W → Prop, Sm Ls (d + 7) 144 [vR 39, vI (m : Int)] w2 Q' = Q' (some (vI ((D.cf 255).fo m))) w2 := fun Q' => q_firstAt hr (m := m) (by omega)
      obtain ⟨u1, u2, u3, u4⟩ : iW ((m : Int) + 1 + 1) = (m : Int) + 1 + 1 ∧ iW ((m : Int) + 1 - 1) = (m : Int) ∧ iW ((D.cf 255).ch m + 1) = (D.cf 255).ch m + 1 ∧ iW ((D.cf 255).ch m + 0) = (D.cf 255).ch m + 0 := ⟨iW_id (by omega) (by omega), (iW_id (by omega) (by omega)).trans (by omega), iW_id (by omega) (by omega), iW_id (by omega) (by omega)⟩
      rw [ev_145_1]
      simp only [↓e_aload0, ↓e_cv1, i_39, e_rpn, e_rps, e_few0, e_few1, e_few2, e_few3, e_few4, ↓e_iconst, ↓e_istore1, e_klI, e_klR, e_klX, e_klL, ↓e_istore2, ↓e_iload2, ↓e_bipush, ↓e_cmp_ge, ↓e_iload1, ↓e_cv2, ↓e_isub, ↓e_cmp_eq, ↓e_goto, ↓e_iadd, ↓e_iinc2, ↓e_iret, ↓e_nil, b_145_0, b_145_1, b_145_2, b_145_3, b_145_4, ↓ev_145_2, ↓ev_145_3, hno, c1, c2, u1, u2, u3, u4, false_implies, not_false_eq_true, true_implies, true_and]
      refine ⟨fun g => hI _ ?_, fun g => hI _ ?_⟩
      · rw [if_pos g]
      · rw [if_neg g]
  have h0 := key 47 0 (by omega)
  simp only [↓e_aload0, ↓e_cv1, i_39, e_rpn, e_rps, e_few0, e_few1, e_few2, e_few3, e_few4, ↓e_iconst, ↓e_istore1, e_klI, e_klR, e_klX, e_klL, ↓e_istore2, ↓e_iload2, ↓e_bipush, ↓e_cmp_ge, ↓e_iload1, ↓e_cv2, ↓e_isub, ↓e_cmp_eq, ↓e_goto, ↓e_iadd, ↓e_iinc2, ↓e_iret, ↓e_nil, b_145_0, b_145_1, b_145_2, b_145_3, b_145_4]
  exact h0
theorem q_leaderOf (ht : m_told w D) {x : Int} (h : ∀ w', m_post D w w' → q (some (vI (if x = 0 then ((D.cf 255).le D.T).1 else ((D.cf 255).le D.T).2))) w') : Sm Ls (d + 8) 147 [vR 39, vI x] w q := by
  have hT4 := Td.T4 ht.2.2.2.2.2.2
  rw [en_147]
  simp only [↓e_aload0, ↓e_cv1, i_39, e_rpn, e_rps, e_few0, e_few1, e_few2, e_few3, e_few4, ↓e_iconst, ↓e_istore2, e_klI, e_klR, e_klX, e_klL, ↓e_istore3, ↓e_istore4, ↓e_iload4, ↓g_39_2, ↓e_cmp_ge, ↓e_istore5, ↓e_istore6, ↓e_iload6, ↓e_bipush, ↓e_iload5, ↓e_cv2, ↓e_cmp_ne, ↓e_goto, ↓e_iadd, ↓e_iinc6, ↓e_iload3, ↓e_cmp_le, ↓e_iload2, ↓e_iinc4, ↓e_iload1, ↓e_if_ne, ↓e_iret, ↓e_nil, b_147_0, b_147_1, b_147_2, b_147_3, b_147_4, b_147_5, b_147_6, b_147_7, b_147_8, b_147_9, b_147_10, b_147_11, b_147_12, true_and]
  refine q_runsTold ht (fun w1 w2 h1 h2 => ?_)
  have hr : m_res w2 (D.cf 255) := ⟨h1.2.1, Td.cok ht.2.2.2.2.2.2 _, w1, h2⟩
  have hfin := h w2 h1
  have hT : w2 39 2 = (D.T : Int) := h1.2.1
  generalize D.cf 255 = c at hr hfin
  have key : ∀ (k t : Nat), t + k = D.T → ∀ y z : ab_V, Ev Ls (Sm Ls (d + 7)) q bk_147 1 [vR 39, vI x, vI (c.le t).1, vI (c.le t).2, vI t, y, z] [] w2 := by
    intro k
    induction k with
    | zero =>
      intro t htk y z
      have : t = D.T := by omega
      subst this
      rw [ev_147_1]
      simp only [↓e_aload0, ↓e_cv1, i_39, e_rpn, e_rps, e_few0, e_few1, e_few2, e_few3, e_few4, ↓e_iconst, ↓e_istore2, e_klI, e_klR, e_klX, e_klL, ↓e_istore3, ↓e_istore4, ↓e_iload4, ↓g_39_2, ↓e_cmp_ge, ↓e_istore5, ↓e_istore6, ↓e_iload6, ↓e_bipush, ↓e_iload5, ↓e_cv2, ↓e_cmp_ne, ↓e_goto, ↓e_iadd, ↓e_iinc6, ↓e_iload3, ↓e_cmp_le, ↓e_iload2, ↓e_iinc4, ↓e_iload1, ↓e_if_ne, ↓e_iret, ↓e_nil, b_147_0, b_147_1, b_147_2, b_147_3, b_147_4, b_147_5, b_147_6, b_147_7, b_147_8, b_147_9, b_147_10, b_147_11, b_147_12, ↓ev_147_10, ↓ev_147_11, ↓ev_147_12, hT]
      refine ⟨fun _ => ⟨fun g => ?_, fun g => ?_⟩, fun z => absurd (Int.le_refl _) z⟩
      · rw [if_neg g] at hfin; exact hfin
      · rw [if_pos (by omega)] at hfin; exact hfin
    | succ k ih =>
      intro t htk y z
      have hno : ¬ (D.T : Int) ≤ (t : Int) := by omega
      have inner : ∀ (k2 m : Nat), m + k2 = 48 → Ev Ls (Sm Ls (d + 7)) q bk_147 2 [vR 39, vI x, vI (c.le t).1, vI (c.le t).2, vI t, vI (c.ah t m), vI m] [] w2 := by
        intro k2
        induction k2 with
        | zero =>
          intro m hm
          have : m = 48 := by omega
          subst this
          have hI : ∀ a b, (a, b) = c.le (t + 1) → ∀ y z : ab_V, Ev Ls (Sm Ls (d + 7)) q bk_147 1 [vR 39, vI x, vI a, vI b, vI ((t : Int) + 1), y, z] [] w2 := fun a b hab y z => by
            have := ih (t + 1) (by omega) y z
            rw [← hab] at this
            exact this
          rw [Cf.le_s] at hI
          have u1 : iW ((t : Int) + 1) = (t : Int) + 1 := iW_id (by omega) (by omega)
          rw [ev_147_2]
          simp only [↓e_aload0, ↓e_cv1, i_39, e_rpn, e_rps, e_few0, e_few1, e_few2, e_few3, e_few4, ↓e_iconst, ↓e_istore2, e_klI, e_klR, e_klX, e_klL, ↓e_istore3, ↓e_istore4, ↓e_iload4, ↓g_39_2, ↓e_cmp_ge, ↓e_istore5, ↓e_istore6, ↓e_iload6, ↓e_bipush, ↓e_iload5, ↓e_cv2, ↓e_cmp_ne, ↓e_goto, ↓e_iadd, ↓e_iinc6, ↓e_iload3, ↓e_cmp_le, ↓e_iload2, ↓e_iinc4, ↓e_iload1, ↓e_if_ne, ↓e_iret, ↓e_nil, b_147_0, b_147_1, b_147_2, b_147_3, b_147_4, b_147_5, b_147_6, b_147_7, b_147_8, b_147_9, b_147_10, b_147_11, b_147_12, ↓ev_147_5, ↓ev_147_6, ↓ev_147_7, ↓ev_147_8, ↓ev_147_9, u1]
          refine ⟨fun _ => ⟨fun g => ⟨fun _ => hI _ _ ?_ _ _, fun g2 => absurd g g2⟩, fun g => ⟨fun g2 => absurd g2 g, fun _ => hI _ _ ?_ _ _⟩⟩, fun z => absurd (by decide) z⟩
          · rw [if_neg (by clear u1; omega)]
          · rw [if_pos (by clear u1; omega)]
        | succ k2 ih2 =>
          intro m hm
          have hno2 : ¬ 48 ≤ (m : Int) := by omega
          have hah := c.ah_in t m
          have hI : ∀ x', x' = c.ah t (m + 1) → Ev Ls (Sm Ls (d + 7)) q bk_147 2 [vR 39, vI x, vI (c.le t).1, vI (c.le t).2, vI t, vI x', vI ((m : Int) + 1)] [] w2 := fun x' hx => by rw [hx]; exact ih2 (m + 1) (by omega)
          rw [Cf.ah_s] at hI
          obtain ⟨u1, u2, u3⟩ : iW ((m : Int) + 1) = (m : Int) + 1 ∧ iW (c.ah t m + 1) = c.ah t m + 1 ∧ iW (c.ah t m + 0) = c.ah t m + 0 := ⟨iW_id (by omega) (by omega), iW_id (by omega) (by omega), iW_id (by omega) (by omega)⟩
          rw [ev_147_2]
          simp only [↓e_aload0, ↓e_cv1, i_39, e_rpn, e_rps, e_few0, e_few1, e_few2, e_few3, e_few4, ↓e_iconst, ↓e_istore2, e_klI, e_klR, e_klX, e_klL, ↓e_istore3, ↓e_istore4, ↓e_iload4, ↓g_39_2, ↓e_cmp_ge, ↓e_istore5, ↓e_istore6, ↓e_iload6, ↓e_bipush, ↓e_iload5, ↓e_cv2, ↓e_cmp_ne, ↓e_goto, ↓e_iadd, ↓e_iinc6, ↓e_iload3, ↓e_cmp_le, ↓e_iload2, ↓e_iinc4, ↓e_iload1, ↓e_if_ne, ↓e_iret, ↓e_nil, b_147_0, b_147_1, b_147_2, b_147_3, b_147_4, b_147_5, b_147_6, b_147_7, b_147_8, b_147_9, b_147_10, b_147_11, b_147_12, ↓ev_147_3, ↓ev_147_4, hno2, q_firstAt hr (show m < 48 by clear u1 u2 u3; omega), u1, u2, u3, false_implies, not_false_eq_true, true_implies, true_and]
          refine ⟨fun g => hI _ ?_, fun g => hI _ ?_⟩
          · rw [if_neg g]
          · rw [if_pos (by clear u1 u2 u3; omega)]
      have hin := inner 48 0 (by omega)
      rw [ev_147_1]
      simp only [↓e_aload0, ↓e_cv1, i_39, e_rpn, e_rps, e_few0, e_few1, e_few2, e_few3, e_few4, ↓e_iconst, ↓e_istore2, e_klI, e_klR, e_klX, e_klL, ↓e_istore3, ↓e_istore4, ↓e_iload4, ↓g_39_2, ↓e_cmp_ge, ↓e_istore5, ↓e_istore6, ↓e_iload6, ↓e_bipush, ↓e_iload5, ↓e_cv2, ↓e_cmp_ne, ↓e_goto, ↓e_iadd, ↓e_iinc6, ↓e_iload3, ↓e_cmp_le, ↓e_iload2, ↓e_iinc4, ↓e_iload1, ↓e_if_ne, ↓e_iret, ↓e_nil, b_147_0, b_147_1, b_147_2, b_147_3, b_147_4, b_147_5, b_147_6, b_147_7, b_147_8, b_147_9, b_147_10, b_147_11, b_147_12, hT, hno, false_implies, not_false_eq_true, true_implies, true_and]
      exact hin
  have h0 := key D.T 0 (by omega) vX vX
  simp only [↓e_aload0, ↓e_cv1, i_39, e_rpn, e_rps, e_few0, e_few1, e_few2, e_few3, e_few4, ↓e_iconst, ↓e_istore2, e_klI, e_klR, e_klX, e_klL, ↓e_istore3, ↓e_istore4, ↓e_iload4, ↓g_39_2, ↓e_cmp_ge, ↓e_istore5, ↓e_istore6, ↓e_iload6, ↓e_bipush, ↓e_iload5, ↓e_cv2, ↓e_cmp_ne, ↓e_goto, ↓e_iadd, ↓e_iinc6, ↓e_iload3, ↓e_cmp_le, ↓e_iload2, ↓e_iinc4, ↓e_iload1, ↓e_if_ne, ↓e_iret, ↓e_nil, b_147_0, b_147_1, b_147_2, b_147_3, b_147_4, b_147_5, b_147_6, b_147_7, b_147_8, b_147_9, b_147_10, b_147_11, b_147_12]
  exact h0
theorem q_atOf (ht : m_told w D) {m t : Nat} (hm : m < 48) (htT : t < D.T) {x : Int} (h : ∀ w', m_post D w w' → q (some (vI ((D.cf 255).at' m t x))) w') : Sm Ls (d + 8) 134 [vR 39, vI m, vI t, vI x] w q := by
  have hT4 := Td.T4 ht.2.2.2.2.2.2
  rw [en_134]
  simp only [↓e_aload0, ↓e_cv1, i_39, e_rpn, e_rps, e_few0, e_few1, e_few2, e_few3, e_few4, ↓e_iconst, ↓e_iload1, ↓e_imul, ↓e_iload2, ↓e_iadd, ↓e_istore4, e_klI, e_klR, e_klX, e_klL, ↓e_iload3, ↓e_if_ne, ↓g_39_23, ↓e_iload4, ↓e_goto, ↓e_cmp_ne, ↓g_39_24, ↓g_39_25, ↓e_iret, ↓x_56, ↓x_57, ↓x_58, ↓e_nil, b_134_0, b_134_1, b_134_2, b_134_3, true_and]
  refine q_runsTold ht (fun w1 w2 h1 h2 => ?_)
  have hfin := h w2 h1
  unfold Cf.at' at hfin
  rw [← h2.F (t := t) (m := m) htT hm, ← h2.L (t := t) (m := m) htT hm, ← h2.R (t := t) (m := m) htT hm] at hfin
  have hin : 0 ≤ 4 * (m : Int) + t ∧ 4 * (m : Int) + t < 192 := by omega
  obtain ⟨u1, u2⟩ : iW (4 * (m : Int)) = 4 * (m : Int) ∧ iW (4 * (m : Int) + t) = 4 * (m : Int) + t := ⟨iW_id (by omega) (by omega), iW_id (by omega) (by omega)⟩
  simp only [↓e_aload0, ↓e_cv1, i_39, e_rpn, e_rps, e_few0, e_few1, e_few2, e_few3, e_few4, ↓e_iconst, ↓e_iload1, ↓e_imul, ↓e_iload2, ↓e_iadd, ↓e_istore4, e_klI, e_klR, e_klX, e_klL, ↓e_iload3, ↓e_if_ne, ↓g_39_23, ↓e_iload4, ↓e_goto, ↓e_cmp_ne, ↓g_39_24, ↓g_39_25, ↓e_iret, ↓x_56, ↓x_57, ↓x_58, ↓e_nil, b_134_0, b_134_1, b_134_2, b_134_3, ↓ev_134_1, ↓ev_134_2, ↓ev_134_3, u1, u2, hin, and_self, true_and]
  refine ⟨fun g1 => ⟨fun g2 => ?_, fun g2 => ?_⟩, fun g1 => ?_⟩
  · rw [if_neg g1, if_neg g2] at hfin; exact hfin
  · rw [if_neg g1, if_pos (Classical.not_not.mp g2)] at hfin; exact hfin
  · rw [if_pos (Classical.not_not.mp g1)] at hfin; exact hfin
noncomputable def p_at (D : Td) (a b x : Int) : Int := if (0 ≤ a ∧ a < 48) ∧ (0 ≤ b ∧ b < D.T) ∧ (0 ≤ x ∧ x ≤ 2) then (D.cf 255).at' a.toNat b.toNat x else -2
theorem q_atM (ht : m_told w D) {a b x : Int} (h : ∀ w', m_scr w w' → q (some (vI (p_at D a b x))) w') : Sm Ls (d + 9) 135 [vR 39, vI a, vI b, vI x] w q := by
  unfold p_at at h
  rw [en_135]
  simp only [↓e_iload1, e_rpn, e_rps, e_few0, e_few1, e_few2, e_few3, e_few4, ↓e_cs1, ↓e_if_eq, ↓e_aload0, ↓e_iload2, ↓e_cv2, i_39, ↓e_iload3, ↓e_cv4, ↓e_goto, ↓e_bipush, ↓e_iret, ↓e_nil, b_135_0, b_135_1, b_135_2, ↓ev_135_1, ↓ev_135_2, q_isMomentM, ab_yn, one0, eq_self, ne_eq, not_true_eq_false, not_false_eq_true, true_implies, false_implies, true_and, and_true, and_self]
  refine ⟨fun g1 => q_isTeamM ht (fun w1 h1 => ?_), fun g1 => ?_⟩
  · have hT4 := Td.T4 ht.2.2.2.2.2.2
    simp only [↓e_iload1, e_rpn, e_rps, e_few0, e_few1, e_few2, e_few3, e_few4, ↓e_cs1, ↓e_if_eq, ↓e_aload0, ↓e_iload2, ↓e_cv2, i_39, ↓e_iload3, ↓e_cv4, ↓e_goto, ↓e_bipush, ↓e_iret, ↓e_nil, b_135_0, b_135_1, b_135_2, ↓ev_135_1, ↓ev_135_2, q_isThree, ab_yn, one0, eq_self, ne_eq, not_true_eq_false, not_false_eq_true, true_implies, false_implies, true_and, and_true, and_self]
    refine ⟨fun g2 => ⟨fun g3 => ?_, fun g3 => ?_⟩, fun g2 => ?_⟩
    · obtain ⟨m, rfl⟩ : ∃ m : Nat, a = m := ⟨a.toNat, by omega⟩
      obtain ⟨t, rfl⟩ : ∃ t : Nat, b = t := ⟨b.toNat, by omega⟩
      refine q_atOf (h1.told ht) (by omega) (by omega) (fun w2 h2 => ?_)
      have := h w2 (h1.1.trans h2.1)
      rw [if_pos (by omega), Int.toNat_natCast, Int.toNat_natCast] at this
      simp only [↓e_iload1, e_rpn, e_rps, e_few0, e_few1, e_few2, e_few3, e_few4, ↓e_cs1, ↓e_if_eq, ↓e_aload0, ↓e_iload2, ↓e_cv2, i_39, ↓e_iload3, ↓e_cv4, ↓e_goto, ↓e_bipush, ↓e_iret, ↓e_nil, b_135_0, b_135_1, b_135_2, ↓ev_135_1, ↓ev_135_2]
      exact this
    · have := h w1 h1.1; rw [if_neg (by omega)] at this; exact this
    · have := h w1 h1.1; rw [if_neg (by omega)] at this; exact this
  · have := h w (m_scr.refl w); rw [if_neg (by omega)] at this; exact this
theorem q_homeOfM (ht : m_told w D) {t : Nat} (htT : t < D.T) (h : ∀ w', m_post D w w' → q (some (vI ((D.cf 255).H t))) w') : Sm Ls (d + 8) 136 [vR 39, vI t] w q := by
  have hT4 := Td.T4 ht.2.2.2.2.2.2
  rw [en_136]
  simp only [↓e_aload0, ↓e_cv1, i_39, e_rpn, e_rps, e_few0, e_few1, e_few2, e_few3, e_few4, ↓g_39_20, ↓e_iload1, ↓e_iret, ↓x_53, ↓e_nil, b_136_0, true_and]
  refine q_runsTold ht (fun w1 w2 h1 h2 => ?_)
  have hfin := h w2 h1
  rw [← h2.H (t := t) htT] at hfin
  have hin : 0 ≤ (t : Int) ∧ (t : Int) < 4 := by omega
  simp only [↓e_aload0, ↓e_cv1, i_39, e_rpn, e_rps, e_few0, e_few1, e_few2, e_few3, e_few4, ↓g_39_20, ↓e_iload1, ↓e_iret, ↓x_53, ↓e_nil, b_136_0, hin, and_self, true_and]
  exact hfin
noncomputable def p_team (D : Td) (b : Int) (f : Nat → Int) : Int := if 0 ≤ b ∧ b < D.T then f b.toNat else -2
theorem q_homeM (ht : m_told w D) {b : Int} (h : ∀ w', m_scr w w' → q (some (vI (p_team D b (D.cf 255).H))) w') : Sm Ls (d + 9) 137 [vR 39, vI b] w q := by
  unfold p_team at h
  rw [en_137]
  simp only [↓e_aload0, ↓e_iload1, ↓e_cv2, i_39, e_rpn, e_rps, e_few0, e_few1, e_few2, e_few3, e_few4, ↓e_if_eq, ↓e_goto, ↓e_bipush, ↓e_iret, ↓e_nil, b_137_0, b_137_1, b_137_2, true_and]
  refine q_isTeamM ht (fun w1 h1 => ?_)
  simp only [↓e_aload0, ↓e_iload1, ↓e_cv2, i_39, e_rpn, e_rps, e_few0, e_few1, e_few2, e_few3, e_few4, ↓e_if_eq, ↓e_goto, ↓e_bipush, ↓e_iret, ↓e_nil, b_137_0, b_137_1, b_137_2, ↓ev_137_1, ↓ev_137_2, ab_yn, one0, eq_self, ne_eq, not_true_eq_false, not_false_eq_true, true_implies, false_implies, true_and, and_true, and_self]
  refine ⟨fun g2 => ?_, fun g2 => ?_⟩
  · obtain ⟨t, rfl⟩ : ∃ t : Nat, b = t := ⟨b.toNat, by omega⟩
    refine q_homeOfM (h1.told ht) (by omega) (fun w2 h2 => ?_)
    have := h w2 (h1.1.trans h2.1)
    rw [if_pos (by omega), Int.toNat_natCast] at this
    simp only [↓e_aload0, ↓e_iload1, ↓e_cv2, i_39, e_rpn, e_rps, e_few0, e_few1, e_few2, e_few3, e_few4, ↓e_if_eq, ↓e_goto, ↓e_bipush, ↓e_iret, ↓e_nil, b_137_0, b_137_1, b_137_2, ↓ev_137_2]
    exact this
  · have := h w1 h1.1; rw [if_neg (by omega)] at this; exact this
theorem q_stoodOfM (ht : m_told w D) {t : Nat} (htT : t < D.T) (h : ∀ w', m_post D w w' → q (some (vI ((D.cf 255).D t))) w') : Sm Ls (d + 8) 149 [vR 39, vI t] w q := by
  have hT4 := Td.T4 ht.2.2.2.2.2.2
  rw [en_149]
  simp only [↓e_aload0, ↓e_cv1, i_39, e_rpn, e_rps, e_few0, e_few1, e_few2, e_few3, e_few4, ↓g_39_21, ↓e_iload1, ↓e_iret, ↓x_54, ↓e_nil, b_149_0, true_and]
  refine q_runsTold ht (fun w1 w2 h1 h2 => ?_)
  have hfin := h w2 h1
  rw [← h2.sto (t := t) htT] at hfin
  have hin : 0 ≤ (t : Int) ∧ (t : Int) < 4 := by omega
  simp only [↓e_aload0, ↓e_cv1, i_39, e_rpn, e_rps, e_few0, e_few1, e_few2, e_few3, e_few4, ↓g_39_21, ↓e_iload1, ↓e_iret, ↓x_54, ↓e_nil, b_149_0, hin, and_self, true_and]
  exact hfin
theorem q_stoodM (ht : m_told w D) {b : Int} (h : ∀ w', m_scr w w' → q (some (vI (p_team D b (D.cf 255).D))) w') : Sm Ls (d + 9) 150 [vR 39, vI b] w q := by
  unfold p_team at h
  rw [en_150]
  simp only [↓e_aload0, ↓e_iload1, ↓e_cv2, i_39, e_rpn, e_rps, e_few0, e_few1, e_few2, e_few3, e_few4, ↓e_if_eq, ↓e_goto, ↓e_bipush, ↓e_iret, ↓e_nil, b_150_0, b_150_1, b_150_2, true_and]
  refine q_isTeamM ht (fun w1 h1 => ?_)
  simp only [↓e_aload0, ↓e_iload1, ↓e_cv2, i_39, e_rpn, e_rps, e_few0, e_few1, e_few2, e_few3, e_few4, ↓e_if_eq, ↓e_goto, ↓e_bipush, ↓e_iret, ↓e_nil, b_150_0, b_150_1, b_150_2, ↓ev_150_1, ↓ev_150_2, ab_yn, one0, eq_self, ne_eq, not_true_eq_false, not_false_eq_true, true_implies, false_implies, true_and, and_true, and_self]
  refine ⟨fun g2 => ?_, fun g2 => ?_⟩
  · obtain ⟨t, rfl⟩ : ∃ t : Nat, b = t := ⟨b.toNat, by omega⟩
    refine q_stoodOfM (h1.told ht) (by omega) (fun w2 h2 => ?_)
    have := h w2 (h1.1.trans h2.1)
    rw [if_pos (by omega), Int.toNat_natCast] at this
    simp only [↓e_aload0, ↓e_iload1, ↓e_cv2, i_39, e_rpn, e_rps, e_few0, e_few1, e_few2, e_few3, e_few4, ↓e_if_eq, ↓e_goto, ↓e_bipush, ↓e_iret, ↓e_nil, b_150_0, b_150_1, b_150_2, ↓ev_150_2]
    exact this
  · have := h w1 h1.1; rw [if_neg (by omega)] at this; exact this
theorem q_lastedOf (ht : m_told w D) {t l : Nat} (htT : t < D.T) (hl : l < 4) (h : ∀ w', m_post D w w' → q (some (vI ((D.cf 255).la t l))) w') : Sm Ls (d + 8) 138 [vR 39, vI t, vI l] w q := by
  have hT4 := Td.T4 ht.2.2.2.2.2.2
  rw [en_138]
  simp only [↓e_aload0, ↓e_cv1, i_39, e_rpn, e_rps, e_few0, e_few1, e_few2, e_few3, e_few4, ↓g_39_22, ↓e_iconst, ↓e_iload1, ↓e_imul, ↓e_iload2, ↓e_iadd, ↓e_iret, ↓x_55, ↓e_nil, b_138_0, true_and]
  refine q_runsTold ht (fun w1 w2 h1 h2 => ?_)
  have hfin := h w2 h1
  rw [← h2.la (t := t) (l := l) htT hl] at hfin
  have hin : 0 ≤ 4 * (t : Int) + l ∧ 4 * (t : Int) + l < 16 := by omega
  obtain ⟨u1, u2⟩ : iW (4 * (t : Int)) = 4 * (t : Int) ∧ iW (4 * (t : Int) + l) = 4 * (t : Int) + l := ⟨iW_id (by omega) (by omega), iW_id (by omega) (by omega)⟩
  simp only [↓e_aload0, ↓e_cv1, i_39, e_rpn, e_rps, e_few0, e_few1, e_few2, e_few3, e_few4, ↓g_39_22, ↓e_iconst, ↓e_iload1, ↓e_imul, ↓e_iload2, ↓e_iadd, ↓e_iret, ↓x_55, ↓e_nil, b_138_0, hin, u1, u2, and_self, true_and]
  exact hfin
noncomputable def p_tl (D : Td) (a b : Int) (f : Nat → Nat → Int) : Int := if (0 ≤ a ∧ a < D.T) ∧ (0 ≤ b ∧ b < 4) then f a.toNat b.toNat else -2
theorem q_lastedM (ht : m_told w D) {a b : Int} (h : ∀ w', m_scr w w' → q (some (vI (p_tl D a b (D.cf 255).la))) w') : Sm Ls (d + 9) 139 [vR 39, vI a, vI b] w q := by
  unfold p_tl at h
  rw [en_139]
  simp only [↓e_aload0, ↓e_iload1, ↓e_cv2, i_39, e_rpn, e_rps, e_few0, e_few1, e_few2, e_few3, e_few4, ↓e_if_eq, ↓e_iload2, ↓e_cs1, ↓e_cv3, ↓e_goto, ↓e_bipush, ↓e_iret, ↓e_nil, b_139_0, b_139_1, b_139_2, true_and]
  refine q_isTeamM ht (fun w1 h1 => ?_)
  simp only [↓e_aload0, ↓e_iload1, ↓e_cv2, i_39, e_rpn, e_rps, e_few0, e_few1, e_few2, e_few3, e_few4, ↓e_if_eq, ↓e_iload2, ↓e_cs1, ↓e_cv3, ↓e_goto, ↓e_bipush, ↓e_iret, ↓e_nil, b_139_0, b_139_1, b_139_2, ↓ev_139_1, ↓ev_139_2, q_isFour, ab_yn, one0, eq_self, ne_eq, not_true_eq_false, not_false_eq_true, true_implies, false_implies, true_and, and_true, and_self]
  refine ⟨fun g2 => ⟨fun g3 => ?_, fun g3 => ?_⟩, fun g2 => ?_⟩
  · obtain ⟨t, rfl⟩ : ∃ t : Nat, a = t := ⟨a.toNat, by omega⟩
    obtain ⟨l, rfl⟩ : ∃ l : Nat, b = l := ⟨b.toNat, by omega⟩
    refine q_lastedOf (h1.told ht) (by omega) (by omega) (fun w2 h2 => ?_)
    have := h w2 (h1.1.trans h2.1)
    rw [if_pos (by omega), Int.toNat_natCast, Int.toNat_natCast] at this
    simp only [↓e_aload0, ↓e_iload1, ↓e_cv2, i_39, e_rpn, e_rps, e_few0, e_few1, e_few2, e_few3, e_few4, ↓e_if_eq, ↓e_iload2, ↓e_cs1, ↓e_cv3, ↓e_goto, ↓e_bipush, ↓e_iret, ↓e_nil, b_139_0, b_139_1, b_139_2, ↓ev_139_2]
    exact this
  · have := h w1 h1.1; rw [if_neg (by omega)] at this; exact this
  · have := h w1 h1.1; rw [if_neg (by omega)] at this; exact this
noncomputable def p_runner (D : Td) (a b x : Int) : Int := if (0 ≤ a ∧ a < D.T) ∧ (0 ≤ b ∧ b < 4) ∧ (x = 0 ∨ x = 1) then (if x = 0 then D.so a.toNat b.toNat else D.pa a.toNat b.toNat) else -2
theorem q_runnerM (ht : m_told w D) {a b x : Int} (h : ∀ w', m_scr w w' → q (some (vI (p_runner D a b x))) w') : Sm Ls (d + 7) 120 [vR 39, vI a, vI b, vI x] w q := by
  unfold p_runner at h
  have hT4 := Td.T4 ht.2.2.2.2.2.2
  rw [en_120]
  simp only [↓e_aload0, ↓e_iload1, ↓e_cv2, i_39, e_rpn, e_rps, e_few0, e_few1, e_few2, e_few3, e_few4, ↓e_if_eq, ↓e_iload2, ↓e_cs1, ↓e_iload3, ↓e_cv4, ↓e_goto, ↓e_bipush, ↓e_iret, ↓e_nil, b_120_0, b_120_1, b_120_2, true_and]
  refine q_isTeamM ht (fun w1 h1 => ?_)
  simp only [↓e_aload0, ↓e_iload1, ↓e_cv2, i_39, e_rpn, e_rps, e_few0, e_few1, e_few2, e_few3, e_few4, ↓e_if_eq, ↓e_iload2, ↓e_cs1, ↓e_iload3, ↓e_cv4, ↓e_goto, ↓e_bipush, ↓e_iret, ↓e_nil, b_120_0, b_120_1, b_120_2, ↓ev_120_1, ↓ev_120_2, q_isFour, q_isTwo, ab_yn, one0, eq_self, ne_eq, not_true_eq_false, not_false_eq_true, true_implies, false_implies, true_and, and_true, and_self]
  refine ⟨fun g2 => ⟨fun g3 => ⟨fun g4 => ?_, fun g4 => ?_⟩, fun g3 => ?_⟩, fun g2 => ?_⟩
  · obtain ⟨t, rfl⟩ : ∃ t : Nat, a = t := ⟨a.toNat, by omega⟩
    obtain ⟨l, rfl⟩ : ∃ l : Nat, b = l := ⟨b.toNat, by omega⟩
    refine q_runnerOf h1.2 (by omega) hT4 (by omega) ?_
    have := h w1 h1.1
    rw [if_pos (by omega), Int.toNat_natCast, Int.toNat_natCast] at this
    simp only [↓e_aload0, ↓e_iload1, ↓e_cv2, i_39, e_rpn, e_rps, e_few0, e_few1, e_few2, e_few3, e_few4, ↓e_if_eq, ↓e_iload2, ↓e_cs1, ↓e_iload3, ↓e_cv4, ↓e_goto, ↓e_bipush, ↓e_iret, ↓e_nil, b_120_0, b_120_1, b_120_2, ↓ev_120_2]
    exact this
  · have := h w1 h1.1; rw [if_neg (by omega)] at this; exact this
  · have := h w1 h1.1; rw [if_neg (by omega)] at this; exact this
  · have := h w1 h1.1; rw [if_neg (by omega)] at this; exact this
noncomputable def p_won (D : Td) (x : Int) : Int := if x = 0 ∨ x = 1 then (D.cf 255).wb x else -2
theorem q_wonM (ht : m_told w D) {x : Int} (h : ∀ w', m_scr w w' → q (some (vI (p_won D x))) w') : Sm Ls (d + 9) 143 [vR 39, vI x] w q := by
  unfold p_won at h
  rw [en_143]
  simp only [↓e_iload1, e_rpn, e_rps, e_few0, e_few1, e_few2, e_few3, e_few4, ↓e_cs1, ↓e_if_eq, ↓e_aload0, ↓e_cv2, i_39, ↓e_goto, ↓e_bipush, ↓e_iret, ↓e_nil, b_143_0, b_143_1, b_143_2, ↓ev_143_1, ↓ev_143_2, q_isTwo, ab_yn, one0, eq_self, ne_eq, not_true_eq_false, not_false_eq_true, true_implies, false_implies, true_and, and_true, and_self]
  refine ⟨fun g2 => ?_, fun g2 => ?_⟩
  · refine q_wonOf ht (fun w2 h2 => ?_)
    have := h w2 h2.1
    rw [if_pos (by omega)] at this
    simp only [↓e_iload1, e_rpn, e_rps, e_few0, e_few1, e_few2, e_few3, e_few4, ↓e_cs1, ↓e_if_eq, ↓e_aload0, ↓e_cv2, i_39, ↓e_goto, ↓e_bipush, ↓e_iret, ↓e_nil, b_143_0, b_143_1, b_143_2, ↓ev_143_2]
    exact this
  · have := h w (m_scr.refl w); rw [if_neg (by omega)] at this; exact this
noncomputable def p_leader (D : Td) (x : Int) : Int := if x = 0 ∨ x = 1 then (if x = 0 then ((D.cf 255).le D.T).1 else ((D.cf 255).le D.T).2) else -2
theorem q_leaderM (ht : m_told w D) {x : Int} (h : ∀ w', m_scr w w' → q (some (vI (p_leader D x))) w') : Sm Ls (d + 9) 148 [vR 39, vI x] w q := by
  unfold p_leader at h
  rw [en_148]
  simp only [↓e_iload1, e_rpn, e_rps, e_few0, e_few1, e_few2, e_few3, e_few4, ↓e_cs1, ↓e_if_eq, ↓e_aload0, ↓e_cv2, i_39, ↓e_goto, ↓e_bipush, ↓e_iret, ↓e_nil, b_148_0, b_148_1, b_148_2, ↓ev_148_1, ↓ev_148_2, q_isTwo, ab_yn, one0, eq_self, ne_eq, not_true_eq_false, not_false_eq_true, true_implies, false_implies, true_and, and_true, and_self]
  refine ⟨fun g2 => ?_, fun g2 => ?_⟩
  · refine q_leaderOf ht (fun w2 h2 => ?_)
    have := h w2 h2.1
    rw [if_pos (by omega)] at this
    simp only [↓e_iload1, e_rpn, e_rps, e_few0, e_few1, e_few2, e_few3, e_few4, ↓e_cs1, ↓e_if_eq, ↓e_aload0, ↓e_cv2, i_39, ↓e_goto, ↓e_bipush, ↓e_iret, ↓e_nil, b_148_0, b_148_1, b_148_2, ↓ev_148_2]
    exact this
  · have := h w (m_scr.refl w); rw [if_neg (by omega)] at this; exact this
theorem q_changesM (ht : m_told w D) (h : ∀ w', m_scr w w' → q (some (vI ((D.cf 255).ch 47))) w') : Sm Ls (d + 9) 146 [vR 39] w q := by
  rw [en_146]
  simp only [↓e_aload0, ↓e_cv1, i_39, e_rpn, e_rps, e_few0, e_few1, e_few2, e_few3, e_few4, ↓e_iret, ↓e_nil, b_146_0, true_and]
  refine q_changesOf ht (fun w2 h2 => ?_)
  simp only [↓e_aload0, ↓e_cv1, i_39, e_rpn, e_rps, e_few0, e_few1, e_few2, e_few3, e_few4, ↓e_iret, ↓e_nil, b_146_0]
  exact h w2 h2.1
theorem q_teamsOf (ht : m_told w D) (h : ∀ w', m_post D w w' → q (some (vI D.T)) w') : Sm Ls (d + 6) 189 [vR 39] w q := by
  rw [en_189]
  simp only [↓e_aload0, ↓e_cv1, i_39, e_rpn, e_rps, e_few0, e_few1, e_few2, e_few3, e_few4, ↓g_39_2, ↓e_iret, ↓e_nil, b_189_0, true_and]
  refine q_reads ht (fun w2 h2 => ?_)
  simp only [↓e_aload0, ↓e_cv1, i_39, e_rpn, e_rps, e_few0, e_few1, e_few2, e_few3, e_few4, ↓g_39_2, ↓e_iret, ↓e_nil, b_189_0, h2.2.1]
  exact h w2 h2
theorem q_homesOf (ht : m_told w D) (h : ∀ w', m_post D w w' → q (some (vI ((D.cf 255).ho D.T))) w') : Sm Ls (d + 8) 187 [vR 39] w q := by
  have hT4 := Td.T4 ht.2.2.2.2.2.2
  rw [en_187]
  simp only [↓e_aload0, ↓e_cv1, i_39, e_rpn, e_rps, e_few0, e_few1, e_few2, e_few3, e_few4, ↓e_iconst, ↓e_istore1, e_klI, e_klR, e_klX, e_klL, ↓e_istore2, ↓e_iload2, ↓g_39_2, ↓e_cmp_ge, ↓e_iload1, ↓g_39_20, ↓e_cmp_eq, ↓e_goto, ↓e_iadd, ↓e_iinc2, ↓e_iret, ↓x_53, ↓e_nil, b_187_0, b_187_1, b_187_2, b_187_3, b_187_4, true_and]
  refine q_runsTold ht (fun w1 w2 h1 h2 => ?_)
  have hfin := h w2 h1
  have hT : w2 39 2 = (D.T : Int) := h1.2.1
  have hH : ∀ t, t < D.T → w2 53 t = (D.cf 255).H t := fun t ht => h2.H ht
  generalize D.cf 255 = c at hfin hH
  have key : ∀ (k t : Nat), t + k = D.T → Ev Ls (Sm Ls (d + 7)) q bk_187 1 [vR 39, vI (c.ho t), vI t] [] w2 := by
    intro k
    induction k with
    | zero =>
      intro t htk
      have : t = D.T := by omega
      subst this
      rw [ev_187_1]
      simp only [↓e_aload0, ↓e_cv1, i_39, e_rpn, e_rps, e_few0, e_few1, e_few2, e_few3, e_few4, ↓e_iconst, ↓e_istore1, e_klI, e_klR, e_klX, e_klL, ↓e_istore2, ↓e_iload2, ↓g_39_2, ↓e_cmp_ge, ↓e_iload1, ↓g_39_20, ↓e_cmp_eq, ↓e_goto, ↓e_iadd, ↓e_iinc2, ↓e_iret, ↓x_53, ↓e_nil, b_187_0, b_187_1, b_187_2, b_187_3, b_187_4, ↓ev_187_4, hT]
      exact ⟨fun _ => hfin, fun z => absurd (Int.le_refl _) z⟩
    | succ k ih =>
      intro t htk
      have hno : ¬ (D.T : Int) ≤ (t : Int) := by omega
      have hin : 0 ≤ (t : Int) ∧ (t : Int) < 4 := by omega
      have hho := c.ho_in t
      have e1 := hH t (by omega)
      have hI : ∀ x', x' = c.ho (t + 1) → Ev Ls (Sm Ls (d + 7)) q bk_187 1 [vR 39, vI x', vI ((t : Int) + 1)] [] w2 := fun x' hx => by rw [hx]; exact ih (t + 1) (by omega)
      rw [Cf.ho_s] at hI
      obtain ⟨u1, u2, u3⟩ : iW ((t : Int) + 1) = (t : Int) + 1 ∧ iW (c.ho t + 1) = c.ho t + 1 ∧ iW (c.ho t + 0) = c.ho t + 0 := ⟨iW_id (by omega) (by omega), iW_id (by omega) (by omega), iW_id (by omega) (by omega)⟩
      rw [ev_187_1]
      simp only [↓e_aload0, ↓e_cv1, i_39, e_rpn, e_rps, e_few0, e_few1, e_few2, e_few3, e_few4, ↓e_iconst, ↓e_istore1, e_klI, e_klR, e_klX, e_klL, ↓e_istore2, ↓e_iload2, ↓g_39_2, ↓e_cmp_ge, ↓e_iload1, ↓g_39_20, ↓e_cmp_eq, ↓e_goto, ↓e_iadd, ↓e_iinc2, ↓e_iret, ↓x_53, ↓e_nil, b_187_0, b_187_1, b_187_2, b_187_3, b_187_4, ↓ev_187_2, ↓ev_187_3, hT, hno, hin, e1, u1, u2, u3, and_self, false_implies, not_false_eq_true, true_implies, true_and]
      refine ⟨fun g => hI _ ?_, fun g => hI _ ?_⟩
      · rw [if_pos g]
      · rw [if_neg g]
  have h0 := key D.T 0 (by omega)
  simp only [↓e_aload0, ↓e_cv1, i_39, e_rpn, e_rps, e_few0, e_few1, e_few2, e_few3, e_few4, ↓e_iconst, ↓e_istore1, e_klI, e_klR, e_klX, e_klL, ↓e_istore2, ↓e_iload2, ↓g_39_2, ↓e_cmp_ge, ↓e_iload1, ↓g_39_20, ↓e_cmp_eq, ↓e_goto, ↓e_iadd, ↓e_iinc2, ↓e_iret, ↓x_53, ↓e_nil, b_187_0, b_187_1, b_187_2, b_187_3, b_187_4]
  exact h0
theorem q_allMetres (ht : m_told w D) (h : ∀ w', m_post D w w' → q (some (vI ((D.cf 255).me D.T))) w') : Sm Ls (d + 8) 188 [vR 39] w q := by
  have hT4 := Td.T4 ht.2.2.2.2.2.2
  rw [en_188]
  simp only [↓e_aload0, ↓e_cv1, i_39, e_rpn, e_rps, e_few0, e_few1, e_few2, e_few3, e_few4, ↓g_39_17, ↓e_iconst, ↓e_iadd, ↓e_iret, ↓x_50, ↓e_nil, b_188_0, true_and]
  refine q_runsTold ht (fun w1 w2 h1 h2 => ?_)
  have hfin := h w2 h1
  have hF : ∀ t, t < D.T → w2 50 t = (D.cf 255).F t 47 := fun t ht => (h2.2.1 t ht).1
  have hZ : ∀ t : Nat, D.T ≤ t → t < 4 → w2 50 t = 0 := h2.2.2.2
  have hFi : ∀ t, t < D.T → 0 ≤ (D.cf 255).F t 47 ∧ (D.cf 255).F t 47 ≤ 249 := fun t htT => Cf.F_in (Td.cok ht.2.2.2.2.2.2 _) htT (by omega)
  generalize D.cf 255 = c at hfin hF hFi
  generalize D.T = T at hfin hF hFi hZ hT4
  have e : w2 50 0 + w2 50 1 + w2 50 2 + w2 50 3 = c.me T ∧ (0 ≤ w2 50 0 ∧ w2 50 0 ≤ 249) ∧ (0 ≤ w2 50 1 ∧ w2 50 1 ≤ 249) ∧ (0 ≤ w2 50 2 ∧ w2 50 2 ≤ 249) ∧ (0 ≤ w2 50 3 ∧ w2 50 3 ≤ 249) := by
    have b0 : 0 < T → w2 50 0 = c.F 0 47 := fun h => hF 0 h
    have b1 : 1 < T → w2 50 1 = c.F 1 47 := fun h => hF 1 h
    have b2 : 2 < T → w2 50 2 = c.F 2 47 := fun h => hF 2 h
    have b3 : 3 < T → w2 50 3 = c.F 3 47 := fun h => hF 3 h
    have z0 : T ≤ 0 → w2 50 0 = 0 := fun h => hZ 0 h (by omega)
    have z1 : T ≤ 1 → w2 50 1 = 0 := fun h => hZ 1 h (by omega)
    have z2 : T ≤ 2 → w2 50 2 = 0 := fun h => hZ 2 h (by omega)
    have z3 : T ≤ 3 → w2 50 3 = 0 := fun h => hZ 3 h (by omega)
    have f0 : 0 < T → 0 ≤ c.F 0 47 ∧ c.F 0 47 ≤ 249 := fun h => hFi 0 h
    have f1 : 1 < T → 0 ≤ c.F 1 47 ∧ c.F 1 47 ≤ 249 := fun h => hFi 1 h
    have f2 : 2 < T → 0 ≤ c.F 2 47 ∧ c.F 2 47 ≤ 249 := fun h => hFi 2 h
    have f3 : 3 < T → 0 ≤ c.F 3 47 ∧ c.F 3 47 ≤ 249 := fun h => hFi 3 h
    have m0 : c.me 0 = 0 := rfl
    have m1 : c.me 1 = c.me 0 + c.F 0 47 := rfl
    have m2 : c.me 2 = c.me 1 + c.F 1 47 := rfl
    have m3 : c.me 3 = c.me 2 + c.F 2 47 := rfl
    have m4 : c.me 4 = c.me 3 + c.F 3 47 := rfl
    clear hF hZ hFi
    rcases (show T = 0 ∨ T = 1 ∨ T = 2 ∨ T = 3 ∨ T = 4 by omega) with rfl | rfl | rfl | rfl | rfl
    all_goals omega
  obtain ⟨e0, e1, e2, e3, e4⟩ := e
  rw [← e0] at hfin
  obtain ⟨u1, u2, u3⟩ : iW (w2 50 0 + w2 50 1) = w2 50 0 + w2 50 1 ∧ iW (w2 50 0 + w2 50 1 + w2 50 2) = w2 50 0 + w2 50 1 + w2 50 2 ∧ iW (w2 50 0 + w2 50 1 + w2 50 2 + w2 50 3) = w2 50 0 + w2 50 1 + w2 50 2 + w2 50 3 := ⟨iW_id (by omega) (by omega), iW_id (by omega) (by omega), iW_id (by omega) (by omega)⟩
  simp only [↓e_aload0, ↓e_cv1, i_39, e_rpn, e_rps, e_few0, e_few1, e_few2, e_few3, e_few4, ↓g_39_17, ↓e_iconst, ↓e_iadd, ↓e_iret, ↓x_50, ↓e_nil, b_188_0, u1, u2, u3, true_and]
  exact ⟨by decide, by decide, by decide, by decide, hfin⟩
end Moments33
