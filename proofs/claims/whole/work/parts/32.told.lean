/-! what has been told -/
theorem x_F_ex (n : Nat) (b1 : Nat → Int) : ∃ v, x_F n b1 v := by
  have key : ∀ k, k ≤ n → (∃ v, x_F n b1 v) ∨ ∀ j, j < k → x_go b1 j := by
    intro k
    induction k with
    | zero => intro _; exact Or.inr (fun j hj => by omega)
    | succ k ih =>
      intro hk
      rcases ih (by omega) with h | h
      · exact Or.inl h
      · by_cases hg : x_go b1 k
        · refine Or.inr (fun j hj => ?_)
          by_cases hjk : j = k
          · rw [hjk]; exact hg
          · exact h j (by omega)
        · exact Or.inl ⟨(k : Int), Or.inl ⟨k, by omega, hg, h, rfl⟩⟩
  rcases key n (Nat.le_refl _) with h | h
  · exact h
  · exact ⟨_, Or.inr ⟨h, rfl⟩⟩
abbrev Td : Type := Nat × (Nat → Int) × Int × Nat × (Nat → Int) × (Nat → Int) × (Nat → Int) × Nat × (Nat → Int) × (Nat → Int) × (Nat → Int)
def Td.n (D : Td) : Nat := D.1
def Td.by' (D : Td) : Nat → Int := D.2.1
def Td.lg (D : Td) : Int := D.2.2.1
def Td.k (D : Td) : Nat := D.2.2.2.1
def Td.ek (D : Td) : Nat → Int := D.2.2.2.2.1
def Td.ew (D : Td) : Nat → Int := D.2.2.2.2.2.1
def Td.en (D : Td) : Nat → Int := D.2.2.2.2.2.2.1
def Td.sn (D : Td) : Nat := D.2.2.2.2.2.2.2.1
def Td.sm (D : Td) : Nat → Int := D.2.2.2.2.2.2.2.2.1
def Td.st (D : Td) : Nat → Int := D.2.2.2.2.2.2.2.2.2.1
def Td.sr (D : Td) : Nat → Int := D.2.2.2.2.2.2.2.2.2.2
/-- a race: teams, runners, length, rain, stops -/
abbrev Cf : Type := Nat × (Nat → Nat → Int) × (Nat → Nat → Int) × Int × (Nat → Bool) × (Nat → Nat → Bool)
def Cf.T (c : Cf) : Nat := c.1
def Cf.so (c : Cf) : Nat → Nat → Int := c.2.1
def Cf.pa (c : Cf) : Nat → Nat → Int := c.2.2.1
def Cf.lg (c : Cf) : Int := c.2.2.2.1
def Cf.rn (c : Cf) : Nat → Bool := c.2.2.2.2.1
def Cf.sd (c : Cf) : Nat → Nat → Bool := c.2.2.2.2.2
def Cf.F (c : Cf) : Nat → Nat → Int := z_F c.so c.pa c.lg c.rn c.sd
def Cf.E (c : Cf) : Nat → Nat → Int := z_E c.so c.pa c.lg c.rn c.sd
def Cf.H (c : Cf) : Nat → Int := Eh c.E
def Cf.R (c : Cf) (t m : Nat) : Int := r_rk c.F c.H t m c.T
def Cf.L (c : Cf) (t m : Nat) : Int := z_L c.so c.pa c.lg c.rn c.sd t m
def Cf.D (c : Cf) (t : Nat) : Int := t_D (c.so t) (c.pa t) c.lg c.rn (c.sd t) 48
def Cf.la (c : Cf) (t l : Nat) : Int := t_L (c.so t) (c.pa t) c.lg c.rn (c.sd t) l 48
def Cf.fo (c : Cf) (m : Nat) : Int := (r_fo c.F c.H m c.T).1
def Cf.won (c : Cf) : Int := r_won c.F c.H c.T
def Cf.ok (c : Cf) : Prop := z_ok c.T c.pa c.lg
theorem Cf.rok {c : Cf} (h : c.ok) : r_ok c.F c.H c.T := z_r_ok h
noncomputable def Td.v (D : Td) : Int := Classical.choose (x_F_ex D.n D.by')
theorem Td.hv (D : Td) : x_F D.n D.by' D.v := Classical.choose_spec (x_F_ex D.n D.by')
noncomputable def Td.T (D : Td) : Nat := x_T D.n D.v
def Td.so (D : Td) : Nat → Nat → Int := x_so D.by'
def Td.pa (D : Td) : Nat → Nat → Int := x_pa D.by'
def Td.rn (D : Td) (s : Nat) (m : Nat) : Bool := e_rn D.ek D.ew s m D.k
def Td.sd (D : Td) (s : Nat) (t m : Nat) : Bool := e_sd D.ek D.ew D.en s t m D.k
noncomputable def Td.cf (D : Td) (s : Nat) : Cf := ⟨D.T, D.so, D.pa, D.lg, D.rn s, D.sd s⟩
def Td.ok (D : Td) : Prop := D.n ≤ 35 ∧ (∀ k, k < D.n → 0 ≤ D.by' k ∧ D.by' k ≤ 255) ∧ (10 ≤ D.lg ∧ D.lg ≤ 60) ∧ e_ok D.k D.ek D.ew D.en ∧ s_ok D.sn D.sm D.st D.sr
theorem Td.cok {D : Td} (h : D.ok) (s : Nat) : (D.cf s).ok := by
  have := x_run h.1 D.hv
  exact ⟨this.1, h.2.2.1.1, h.2.2.1.2, fun t ht l hl => (this.2 t ht l hl).2.2⟩
theorem Td.T4 {D : Td} (h : D.ok) : D.T ≤ 4 := (Td.cok h 0).1
/-- the model holds it -/
def m_told (w : ab_W) (D : Td) : Prop := m_text w D.n D.by' ∧ w 39 5 = D.lg ∧ w 39 6 = D.k ∧ (∀ e : Nat, e < D.k → w 43 e = D.ek e ∧ w 44 e = D.ew e ∧ w 45 e = D.en e) ∧ w 39 27 = D.sn ∧ (∀ e : Nat, e < D.sn → w 60 e = D.sm e ∧ w 61 e = D.st e ∧ w 62 e = D.sr e) ∧ D.ok
/-- the model's scratch alone has changed -/
def m_scr (w w' : ab_W) : Prop := (∀ p, (p < 39 ∨ p = 40 ∨ (43 ≤ p ∧ p ≤ 45) ∨ (60 ≤ p ∧ p ≤ 62) ∨ 63 < p) → w' p = w p) ∧ ∀ j, j ≠ 2 → j ≠ 10 → j ≠ 11 → j ≠ 15 → w' 39 j = w 39 j
theorem m_scr.refl (w : ab_W) : m_scr w w := ⟨fun _ _ => rfl, fun _ _ _ _ _ => rfl⟩
theorem m_scr.trans {a b c : ab_W} (h : m_scr a b) (h2 : m_scr b c) : m_scr a c := ⟨fun p hp => (h2.1 p hp).trans (h.1 p hp), fun j j1 j2 j3 j4 => (h2.2 j j1 j2 j3 j4).trans (h.2 j j1 j2 j3 j4)⟩
theorem m_told.scr {w w' : ab_W} {D : Td} (h : m_told w D) (hs : m_scr w w') : m_told w' D := by
  obtain ⟨⟨a1, a2, a3⟩, a4, a5, a6, a7, a8, a9⟩ := h
  unfold m_told m_text
  rw [hs.2 0 (by omega) (by omega) (by omega) (by omega), hs.2 5 (by omega) (by omega) (by omega) (by omega), hs.2 6 (by omega) (by omega) (by omega) (by omega), hs.2 27 (by omega) (by omega) (by omega) (by omega), hs.1 40 (by omega), hs.1 43 (by omega), hs.1 44 (by omega), hs.1 45 (by omega), hs.1 60 (by omega), hs.1 61 (by omega), hs.1 62 (by omega)]
  exact ⟨⟨a1, a2, a3⟩, a4, a5, a6, a7, a8, a9⟩
/-- and has read its text -/
def m_rd (w : ab_W) (D : Td) : Prop := w 39 2 = D.T ∧ m_run w D.T D.so D.pa
/-- behind a question -/
def m_post (D : Td) (w w' : ab_W) : Prop := m_scr w w' ∧ m_rd w' D
theorem m_post.trans {D : Td} {a b c : ab_W} (h : m_post D a b) (h2 : m_post D b c) : m_post D a c := ⟨h.1.trans h2.1, h2.2⟩
theorem m_post.told {D : Td} {a b : ab_W} (h : m_post D a b) (ht : m_told a D) : m_told b D := ht.scr h.1
section Told32
variable {Ls d : Nat} {w : ab_W} {q : Option ab_V → ab_W → Prop} {D : Td}
theorem q_faultM (ht : m_told w D) (h : ∀ w', m_post D w w' → q (some (vI D.v)) w') : Sm Ls (d + 4) 115 [vR 39] w q := by
  refine q_faultOf ht.1 (fun v w' h1 h2 h3 h4 h5 h6 => ?_)
  have hv := x_F_uniq h1 D.hv
  subst hv
  exact h w' ⟨⟨fun p hp => h3 p (by omega) (by omega) (by omega), fun j j1 _ _ _ => h4 j j1⟩, h5, h6⟩
theorem q_reads (ht : m_told w D) (h : ∀ w', m_post D w w' → q none w') : Sm Ls (d + 5) 116 [vR 39] w q := by
  rw [en_116]
  simp only [↓e_aload0, ↓e_cv1, i_39, e_rpn, e_rps, e_few0, e_few1, e_few2, e_few3, e_few4, ↓e_istore1, e_klI, e_klR, e_klX, e_klL, ↓e_vret, ↓e_nil, b_116_0, true_and]
  refine q_faultM ht (fun w' h1 => ?_)
  simp only [↓e_aload0, ↓e_cv1, i_39, e_rpn, e_rps, e_few0, e_few1, e_few2, e_few3, e_few4, ↓e_istore1, e_klI, e_klR, e_klX, e_klL, ↓e_vret, ↓e_nil, b_116_0]
  exact h w' h1
theorem q_fault (ht : m_told w D) (h : ∀ w', m_post D w w' → q (some (vI D.v)) w') : Sm Ls (d + 5) 117 [vR 39] w q := by
  rw [en_117]
  simp only [↓e_aload0, ↓e_cv1, i_39, e_rpn, e_rps, e_few0, e_few1, e_few2, e_few3, e_few4, ↓e_iret, ↓e_nil, b_117_0, true_and]
  refine q_faultM ht (fun w' h1 => ?_)
  simp only [↓e_aload0, ↓e_cv1, i_39, e_rpn, e_rps, e_few0, e_few1, e_few2, e_few3, e_few4, ↓e_iret, ↓e_nil, b_117_0]
  exact h w' h1
theorem q_isTeamM (ht : m_told w D) {a : Int} (h : ∀ w', m_post D w w' → ab_yn (0 ≤ a ∧ a < D.T) q w') : Sm Ls (d + 6) 118 [vR 39, vI a] w q := by
  have hT := Td.T4 ht.2.2.2.2.2.2
  rw [en_118]
  simp only [↓e_aload0, ↓e_cv1, i_39, e_rpn, e_rps, e_few0, e_few1, e_few2, e_few3, e_few4, ↓e_iload1, ↓e_iconst, ↓g_39_2, ↓e_isub, ↓e_cs3, ↓e_zret, ↓e_nil, b_118_0, true_and]
  refine q_reads ht (fun w' h1 => ?_)
  have hq := h w' h1
  have e : (0 ≤ a ∧ a < (D.T : Int)) = (0 ≤ a ∧ a ≤ (D.T : Int) - 1) := by apply propext; omega
  rw [e] at hq
  have w1 : iW ((D.T : Int) - 1) = (D.T : Int) - 1 := iW_id (by omega) (by omega)
  simp only [↓e_aload0, ↓e_cv1, i_39, e_rpn, e_rps, e_few0, e_few1, e_few2, e_few3, e_few4, ↓e_iload1, ↓e_iconst, ↓g_39_2, ↓e_isub, ↓e_cs3, ↓e_zret, ↓e_nil, b_118_0, true_and, h1.2.1, w1, q_in, yn_fin]
  exact hq
theorem q_runnerOf (hr : m_rd w D) {t l : Nat} (ht : t < D.T) (hT : D.T ≤ 4) (hl : l < 4) {a : Int} (h : q (some (vI (if a = 0 then D.so t l else D.pa t l))) w) : Sm Ls (d + 1) 119 [vR 39, vI t, vI l, vI a] w q := by
  obtain ⟨e1, e2⟩ := hr.2 t ht l hl
  have hin : 0 ≤ 4 * (t : Int) + l ∧ 4 * (t : Int) + l < 20 := by omega
  obtain ⟨w1, w2⟩ : iW (4 * (t : Int)) = 4 * (t : Int) ∧ iW (4 * (t : Int) + l) = 4 * (t : Int) + l := ⟨iW_id (by omega) (by omega), iW_id (by omega) (by omega)⟩
  rw [en_119]
  simp only [↓e_iload3, ↓e_if_ne, ↓e_aload0, ↓g_39_3, ↓e_iconst, ↓e_iload1, ↓e_imul, ↓e_iload2, ↓e_iadd, ↓e_goto, ↓g_39_4, ↓e_iret, ↓x_41, ↓x_42, ↓e_nil, b_119_0, b_119_1, b_119_2, ↓ev_119_1, ↓ev_119_2, w1, w2, hin, e1, e2, and_self, true_and]
  refine ⟨fun g => ?_, fun g => ?_⟩
  · rw [if_neg g] at h; exact h
  · rw [if_pos (by clear w1 w2; omega)] at h; exact h
/-- ready to run the race c -/
def m_ready (w : ab_W) (c : Cf) : Prop := m_cfg w c.T c.so c.pa ∧ c.ok ∧ ∃ (n : Nat) (ek ew en : Nat → Int) (s : Nat), m_now w n ek ew en s c.lg ∧ e_ok n ek ew en ∧ (∀ m, m < 48 → c.rn m = e_rn ek ew s m n) ∧ ∀ t m, t < c.T → m < 48 → c.sd t m = e_sd ek ew en s t m n
def m_done (w w' : ab_W) (c : Cf) : Prop := m_ran w w' c.T c.so c.pa c.lg c.rn c.sd
theorem q_run {c : Cf} (hr : m_ready w c) (h : ∀ w', m_done w w' c → q none w') : Sm Ls (d + 5) 132 [vR 39] w q := by
  obtain ⟨h1, h2, n, ek, ew, en, s, h3, h4, h5, h6⟩ := hr
  exact q_runs h3 h4 h5 h6 h1 h2 h
theorem m_ready.kept {v : ab_W} {c : Cf} (h : m_ready w c) (hv : ∀ p, p < 50 → v p = w p) : m_ready v c := by
  obtain ⟨h1, h2, n, ek, ew, en, s, h3, h4, h5, h6⟩ := h
  exact ⟨h1.kept hv, h2, n, ek, ew, en, s, h3.kept hv, h4, h5, h6⟩
theorem m_done.ready {v : ab_W} {c : Cf} (h : m_done w v c) (hr : m_ready w c) : m_ready v c := hr.kept (fun p hp => h.1 p (Or.inl hp))
theorem m_done.scr {v : ab_W} {c : Cf} (h : m_done w v c) : m_scr w v := ⟨fun p hp => h.1 p (by omega), fun j _ _ _ _ => by rw [h.1 39 (by omega)]⟩
theorem m_done.rd {v : ab_W} {c : Cf} (h : m_done w v c) (hr : m_rd w D) : m_rd v D := by
  unfold m_rd m_run
  rw [h.1 39 (by omega), h.1 41 (by omega), h.1 42 (by omega)]
  exact hr
theorem m_done.post {v : ab_W} {c : Cf} (h : m_done w v c) (hr : m_rd w D) : m_post D w v := ⟨h.scr, h.rd hr⟩
theorem m_done.H {v : ab_W} {c : Cf} (h : m_done w v c) {t : Nat} (ht : t < c.T) : v 53 t = c.H t := (h.2.1 t ht).2.2.2.1
theorem m_done.sto {v : ab_W} {c : Cf} (h : m_done w v c) {t : Nat} (ht : t < c.T) : v 54 t = c.D t := (h.2.1 t ht).2.2.2.2.1
theorem m_done.la {v : ab_W} {c : Cf} (h : m_done w v c) {t l : Nat} (ht : t < c.T) (hl : l < 4) : v 55 (4 * (t : Int) + l) = c.la t l := (h.2.1 t ht).2.2.2.2.2 l hl
theorem m_done.F {v : ab_W} {c : Cf} (h : m_done w v c) {t m : Nat} (ht : t < c.T) (hm : m < 48) : v 56 (4 * (m : Int) + t) = c.F t m := (h.2.2.1 m hm t ht).1
theorem m_done.L {v : ab_W} {c : Cf} (h : m_done w v c) {t m : Nat} (ht : t < c.T) (hm : m < 48) : v 57 (4 * (m : Int) + t) = c.L t m := (h.2.2.1 m hm t ht).2.1
theorem m_done.R {v : ab_W} {c : Cf} (h : m_done w v c) {t m : Nat} (ht : t < c.T) (hm : m < 48) : v 58 (4 * (m : Int) + t) = c.R t m := (h.2.2.1 m hm t ht).2.2
/-- as told: what asTold leaves -/
def m_as (w : ab_W) (D : Td) : Prop := w 39 11 = D.k ∧ w 39 10 = D.lg ∧ w 39 15 = 0 ∧ (∀ e : Nat, e < D.k → w 46 e = D.ek e ∧ w 47 e = D.ew e ∧ w 48 e = D.en e) ∧ (∀ k : Nat, k < 16 → w 49 k = ((k % 4 : Nat) : Int)) ∧ m_rd w D
theorem q_asTold (ht : m_told w D) (h : ∀ w', m_post D w w' → m_as w' D → q none w') : Sm Ls (d + 6) 125 [vR 39] w q := by
  have hk8 := ht.2.2.2.2.2.2.2.2.2.1.1
  have second : ∀ (k i : Nat), i + k = 16 → ∀ x : ab_W, m_post D w x → x 39 11 = D.k → x 39 10 = D.lg → x 39 15 = 0 → (∀ e : Nat, e < D.k → x 46 e = D.ek e ∧ x 47 e = D.ew e ∧ x 48 e = D.en e) → (∀ k : Nat, k < i → x 49 k = ((k % 4 : Nat) : Int)) → Ev Ls (Sm Ls (d + 5)) q bk_125 3 [vR 39, vI i] [] x := by
    intro k
    induction k with
    | zero =>
      intro i hi x x0 x1 x2 x3 x4 x5
      have : i = 16 := by omega
      subst this
      have hfin := h x x0 ⟨x1, x2, x3, x4, x5, x0.2⟩
      rw [ev_125_3]
      simp only [↓e_aload0, ↓e_cv1, i_39, e_rpn, e_rps, e_few0, e_few1, e_few2, e_few3, e_few4, ↓g_39_5, ↓p_39_10, ↓g_39_6, ↓p_39_11, ↓e_iconst, ↓e_istore1, e_klI, e_klR, e_klX, e_klL, ↓e_iload1, ↓e_cmp_ge, ↓g_39_12, ↓g_39_7, ↓g_39_13, ↓g_39_8, ↓g_39_14, ↓g_39_9, ↓e_iinc1, ↓e_goto, ↓p_39_15, ↓e_bipush, ↓g_39_16, ↓e_irem, ↓e_vret, ↓x_43, ↓y_43, ↓x_44, ↓y_44, ↓x_45, ↓y_45, ↓x_46, ↓y_46, ↓x_47, ↓y_47, ↓x_48, ↓y_48, ↓x_49, ↓y_49, ↓e_nil, b_125_0, b_125_1, b_125_2, b_125_3, b_125_4, ↓ev_125_4]
      exact ⟨fun _ => hfin, fun z => absurd (by decide) z⟩
    | succ k ih =>
      intro i hi x x0 x1 x2 x3 x4 x5
      have hno : ¬ 16 ≤ (i : Int) := by omega
      have hin : 0 ≤ (i : Int) ∧ (i : Int) < 16 := by omega
      have hrem : i_rem (i : Int) 4 = ((i % 4 : Nat) : Int) := b_rem (k := 4) (by omega) (by omega) (by omega)
      have hnext := ih (i + 1) (by omega) (ab_up x 49 i ((i % 4 : Nat) : Int)) ⟨⟨fun p hp => by rw [ab_up_ne (by omega)]; exact x0.1.1 p hp, fun j j1 j2 j3 j4 => by rw [ab_up_p (by omega)]; exact x0.1.2 j j1 j2 j3 j4⟩, by rw [ab_up_p (by omega)]; exact x0.2.1, fun t ht l hl => by rw [ab_up_p (by omega), ab_up_p (by omega)]; exact x0.2.2 t ht l hl⟩ (by rw [ab_up_p (by omega)]; exact x1) (by rw [ab_up_p (by omega)]; exact x2) (by rw [ab_up_p (by omega)]; exact x3) (fun e he => by rw [ab_up_p (by omega), ab_up_p (by omega), ab_up_p (by omega)]; exact x4 e he) (fun k hk => by
        by_cases hki : k = i
        · subst hki; rw [ab_up_at]
        · rw [ab_up_nj (by omega)]; exact x5 k (by omega))
      have w1 : iW ((i : Int) + 1) = (i : Int) + 1 := iW_id (by omega) (by omega)
      rw [ev_125_3]
      simp only [↓e_aload0, ↓e_cv1, i_39, e_rpn, e_rps, e_few0, e_few1, e_few2, e_few3, e_few4, ↓g_39_5, ↓p_39_10, ↓g_39_6, ↓p_39_11, ↓e_iconst, ↓e_istore1, e_klI, e_klR, e_klX, e_klL, ↓e_iload1, ↓e_cmp_ge, ↓g_39_12, ↓g_39_7, ↓g_39_13, ↓g_39_8, ↓g_39_14, ↓g_39_9, ↓e_iinc1, ↓e_goto, ↓p_39_15, ↓e_bipush, ↓g_39_16, ↓e_irem, ↓e_vret, ↓x_43, ↓y_43, ↓x_44, ↓y_44, ↓x_45, ↓y_45, ↓x_46, ↓y_46, ↓x_47, ↓y_47, ↓x_48, ↓y_48, ↓x_49, ↓y_49, ↓e_nil, b_125_0, b_125_1, b_125_2, b_125_3, b_125_4, hno, hin, w1, hrem, and_self, false_implies, not_false_eq_true, true_implies, true_and]
      exact ⟨by decide, hnext⟩
  have first : ∀ (k i : Nat), i + k = D.k → ∀ x : ab_W, m_post D w x → x 39 11 = D.k → x 39 10 = D.lg → (∀ e : Nat, e < i → x 46 e = D.ek e ∧ x 47 e = D.ew e ∧ x 48 e = D.en e) → Ev Ls (Sm Ls (d + 5)) q bk_125 1 [vR 39, vI i] [] x := by
    intro k
    induction k with
    | zero =>
      intro i hi x x0 x1 x2 x3
      have : i = D.k := by omega
      subst this
      have h6 : x 39 6 = (D.k : Int) := (x0.told ht).2.2.1
      have hs := second 16 0 (by omega) (ab_up x 39 15 0) ⟨⟨fun p hp => by rw [ab_up_ne (by omega)]; exact x0.1.1 p hp, fun j j1 j2 j3 j4 => by rw [ab_up_nj (by omega)]; exact x0.1.2 j j1 j2 j3 j4⟩, by rw [ab_up_nj (by omega)]; exact x0.2.1, fun t ht l hl => by rw [ab_up_p (by omega), ab_up_p (by omega)]; exact x0.2.2 t ht l hl⟩ (by rw [ab_up_nj (by omega)]; exact x1) (by rw [ab_up_nj (by omega)]; exact x2) (by rw [ab_up_at]) (fun e he => by rw [ab_up_p (by omega), ab_up_p (by omega), ab_up_p (by omega)]; exact x3 e he) (fun k hk => by omega)
      rw [ev_125_1]
      simp only [↓e_aload0, ↓e_cv1, i_39, e_rpn, e_rps, e_few0, e_few1, e_few2, e_few3, e_few4, ↓g_39_5, ↓p_39_10, ↓g_39_6, ↓p_39_11, ↓e_iconst, ↓e_istore1, e_klI, e_klR, e_klX, e_klL, ↓e_iload1, ↓e_cmp_ge, ↓g_39_12, ↓g_39_7, ↓g_39_13, ↓g_39_8, ↓g_39_14, ↓g_39_9, ↓e_iinc1, ↓e_goto, ↓p_39_15, ↓e_bipush, ↓g_39_16, ↓e_irem, ↓e_vret, ↓x_43, ↓y_43, ↓x_44, ↓y_44, ↓x_45, ↓y_45, ↓x_46, ↓y_46, ↓x_47, ↓y_47, ↓x_48, ↓y_48, ↓x_49, ↓y_49, ↓e_nil, b_125_0, b_125_1, b_125_2, b_125_3, b_125_4, ↓ev_125_2, h6, true_and]
      exact ⟨fun _ => hs, fun z => absurd (Int.le_refl _) z⟩
    | succ k ih =>
      intro i hi x x0 x1 x2 x3
      have htx := x0.told ht
      have h6 : x 39 6 = (D.k : Int) := htx.2.2.1
      obtain ⟨e1, e2, e3⟩ := htx.2.2.2.1 i (by omega)
      have hno : ¬ (D.k : Int) ≤ (i : Int) := by omega
      have hin : 0 ≤ (i : Int) ∧ (i : Int) < 8 := by omega
      have f1 : ab_up x 46 i (D.ek i) 44 i = D.ew i := by rw [ab_up_p (by omega)]; exact e2
      have f2 : ab_up (ab_up x 46 i (D.ek i)) 47 i (D.ew i) 45 i = D.en i := by rw [ab_up_p (by omega), ab_up_p (by omega)]; exact e3
      have hnext := ih (i + 1) (by omega) (ab_up (ab_up (ab_up x 46 i (D.ek i)) 47 i (D.ew i)) 48 i (D.en i)) ⟨⟨fun p hp => by rw [ab_up_ne (by omega), ab_up_ne (by omega), ab_up_ne (by omega)]; exact x0.1.1 p hp, fun j j1 j2 j3 j4 => by rw [ab_up_p (by omega), ab_up_p (by omega), ab_up_p (by omega)]; exact x0.1.2 j j1 j2 j3 j4⟩, by rw [ab_up_p (by omega), ab_up_p (by omega), ab_up_p (by omega)]; exact x0.2.1, fun t ht l hl => by rw [ab_up_p (by omega), ab_up_p (by omega), ab_up_p (by omega), ab_up_p (by omega), ab_up_p (by omega), ab_up_p (by omega)]; exact x0.2.2 t ht l hl⟩ (by rw [ab_up_p (by omega), ab_up_p (by omega), ab_up_p (by omega)]; exact x1) (by rw [ab_up_p (by omega), ab_up_p (by omega), ab_up_p (by omega)]; exact x2) (fun e he => by
        by_cases hei : e = i
        · subst hei
          rw [ab_up_p (by omega), ab_up_p (by omega), ab_up_at, ab_up_p (by omega), ab_up_at, ab_up_at]
          exact ⟨rfl, rfl, rfl⟩
        · rw [ab_up_p (by omega), ab_up_p (by omega), ab_up_nj (by omega), ab_up_p (by omega), ab_up_nj (by omega), ab_up_p (by omega), ab_up_nj (by omega), ab_up_p (by omega), ab_up_p (by omega)]
          exact x3 e (by omega))
      have w1 : iW ((i : Int) + 1) = (i : Int) + 1 := iW_id (by omega) (by omega)
      rw [ev_125_1]
      simp only [↓e_aload0, ↓e_cv1, i_39, e_rpn, e_rps, e_few0, e_few1, e_few2, e_few3, e_few4, ↓g_39_5, ↓p_39_10, ↓g_39_6, ↓p_39_11, ↓e_iconst, ↓e_istore1, e_klI, e_klR, e_klX, e_klL, ↓e_iload1, ↓e_cmp_ge, ↓g_39_12, ↓g_39_7, ↓g_39_13, ↓g_39_8, ↓g_39_14, ↓g_39_9, ↓e_iinc1, ↓e_goto, ↓p_39_15, ↓e_bipush, ↓g_39_16, ↓e_irem, ↓e_vret, ↓x_43, ↓y_43, ↓x_44, ↓y_44, ↓x_45, ↓y_45, ↓x_46, ↓y_46, ↓x_47, ↓y_47, ↓x_48, ↓y_48, ↓x_49, ↓y_49, ↓e_nil, b_125_0, b_125_1, b_125_2, b_125_3, b_125_4, h6, hno, hin, e1, f1, f2, w1, and_self, false_implies, not_false_eq_true, true_implies, true_and]
      exact hnext
  rw [en_125]
  simp only [↓e_aload0, ↓e_cv1, i_39, e_rpn, e_rps, e_few0, e_few1, e_few2, e_few3, e_few4, ↓g_39_5, ↓p_39_10, ↓g_39_6, ↓p_39_11, ↓e_iconst, ↓e_istore1, e_klI, e_klR, e_klX, e_klL, ↓e_iload1, ↓e_cmp_ge, ↓g_39_12, ↓g_39_7, ↓g_39_13, ↓g_39_8, ↓g_39_14, ↓g_39_9, ↓e_iinc1, ↓e_goto, ↓p_39_15, ↓e_bipush, ↓g_39_16, ↓e_irem, ↓e_vret, ↓x_43, ↓y_43, ↓x_44, ↓y_44, ↓x_45, ↓y_45, ↓x_46, ↓y_46, ↓x_47, ↓y_47, ↓x_48, ↓y_48, ↓x_49, ↓y_49, ↓e_nil, b_125_0, b_125_1, b_125_2, b_125_3, b_125_4, true_and]
  refine q_reads ht (fun x x0 => ?_)
  have htx := x0.told ht
  have h5 : x 39 5 = D.lg := htx.2.1
  have h6 : ab_up x 39 10 D.lg 39 6 = (D.k : Int) := by rw [ab_up_nj (by omega)]; exact htx.2.2.1
  have h0 := first D.k 0 (by omega) (ab_up (ab_up x 39 10 D.lg) 39 11 D.k) ⟨⟨fun p hp => by rw [ab_up_ne (by omega), ab_up_ne (by omega)]; exact x0.1.1 p hp, fun j j1 j2 j3 j4 => by rw [ab_up_nj (by omega), ab_up_nj (by omega)]; exact x0.1.2 j j1 j2 j3 j4⟩, by rw [ab_up_nj (by omega), ab_up_nj (by omega)]; exact x0.2.1, fun t ht l hl => by rw [ab_up_p (by omega), ab_up_p (by omega), ab_up_p (by omega), ab_up_p (by omega)]; exact x0.2.2 t ht l hl⟩ (by rw [ab_up_at]) (by rw [ab_up_nj (by omega), ab_up_at]) (fun e he => by omega)
  simp only [↓e_aload0, ↓e_cv1, i_39, e_rpn, e_rps, e_few0, e_few1, e_few2, e_few3, e_few4, ↓g_39_5, ↓p_39_10, ↓g_39_6, ↓p_39_11, ↓e_iconst, ↓e_istore1, e_klI, e_klR, e_klX, e_klL, ↓e_iload1, ↓e_cmp_ge, ↓g_39_12, ↓g_39_7, ↓g_39_13, ↓g_39_8, ↓g_39_14, ↓g_39_9, ↓e_iinc1, ↓e_goto, ↓p_39_15, ↓e_bipush, ↓g_39_16, ↓e_irem, ↓e_vret, ↓x_43, ↓y_43, ↓x_44, ↓y_44, ↓x_45, ↓y_45, ↓x_46, ↓y_46, ↓x_47, ↓y_47, ↓x_48, ↓y_48, ↓x_49, ↓y_49, ↓e_nil, b_125_0, b_125_1, b_125_2, b_125_3, b_125_4, h5, h6]
  exact h0
theorem m_as.now (h : m_as w D) : m_now w D.k D.ek D.ew D.en 255 D.lg := by
  refine ⟨h.1, h.2.1, ⟨0, by omega, h.2.2.1, fun e he => ?_⟩, h.2.2.2.1⟩
  rw [Nat.zero_testBit]
  rcases (show e = 0 ∨ e = 1 ∨ e = 2 ∨ e = 3 ∨ e = 4 ∨ e = 5 ∨ e = 6 ∨ e = 7 by omega) with rfl | rfl | rfl | rfl | rfl | rfl | rfl | rfl <;> rfl
theorem m_as.cfg (h : m_as w D) (hT : D.T ≤ 4) : m_cfg w D.T D.so D.pa := by
  refine ⟨h.2.2.2.2.2.1, fun t ht l hl => ?_⟩
  have e : w 49 (4 * (t : Int) + l) = l := by
    have := h.2.2.2.2.1 (4 * t + l) (by omega)
    rw [show ((4 * t + l : Nat) : Int) = 4 * (t : Int) + l by omega, show (4 * t + l) % 4 = l by omega] at this
    exact this
  rw [e]
  exact ⟨by omega, h.2.2.2.2.2.2 t ht l hl⟩
theorem m_as.ready (h : m_as w D) (hok : D.ok) : m_ready w (D.cf 255) :=
  ⟨h.cfg (Td.T4 hok), Td.cok hok 255, D.k, D.ek, D.ew, D.en, 255, h.now, hok.2.2.2.1, fun _ _ => rfl, fun _ _ _ _ => rfl⟩
/-- the model has run as told -/
theorem q_runsTold (ht : m_told w D) (h : ∀ w' w'', m_post D w w'' → m_done w' w'' (D.cf 255) → q none w'') : Sm Ls (d + 7) 133 [vR 39] w q := by
  rw [en_133]
  simp only [↓e_aload0, ↓e_cv1, i_39, e_rpn, e_rps, e_few0, e_few1, e_few2, e_few3, e_few4, ↓e_vret, ↓e_nil, b_133_0, true_and]
  refine q_asTold ht (fun x x0 x1 => ?_)
  simp only [↓e_aload0, ↓e_cv1, i_39, e_rpn, e_rps, e_few0, e_few1, e_few2, e_few3, e_few4, ↓e_vret, ↓e_nil, b_133_0, true_and]
  refine q_run (x1.ready ht.2.2.2.2.2.2) (fun y y0 => ?_)
  simp only [↓e_aload0, ↓e_cv1, i_39, e_rpn, e_rps, e_few0, e_few1, e_few2, e_few3, e_few4, ↓e_vret, ↓e_nil, b_133_0]
  exact h x y (x0.trans (y0.post x0.2)) y0
end Told32
