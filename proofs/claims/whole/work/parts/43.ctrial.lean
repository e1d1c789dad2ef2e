/-! the class's trial: one team anew -/
theorem Cf.sub_F_u {c : Cf} {t u m : Nat} {s p : Nat → Int} (h : u ≠ t) : (c.sub t s p).F u m = c.F u m := by
  show (t_S ((c.sub t s p).so u) ((c.sub t s p).pa u) c.lg c.rn (c.sd u) (m + 1)).1 = _
  rw [Cf.sub_so_u h, Cf.sub_pa_u h]; rfl
theorem Cf.sub_E_u {c : Cf} {t u l : Nat} {s p : Nat → Int} (h : u ≠ t) : (c.sub t s p).E u l = c.E u l := by
  show t_E ((c.sub t s p).so u) ((c.sub t s p).pa u) c.lg c.rn (c.sd u) l 48 = _
  rw [Cf.sub_so_u h, Cf.sub_pa_u h]; rfl
theorem Cf.sub_F_t {c : Cf} {t m : Nat} {s p : Nat → Int} : (c.sub t s p).F t m = (t_S s p c.lg c.rn (c.sd t) (m + 1)).1 := by
  show (t_S ((c.sub t s p).so t) ((c.sub t s p).pa t) c.lg c.rn (c.sd t) (m + 1)).1 = _
  rw [Cf.sub_so_t, Cf.sub_pa_t]
theorem Cf.sub_E_t {c : Cf} {t l : Nat} {s p : Nat → Int} : (c.sub t s p).E t l = t_E s p c.lg c.rn (c.sd t) l 48 := by
  show t_E ((c.sub t s p).so t) ((c.sub t s p).pa t) c.lg c.rn (c.sd t) l 48 = _
  rw [Cf.sub_so_t, Cf.sub_pa_t]
/-- but for the trial, the plan, the rows alike and the drawn nothing has changed -/
def c_tr (w x : ab_W) : Prop := ∀ p, (p < 11 ∨ (14 < p ∧ p < 21) ∨ p = 27 ∨ 29 < p) → x p = w p
theorem c_tr.refl (w : ab_W) : c_tr w w := fun _ _ => rfl
theorem c_tr.trans {a b c : ab_W} (h : c_tr a b) (h2 : c_tr b c) : c_tr a c := fun p hp => (h2 p hp).trans (h p hp)
theorem c_tr.scr {a b : ab_W} (h : c_tr a b) : c_scr a b := ⟨fun p hp => h p (by omega), fun j _ => by rw [h 0 (by omega)]⟩
theorem c_tr.up {w : ab_W} {p : Nat} {i v : Int} (hp : 20 < p ∧ p < 30 ∧ p ≠ 27) : c_tr w (ab_up w p i v) := fun r hr => by rw [ab_up_ne (by omega)]
/-- the trial is c but for team t -/
def c_ox (t : Nat) (w : ab_W) (c : Cf) : Prop := c_cond 21 w c.lg c.rn c.sd ∧ w 21 5 = c.T ∧ c.ok ∧ ∀ u : Nat, u < c.T → u ≠ t → (∀ l : Nat, l < 4 → w 22 ((u : Int) * 4 + l) = c.so u l ∧ w 23 ((u : Int) * 4 + l) = c.pa u l) ∧ (∀ m : Nat, m < 48 → w 25 ((u : Int) * 48 + m) = c.F u m) ∧ ∀ l : Nat, l < 4 → w 26 ((u : Int) * 4 + l) = c.E u l
section CTrial43
variable {Ls d : Nat} {w : ab_W} {q : Option ab_V → ab_W → Prop} {D : Td} {c : Cf}
theorem c_took.rc {x : ab_W} (h : c_took w x) (hr : c_rc 15 w c) : c_rc 21 x c := by
  obtain ⟨h1, ⟨h2, h3, h4⟩, h5, h6, h7, h8, h9⟩ := h
  obtain ⟨a, b, c0, e1, e2⟩ := hr
  have hT := c0.1
  refine ⟨fun hp => ?_, fun t ht l hl => ?_, c0, h2.trans e1, fun t ht => ⟨fun m hm => ?_, fun l hl => ?_⟩⟩
  · obtain ⟨a1, a2, a3, a4⟩ := a hp
    refine ⟨h3.trans a1, by rw [h4]; exact a2, fun m hm => by rw [h4]; exact a3 m hm, fun t ht => ?_⟩
    obtain ⟨N, n1, n2, n3⟩ := a4 t ht
    exact ⟨N, n1, (h7 t (by omega)).trans n2, n3⟩
  · obtain ⟨b1, b2⟩ := b t ht l hl
    exact ⟨(h5 _ (by omega)).trans b1, (h6 _ (by omega)).trans b2⟩
  · exact (h8 _ (by omega)).trans ((e2 t ht).1 m hm)
  · exact (h9 _ (by omega)).trans ((e2 t ht).2 l hl)
theorem c_took.tr {x : ab_W} (h : c_took w x) : c_tr w x := fun p hp => h.1 p (by omega)
theorem c_rc.ox (h : c_rc 21 w c) {t : Nat} (ht : t < c.T) : c_ox t w c := ⟨h.1 (Nat.lt_of_le_of_lt (Nat.zero_le _) ht), h.2.2.2.1, h.2.2.1, fun u hu _ => ⟨h.2.1 u hu, h.2.2.2.2 u hu⟩⟩
theorem c_ox.kept {x : ab_W} {t : Nat} (h : c_ox t w c) (h1 : x 21 = w 21 ∧ x 24 = w 24 ∧ x 25 = w 25 ∧ x 26 = w 26) (h2 : ∀ i : Int, ¬ ((t : Int) * 4 ≤ i ∧ i < (t : Int) * 4 + 4) → x 22 i = w 22 i ∧ x 23 i = w 23 i) : c_ox t x c := by
  obtain ⟨⟨a1, a2, a3, a4⟩, b, c0, e⟩ := h
  refine ⟨?_, by rw [h1.1]; exact b, c0, fun u hu hut => ?_⟩
  · unfold c_cond
    rw [h1.1, show x (21 + 3) = w (21 + 3) from h1.2.1]
    exact ⟨a1, a2, a3, a4⟩
  · rw [h1.2.2.1, h1.2.2.2]
    refine ⟨fun l hl => ?_, (e u hu hut).2⟩
    have := h2 ((u : Int) * 4 + l) (by omega)
    rw [this.1, this.2]
    exact (e u hu hut).1 l hl
theorem q_again {t : Nat} {s p : Nat → Int} (ho : c_ox t w c) (ht : t < c.T) (hs : ∀ l : Nat, l < 4 → w 22 ((t : Int) * 4 + l) = s l ∧ w 23 ((t : Int) * 4 + l) = p l) (hp : ∀ l, l < 4 → 1 ≤ p l ∧ p l ≤ 9)
    (h : ∀ x, (∀ r, r ≠ 25 → r ≠ 26 → x r = w r) → c_rc 21 x (c.sub t s p) → c_ox t x c → q none x) : Sm Ls (d + 3) 12 [vR 21, vI t] w q := by
  obtain ⟨a, b, c0, e⟩ := ho
  have hT := c0.1
  refine q_runTeam (Or.inr rfl) (by omega) a (so := s) (pa := p) (fun l hl => (hs l hl).1) (fun l hl => (hs l hl).2) ⟨hp, c0.2.1, c0.2.2.1⟩ (fun x hr => ?_)
  obtain ⟨r1, r2, r3, r4, r5⟩ := hr
  have hcd : c_cond 21 x c.lg c.rn c.sd := by
    unfold c_cond
    rw [r1 21 (by omega) (by omega), r1 (21 + 3) (by omega) (by omega)]
    exact a
  have hoth : ∀ u : Nat, u < c.T → u ≠ t → (∀ l : Nat, l < 4 → x 22 ((u : Int) * 4 + l) = c.so u l ∧ x 23 ((u : Int) * 4 + l) = c.pa u l) ∧ (∀ m : Nat, m < 48 → x 25 ((u : Int) * 48 + m) = c.F u m) ∧ ∀ l : Nat, l < 4 → x 26 ((u : Int) * 4 + l) = c.E u l := fun u hu hut => by
    obtain ⟨e1, e2, e3⟩ := e u hu hut
    refine ⟨fun l hl => ?_, fun m hm => ?_, fun l hl => ?_⟩
    · rw [r1 22 (by omega) (by omega), r1 23 (by omega) (by omega)]; exact e1 l hl
    · exact (r4 _ (by omega)).trans (e2 m hm)
    · exact (r5 _ (by omega)).trans (e3 l hl)
  have hx5 : x 21 5 = c.T := by rw [r1 21 (by omega) (by omega)]; exact b
  refine h x r1 ⟨fun _ => hcd, fun u hu l hl => ?_, Cf.sub_ok c0 hp, hx5, fun u hu => ⟨fun m hm => ?_, fun l hl => ?_⟩⟩ ⟨hcd, hx5, c0, hoth⟩
  · by_cases hut : u = t
    · subst hut
      rw [Cf.sub_so_t, Cf.sub_pa_t, r1 (21 + 1) (by omega) (by omega), r1 (21 + 2) (by omega) (by omega)]
      exact hs l hl
    · rw [Cf.sub_so_u hut, Cf.sub_pa_u hut]; exact (hoth u hu hut).1 l hl
  · by_cases hut : u = t
    · subst hut; rw [Cf.sub_F_t]; exact r2 m hm
    · rw [Cf.sub_F_u hut]; exact (hoth u hu hut).2.1 m hm
  · by_cases hut : u = t
    · subst hut; rw [Cf.sub_E_t]; exact r3 l hl
    · rw [Cf.sub_E_u hut]; exact (hoth u hu hut).2.2 l hl
theorem c_rc.home {P : Nat} (hr : c_rc P w c) {t : Nat} (ht : t < c.T) : w (P + 5) ((t : Int) * 4 + 3) = c.H t := (hr.2.2.2.2 t ht).2 3 (by omega)
theorem q_fitC (ht : c_told w D) {b : Int} (h : ∀ x, c_tr w x → q (some (vI (p_team D b (fun t => (D.cf 255).ft t 51 10)))) x) : Sm Ls (d + 5) 56 [vR 0, vI b] w q := by
  have hT4 := Td.T4 ht.ok
  have h5 : w 15 5 = (D.T : Int) := ht.rc.2.2.2.1
  unfold p_team at h
  have key : (0 ≤ b ∧ b < D.T) → ∀ (k l : Nat), l + k = 61 → 10 ≤ l → (D.cf 255).ft b k (l : Int) = (D.cf 255).ft b 51 10 → ∀ x : ab_W, c_tr w x → (∃ v, c_cond 21 x v (D.cf 255).rn (D.cf 255).sd) → c_run 21 x D.T D.so D.pa → x 21 5 = D.T → Ev Ls (Sm Ls (d + 4)) q bk_56 2 [vR 0, vI b, vI l] [] x := by
    intro hb k
    have hbt : ((b.toNat : Nat) : Int) = b := by omega
    rw [if_pos hb] at h
    dsimp only at h
    rw [hbt] at h
    induction k with
    | zero =>
      intro l hl hl10 hft x x0 x1 x2 x3
      have : l = 61 := by omega
      subst this
      have hfin := h x x0
      rw [← hft] at hfin
      rw [ev_56_2]
      simp only [↓e_aload0, ↓e_iload1, ↓e_cv2, i_0, e_rpn, e_rps, e_few0, e_few1, e_few2, e_few3, e_few4, ↓e_if_ne, ↓e_bipush, ↓e_iret, ↓g_0_5, ↓g_0_4, i_15, i_21, ↓e_istore2, e_klI, e_klR, e_klX, e_klL, ↓e_iload2, ↓e_cmp_gt, ↓p_15_6, ↓p_21_6, ↓e_cv1, ↓e_cmp_ne, ↓e_iinc2, ↓e_goto, ↓e_iconst, ↓e_nil, b_56_0, b_56_1, b_56_2, b_56_3, b_56_4, ↓ev_56_4]
      exact ⟨fun _ => hfin, fun z => absurd (by decide) z⟩
    | succ k ih =>
      intro l hl hl10 hft x x0 ⟨v, x1⟩ x2 x3
      have hno : ¬ 60 < (l : Int) := by omega
      have hcd : c_cond 21 (ab_up x 21 6 l) l (D.cf 255).rn (D.cf 255).sd := by
        obtain ⟨a1, a2, a3, a4⟩ := x1
        refine ⟨ab_up_at, ?_, ?_, ?_⟩
        · rw [ab_up_nj (by omega)]; exact a2
        · rw [ab_up_nj (by omega)]; exact a3
        · rw [ab_up_ne (show (21 + 3 : Nat) ≠ 21 by omega)]; exact a4
      have hru : c_run 21 (ab_up x 21 6 l) ((D.cf 255).lng l).T ((D.cf 255).lng l).so ((D.cf 255).lng l).pa := fun t ht l' hl' => by
        rw [ab_up_p (by omega), ab_up_p (by omega)]; exact x2 t ht l' hl'
      have hok2 : ((D.cf 255).lng l).ok := Cf.lng_ok (Td.cok ht.ok 255) (by omega)
      have hru2 : ∀ y, c_fr 21 (ab_up x 21 6 l) y → c_tr w y ∧ (∃ v, c_cond 21 y v (D.cf 255).rn (D.cf 255).sd) ∧ c_run 21 y D.T D.so D.pa ∧ y 21 5 = D.T := fun y hy => by
        refine ⟨x0.trans (fun p hp => ?_), ⟨l, ?_⟩, fun t ht l' hl' => ?_, ?_⟩
        · rw [hy p (by omega) (by omega), ab_up_ne (by omega)]
        · unfold c_cond
          rw [hy 21 (by omega) (by omega), hy (21 + 3) (by omega) (by omega)]
          exact hcd
        · rw [hy (21 + 1) (by omega) (by omega), hy (21 + 2) (by omega) (by omega)]; exact hru t ht l' hl'
        · rw [hy 21 (by omega) (by omega), ab_up_nj (by omega)]; exact x3
      have w1 : iW ((l : Int) + 1) = (l : Int) + 1 := iW_id (by omega) (by omega)
      rw [ev_56_2]
      simp only [↓e_aload0, ↓e_iload1, ↓e_cv2, i_0, e_rpn, e_rps, e_few0, e_few1, e_few2, e_few3, e_few4, ↓e_if_ne, ↓e_bipush, ↓e_iret, ↓g_0_5, ↓g_0_4, i_15, i_21, ↓e_istore2, e_klI, e_klR, e_klX, e_klL, ↓e_iload2, ↓e_cmp_gt, ↓p_15_6, ↓p_21_6, ↓e_cv1, ↓e_cmp_ne, ↓e_iinc2, ↓e_goto, ↓e_iconst, ↓e_nil, b_56_0, b_56_1, b_56_2, b_56_3, b_56_4, hno, one0, eq_self, ne_eq, not_true_eq_false, not_false_eq_true, true_implies, false_implies, true_and, and_true, and_self]
      refine q_runAll (Or.inr rfl) hcd hru hok2 (by rw [ab_up_nj (by clear w1; omega)]; exact x3) (fun y y0 y1 => ?_)
      simp only [↓e_aload0, ↓e_iload1, ↓e_cv2, i_0, e_rpn, e_rps, e_few0, e_few1, e_few2, e_few3, e_few4, ↓e_if_ne, ↓e_bipush, ↓e_iret, ↓g_0_5, ↓g_0_4, i_15, i_21, ↓e_istore2, e_klI, e_klR, e_klX, e_klL, ↓e_iload2, ↓e_cmp_gt, ↓p_15_6, ↓p_21_6, ↓e_cv1, ↓e_cmp_ne, ↓e_iinc2, ↓e_goto, ↓e_iconst, ↓e_nil, b_56_0, b_56_1, b_56_2, b_56_3, b_56_4, one0, eq_self, ne_eq, not_true_eq_false, not_false_eq_true, true_implies, false_implies, true_and, and_true, and_self]
      refine q_winner (Or.inr rfl) y1 (Cf.rok hok2) ?_
      rw [Cf.ft_s] at hft
      obtain ⟨g1, g2, g3, g4⟩ := hru2 y y0
      have hwon : r_won (z_F ((D.cf 255).lng l).so ((D.cf 255).lng l).pa l (D.cf 255).rn (D.cf 255).sd) (Eh (z_E ((D.cf 255).lng l).so ((D.cf 255).lng l).pa l (D.cf 255).rn (D.cf 255).sd)) ((D.cf 255).lng l).T = ((D.cf 255).lng l).won := rfl
      rw [hwon]
      simp only [↓e_aload0, ↓e_iload1, ↓e_cv2, i_0, e_rpn, e_rps, e_few0, e_few1, e_few2, e_few3, e_few4, ↓e_if_ne, ↓e_bipush, ↓e_iret, ↓g_0_5, ↓g_0_4, i_15, i_21, ↓e_istore2, e_klI, e_klR, e_klX, e_klL, ↓e_iload2, ↓e_cmp_gt, ↓p_15_6, ↓p_21_6, ↓e_cv1, ↓e_cmp_ne, ↓e_iinc2, ↓e_goto, ↓e_iconst, ↓e_nil, b_56_0, b_56_1, b_56_2, b_56_3, b_56_4, ↓ev_56_3, w1, one0, eq_self, ne_eq, not_true_eq_false, not_false_eq_true, true_implies, false_implies, true_and, and_true, and_self]
      refine ⟨fun g => ?_, fun g => ?_⟩
      · rw [if_neg g] at hft
        exact ih (l + 1) (by clear w1; omega) (by clear w1; omega) hft y g1 g2 g3 g4
      · rw [if_pos (Classical.not_not.mp g)] at hft
        have hfin := h y g1
        rw [← hft] at hfin
        exact hfin
  rw [en_56]
  simp only [↓e_aload0, ↓e_iload1, ↓e_cv2, i_0, e_rpn, e_rps, e_few0, e_few1, e_few2, e_few3, e_few4, ↓e_if_ne, ↓e_bipush, ↓e_iret, ↓g_0_5, ↓g_0_4, i_15, i_21, ↓e_istore2, e_klI, e_klR, e_klX, e_klL, ↓e_iload2, ↓e_cmp_gt, ↓p_15_6, ↓p_21_6, ↓e_cv1, ↓e_cmp_ne, ↓e_iinc2, ↓e_goto, ↓e_iconst, ↓e_nil, b_56_0, b_56_1, b_56_2, b_56_3, b_56_4, ↓ev_56_1, q_isTeam, h5, ab_yn, one0, eq_self, ne_eq, not_true_eq_false, not_false_eq_true, true_implies, false_implies, true_and, and_true, and_self]
  refine ⟨fun g => q_takeRace (fun x x0 => ?_), fun g => ?_⟩
  · have hr := x0.rc ht.rc
    simp only [↓e_aload0, ↓e_iload1, ↓e_cv2, i_0, e_rpn, e_rps, e_few0, e_few1, e_few2, e_few3, e_few4, ↓e_if_ne, ↓e_bipush, ↓e_iret, ↓g_0_5, ↓g_0_4, i_15, i_21, ↓e_istore2, e_klI, e_klR, e_klX, e_klL, ↓e_iload2, ↓e_cmp_gt, ↓p_15_6, ↓p_21_6, ↓e_cv1, ↓e_cmp_ne, ↓e_iinc2, ↓e_goto, ↓e_iconst, ↓e_nil, b_56_0, b_56_1, b_56_2, b_56_3, b_56_4]
    exact key g 51 10 (by omega) (by omega) rfl x x0.tr ⟨_, hr.1 (show 0 < D.T by omega)⟩ hr.2.1 hr.2.2.2.1
  · have := h w (c_tr.refl w); rw [if_neg g] at this; exact this
end CTrial43
