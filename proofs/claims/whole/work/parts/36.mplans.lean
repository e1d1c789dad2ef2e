/-! the model's plans: order, train, fit -/
/-- the race with other runners in team t -/
def Cf.sub (c : Cf) (t : Nat) (so' pa' : Nat → Int) : Cf := ⟨c.T, fun u => if u = t then so' else c.so u, fun u => if u = t then pa' else c.pa u, c.lg, c.rn, c.sd⟩
theorem Cf.sub_so_t {c : Cf} {t : Nat} {s p : Nat → Int} : (c.sub t s p).so t = s := if_pos rfl
theorem Cf.sub_pa_t {c : Cf} {t : Nat} {s p : Nat → Int} : (c.sub t s p).pa t = p := if_pos rfl
theorem Cf.sub_so_u {c : Cf} {t u : Nat} {s p : Nat → Int} (h : u ≠ t) : (c.sub t s p).so u = c.so u := if_neg h
theorem Cf.sub_pa_u {c : Cf} {t u : Nat} {s p : Nat → Int} (h : u ≠ t) : (c.sub t s p).pa u = c.pa u := if_neg h
theorem Cf.sub_H {c : Cf} {t : Nat} {s p : Nat → Int} : (c.sub t s p).H t = t_E s p c.lg c.rn (c.sd t) 3 48 := by
  show t_E ((c.sub t s p).so t) ((c.sub t s p).pa t) c.lg c.rn (c.sd t) 3 48 = _
  rw [Cf.sub_so_t, Cf.sub_pa_t]
theorem Cf.sub_ok {c : Cf} {t : Nat} {s p : Nat → Int} (h : c.ok) (hp : ∀ l, l < 4 → 1 ≤ p l ∧ p l ≤ 9) : (c.sub t s p).ok := by
  refine ⟨h.1, h.2.1, h.2.2.1, fun u hu l hl => ?_⟩
  by_cases hut : u = t
  · rw [hut, Cf.sub_pa_t]; exact hp l hl
  · rw [Cf.sub_pa_u hut]; exact h.2.2.2 u hu l hl
/-- the soonest of n tries, the first of those -/
def so_st (ok : Nat → Bool) (h : Nat → Int) : Nat → Int × Int
  | 0 => (-1, -1)
  | n + 1 => if ok n = true ∧ h n ≠ -1 ∧ ((so_st ok h n).2 = -1 ∨ h n < (so_st ok h n).2) then ((n : Int), h n) else so_st ok h n
theorem so_st_s {ok : Nat → Bool} {h : Nat → Int} {n : Nat} : so_st ok h (n + 1) = if ok n = true ∧ h n ≠ -1 ∧ ((so_st ok h n).2 = -1 ∨ h n < (so_st ok h n).2) then ((n : Int), h n) else so_st ok h n := rfl
theorem so_st_in {ok : Nat → Bool} {h : Nat → Int} : ∀ n, ((so_st ok h n).1 = -1 ∧ (so_st ok h n).2 = -1) ∨ ((∃ k, k < n ∧ (so_st ok h n).1 = (k : Int)) ∧ (so_st ok h n).2 ≠ -1)
  | 0 => Or.inl ⟨rfl, rfl⟩
  | n + 1 => by
    rw [so_st_s]
    split
    · rename_i g; exact Or.inr ⟨⟨n, by omega, rfl⟩, g.2.1⟩
    · rcases so_st_in (ok := ok) (h := h) n with g | ⟨⟨k, g1, g2⟩, g3⟩
      · exact Or.inl g
      · exact Or.inr ⟨⟨k, by omega, g2⟩, g3⟩
theorem so_st_iff {ok : Nat → Bool} {h : Nat → Int} (n : Nat) : (so_st ok h n).1 = -1 ↔ (so_st ok h n).2 = -1 := by
  rcases so_st_in (ok := ok) (h := h) n with ⟨g1, g2⟩ | ⟨⟨k, g1, g2⟩, g3⟩
  · exact ⟨fun _ => g2, fun _ => g1⟩
  · exact ⟨fun z => by rw [g2] at z; omega, fun z => absurd z g3⟩
/-- a row of four by its number -/
def o_dg (n l : Nat) : Nat := if l = 0 then n / 64 else if l = 1 then n / 16 % 4 else if l = 2 then n / 4 % 4 else n % 4
def o_row (n : Nat) : Bool := decide (n / 64 ≠ n / 16 % 4 ∧ n / 64 ≠ n / 4 % 4 ∧ n / 64 ≠ n % 4 ∧ n / 16 % 4 ≠ n / 4 % 4 ∧ n / 16 % 4 ≠ n % 4 ∧ n / 4 % 4 ≠ n % 4)
theorem o_dg_in {n : Nat} (h : n < 256) (l : Nat) : o_dg n l < 4 := by
  unfold o_dg
  repeat' split
  all_goals omega
theorem o_row_m : ∀ n : Nat, n < 256 → (i_or (i_or (i_or (i_shl 1 (i_div n 64)) (i_shl 1 (i_rem (i_div n 16) 4))) (i_shl 1 (i_rem (i_div n 4) 4))) (i_shl 1 (i_rem n 4)) = 15 ↔ o_row n = true) := by decide +kernel
def Cf.oh (c : Cf) (t n : Nat) : Int := t_E (fun l => c.so t (o_dg n l)) (fun l => c.pa t (o_dg n l)) c.lg c.rn (c.sd t) 3 48
def Cf.ord (c : Cf) (t n : Nat) : Int × Int := so_st o_row (c.oh t) n
def Cf.orda (c : Cf) (t i : Nat) : Int := if (c.ord t 256).1 = -1 ∨ i = 4 then (c.ord t 256).2 else (o_dg (c.ord t 256).1.toNat i : Int)
/-- leg l trained -/
def tr_pa (pa : Nat → Int) (l : Nat) : Nat → Int := fun l' => if l' = l then (if pa l = 9 then 9 else pa l + 1) else pa l'
def Cf.th (c : Cf) (t l : Nat) : Int := t_E (c.so t) (tr_pa (c.pa t) l) c.lg c.rn (c.sd t) 3 48
def Cf.tra (c : Cf) (t : Nat) : Int × Int := so_st (fun _ => true) (c.th t) 4
def Cf.lng (c : Cf) (v : Int) : Cf := ⟨c.T, c.so, c.pa, v, c.rn, c.sd⟩
def Cf.ft (c : Cf) (t : Int) : Nat → Int → Int
  | 0, _ => -1
  | k + 1, v => if (c.lng v).won = t then v else c.ft t k (v + 1)
section MPlans36
variable {Ls d : Nat} {w : ab_W} {q : Option ab_V → ab_W → Prop} {D : Td} {c : Cf}
theorem m_as.frame {x y : ab_W} (h : m_as x D) (hv : ∀ p, p < 50 → y p = x p) : m_as y D := by
  obtain ⟨a1, a2, a3, a4, a5, a6, a7⟩ := h
  unfold m_as m_rd m_run
  rw [hv 39 (by omega), hv 41 (by omega), hv 42 (by omega), hv 46 (by omega), hv 47 (by omega), hv 48 (by omega), hv 49 (by omega)]
  exact ⟨a1, a2, a3, a4, a5, a6, a7⟩
theorem m_sub_ready {x : ab_W} {t : Nat} {so' pa' : Nat → Int} (hn : m_now x D.k D.ek D.ew D.en 255 D.lg) (h2 : x 39 2 = D.T)
    (hu : ∀ u, u < D.T → u ≠ t → ∀ l : Nat, l < 4 → x 49 (4 * (u : Int) + l) = l ∧ x 41 (4 * (u : Int) + l) = D.so u l ∧ x 42 (4 * (u : Int) + l) = D.pa u l)
    (ht : ∀ l : Nat, l < 4 → (0 ≤ x 49 (4 * (t : Int) + l) ∧ x 49 (4 * (t : Int) + l) < 4) ∧ x 41 (4 * (t : Int) + x 49 (4 * (t : Int) + l)) = so' l ∧ x 42 (4 * (t : Int) + x 49 (4 * (t : Int) + l)) = pa' l)
    (hp : ∀ l, l < 4 → 1 ≤ pa' l ∧ pa' l ≤ 9) (hok : D.ok) : m_ready x ((D.cf 255).sub t so' pa') := by
  refine ⟨⟨h2, fun u hu' l hl => ?_⟩, Cf.sub_ok (Td.cok hok 255) hp, D.k, D.ek, D.ew, D.en, 255, hn, hok.2.2.2.1, fun _ _ => rfl, fun _ _ _ _ => rfl⟩
  by_cases hut : u = t
  · subst hut
    rw [Cf.sub_so_t, Cf.sub_pa_t]
    exact ht l hl
  · rw [Cf.sub_so_u hut, Cf.sub_pa_u hut]
    obtain ⟨e1, e2, e3⟩ := hu u hu' hut l hl
    rw [e1]
    exact ⟨by omega, e2, e3⟩
theorem q_isRow {n : Nat} (hn : n < 256) : Sm Ls (d + 1) 152 [vI n] w q = ab_yn (o_row n = true) q w := by
  have e := o_row_m n hn
  have nz : ∀ x : Int, x = 64 ∨ x = 16 ∨ x = 4 → x ≠ 0 := fun x hx => by omega
  rw [en_152]
  simp only [↓e_iconst, ↓e_iload0, ↓e_bipush, ↓e_idiv, ↓e_ishl, ↓e_irem, ↓e_ior, ↓e_cmp_ne, ↓e_goto, ↓e_zret, ↓e_nil, b_152_0, b_152_1, b_152_2, ↓ev_152_1, ↓ev_152_2, nz 64 (Or.inl rfl), nz 16 (Or.inr (Or.inl rfl)), nz 4 (Or.inr (Or.inr rfl)), ne_eq, not_false_eq_true, true_and, ab_yn, e]
  cases o_row n <;> simp
theorem q_puts {t n : Nat} (ht : t < 4) (hn : n < 256) (h : ∀ x', (∀ p, p ≠ 49 → x' p = w p) → (∀ i : Int, ¬ (4 * (t : Int) ≤ i ∧ i < 4 * (t : Int) + 4) → x' 49 i = w 49 i) → (∀ l : Nat, l < 4 → x' 49 (4 * (t : Int) + l) = (o_dg n l : Int)) → q none x') : Sm Ls (d + 1) 151 [vR 39, vI t, vI n] w q := by
  have a1 : i_div (n : Int) 64 = ((n / 64 : Nat) : Int) := b_div (k := 64) (by omega) (by omega) (by omega)
  have a2 : i_div (n : Int) 16 = ((n / 16 : Nat) : Int) := b_div (k := 16) (by omega) (by omega) (by omega)
  have a3 : i_div (n : Int) 4 = ((n / 4 : Nat) : Int) := b_div (k := 4) (by omega) (by omega) (by omega)
  have a4 : i_rem ((n / 16 : Nat) : Int) 4 = ((n / 16 % 4 : Nat) : Int) := b_rem (k := 4) (by omega) (by omega) (by omega)
  have a5 : i_rem ((n / 4 : Nat) : Int) 4 = ((n / 4 % 4 : Nat) : Int) := b_rem (k := 4) (by omega) (by omega) (by omega)
  have a6 : i_rem (n : Int) 4 = ((n % 4 : Nat) : Int) := b_rem (k := 4) (by omega) (by omega) (by omega)
  have nz : ∀ x : Int, x = 64 ∨ x = 16 ∨ x = 4 → x ≠ 0 := fun x hx => by omega
  have i0 : 0 ≤ 4 * (t : Int) ∧ 4 * (t : Int) < 16 := by omega
  have i1 : 0 ≤ 4 * (t : Int) + 1 ∧ 4 * (t : Int) + 1 < 16 := by omega
  have i2 : 0 ≤ 4 * (t : Int) + 2 ∧ 4 * (t : Int) + 2 < 16 := by omega
  have i3 : 0 ≤ 4 * (t : Int) + 3 ∧ 4 * (t : Int) + 3 < 16 := by omega
  have hfin := h (ab_up (ab_up (ab_up (ab_up w 49 (4 * (t : Int)) ((n / 64 : Nat) : Int)) 49 (4 * (t : Int) + 1) ((n / 16 % 4 : Nat) : Int)) 49 (4 * (t : Int) + 2) ((n / 4 % 4 : Nat) : Int)) 49 (4 * (t : Int) + 3) ((n % 4 : Nat) : Int)) (fun p hp => by rw [ab_up_ne hp, ab_up_ne hp, ab_up_ne hp, ab_up_ne hp]) (fun i hi => by rw [ab_up_nj (by omega), ab_up_nj (by omega), ab_up_nj (by omega), ab_up_nj (by omega)]) (fun l hl => by
    rcases (show l = 0 ∨ l = 1 ∨ l = 2 ∨ l = 3 by omega) with rfl | rfl | rfl | rfl
    · rw [ab_up_nj (by omega), ab_up_nj (by omega), ab_up_nj (by omega), show 4 * (t : Int) + ((0 : Nat) : Int) = 4 * (t : Int) by omega, ab_up_at]; rfl
    · rw [ab_up_nj (by omega), ab_up_nj (by omega), show 4 * (t : Int) + ((1 : Nat) : Int) = 4 * (t : Int) + 1 by omega, ab_up_at]; rfl
    · rw [ab_up_nj (by omega), show 4 * (t : Int) + ((2 : Nat) : Int) = 4 * (t : Int) + 2 by omega, ab_up_at]; rfl
    · rw [show 4 * (t : Int) + ((3 : Nat) : Int) = 4 * (t : Int) + 3 by omega, ab_up_at]; rfl)
  obtain ⟨w0, w1, w2, w3⟩ : iW (4 * (t : Int)) = 4 * (t : Int) ∧ iW (4 * (t : Int) + 1) = 4 * (t : Int) + 1 ∧ iW (4 * (t : Int) + 2) = 4 * (t : Int) + 2 ∧ iW (4 * (t : Int) + 3) = 4 * (t : Int) + 3 := ⟨iW_id (by omega) (by omega), iW_id (by omega) (by omega), iW_id (by omega) (by omega), iW_id (by omega) (by omega)⟩
  rw [en_151]
  simp only [↓e_iconst, ↓e_iload1, ↓e_imul, ↓e_istore3, e_klI, e_klR, e_klX, e_klL, ↓e_aload0, ↓g_39_16, ↓e_iload3, ↓e_iload2, ↓e_bipush, ↓e_idiv, ↓e_iadd, ↓e_irem, ↓e_vret, ↓y_49, ↓e_nil, b_151_0, w0, w1, w2, w3, i0, i1, i2, i3, a1, a2, a3, a4, a5, a6, nz 64 (Or.inl rfl), nz 16 (Or.inr (Or.inl rfl)), nz 4 (Or.inr (Or.inr rfl)), one0, eq_self, ne_eq, not_true_eq_false, not_false_eq_true, true_implies, false_implies, true_and, and_true, and_self]
  exact hfin
/-- as told, but for the row of team t -/
def m_at (x : ab_W) (D : Td) (t : Nat) : Prop := m_now x D.k D.ek D.ew D.en 255 D.lg ∧ m_rd x D ∧ ∀ k : Nat, k < 16 → ¬ (4 * t ≤ k ∧ k < 4 * t + 4) → x 49 k = ((k % 4 : Nat) : Int)
theorem m_as.at' {x : ab_W} (h : m_as x D) (t : Nat) : m_at x D t := ⟨h.now, h.2.2.2.2.2, fun k hk _ => h.2.2.2.2.1 k hk⟩
theorem m_at.frame {x y : ab_W} {t : Nat} (h : m_at x D t) (hv : ∀ p, p < 50 → y p = x p) : m_at y D t := by
  obtain ⟨a1, a2, a3⟩ := h
  refine ⟨a1.kept hv, ?_, ?_⟩
  · unfold m_rd m_run
    rw [hv 39 (by omega), hv 41 (by omega), hv 42 (by omega)]
    exact a2
  · rw [hv 49 (by omega)]; exact a3
theorem m_at.put {x y : ab_W} {t : Nat} (h : m_at x D t) (h1 : ∀ p, p ≠ 49 → y p = x p) (h2 : ∀ i : Int, ¬ (4 * (t : Int) ≤ i ∧ i < 4 * (t : Int) + 4) → y 49 i = x 49 i) : m_at y D t := by
  obtain ⟨⟨a1, a2, a3, a4⟩, a5, a6⟩ := h
  refine ⟨?_, ?_, fun k hk hk2 => ?_⟩
  · unfold m_now
    rw [h1 39 (by omega), h1 46 (by omega), h1 47 (by omega), h1 48 (by omega)]
    exact ⟨a1, a2, a3, a4⟩
  · unfold m_rd m_run
    rw [h1 39 (by omega), h1 41 (by omega), h1 42 (by omega)]
    exact a5
  · rw [h2 k (by omega)]; exact a6 k hk hk2
theorem m_at.u {x : ab_W} {t : Nat} (h : m_at x D t) (hT : D.T ≤ 4) : ∀ u, u < D.T → u ≠ t → ∀ l : Nat, l < 4 → x 49 (4 * (u : Int) + l) = l ∧ x 41 (4 * (u : Int) + l) = D.so u l ∧ x 42 (4 * (u : Int) + l) = D.pa u l := by
  intro u hu hut l hl
  have e := h.2.2 (4 * u + l) (by omega) (by omega)
  rw [show ((4 * u + l : Nat) : Int) = 4 * (u : Int) + l by omega, show (4 * u + l) % 4 = l by omega] at e
  exact ⟨e, h.2.1.2 u hu l hl⟩
set_option maxHeartbeats 2000000 in
theorem q_orderOf (ht : m_told w D) {t i : Nat} (htT : t < D.T) (hi : i ≤ 4) (h : ∀ w', m_post D w w' → q (some (vI ((D.cf 255).orda t i))) w') : Sm Ls (d + 7) 153 [vR 39, vI t, vI i] w q := by
  have hT4 := Td.T4 ht.ok
  have hin : 0 ≤ (t : Int) ∧ (t : Int) < 4 := by omega
  have hord : ∀ n, (D.cf 255).ord t n = so_st o_row ((D.cf 255).oh t) n := fun _ => rfl
  have hend : ∀ x : ab_W, m_post D w x → m_at x D t → ∀ y z : ab_V, Ev Ls (Sm Ls (d + 6)) q bk_153 10 [vR 39, vI t, vI i, vI ((D.cf 255).ord t 256).1, vI ((D.cf 255).ord t 256).2, y, z] [] x := fun x x0 x1 y z => by
    unfold Cf.orda at h
    have hst := so_st_in (ok := o_row) (h := (D.cf 255).oh t) 256
    rw [← hord] at hst
    generalize (D.cf 255).ord t 256 = st at hst h
    rw [ev_153_10]
    simp only [↓e_aload0, ↓e_cv1, i_39, e_rpn, e_rps, e_few0, e_few1, e_few2, e_few3, e_few4, ↓e_iconst, ↓e_istore3, e_klI, e_klR, e_klX, e_klL, ↓e_istore4, ↓e_istore5, ↓e_iload5, ↓e_sipush, ↓e_cmp_ge, ↓e_cs1, ↓e_if_eq, ↓e_iload1, ↓e_cv3, ↓g_39_20, ↓e_cmp_eq, ↓e_iload3, ↓e_iload4, ↓e_goto, ↓e_istore6, ↓e_iload6, ↓e_iinc5, ↓e_iload2, ↓e_cmp_ne, ↓e_iret, ↓g_39_16, ↓e_imul, ↓e_iadd, ↓x_49, ↓x_53, ↓e_nil, b_153_0, b_153_1, b_153_2, b_153_3, b_153_4, b_153_5, b_153_6, b_153_7, b_153_8, b_153_9, b_153_10, b_153_11, b_153_12, ↓ev_153_11, ↓ev_153_12, one0, eq_self, ne_eq, not_true_eq_false, not_false_eq_true, true_implies, false_implies, true_and, and_true, and_self]
    refine ⟨fun g1 => ?_, fun g1 => ⟨fun g2 => ?_, fun g2 => ?_⟩⟩
    · have := h x x0
      rw [if_pos (Or.inl g1)] at this; exact this
    · rcases hst with hst | ⟨⟨k, k1, k2⟩, k3⟩
      · exact absurd hst.1 g1
      · rw [k2]
        refine q_puts (by omega) k1 (fun x' p1 p2 p3 => ?_)
        have := h x' (x0.trans ⟨⟨fun p hp => p1 p (by omega), fun j _ _ _ _ => by rw [p1 39 (by omega)]⟩, (x1.put p1 p2).2.1⟩)
        rw [if_neg (by omega), k2, Int.toNat_natCast] at this
        have hin2 : 0 ≤ 4 * (t : Int) + i ∧ 4 * (t : Int) + i < 16 := by omega
        obtain ⟨w0, w1⟩ : iW (4 * (t : Int)) = 4 * (t : Int) ∧ iW (4 * (t : Int) + i) = 4 * (t : Int) + i := ⟨iW_id (by omega) (by omega), iW_id (by omega) (by omega)⟩
        simp only [↓e_aload0, ↓e_cv1, i_39, e_rpn, e_rps, e_few0, e_few1, e_few2, e_few3, e_few4, ↓e_iconst, ↓e_istore3, e_klI, e_klR, e_klX, e_klL, ↓e_istore4, ↓e_istore5, ↓e_iload5, ↓e_sipush, ↓e_cmp_ge, ↓e_cs1, ↓e_if_eq, ↓e_iload1, ↓e_cv3, ↓g_39_20, ↓e_cmp_eq, ↓e_iload3, ↓e_iload4, ↓e_goto, ↓e_istore6, ↓e_iload6, ↓e_iinc5, ↓e_iload2, ↓e_cmp_ne, ↓e_iret, ↓g_39_16, ↓e_imul, ↓e_iadd, ↓x_49, ↓x_53, ↓e_nil, b_153_0, b_153_1, b_153_2, b_153_3, b_153_4, b_153_5, b_153_6, b_153_7, b_153_8, b_153_9, b_153_10, b_153_11, b_153_12, w0, w1, hin2, p3 i (by clear w0 w1; omega), one0, eq_self, ne_eq, not_true_eq_false, not_false_eq_true, true_implies, false_implies, true_and, and_true, and_self]
        exact this
    · have := h x x0
      rw [if_pos (by omega)] at this; exact this
  have key : ∀ (k n : Nat), n + k = 256 → ∀ x : ab_W, m_post D w x → m_at x D t → ∀ y : ab_V, Ev Ls (Sm Ls (d + 6)) q bk_153 1 [vR 39, vI t, vI i, vI ((D.cf 255).ord t n).1, vI ((D.cf 255).ord t n).2, vI n, y] [] x := by
    intro k
    induction k with
    | zero =>
      intro n hn x x0 x1 y
      have : n = 256 := by omega
      subst this
      have hfin := fun y z => hend x x0 x1 y z
      rw [ev_153_1]
      simp only [↓e_aload0, ↓e_cv1, i_39, e_rpn, e_rps, e_few0, e_few1, e_few2, e_few3, e_few4, ↓e_iconst, ↓e_istore3, e_klI, e_klR, e_klX, e_klL, ↓e_istore4, ↓e_istore5, ↓e_iload5, ↓e_sipush, ↓e_cmp_ge, ↓e_cs1, ↓e_if_eq, ↓e_iload1, ↓e_cv3, ↓g_39_20, ↓e_cmp_eq, ↓e_iload3, ↓e_iload4, ↓e_goto, ↓e_istore6, ↓e_iload6, ↓e_iinc5, ↓e_iload2, ↓e_cmp_ne, ↓e_iret, ↓g_39_16, ↓e_imul, ↓e_iadd, ↓x_49, ↓x_53, ↓e_nil, b_153_0, b_153_1, b_153_2, b_153_3, b_153_4, b_153_5, b_153_6, b_153_7, b_153_8, b_153_9, b_153_10, b_153_11, b_153_12]
      exact ⟨fun _ => hfin _ _, fun z => absurd (by decide) z⟩
    | succ k ih =>
      intro n hn x x0 x1 y
      have hno : ¬ 256 ≤ (n : Int) := by omega
      have hI : ∀ (x : ab_W) (a b : Int), m_post D w x → m_at x D t → (a, b) = (D.cf 255).ord t (n + 1) → ∀ y : ab_V, Ev Ls (Sm Ls (d + 6)) q bk_153 1 [vR 39, vI t, vI i, vI a, vI b, vI ((n : Int) + 1), y] [] x := fun x a b y0 y1 hab y => by
        have := ih (n + 1) (by omega) x y0 y1 y
        rw [← hab] at this
        exact this
      rw [hord, so_st_s, ← hord] at hI
      have hst := so_st_iff (ok := o_row) (h := (D.cf 255).oh t) n
      rw [← hord] at hst
      have w1 : iW ((n : Int) + 1) = (n : Int) + 1 := iW_id (by omega) (by omega)
      rw [ev_153_1]
      simp only [↓e_aload0, ↓e_cv1, i_39, e_rpn, e_rps, e_few0, e_few1, e_few2, e_few3, e_few4, ↓e_iconst, ↓e_istore3, e_klI, e_klR, e_klX, e_klL, ↓e_istore4, ↓e_istore5, ↓e_iload5, ↓e_sipush, ↓e_cmp_ge, ↓e_cs1, ↓e_if_eq, ↓e_iload1, ↓e_cv3, ↓g_39_20, ↓e_cmp_eq, ↓e_iload3, ↓e_iload4, ↓e_goto, ↓e_istore6, ↓e_iload6, ↓e_iinc5, ↓e_iload2, ↓e_cmp_ne, ↓e_iret, ↓g_39_16, ↓e_imul, ↓e_iadd, ↓x_49, ↓x_53, ↓e_nil, b_153_0, b_153_1, b_153_2, b_153_3, b_153_4, b_153_5, b_153_6, b_153_7, b_153_8, b_153_9, b_153_10, b_153_11, b_153_12, ↓ev_153_9, hno, w1, q_isRow (show n < 256 by clear w1; omega), ab_yn, one0, eq_self, ne_eq, not_true_eq_false, not_false_eq_true, true_implies, false_implies, true_and, and_true, and_self]
      refine ⟨fun g1 => ?_, fun g1 => ?_⟩
      · refine q_puts (by clear w1; omega) (by clear w1; omega) (fun x2 p1 p2 p3 => ?_)
        have x2p : m_post D w x2 := x0.trans ⟨⟨fun p hp => p1 p (by omega), fun j _ _ _ _ => by rw [p1 39 (by omega)]⟩, (x1.put p1 p2).2.1⟩
        have x2a := x1.put p1 p2
        have hrd : m_ready x2 ((D.cf 255).sub t (fun l => D.so t (o_dg n l)) (fun l => D.pa t (o_dg n l))) := by
          refine m_sub_ready x2a.1 x2a.2.1.1 (x2a.u hT4) (fun l hl => ?_) (fun l hl => ?_) ht.ok
          · have hd := o_dg_in (n := n) (by clear w1; omega) l
            rw [p3 l hl]
            exact ⟨by clear w1; omega, x2a.2.1.2 t htT _ hd⟩
          · exact (Td.cok ht.ok 255).2.2.2 t htT _ (o_dg_in (by clear w1; omega) l)
        simp only [↓e_aload0, ↓e_cv1, i_39, e_rpn, e_rps, e_few0, e_few1, e_few2, e_few3, e_few4, ↓e_iconst, ↓e_istore3, e_klI, e_klR, e_klX, e_klL, ↓e_istore4, ↓e_istore5, ↓e_iload5, ↓e_sipush, ↓e_cmp_ge, ↓e_cs1, ↓e_if_eq, ↓e_iload1, ↓e_cv3, ↓g_39_20, ↓e_cmp_eq, ↓e_iload3, ↓e_iload4, ↓e_goto, ↓e_istore6, ↓e_iload6, ↓e_iinc5, ↓e_iload2, ↓e_cmp_ne, ↓e_iret, ↓g_39_16, ↓e_imul, ↓e_iadd, ↓x_49, ↓x_53, ↓e_nil, b_153_0, b_153_1, b_153_2, b_153_3, b_153_4, b_153_5, b_153_6, b_153_7, b_153_8, b_153_9, b_153_10, b_153_11, b_153_12, one0, eq_self, ne_eq, not_true_eq_false, not_false_eq_true, true_implies, false_implies, true_and, and_true, and_self]
        refine q_run hrd (fun x3 r1 => ?_)
        have x3p : m_post D w x3 := x2p.trans (r1.post x2p.2)
        have x3a : m_at x3 D t := x2a.frame (fun p hp => r1.1 p (Or.inl hp))
        have hH : x3 53 t = (D.cf 255).oh t n := by
          have := r1.H (t := t) htT
          rw [Cf.sub_H] at this
          exact this
        have hI2 := fun a b hab y => hI x3 a b x3p x3a hab y
        simp only [↓e_aload0, ↓e_cv1, i_39, e_rpn, e_rps, e_few0, e_few1, e_few2, e_few3, e_few4, ↓e_iconst, ↓e_istore3, e_klI, e_klR, e_klX, e_klL, ↓e_istore4, ↓e_istore5, ↓e_iload5, ↓e_sipush, ↓e_cmp_ge, ↓e_cs1, ↓e_if_eq, ↓e_iload1, ↓e_cv3, ↓g_39_20, ↓e_cmp_eq, ↓e_iload3, ↓e_iload4, ↓e_goto, ↓e_istore6, ↓e_iload6, ↓e_iinc5, ↓e_iload2, ↓e_cmp_ne, ↓e_iret, ↓g_39_16, ↓e_imul, ↓e_iadd, ↓x_49, ↓x_53, ↓e_nil, b_153_0, b_153_1, b_153_2, b_153_3, b_153_4, b_153_5, b_153_6, b_153_7, b_153_8, b_153_9, b_153_10, b_153_11, b_153_12, ↓ev_153_2, ↓ev_153_3, ↓ev_153_4, ↓ev_153_5, ↓ev_153_6, ↓ev_153_7, ↓ev_153_8, ↓ev_153_9, hH, hin, w1, one0, eq_self, ne_eq, not_true_eq_false, not_false_eq_true, true_implies, false_implies, true_and, and_true, and_self]
        clear w1
        refine ⟨fun g2 => ?_, fun g2 => ⟨fun g3 => ?_, fun g3 => ⟨fun g4 => ?_, fun g4 => ?_⟩⟩⟩
        · exact hI2 _ _ (by rw [if_neg (fun z => z.2.1 g2)]) _
        · exact hI2 _ _ (by rw [if_pos ⟨g1, g2, Or.inl (hst.mp g3)⟩]) _
        · exact hI2 _ _ (by rw [if_neg (fun z => z.2.2.elim (fun z => g3 (hst.mpr z)) (fun z => Int.not_lt.mpr g4 z))]) _
        · exact hI2 _ _ (by rw [if_pos ⟨g1, g2, Or.inr (Int.not_le.mp g4)⟩]) _
      · exact hI x _ _ x0 x1 (by rw [if_neg (fun z => g1 z.1)]) _
  rw [en_153]
  simp only [↓e_aload0, ↓e_cv1, i_39, e_rpn, e_rps, e_few0, e_few1, e_few2, e_few3, e_few4, ↓e_iconst, ↓e_istore3, e_klI, e_klR, e_klX, e_klL, ↓e_istore4, ↓e_istore5, ↓e_iload5, ↓e_sipush, ↓e_cmp_ge, ↓e_cs1, ↓e_if_eq, ↓e_iload1, ↓e_cv3, ↓g_39_20, ↓e_cmp_eq, ↓e_iload3, ↓e_iload4, ↓e_goto, ↓e_istore6, ↓e_iload6, ↓e_iinc5, ↓e_iload2, ↓e_cmp_ne, ↓e_iret, ↓g_39_16, ↓e_imul, ↓e_iadd, ↓x_49, ↓x_53, ↓e_nil, b_153_0, b_153_1, b_153_2, b_153_3, b_153_4, b_153_5, b_153_6, b_153_7, b_153_8, b_153_9, b_153_10, b_153_11, b_153_12, true_and]
  refine q_asTold ht (fun x x0 x1 => ?_)
  simp only [↓e_aload0, ↓e_cv1, i_39, e_rpn, e_rps, e_few0, e_few1, e_few2, e_few3, e_few4, ↓e_iconst, ↓e_istore3, e_klI, e_klR, e_klX, e_klL, ↓e_istore4, ↓e_istore5, ↓e_iload5, ↓e_sipush, ↓e_cmp_ge, ↓e_cs1, ↓e_if_eq, ↓e_iload1, ↓e_cv3, ↓g_39_20, ↓e_cmp_eq, ↓e_iload3, ↓e_iload4, ↓e_goto, ↓e_istore6, ↓e_iload6, ↓e_iinc5, ↓e_iload2, ↓e_cmp_ne, ↓e_iret, ↓g_39_16, ↓e_imul, ↓e_iadd, ↓x_49, ↓x_53, ↓e_nil, b_153_0, b_153_1, b_153_2, b_153_3, b_153_4, b_153_5, b_153_6, b_153_7, b_153_8, b_153_9, b_153_10, b_153_11, b_153_12]
  exact key 256 0 (by omega) x x0 (x1.at' t) _
noncomputable def p_ord (D : Td) (a b : Int) : Int := if (0 ≤ a ∧ a < D.T) ∧ (0 ≤ b ∧ b ≤ 4) then (D.cf 255).orda a.toNat b.toNat else -2
theorem q_orderM (ht : m_told w D) {a b : Int} (h : ∀ w', m_scr w w' → q (some (vI (p_ord D a b))) w') : Sm Ls (d + 8) 154 [vR 39, vI a, vI b] w q := by
  unfold p_ord at h
  rw [en_154]
  simp only [↓e_aload0, ↓e_iload1, ↓e_cv2, i_39, e_rpn, e_rps, e_few0, e_few1, e_few2, e_few3, e_few4, ↓e_if_eq, ↓e_iload2, ↓e_iconst, ↓e_cs3, ↓e_cv3, ↓e_goto, ↓e_bipush, ↓e_iret, ↓e_nil, b_154_0, b_154_1, b_154_2, true_and]
  refine q_isTeamM ht (fun w1 h1 => ?_)
  simp only [↓e_aload0, ↓e_iload1, ↓e_cv2, i_39, e_rpn, e_rps, e_few0, e_few1, e_few2, e_few3, e_few4, ↓e_if_eq, ↓e_iload2, ↓e_iconst, ↓e_cs3, ↓e_cv3, ↓e_goto, ↓e_bipush, ↓e_iret, ↓e_nil, b_154_0, b_154_1, b_154_2, ↓ev_154_1, ↓ev_154_2, q_in, ab_yn, one0, eq_self, ne_eq, not_true_eq_false, not_false_eq_true, true_implies, false_implies, true_and, and_true, and_self]
  refine ⟨fun g2 => ⟨fun g3 => ?_, fun g3 => ?_⟩, fun g2 => ?_⟩
  · obtain ⟨t, rfl⟩ : ∃ t : Nat, a = t := ⟨a.toNat, by omega⟩
    obtain ⟨l, rfl⟩ : ∃ l : Nat, b = l := ⟨b.toNat, by omega⟩
    refine q_orderOf (h1.told ht) (by omega) (by omega) (fun w2 h2 => ?_)
    have := h w2 (h1.1.trans h2.1)
    rw [if_pos (by omega), Int.toNat_natCast, Int.toNat_natCast] at this
    simp only [↓e_aload0, ↓e_iload1, ↓e_cv2, i_39, e_rpn, e_rps, e_few0, e_few1, e_few2, e_few3, e_few4, ↓e_if_eq, ↓e_iload2, ↓e_iconst, ↓e_cs3, ↓e_cv3, ↓e_goto, ↓e_bipush, ↓e_iret, ↓e_nil, b_154_0, b_154_1, b_154_2, ↓ev_154_2]
    exact this
  · have := h w1 h1.1; rw [if_neg (by omega)] at this; exact this
  · have := h w1 h1.1; rw [if_neg (by omega)] at this; exact this
end MPlans36
