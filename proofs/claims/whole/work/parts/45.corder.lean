/-! the class's order -/
def o_dis (a b e : Nat) : Bool := decide (a ≠ b ∧ a ≠ e ∧ b ≠ e)
theorem o_row_4 : ∀ a : Nat, a < 4 → ∀ b : Nat, b < 4 → ∀ e : Nat, e < 4 → ∀ f : Nat, f < 4 → o_row (64 * a + 16 * b + 4 * e + f) = (o_dis a b e && decide (f = 6 - (a + b + e))) := by decide +kernel
theorem o_d_in : ∀ a : Nat, a < 4 → ∀ b : Nat, b < 4 → ∀ e : Nat, e < 4 → o_dis a b e = true → 6 - (a + b + e) < 4 ∧ a + b + e ≤ 6 := by decide +kernel
theorem so_st_no {ok : Nat → Bool} {h : Nat → Int} {n : Nat} (hn : ok n = false) : so_st ok h (n + 1) = so_st ok h n := by
  rw [so_st_s, if_neg]; intro z; rw [hn] at z; exact absurd z.1 (by decide)
theorem so_st_4 {h : Nat → Int} {a b e : Nat} (ha : a < 4) (hb : b < 4) (he : e < 4) : so_st o_row h (64 * a + 16 * b + 4 * e + 4) = if o_dis a b e = true ∧ h (64 * a + 16 * b + 4 * e + (6 - (a + b + e))) ≠ -1 ∧ ((so_st o_row h (64 * a + 16 * b + 4 * e)).2 = -1 ∨ h (64 * a + 16 * b + 4 * e + (6 - (a + b + e))) < (so_st o_row h (64 * a + 16 * b + 4 * e)).2) then (((64 * a + 16 * b + 4 * e + (6 - (a + b + e)) : Nat) : Int), h (64 * a + 16 * b + 4 * e + (6 - (a + b + e)))) else so_st o_row h (64 * a + 16 * b + 4 * e) := by
  have hr := fun f hf => o_row_4 a ha b hb e he f hf
  generalize hi : 64 * a + 16 * b + 4 * e = i at hr
  cases hd : o_dis a b e
  · rw [hd] at hr
    rw [if_neg (fun z => absurd z.1 (by decide))]
    rw [show i + 4 = i + 3 + 1 from rfl, so_st_no (hr 3 (by omega)), show i + 3 = i + 2 + 1 from rfl, so_st_no (hr 2 (by omega)), show i + 2 = i + 1 + 1 from rfl, so_st_no (hr 1 (by omega)), so_st_no (hr 0 (by omega))]
    rfl
  · rw [hd] at hr
    have hdi := (o_d_in a ha b hb e he hd).1
    generalize 6 - (a + b + e) = dd at hr hdi
    have hno : ∀ f, f < 4 → f ≠ dd → o_row (i + f) = false := fun f hf hne => by rw [hr f hf]; simp [hne]
    have hyes : o_row (i + dd) = true := by rw [hr dd hdi]; simp
    rcases (show dd = 0 ∨ dd = 1 ∨ dd = 2 ∨ dd = 3 by omega) with rfl | rfl | rfl | rfl
    · rw [show i + 4 = i + 3 + 1 from rfl, so_st_no (hno 3 (by omega) (by omega)), show i + 3 = i + 2 + 1 from rfl, so_st_no (hno 2 (by omega) (by omega)), show i + 2 = i + 1 + 1 from rfl, so_st_no (hno 1 (by omega) (by omega)), so_st_s, show o_row i = true from hyes]
      rfl
    · rw [show i + 4 = i + 3 + 1 from rfl, so_st_no (hno 3 (by omega) (by omega)), show i + 3 = i + 2 + 1 from rfl, so_st_no (hno 2 (by omega) (by omega)), show i + 2 = i + 1 + 1 from rfl, so_st_s, hyes, so_st_no (hno 0 (by omega) (by omega))]
      rfl
    · rw [show i + 4 = i + 3 + 1 from rfl, so_st_no (hno 3 (by omega) (by omega)), show i + 3 = i + 2 + 1 from rfl, so_st_s, hyes, show i + 2 = i + 1 + 1 from rfl, so_st_no (hno 1 (by omega) (by omega)), so_st_no (hno 0 (by omega) (by omega))]
      rfl
    · rw [show i + 4 = i + 3 + 1 from rfl, so_st_s, hyes, show i + 3 = i + 2 + 1 from rfl, so_st_no (hno 2 (by omega) (by omega)), show i + 2 = i + 1 + 1 from rfl, so_st_no (hno 1 (by omega) (by omega)), so_st_no (hno 0 (by omega) (by omega))]
      rfl
theorem o_dg_4 {a b e f l : Nat} (ha : a < 4) (hb : b < 4) (he : e < 4) (hf : f < 4) : o_dg (64 * a + 16 * b + 4 * e + f) l = if l = 0 then a else if l = 1 then b else if l = 2 then e else f := by
  unfold o_dg
  rw [show (64 * a + 16 * b + 4 * e + f) / 64 = a by omega, show (64 * a + 16 * b + 4 * e + f) / 16 % 4 = b by omega, show (64 * a + 16 * b + 4 * e + f) / 4 % 4 = e by omega, show (64 * a + 16 * b + 4 * e + f) % 4 = f by omega]
/-- the plan holds that row and when it is home -/
def c_plan (v : ab_W) (st : Int × Int) : Prop := v 28 4 = st.2 ∧ ((st.1 = -1 ∧ ∀ i : Nat, i < 4 → v 28 i = -1) ∨ ∃ k : Nat, st.1 = k ∧ ∀ i : Nat, i < 4 → v 28 i = (o_dg k i : Int))
section COrder45
variable {Ls d : Nat} {w : ab_W} {q : Option ab_V → ab_W → Prop} {D : Td} {c : Cf}
/-- a runner taken -/
def c_tk (t a b : Nat) (v x : ab_W) : Prop := (∀ p, p ≠ 22 → p ≠ 23 → x p = v p) ∧ (x 22 ((t : Int) * 4 + a) = v 16 ((t : Int) * 4 + b) ∧ x 23 ((t : Int) * 4 + a) = v 17 ((t : Int) * 4 + b)) ∧ ∀ i : Int, i ≠ (t : Int) * 4 + a → x 22 i = v 22 i ∧ x 23 i = v 23 i
theorem q_take {t a b : Nat} (ht : t < 4) (ha : a < 4) (hb : b < 4) {v : ab_W} {A : Int} (hA : A = a) {Q' : Option ab_V → ab_W → Prop} (h : ∀ x, c_tk t a b v x → Q' none x) : Sm Ls (d + 1) 8 [vR 21, vR 15, vI t, vI A, vI b] v Q' := by
  subst hA
  refine q_takeRunner ht (by omega) (by omega) (h _ ⟨fun p p1 p2 => by rw [ab_up_ne p2, ab_up_ne p1], ⟨by rw [ab_up_p (by decide), ab_up_at], by rw [ab_up_at]⟩, fun i hi => ⟨by rw [ab_up_p (by decide), ab_up_nj hi], by rw [ab_up_nj hi, ab_up_p (by decide)]⟩⟩)
set_option maxHeartbeats 2000000 in
theorem q_tryOrder (ht : c_told w D) {t a b e : Nat} (htT : t < D.T) (ha : a < 4) (hb : b < 4) (he : e < 4) (hdis : o_dis a b e = true) {v : ab_W} (v0 : c_tr w v) (v1 : c_ox t v (D.cf 255)) (v2 : c_plan v ((D.cf 255).ord t (64 * a + 16 * b + 4 * e)))
    (h : ∀ x, c_tr w x → c_ox t x (D.cf 255) → c_plan x ((D.cf 255).ord t (64 * a + 16 * b + 4 * e + 4)) → q none x) : Sm Ls (d + 4) 53 [vR 0, vI t, vI a, vI b, vI e] v q := by
  have hT4 := Td.T4 ht.ok
  obtain ⟨hd4, hd6⟩ := o_d_in a ha b hb e he hdis
  have hord : (D.cf 255).ord t (64 * a + 16 * b + 4 * e + 4) = _ := so_st_4 (h := (D.cf 255).oh t) ha hb he
  have hord0 : so_st o_row ((D.cf 255).oh t) (64 * a + 16 * b + 4 * e) = (D.cf 255).ord t (64 * a + 16 * b + 4 * e) := rfl
  rw [hord0] at hord
  rw [hord] at h
  generalize hf : 6 - (a + b + e) = f at hd4 h
  have hfi : (6 : Int) - a - b - e = f := by omega
  have hvt := v0.told ht
  have r16 : ∀ l : Nat, l < 4 → v 16 ((t : Int) * 4 + l) = D.so t l ∧ v 17 ((t : Int) * 4 + l) = D.pa t l := fun l hl => hvt.rc.2.1 t htT l hl
  have hpa : ∀ l, l < 4 → 1 ≤ D.pa t l ∧ D.pa t l ≤ 9 := (Td.cok ht.ok 255).2.2.2 t htT
  obtain ⟨w1, w2, w3⟩ : iW (6 - (a : Int)) = 6 - (a : Int) ∧ iW (6 - (a : Int) - b) = 6 - (a : Int) - b ∧ iW (6 - (a : Int) - b - e) = (f : Int) := ⟨iW_id (by omega) (by omega), iW_id (by omega) (by omega), (iW_id (by omega) (by omega)).trans hfi⟩
  rw [en_53]
  simp only [↓e_bipush, ↓e_iload2, ↓e_isub, ↓e_iload3, ↓e_iload4, ↓e_istore5, e_klI, e_klR, e_klX, e_klL, ↓e_aload0, ↓g_0_5, ↓g_0_4, ↓e_iload1, ↓e_iconst, ↓e_cv5, i_15, i_21, e_rpn, e_rps, e_few0, e_few1, e_few2, e_few3, e_few4, ↓e_iload5, ↓e_cv2, ↓g_0_8, ↓e_cs2, ↓e_if_eq, ↓e_vret, ↓x_28, ↓y_28, ↓e_nil, b_53_0, b_53_1, w1, w2, w3, one0, eq_self, ne_eq, not_true_eq_false, not_false_eq_true, true_implies, false_implies, true_and, and_true, and_self]
  clear w1 w2 w3
  refine q_take (a := 0) (by omega) (by omega) ha rfl (fun x1 k1 => ?_)
  simp only [↓e_bipush, ↓e_iload2, ↓e_isub, ↓e_iload3, ↓e_iload4, ↓e_istore5, e_klI, e_klR, e_klX, e_klL, ↓e_aload0, ↓g_0_5, ↓g_0_4, ↓e_iload1, ↓e_iconst, ↓e_cv5, i_15, i_21, e_rpn, e_rps, e_few0, e_few1, e_few2, e_few3, e_few4, ↓e_iload5, ↓e_cv2, ↓g_0_8, ↓e_cs2, ↓e_if_eq, ↓e_vret, ↓x_28, ↓y_28, ↓e_nil, b_53_0, b_53_1, one0, eq_self, ne_eq, not_true_eq_false, not_false_eq_true, true_implies, false_implies, true_and, and_true, and_self]
  refine q_take (a := 1) (by omega) (by omega) hb rfl (fun x2 k2 => ?_)
  simp only [↓e_bipush, ↓e_iload2, ↓e_isub, ↓e_iload3, ↓e_iload4, ↓e_istore5, e_klI, e_klR, e_klX, e_klL, ↓e_aload0, ↓g_0_5, ↓g_0_4, ↓e_iload1, ↓e_iconst, ↓e_cv5, i_15, i_21, e_rpn, e_rps, e_few0, e_few1, e_few2, e_few3, e_few4, ↓e_iload5, ↓e_cv2, ↓g_0_8, ↓e_cs2, ↓e_if_eq, ↓e_vret, ↓x_28, ↓y_28, ↓e_nil, b_53_0, b_53_1, one0, eq_self, ne_eq, not_true_eq_false, not_false_eq_true, true_implies, false_implies, true_and, and_true, and_self]
  refine q_take (a := 2) (by omega) (by omega) he rfl (fun x3 k3 => ?_)
  simp only [↓e_bipush, ↓e_iload2, ↓e_isub, ↓e_iload3, ↓e_iload4, ↓e_istore5, e_klI, e_klR, e_klX, e_klL, ↓e_aload0, ↓g_0_5, ↓g_0_4, ↓e_iload1, ↓e_iconst, ↓e_cv5, i_15, i_21, e_rpn, e_rps, e_few0, e_few1, e_few2, e_few3, e_few4, ↓e_iload5, ↓e_cv2, ↓g_0_8, ↓e_cs2, ↓e_if_eq, ↓e_vret, ↓x_28, ↓y_28, ↓e_nil, b_53_0, b_53_1, one0, eq_self, ne_eq, not_true_eq_false, not_false_eq_true, true_implies, false_implies, true_and, and_true, and_self]
  refine q_take (a := 3) (by omega) (by omega) hd4 rfl (fun x4 k4 => ?_)
  obtain ⟨m1, ⟨o1, o1'⟩, n1⟩ := k1
  obtain ⟨m2, ⟨o2, o2'⟩, n2⟩ := k2
  obtain ⟨m3, ⟨o3, o3'⟩, n3⟩ := k3
  obtain ⟨m4, ⟨o4, o4'⟩, n4⟩ := k4
  have mm : ∀ p, p ≠ 22 → p ≠ 23 → x4 p = v p := fun p p1 p2 => by rw [m4 p p1 p2, m3 p p1 p2, m2 p p1 p2, m1 p p1 p2]
  have own : ∀ l : Nat, l < 4 → x4 22 ((t : Int) * 4 + l) = D.so t (o_dg (64 * a + 16 * b + 4 * e + f) l) ∧ x4 23 ((t : Int) * 4 + l) = D.pa t (o_dg (64 * a + 16 * b + 4 * e + f) l) := fun l hl => by
    rw [o_dg_4 ha hb he hd4]
    rcases (show l = 0 ∨ l = 1 ∨ l = 2 ∨ l = 3 by omega) with rfl | rfl | rfl | rfl
    · rw [(n4 _ (by omega)).1, (n4 _ (by omega)).2, (n3 _ (by omega)).1, (n3 _ (by omega)).2, (n2 _ (by omega)).1, (n2 _ (by omega)).2, o1, o1']
      exact r16 a ha
    · rw [(n4 _ (by omega)).1, (n4 _ (by omega)).2, (n3 _ (by omega)).1, (n3 _ (by omega)).2, o2, o2', m1 16 (by decide) (by decide), m1 17 (by decide) (by decide)]
      exact r16 b hb
    · rw [(n4 _ (by omega)).1, (n4 _ (by omega)).2, o3, o3', m2 16 (by decide) (by decide), m2 17 (by decide) (by decide), m1 16 (by decide) (by decide), m1 17 (by decide) (by decide)]
      exact r16 e he
    · rw [o4, o4', m3 16 (by decide) (by decide), m3 17 (by decide) (by decide), m2 16 (by decide) (by decide), m2 17 (by decide) (by decide), m1 16 (by decide) (by decide), m1 17 (by decide) (by decide)]
      exact r16 f hd4
  have x4ox : c_ox t x4 (D.cf 255) := v1.kept ⟨mm 21 (by decide) (by decide), mm 24 (by decide) (by decide), mm 25 (by decide) (by decide), mm 26 (by decide) (by decide)⟩ (fun i hi => by
    rw [(n4 i (by omega)).1, (n4 i (by omega)).2, (n3 i (by omega)).1, (n3 i (by omega)).2, (n2 i (by omega)).1, (n2 i (by omega)).2, (n1 i (by omega)).1, (n1 i (by omega)).2]
    exact ⟨rfl, rfl⟩)
  simp only [↓e_bipush, ↓e_iload2, ↓e_isub, ↓e_iload3, ↓e_iload4, ↓e_istore5, e_klI, e_klR, e_klX, e_klL, ↓e_aload0, ↓g_0_5, ↓g_0_4, ↓e_iload1, ↓e_iconst, ↓e_cv5, i_15, i_21, e_rpn, e_rps, e_few0, e_few1, e_few2, e_few3, e_few4, ↓e_iload5, ↓e_cv2, ↓g_0_8, ↓e_cs2, ↓e_if_eq, ↓e_vret, ↓x_28, ↓y_28, ↓e_nil, b_53_0, b_53_1, one0, eq_self, ne_eq, not_true_eq_false, not_false_eq_true, true_implies, false_implies, true_and, and_true, and_self]
  refine q_again (c := D.cf 255) x4ox htT own (fun l hl => hpa _ (o_dg_in (by omega) l)) (fun y f1 f2 f3 => ?_)
  have hH : y (21 + 5) ((t : Int) * 4 + 3) = (D.cf 255).oh t (64 * a + 16 * b + 4 * e + f) := by
    rw [f2.home htT, Cf.sub_H]; rfl
  have ytr : c_tr w y := v0.trans (fun p hp => by rw [f1 p (by omega) (by omega), mm p (by omega) (by omega)])
  have y28 : y 28 = v 28 := by rw [f1 28 (by decide) (by decide), mm 28 (by decide) (by decide)]
  have hp4 : y 28 4 = ((D.cf 255).ord t (64 * a + 16 * b + 4 * e)).2 := by rw [y28]; exact v2.1
  have hhome : ∀ (u : ab_W), u 26 = y 26 → ∀ Q' : Option ab_V → ab_W → Prop, Q' (some (vI ((D.cf 255).oh t (64 * a + 16 * b + 4 * e + f)))) u → Sm Ls (d + 3) 15 [vR 21, vI t] u Q' := fun u hu Q' hQ => q_homeOf (Or.inr rfl) (by omega) (by
    rw [show u (21 + 5) = y (21 + 5) from hu, hH]; exact hQ)
  generalize (D.cf 255).oh t (64 * a + 16 * b + 4 * e + f) = hh at h hhome
  simp only [↓e_bipush, ↓e_iload2, ↓e_isub, ↓e_iload3, ↓e_iload4, ↓e_istore5, e_klI, e_klR, e_klX, e_klL, ↓e_aload0, ↓g_0_5, ↓g_0_4, ↓e_iload1, ↓e_iconst, ↓e_cv5, i_15, i_21, e_rpn, e_rps, e_few0, e_few1, e_few2, e_few3, e_few4, ↓e_iload5, ↓e_cv2, ↓g_0_8, ↓e_cs2, ↓e_if_eq, ↓e_vret, ↓x_28, ↓y_28, ↓e_nil, b_53_0, b_53_1, one0, eq_self, ne_eq, not_true_eq_false, not_false_eq_true, true_implies, false_implies, true_and, and_true, and_self]
  refine hhome y rfl _ ?_
  simp only [↓e_bipush, ↓e_iload2, ↓e_isub, ↓e_iload3, ↓e_iload4, ↓e_istore5, e_klI, e_klR, e_klX, e_klL, ↓e_aload0, ↓g_0_5, ↓g_0_4, ↓e_iload1, ↓e_iconst, ↓e_cv5, i_15, i_21, e_rpn, e_rps, e_few0, e_few1, e_few2, e_few3, e_few4, ↓e_iload5, ↓e_cv2, ↓g_0_8, ↓e_cs2, ↓e_if_eq, ↓e_vret, ↓x_28, ↓y_28, ↓e_nil, b_53_0, b_53_1, ↓ev_53_1, hp4, q_isSooner, ab_yn, one0, eq_self, ne_eq, not_true_eq_false, not_false_eq_true, true_implies, false_implies, true_and, and_true, and_self]
  refine ⟨by decide, fun g => ⟨by decide, by decide, by decide, by decide, ?_⟩, fun g => ?_⟩
  · refine hhome _ (by rw [ab_up_ne (by decide), ab_up_ne (by decide), ab_up_ne (by decide), ab_up_ne (by decide)]) _ ?_
    simp only [↓e_bipush, ↓e_iload2, ↓e_isub, ↓e_iload3, ↓e_iload4, ↓e_istore5, e_klI, e_klR, e_klX, e_klL, ↓e_aload0, ↓g_0_5, ↓g_0_4, ↓e_iload1, ↓e_iconst, ↓e_cv5, i_15, i_21, e_rpn, e_rps, e_few0, e_few1, e_few2, e_few3, e_few4, ↓e_iload5, ↓e_cv2, ↓g_0_8, ↓e_cs2, ↓e_if_eq, ↓e_vret, ↓x_28, ↓y_28, ↓e_nil, b_53_0, b_53_1, ↓ev_53_1, one0, eq_self, ne_eq, not_true_eq_false, not_false_eq_true, true_implies, false_implies, true_and, and_true, and_self]
    refine ⟨by decide, h _ ?_ ?_ ?_⟩
    · exact ytr.trans ((((c_tr.up (by decide)).trans (c_tr.up (by decide))).trans (c_tr.up (by decide))).trans ((c_tr.up (by decide)).trans (c_tr.up (by decide))))
    · refine f3.kept ⟨?_, ?_, ?_, ?_⟩ (fun i hi => ?_)
      · rw [ab_up_ne (by decide), ab_up_ne (by decide), ab_up_ne (by decide), ab_up_ne (by decide), ab_up_ne (by decide)]
      · rw [ab_up_ne (by decide), ab_up_ne (by decide), ab_up_ne (by decide), ab_up_ne (by decide), ab_up_ne (by decide)]
      · rw [ab_up_ne (by decide), ab_up_ne (by decide), ab_up_ne (by decide), ab_up_ne (by decide), ab_up_ne (by decide)]
      · rw [ab_up_ne (by decide), ab_up_ne (by decide), ab_up_ne (by decide), ab_up_ne (by decide), ab_up_ne (by decide)]
      · rw [ab_up_p (by decide), ab_up_p (by decide), ab_up_p (by decide), ab_up_p (by decide), ab_up_p (by decide), ab_up_p (by decide), ab_up_p (by decide), ab_up_p (by decide), ab_up_p (by decide), ab_up_p (by decide)]
        exact ⟨rfl, rfl⟩
    · rw [if_pos ⟨hdis, g⟩]
      refine ⟨ab_up_at, Or.inr ⟨_, rfl, fun l hl => ?_⟩⟩
      rw [o_dg_4 ha hb he hd4]
      rcases (show l = 0 ∨ l = 1 ∨ l = 2 ∨ l = 3 by omega) with rfl | rfl | rfl | rfl
      · simp [ab_up]
      · simp [ab_up]
      · simp [ab_up]
      · simp [ab_up]
  · refine h y ytr f3 ?_
    rw [if_neg (fun z => g z.2)]
    unfold c_plan
    rw [y28]
    exact v2
end COrder45
