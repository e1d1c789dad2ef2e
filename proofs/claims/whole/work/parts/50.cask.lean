/-! the class's ask -/
noncomputable def Td.ow (D : Td) (t l m p : Nat) : Int := ((D.cf 255).pc t l (p : Int)).R t m
theorem mx_ext {f g : Nat → Int} : ∀ n, (∀ a, a < n → f a = g a) → mx f n = mx g n
  | 0, _ => rfl
  | n + 1, h => by rw [mx_s, mx_s, mx_ext n (fun a ha => h a (by omega)), h n (by omega)]
section CAsk50
variable {Ls d : Nat} {w : ab_W} {q : Option ab_V → ab_W → Prop} {D : Td} {c : Cf}
theorem Td.ask_c {D : Td} (h : D.ok) {t l : Nat} (ht : t < D.T) : D.ask t l = (ak_b (fun m => ak_m (D.pb t l) (D.ro t l m) 10) 48).1 := rfl
theorem Td.ak_eq {D : Td} (h : D.ok) {t l m : Nat} (ht : t < D.T) (hm : m < 48) : ak_m (D.pb t l) (D.ro t l m) 10 = mx (fun k => ct (D.pb t l) (D.ow t l m) (k : Int) 10) 4 := by
  have hok := Td.cok h 255
  have hp1 : ∀ a, D.pb t l a = true → 1 ≤ a := fun a ha => by
    unfold Td.pb at ha
    rw [Bool.and_eq_true] at ha
    exact of_decide_eq_true ha.1
  refine ak_same (fun a b ha hb pa pb => ?_) (fun a ha pa => ?_)
  · have h1 := hp1 a pa
    have h2 := hp1 b pb
    have := Cf.pc_row (c := D.cf 255) (l := l) hok (t := t) (m := m) (v := a) (v' := b) ht hm (by omega) (by omega)
    exact this.trans ⟨fun z => z.symm, fun z => z.symm⟩
  · exact Cf.R4 (c := (D.cf 255).pc t l (a : Int)) hok.1 ht
theorem q_countR {x : ab_W} (hr : c_rc 21 x c) {t : Nat} (ht : t < c.T) (hb : ∀ i : Int, 0 ≤ i → i < 192 → 0 ≤ x 29 i ∧ x 29 i ≤ 100) {Q' : Option ab_V → ab_W → Prop}
    (h : ∀ y, (∀ p, p ≠ 29 → y p = x p) → (∀ m r : Nat, m < 48 → r < 4 → y 29 ((m : Int) * 4 + r) = x 29 ((m : Int) * 4 + r) + (if c.R t m = r then 1 else 0)) → Q' none y) : Sm Ls (d + 4) 70 [vR 0, vI t] x Q' := by
  have hT := hr.2.2.1.1
  have key : ∀ (k m : Nat), m + k = 48 → ∀ y : ab_W, (∀ p, p ≠ 29 → y p = x p) → (∀ m' r : Nat, m' < m → r < 4 → y 29 ((m' : Int) * 4 + r) = x 29 ((m' : Int) * 4 + r) + (if c.R t m' = r then 1 else 0)) → (∀ i : Int, (m : Int) * 4 ≤ i → y 29 i = x 29 i) → Ev Ls (Sm Ls (d + 3)) Q' bk_70 1 [vR 0, vI t, vI m] [] y := by
    intro k
    induction k with
    | zero =>
      intro m hm y y0 y1 y2
      have : m = 48 := by omega
      subst this
      have hfin := h y y0 y1
      rw [ev_70_1]
      simp only [↓e_iconst, ↓e_istore2, e_klI, e_klR, e_klX, e_klL, ↓e_iload2, ↓e_bipush, ↓e_cmp_ge, ↓e_aload0, ↓g_0_9, ↓e_imul, ↓g_0_5, ↓e_iload1, ↓e_cv3, i_15, i_21, e_rpn, e_rps, e_few0, e_few1, e_few2, e_few3, e_few4, ↓e_iadd, ↓e_dup2, ↓e_iinc2, ↓e_goto, ↓e_vret, ↓x_29, ↓y_29, ↓e_nil, b_70_0, b_70_1, b_70_2, ↓ev_70_2]
      exact ⟨fun _ => hfin, fun z => absurd (by decide) z⟩
    | succ k ih =>
      intro m hm y y0 y1 y2
      have hno : ¬ 48 ≤ (m : Int) := by omega
      have hry : c_rc 21 y c := hr.kept (fun p _ _ => y0 p (by omega))
      obtain ⟨R1, R2⟩ := Cf.R4 hT (m := m) ht
      have hin : 0 ≤ (m : Int) * 4 + c.R t m ∧ (m : Int) * 4 + c.R t m < 192 := by omega
      have hv := hb ((m : Int) * 4 + c.R t m) (by omega) (by omega)
      have hy : y 29 ((m : Int) * 4 + c.R t m) = x 29 ((m : Int) * 4 + c.R t m) := y2 _ (by omega)
      have hnext := ih (m + 1) (by omega) (ab_up y 29 ((m : Int) * 4 + c.R t m) (x 29 ((m : Int) * 4 + c.R t m) + 1)) (fun p hp => by rw [ab_up_ne hp]; exact y0 p hp) (fun m' r hm' hr' => by
        by_cases hmm : m' = m
        · subst hmm
          by_cases hrr : c.R t m' = r
          · rw [if_pos hrr, ← hrr, ab_up_at]
          · rw [if_neg hrr, ab_up_nj (by omega), y2 _ (by omega)]; omega
        · rw [ab_up_nj (by omega)]; exact y1 m' r (by omega) hr') (fun i hi => by rw [ab_up_nj (by omega)]; exact y2 i (by omega))
      obtain ⟨w1, w2, w3, w4⟩ : iW ((m : Int) + 1) = (m : Int) + 1 ∧ iW ((m : Int) * 4) = (m : Int) * 4 ∧ iW ((m : Int) * 4 + c.R t m) = (m : Int) * 4 + c.R t m ∧ iW (x 29 ((m : Int) * 4 + c.R t m) + 1) = x 29 ((m : Int) * 4 + c.R t m) + 1 := ⟨iW_id (by omega) (by omega), iW_id (by omega) (by omega), iW_id (by omega) (by omega), iW_id (by omega) (by omega)⟩
      rw [ev_70_1]
      simp only [↓e_iconst, ↓e_istore2, e_klI, e_klR, e_klX, e_klL, ↓e_iload2, ↓e_bipush, ↓e_cmp_ge, ↓e_aload0, ↓g_0_9, ↓e_imul, ↓g_0_5, ↓e_iload1, ↓e_cv3, i_15, i_21, e_rpn, e_rps, e_few0, e_few1, e_few2, e_few3, e_few4, ↓e_iadd, ↓e_dup2, ↓e_iinc2, ↓e_goto, ↓e_vret, ↓x_29, ↓y_29, ↓e_nil, b_70_0, b_70_1, b_70_2, hno, w2, one0, eq_self, ne_eq, not_true_eq_false, not_false_eq_true, true_implies, false_implies, true_and, and_true, and_self]
      refine q_rankAt (Or.inr rfl) hry.2.2.2 (Cf.rok hry.2.2.1) ht (by clear w1 w2 w3 w4; omega) ?_
      rw [show r_rk c.F (Eh c.E) t m c.T = c.R t m from rfl]
      simp only [↓e_iconst, ↓e_istore2, e_klI, e_klR, e_klX, e_klL, ↓e_iload2, ↓e_bipush, ↓e_cmp_ge, ↓e_aload0, ↓g_0_9, ↓e_imul, ↓g_0_5, ↓e_iload1, ↓e_cv3, i_15, i_21, e_rpn, e_rps, e_few0, e_few1, e_few2, e_few3, e_few4, ↓e_iadd, ↓e_dup2, ↓e_iinc2, ↓e_goto, ↓e_vret, ↓x_29, ↓y_29, ↓e_nil, b_70_0, b_70_1, b_70_2, w1, w3, w4, hy, hin, one0, eq_self, ne_eq, not_true_eq_false, not_false_eq_true, true_implies, false_implies, true_and, and_true, and_self]
      exact hnext
  have h0 := key 48 0 (by omega) x (fun _ _ => rfl) (fun m' r hm' => by omega) (fun _ _ => rfl)
  rw [en_70]
  simp only [↓e_iconst, ↓e_istore2, e_klI, e_klR, e_klX, e_klL, ↓e_iload2, ↓e_bipush, ↓e_cmp_ge, ↓e_aload0, ↓g_0_9, ↓e_imul, ↓g_0_5, ↓e_iload1, ↓e_cv3, i_15, i_21, e_rpn, e_rps, e_few0, e_few1, e_few2, e_few3, e_few4, ↓e_iadd, ↓e_dup2, ↓e_iinc2, ↓e_goto, ↓e_vret, ↓x_29, ↓y_29, ↓e_nil, b_70_0, b_70_1, b_70_2]
  exact h0
theorem q_most {x : ab_W} {m : Nat} (hm : m < 48) {Q' : Option ab_V → ab_W → Prop} : Sm Ls (d + 2) 71 [vR 0, vI m] x Q' = Q' (some (vI (mx (fun k => x 29 ((m : Int) * 4 + k)) 4))) x := by
  have key : ∀ (k r : Nat), r + k = 4 → Ev Ls (Sm Ls (d + 1)) Q' bk_71 1 [vR 0, vI m, vI (mx (fun k => x 29 ((m : Int) * 4 + k)) r), vI r] [] x = Q' (some (vI (mx (fun k => x 29 ((m : Int) * 4 + k)) 4))) x := by
    intro k
    induction k with
    | zero =>
      intro r hr
      have : r = 4 := by omega
      subst this
      have h44 : ((4 : Int) ≤ ((4 : Nat) : Int)) = True := by decide
      rw [ev_71_1]
      simp only [↓e_iconst, ↓e_istore2, e_klI, e_klR, e_klX, e_klL, ↓e_istore3, ↓e_iload3, ↓e_cmp_ge, ↓e_iload2, ↓e_aload0, ↓g_0_9, ↓e_iload1, ↓e_imul, ↓e_iadd, e_rpn, e_rps, e_few0, e_few1, e_few2, e_few3, e_few4, ↓e_mmax, ↓e_999, ↓e_iinc3, ↓e_goto, ↓e_iret, ↓x_29, ↓e_nil, b_71_0, b_71_1, b_71_2, ↓ev_71_2, h44, one0, eq_self, ne_eq, not_true_eq_false, not_false_eq_true, true_implies, false_implies, true_and, and_true, and_self]
    | succ k ih =>
      intro r hr
      have hno : ¬ 4 ≤ (r : Int) := by omega
      have hin : 0 ≤ (m : Int) * 4 + r ∧ (m : Int) * 4 + r < 192 := by omega
      have hn := ih (r + 1) (by omega)
      rw [mx_s] at hn
      obtain ⟨w1, w2, w3⟩ : iW ((r : Int) + 1) = (r : Int) + 1 ∧ iW ((m : Int) * 4) = (m : Int) * 4 ∧ iW ((m : Int) * 4 + r) = (m : Int) * 4 + r := ⟨iW_id (by omega) (by omega), iW_id (by omega) (by omega), iW_id (by omega) (by omega)⟩
      rw [ev_71_1]
      simp only [↓e_iconst, ↓e_istore2, e_klI, e_klR, e_klX, e_klL, ↓e_istore3, ↓e_iload3, ↓e_cmp_ge, ↓e_iload2, ↓e_aload0, ↓g_0_9, ↓e_iload1, ↓e_imul, ↓e_iadd, e_rpn, e_rps, e_few0, e_few1, e_few2, e_few3, e_few4, ↓e_mmax, ↓e_999, ↓e_iinc3, ↓e_goto, ↓e_iret, ↓x_29, ↓e_nil, b_71_0, b_71_1, b_71_2, hno, hin, w1, w2, w3, i_max, one0, eq_self, ne_eq, not_true_eq_false, not_false_eq_true, true_implies, false_implies, true_and, and_true, and_self]
      exact hn
  have h0 := key 4 0 (by omega)
  rw [en_71]
  simp only [↓e_iconst, ↓e_istore2, e_klI, e_klR, e_klX, e_klL, ↓e_istore3, ↓e_iload3, ↓e_cmp_ge, ↓e_iload2, ↓e_aload0, ↓g_0_9, ↓e_iload1, ↓e_imul, ↓e_iadd, e_rpn, e_rps, e_few0, e_few1, e_few2, e_few3, e_few4, ↓e_mmax, ↓e_999, ↓e_iinc3, ↓e_goto, ↓e_iret, ↓x_29, ↓e_nil, b_71_0, b_71_1, b_71_2]
  exact h0
set_option maxHeartbeats 2000000 in
theorem q_askC (ht : c_told w D) {a b : Int} (h : ∀ v, c_tr w v → q (some (vI (p_tl D a b D.ask))) v) : Sm Ls (d + 5) 69 [vR 0, vI a, vI b] w q := by
  have hT4 := Td.T4 ht.ok
  have h5 : w 15 5 = (D.T : Int) := ht.rc.2.2.2.1
  unfold p_tl at h
  rw [en_69]
  simp only [↓e_aload0, ↓e_iload1, ↓e_cv2, i_0, e_rpn, e_rps, e_few0, e_few1, e_few2, e_few3, e_few4, ↓e_if_eq, ↓e_iload2, ↓e_cs1, ↓e_if_ne, ↓e_bipush, ↓e_iret, ↓g_0_9, ↓e_iconst, ↓e_cs2, ↓g_0_5, ↓g_0_4, i_15, i_21, ↓e_istore3, e_klI, e_klR, e_klX, e_klL, ↓e_iload3, ↓e_cmp_gt, ↓g_15_1, ↓g_21_1, ↓e_imul, ↓e_iadd, ↓g_0_2, ↓e_iinc3, ↓e_goto, ↓e_istore4, ↓e_iload4, ↓e_cmp_ge, ↓e_iinc4, ↓y_17, ↓y_23, ↓y_29, ↓e_nil, b_69_0, b_69_1, b_69_2, b_69_3, b_69_4, b_69_5, b_69_6, b_69_7, b_69_8, ↓ev_69_1, q_isTeam, q_isLeg, h5, ab_yn, one0, eq_self, ne_eq, not_true_eq_false, not_false_eq_true, true_implies, false_implies, true_and, and_true, and_self]
  refine ⟨fun g1 => ⟨fun g2 => ?_, fun g2 => ?_⟩, fun g1 => ?_⟩
  · obtain ⟨t, rfl⟩ : ∃ t : Nat, a = t := ⟨a.toNat, by omega⟩
    obtain ⟨l, rfl⟩ : ∃ l : Nat, b = l := ⟨b.toNat, by omega⟩
    rw [if_pos ⟨g1, g2⟩, Int.toNat_natCast, Int.toNat_natCast] at h
    have htT : t < D.T := by omega
    have hl : l < 4 := by omega
    have hin : 0 ≤ (t : Int) * 4 + l ∧ (t : Int) * 4 + l < 16 := by omega
    -- the search
    have hfin : ∀ v : ab_W, c_tr w v → (∀ m r : Nat, m < 48 → r < 4 → v 29 ((m : Int) * 4 + r) = ct (D.pb t l) (D.ow t l m) (r : Int) 10) → ∀ y : ab_V, Ev Ls (Sm Ls (d + 4)) q bk_69 5 [vR 0, vI t, vI l, y, vX] [] v := fun v v0 v1 y => by
      have hM : ∀ m : Nat, m < 48 → mx (fun k => v 29 ((m : Int) * 4 + k)) 4 = ak_m (D.pb t l) (D.ro t l m) 10 := fun m hm => by
        rw [Td.ak_eq ht.ok htT hm]
        exact mx_ext 4 (fun r hr => v1 m r hm hr)
      have hq := h v v0
      unfold Td.ask at hq
      generalize hMM : (fun m => ak_m (D.pb t l) (D.ro t l m) 10) = M at hq
      have hM2 : ∀ m : Nat, m < 48 → mx (fun k => v 29 ((m : Int) * 4 + k)) 4 = M m := fun m hm => by rw [hM m hm, ← hMM]
      have key : ∀ (k m : Nat), m + k = 47 → Ev Ls (Sm Ls (d + 4)) q bk_69 6 [vR 0, vI t, vI l, vI (ak_b M (m + 1)).1, vI ((m : Int) + 1)] [] v := by
        intro k
        induction k with
        | zero =>
          intro m hm
          have : m = 47 := by omega
          subst this
          rw [ev_69_6]
          simp only [↓e_aload0, ↓e_iload1, ↓e_cv2, i_0, e_rpn, e_rps, e_few0, e_few1, e_few2, e_few3, e_few4, ↓e_if_eq, ↓e_iload2, ↓e_cs1, ↓e_if_ne, ↓e_bipush, ↓e_iret, ↓g_0_9, ↓e_iconst, ↓e_cs2, ↓g_0_5, ↓g_0_4, i_15, i_21, ↓e_istore3, e_klI, e_klR, e_klX, e_klL, ↓e_iload3, ↓e_cmp_gt, ↓g_15_1, ↓g_21_1, ↓e_imul, ↓e_iadd, ↓g_0_2, ↓e_iinc3, ↓e_goto, ↓e_istore4, ↓e_iload4, ↓e_cmp_ge, ↓e_iinc4, ↓y_17, ↓y_23, ↓y_29, ↓e_nil, b_69_0, b_69_1, b_69_2, b_69_3, b_69_4, b_69_5, b_69_6, b_69_7, b_69_8, ↓ev_69_8]
          exact ⟨fun _ => hq, fun z => absurd (by decide) z⟩
        | succ k ih =>
          intro m hm
          have hno : ¬ 48 ≤ (m : Int) + 1 := by omega
          obtain ⟨b, hb, e⟩ := ak_b_in (M := M) m
          have hn := ih (m + 1) (by omega)
          rw [ak_b_s, e] at hn
          dsimp only at hn
          rw [e]
          have c1 : ∀ Q' : Option ab_V → ab_W → Prop, Sm Ls (d + 4) 71 [vR 0, vI ((m : Int) + 1)] v Q' = Q' (some (vI (M (m + 1)))) v := fun Q' => by
            have := q_most (Ls := Ls) (d := d + 2) (x := v) (m := m + 1) (by omega) (Q' := Q')
            rw [hM2 (m + 1) (by omega)] at this
            exact this
          have c2 : ∀ Q' : Option ab_V → ab_W → Prop, Sm Ls (d + 4) 71 [vR 0, vI (b : Int)] v Q' = Q' (some (vI (M b))) v := fun Q' => by
            have := q_most (Ls := Ls) (d := d + 2) (x := v) (m := b) (by omega) (Q' := Q')
            rw [hM2 b (by omega)] at this
            exact this
          have w1 : iW ((m : Int) + 1 + 1) = (m : Int) + 1 + 1 := iW_id (by omega) (by omega)
          rw [ev_69_6]
          simp only [↓e_aload0, ↓e_iload1, ↓e_cv2, i_0, e_rpn, e_rps, e_few0, e_few1, e_few2, e_few3, e_few4, ↓e_if_eq, ↓e_iload2, ↓e_cs1, ↓e_if_ne, ↓e_bipush, ↓e_iret, ↓g_0_9, ↓e_iconst, ↓e_cs2, ↓g_0_5, ↓g_0_4, i_15, i_21, ↓e_istore3, e_klI, e_klR, e_klX, e_klL, ↓e_iload3, ↓e_cmp_gt, ↓g_15_1, ↓g_21_1, ↓e_imul, ↓e_iadd, ↓g_0_2, ↓e_iinc3, ↓e_goto, ↓e_istore4, ↓e_iload4, ↓e_cmp_ge, ↓e_iinc4, ↓y_17, ↓y_23, ↓y_29, ↓e_nil, b_69_0, b_69_1, b_69_2, b_69_3, b_69_4, b_69_5, b_69_6, b_69_7, b_69_8, ↓ev_69_7, hno, c1, c2, w1, one0, eq_self, ne_eq, not_true_eq_false, not_false_eq_true, true_implies, false_implies, true_and, and_true, and_self]
          clear w1
          refine ⟨fun g => ?_, fun g => ?_⟩
          · rw [if_neg (by omega)] at hn; exact hn
          · rw [if_pos (by omega)] at hn; exact hn
      have h0 := key 47 0 (by omega)
      have e0 : (ak_b M 1).1 = 0 := by
        obtain ⟨b, hb, e⟩ := ak_b_in (M := M) 0
        rw [show 1 = 0 + 1 from rfl, e]; dsimp only; omega
      rw [show (0 : Nat) + 1 = 1 from rfl, e0] at h0
      rw [ev_69_5]
      simp only [↓e_aload0, ↓e_iload1, ↓e_cv2, i_0, e_rpn, e_rps, e_few0, e_few1, e_few2, e_few3, e_few4, ↓e_if_eq, ↓e_iload2, ↓e_cs1, ↓e_if_ne, ↓e_bipush, ↓e_iret, ↓g_0_9, ↓e_iconst, ↓e_cs2, ↓g_0_5, ↓g_0_4, i_15, i_21, ↓e_istore3, e_klI, e_klR, e_klX, e_klL, ↓e_iload3, ↓e_cmp_gt, ↓g_15_1, ↓g_21_1, ↓e_imul, ↓e_iadd, ↓g_0_2, ↓e_iinc3, ↓e_goto, ↓e_istore4, ↓e_iload4, ↓e_cmp_ge, ↓e_iinc4, ↓y_17, ↓y_23, ↓y_29, ↓e_nil, b_69_0, b_69_1, b_69_2, b_69_3, b_69_4, b_69_5, b_69_6, b_69_7, b_69_8]
      exact h0
    have loop : ∀ (k p : Nat), p + k = 10 → 1 ≤ p → ∀ v : ab_W, c_tr w v → c_ox t v (D.cf 255) → ((∀ l' : Nat, l' < 4 → v 22 ((t : Int) * 4 + l') = D.so t l') ∧ ∀ l' : Nat, l' < 4 → l' ≠ l → v 23 ((t : Int) * 4 + l') = D.pa t l') → (∀ m r : Nat, m < 48 → r < 4 → v 29 ((m : Int) * 4 + r) = ct (D.pb t l) (D.ow t l m) (r : Int) p) → Ev Ls (Sm Ls (d + 4)) q bk_69 3 [vR 0, vI t, vI l, vI p, vX] [] v := by
      intro k
      induction k with
      | zero =>
        intro p hp hp1 v v0 v1 v2 v3
        have : p = 10 := by omega
        subst this
        have hn := fun y => hfin v v0 v3 y
        rw [ev_69_3]
        simp only [↓e_aload0, ↓e_iload1, ↓e_cv2, i_0, e_rpn, e_rps, e_few0, e_few1, e_few2, e_few3, e_few4, ↓e_if_eq, ↓e_iload2, ↓e_cs1, ↓e_if_ne, ↓e_bipush, ↓e_iret, ↓g_0_9, ↓e_iconst, ↓e_cs2, ↓g_0_5, ↓g_0_4, i_15, i_21, ↓e_istore3, e_klI, e_klR, e_klX, e_klL, ↓e_iload3, ↓e_cmp_gt, ↓g_15_1, ↓g_21_1, ↓e_imul, ↓e_iadd, ↓g_0_2, ↓e_iinc3, ↓e_goto, ↓e_istore4, ↓e_iload4, ↓e_cmp_ge, ↓e_iinc4, ↓y_17, ↓y_23, ↓y_29, ↓e_nil, b_69_0, b_69_1, b_69_2, b_69_3, b_69_4, b_69_5, b_69_6, b_69_7, b_69_8]
        exact ⟨fun _ => hn _, fun z => absurd (by decide) z⟩
      | succ k ih =>
        intro p hp hp1 v v0 v1 v2 v3
        have hno : ¬ 9 < (p : Int) := by omega
        obtain ⟨w1, w2, w3⟩ : iW ((p : Int) + 1) = (p : Int) + 1 ∧ iW ((t : Int) * 4) = (t : Int) * 4 ∧ iW ((t : Int) * 4 + l) = (t : Int) * 4 + l := ⟨iW_id (by omega) (by omega), iW_id (by omega) (by omega), iW_id (by omega) (by omega)⟩
        rw [ev_69_3]
        simp only [↓e_aload0, ↓e_iload1, ↓e_cv2, i_0, e_rpn, e_rps, e_few0, e_few1, e_few2, e_few3, e_few4, ↓e_if_eq, ↓e_iload2, ↓e_cs1, ↓e_if_ne, ↓e_bipush, ↓e_iret, ↓g_0_9, ↓e_iconst, ↓e_cs2, ↓g_0_5, ↓g_0_4, i_15, i_21, ↓e_istore3, e_klI, e_klR, e_klX, e_klL, ↓e_iload3, ↓e_cmp_gt, ↓g_15_1, ↓g_21_1, ↓e_imul, ↓e_iadd, ↓g_0_2, ↓e_iinc3, ↓e_goto, ↓e_istore4, ↓e_iload4, ↓e_cmp_ge, ↓e_iinc4, ↓y_17, ↓y_23, ↓y_29, ↓e_nil, b_69_0, b_69_1, b_69_2, b_69_3, b_69_4, b_69_5, b_69_6, b_69_7, b_69_8, hno, hin, w2, w3, one0, eq_self, ne_eq, not_true_eq_false, not_false_eq_true, true_implies, false_implies, true_and, and_true, and_self]
        refine q_tryPace ht htT hl (by clear w1 w2 w3; omega) v0 v1 v2 (fun x f0 f1 f2 f3 f4 => ?_)
        simp only [↓e_aload0, ↓e_iload1, ↓e_cv2, i_0, e_rpn, e_rps, e_few0, e_few1, e_few2, e_few3, e_few4, ↓e_if_eq, ↓e_iload2, ↓e_cs1, ↓e_if_ne, ↓e_bipush, ↓e_iret, ↓g_0_9, ↓e_iconst, ↓e_cs2, ↓g_0_5, ↓g_0_4, i_15, i_21, ↓e_istore3, e_klI, e_klR, e_klX, e_klL, ↓e_iload3, ↓e_cmp_gt, ↓g_15_1, ↓g_21_1, ↓e_imul, ↓e_iadd, ↓g_0_2, ↓e_iinc3, ↓e_goto, ↓e_istore4, ↓e_iload4, ↓e_cmp_ge, ↓e_iinc4, ↓y_17, ↓y_23, ↓y_29, ↓e_nil, b_69_0, b_69_1, b_69_2, b_69_3, b_69_4, b_69_5, b_69_6, b_69_7, b_69_8, one0, eq_self, ne_eq, not_true_eq_false, not_false_eq_true, true_implies, false_implies, true_and, and_true, and_self]
        refine q_seenC f3 (f0.told ht) ?_
        rw [m_pb_s hp1]
        have hx29 : ∀ m r : Nat, m < 48 → r < 4 → x 29 ((m : Int) * 4 + r) = ct (D.pb t l) (D.ow t l m) (r : Int) p := fun m r h1 h2 => by rw [f4]; exact v3 m r h1 h2
        cases hb : D.pb t l p
        · have hn := ih (p + 1) (by clear w1 w2 w3; omega) (by clear w1 w2 w3; omega) x f0 f1 f2 (fun m r h1 h2 => by
            rw [ct_s, hb, if_neg (by simp), hx29 m r h1 h2]; simp)
          simp only [↓e_aload0, ↓e_iload1, ↓e_cv2, i_0, e_rpn, e_rps, e_few0, e_few1, e_few2, e_few3, e_few4, ↓e_if_eq, ↓e_iload2, ↓e_cs1, ↓e_if_ne, ↓e_bipush, ↓e_iret, ↓g_0_9, ↓e_iconst, ↓e_cs2, ↓g_0_5, ↓g_0_4, i_15, i_21, ↓e_istore3, e_klI, e_klR, e_klX, e_klL, ↓e_iload3, ↓e_cmp_gt, ↓g_15_1, ↓g_21_1, ↓e_imul, ↓e_iadd, ↓g_0_2, ↓e_iinc3, ↓e_goto, ↓e_istore4, ↓e_iload4, ↓e_cmp_ge, ↓e_iinc4, ↓y_17, ↓y_23, ↓y_29, ↓e_nil, b_69_0, b_69_1, b_69_2, b_69_3, b_69_4, b_69_5, b_69_6, b_69_7, b_69_8, ↓ev_69_4, w1, bI, Bool.false_eq_true, if_false, one0, eq_self, ne_eq, not_true_eq_false, not_false_eq_true, true_implies, false_implies, true_and, and_true, and_self]
          exact hn
        · have hbnd : ∀ i : Int, 0 ≤ i → i < 192 → 0 ≤ x 29 i ∧ x 29 i ≤ 100 := fun i h1 h2 => by
            have e := hx29 (i / 4).toNat (i % 4).toNat (by clear w1 w2 w3; omega) (by clear w1 w2 w3; omega)
            rw [show (((i / 4).toNat : Nat) : Int) * 4 + (((i % 4).toNat : Nat) : Int) = i by clear w1 w2 w3; omega] at e
            have := ct_in (P := D.pb t l) (o := D.ow t l (i / 4).toNat) (r := (((i % 4).toNat : Nat) : Int)) p
            rw [e]; clear w1 w2 w3; omega
          simp only [↓e_aload0, ↓e_iload1, ↓e_cv2, i_0, e_rpn, e_rps, e_few0, e_few1, e_few2, e_few3, e_few4, ↓e_if_eq, ↓e_iload2, ↓e_cs1, ↓e_if_ne, ↓e_bipush, ↓e_iret, ↓g_0_9, ↓e_iconst, ↓e_cs2, ↓g_0_5, ↓g_0_4, i_15, i_21, ↓e_istore3, e_klI, e_klR, e_klX, e_klL, ↓e_iload3, ↓e_cmp_gt, ↓g_15_1, ↓g_21_1, ↓e_imul, ↓e_iadd, ↓g_0_2, ↓e_iinc3, ↓e_goto, ↓e_istore4, ↓e_iload4, ↓e_cmp_ge, ↓e_iinc4, ↓y_17, ↓y_23, ↓y_29, ↓e_nil, b_69_0, b_69_1, b_69_2, b_69_3, b_69_4, b_69_5, b_69_6, b_69_7, b_69_8, bI, if_true, one0, eq_self, ne_eq, not_true_eq_false, not_false_eq_true, true_implies, false_implies, true_and, and_true, and_self]
          refine q_countR f3 htT hbnd (fun y y0 y1 => ?_)
          have hn := ih (p + 1) (by clear w1 w2 w3; omega) (by clear w1 w2 w3; omega) y (f0.trans (fun r hr => y0 r (by clear w1 w2 w3; omega))) (f1.kept ⟨y0 21 (by decide), y0 24 (by decide), y0 25 (by decide), y0 26 (by decide)⟩ (fun i _ => by rw [y0 22 (by decide), y0 23 (by decide)]; exact ⟨rfl, rfl⟩)) (by rw [y0 22 (by decide), y0 23 (by decide)]; exact f2) (fun m r h1 h2 => by
            rw [ct_s, hb, y1 m r h1 h2, hx29 m r h1 h2]
            show _ + (if D.ow t l m p = (r : Int) then 1 else 0) = _
            by_cases g : D.ow t l m p = (r : Int)
            · rw [if_pos g, if_pos ⟨rfl, g⟩]
            · rw [if_neg g, if_neg (fun z => g z.2)])
          simp only [↓e_aload0, ↓e_iload1, ↓e_cv2, i_0, e_rpn, e_rps, e_few0, e_few1, e_few2, e_few3, e_few4, ↓e_if_eq, ↓e_iload2, ↓e_cs1, ↓e_if_ne, ↓e_bipush, ↓e_iret, ↓g_0_9, ↓e_iconst, ↓e_cs2, ↓g_0_5, ↓g_0_4, i_15, i_21, ↓e_istore3, e_klI, e_klR, e_klX, e_klL, ↓e_iload3, ↓e_cmp_gt, ↓g_15_1, ↓g_21_1, ↓e_imul, ↓e_iadd, ↓g_0_2, ↓e_iinc3, ↓e_goto, ↓e_istore4, ↓e_iload4, ↓e_cmp_ge, ↓e_iinc4, ↓y_17, ↓y_23, ↓y_29, ↓e_nil, b_69_0, b_69_1, b_69_2, b_69_3, b_69_4, b_69_5, b_69_6, b_69_7, b_69_8, ↓ev_69_4, w1, one0, eq_self, ne_eq, not_true_eq_false, not_false_eq_true, true_implies, false_implies, true_and, and_true, and_self]
          exact hn
    rw [ev_69_2]
    simp only [↓e_aload0, ↓e_iload1, ↓e_cv2, i_0, e_rpn, e_rps, e_few0, e_few1, e_few2, e_few3, e_few4, ↓e_if_eq, ↓e_iload2, ↓e_cs1, ↓e_if_ne, ↓e_bipush, ↓e_iret, ↓g_0_9, ↓e_iconst, ↓e_cs2, ↓g_0_5, ↓g_0_4, i_15, i_21, ↓e_istore3, e_klI, e_klR, e_klX, e_klL, ↓e_iload3, ↓e_cmp_gt, ↓g_15_1, ↓g_21_1, ↓e_imul, ↓e_iadd, ↓g_0_2, ↓e_iinc3, ↓e_goto, ↓e_istore4, ↓e_iload4, ↓e_cmp_ge, ↓e_iinc4, ↓y_17, ↓y_23, ↓y_29, ↓e_nil, b_69_0, b_69_1, b_69_2, b_69_3, b_69_4, b_69_5, b_69_6, b_69_7, b_69_8, one0, eq_self, ne_eq, not_true_eq_false, not_false_eq_true, true_implies, false_implies, true_and, and_true, and_self]
    refine q_fill1 (n := 192) rfl (by omega) ?_
    have f0 : c_tr w (ab_fl w 29 0 ((192 : Nat) : Int) 0) := fun p hp => ab_fl_pp (by omega)
    simp only [↓e_aload0, ↓e_iload1, ↓e_cv2, i_0, e_rpn, e_rps, e_few0, e_few1, e_few2, e_few3, e_few4, ↓e_if_eq, ↓e_iload2, ↓e_cs1, ↓e_if_ne, ↓e_bipush, ↓e_iret, ↓g_0_9, ↓e_iconst, ↓e_cs2, ↓g_0_5, ↓g_0_4, i_15, i_21, ↓e_istore3, e_klI, e_klR, e_klX, e_klL, ↓e_iload3, ↓e_cmp_gt, ↓g_15_1, ↓g_21_1, ↓e_imul, ↓e_iadd, ↓g_0_2, ↓e_iinc3, ↓e_goto, ↓e_istore4, ↓e_iload4, ↓e_cmp_ge, ↓e_iinc4, ↓y_17, ↓y_23, ↓y_29, ↓e_nil, b_69_0, b_69_1, b_69_2, b_69_3, b_69_4, b_69_5, b_69_6, b_69_7, b_69_8, one0, eq_self, ne_eq, not_true_eq_false, not_false_eq_true, true_implies, false_implies, true_and, and_true, and_self]
    refine q_takeRace (fun x x0 => ?_)
    have hr := x0.rc (f0.told ht).rc
    have own := hr.2.1 t htT
    have x29 : x 29 = (ab_fl w 29 0 ((192 : Nat) : Int) 0) 29 := x0.1 29 (by omega)
    simp only [↓e_aload0, ↓e_iload1, ↓e_cv2, i_0, e_rpn, e_rps, e_few0, e_few1, e_few2, e_few3, e_few4, ↓e_if_eq, ↓e_iload2, ↓e_cs1, ↓e_if_ne, ↓e_bipush, ↓e_iret, ↓g_0_9, ↓e_iconst, ↓e_cs2, ↓g_0_5, ↓g_0_4, i_15, i_21, ↓e_istore3, e_klI, e_klR, e_klX, e_klL, ↓e_iload3, ↓e_cmp_gt, ↓g_15_1, ↓g_21_1, ↓e_imul, ↓e_iadd, ↓g_0_2, ↓e_iinc3, ↓e_goto, ↓e_istore4, ↓e_iload4, ↓e_cmp_ge, ↓e_iinc4, ↓y_17, ↓y_23, ↓y_29, ↓e_nil, b_69_0, b_69_1, b_69_2, b_69_3, b_69_4, b_69_5, b_69_6, b_69_7, b_69_8]
    refine loop 9 1 (by omega) (by omega) x (f0.trans x0.tr) (hr.ox htT) ⟨fun l' hl' => (own l' hl').1, fun l' hl' _ => (own l' hl').2⟩ (fun m r h1 h2 => ?_)
    rw [x29, ab_fl_in (by omega), ct_s, if_neg (by simp [Td.pb])]
    rfl
  · have := h w (c_tr.refl w); rw [if_neg (fun z => g2 z.2)] at this; exact this
  · have := h w (c_tr.refl w); rw [if_neg (fun z => g1 z.1)] at this; exact this
end CAsk50
