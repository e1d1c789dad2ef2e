/-! the digest -/
def hs (h v : Int) : Int := lW (lW (31 * h) + v)
theorem hs_e {h v : Int} : lW (lW (31 * h) + v) = hs h v := rfl
def hf (f : Nat → Int) (h : Int) : Nat → Int
  | 0 => h
  | n + 1 => hs (hf f h n) (f n)
def mo (i : Nat) : Nat := if i = 0 then 0 else if i = 1 then 9 else if i = 2 then 18 else if i = 3 then 30 else 47
noncomputable def dms (D : Td) (t : Nat) (h : Int) : Nat → Int
  | 0 => h
  | i + 1 => hf (fun x => (D.cf 255).at' (mo i) t x) (dms D t h i) 3
noncomputable def dl (D : Td) (t : Nat) (h : Int) (l : Nat) : Int := hs (hs (hs (hs (hs (hs h (D.so t l)) (D.pa t l)) ((D.cf 255).la t l)) (nb (D.pb t l) 10 : Nat)) (nb (D.sbb t l) 3 : Nat)) (D.ask t l)
noncomputable def dls (D : Td) (t : Nat) (h : Int) : Nat → Int
  | 0 => h
  | l + 1 => dl D t (dls D t h l) l
noncomputable def dpl (D : Td) (t : Nat) (h : Int) : Int := hs (hs (hs (hs (hs (hf (fun i => (D.cf 255).orda t i) (hs (hs h ((D.cf 255).H t)) ((D.cf 255).D t)) 5) ((D.cf 255).tra t).1) ((D.cf 255).tra t).2) ((D.cf 255).ft t 51 10)) (D.cha 5 t 0)) (D.cha 5 t 1)
noncomputable def dte (D : Td) (h : Int) : Nat → Int
  | 0 => h
  | t + 1 => dpl D t (dls D t (dms D t (dte D h t) 5) 4)
noncomputable def p_digest (D : Td) (S : Sh) : Int := hs (hs (hs (hs (hs (hs (hs (hs (hs (dte D (hs (hf (fun x => p_count D S x) 17 8) D.v) D.T) ((D.cf 255).wb 0)) ((D.cf 255).wb 1)) ((D.cf 255).le D.T).1) ((D.cf 255).le D.T).2) D.spr.1) (D.spa 0)) (nb D.nev D.k : Nat)) ((D.cy 7 6).wb 0)) ((D.cy 7 6).wb 1)
theorem hf_s {f : Nat → Int} {h : Int} {n : Nat} : hf f h (n + 1) = hs (hf f h n) (f n) := rfl
theorem mo_in (i : Nat) : mo i < 48 := by unfold mo; split; omega; split; omega; split; omega; split <;> omega
section Digest65
variable {Ls d : Nat} {w : ab_W} {q : Option ab_V → ab_W → Prop} {D : Td} {S : Sh}
theorem c_dm.at (h : c_dm w) {i : Nat} (hi : i < 5) : w 100 i = (mo i : Int) := by
  rcases (show i = 0 ∨ i = 1 ∨ i = 2 ∨ i = 3 ∨ i = 4 by omega) with rfl | rfl | rfl | rfl | rfl
  · exact h.1
  · exact h.2.1
  · exact h.2.2.1
  · exact h.2.2.2.1
  · exact h.2.2.2.2
theorem pd_at {m t : Nat} {x : Int} (hm : m < 48) (ht : t < D.T) (hx : 0 ≤ x ∧ x ≤ 2) : p_at D m t x = (D.cf 255).at' m t x := by
  unfold p_at; rw [if_pos (by omega), Int.toNat_natCast, Int.toNat_natCast]
theorem p_tl_in {t l : Nat} {f : Nat → Nat → Int} (ht : t < D.T) (hl : l < 4) : p_tl D t l f = f t l := by
  unfold p_tl; rw [if_pos (by omega), Int.toNat_natCast, Int.toNat_natCast]
theorem p_team_in {t : Nat} {f : Nat → Int} (ht : t < D.T) : p_team D t f = f t := by
  unfold p_team; rw [if_pos (by omega), Int.toNat_natCast]
theorem p_was_in {t l : Nat} (ht : t < D.T) (hl : l < 4) : p_was D t l 0 = (nb (D.pb t l) 10 : Nat) ∧ p_was D t l 1 = (nb (D.sbb t l) 3 : Nat) := by
  unfold p_was; exact ⟨by rw [if_pos (by omega), if_pos rfl, Int.toNat_natCast, Int.toNat_natCast], by rw [if_pos (by omega), if_neg (by decide), Int.toNat_natCast, Int.toNat_natCast]⟩
theorem p_runner_in {t l : Nat} (ht : t < D.T) (hl : l < 4) : p_runner D t l 0 = D.so t l ∧ p_runner D t l 1 = D.pa t l := by
  unfold p_runner; exact ⟨by rw [if_pos (by omega), if_pos rfl, Int.toNat_natCast, Int.toNat_natCast], by rw [if_pos (by omega), if_neg (by decide), Int.toNat_natCast, Int.toNat_natCast]⟩
theorem p_train_in {t : Nat} (ht : t < D.T) : p_train D t 0 = ((D.cf 255).tra t).1 ∧ p_train D t 1 = ((D.cf 255).tra t).2 := by
  unfold p_train; exact ⟨by rw [if_pos (by omega), if_pos rfl, Int.toNat_natCast], by rw [if_pos (by omega), if_neg (by decide), Int.toNat_natCast]⟩
theorem p_chance_in {t : Nat} (ht : t < D.T) : p_chance D 5 t 0 = D.cha 5 t 0 ∧ p_chance D 5 t 1 = D.cha 5 t 1 := by
  unfold p_chance; exact ⟨by rw [if_pos (by omega)]; rfl, by rw [if_pos (by omega)]; rfl⟩
theorem q_dgMomC (hi : c_inv w D S) {h : Int} {t : Nat} (htT : t < D.T) {Q' : Option ab_V → ab_W → Prop} (hQ : Q' (some (vL (dms D t h 5))) w) : Sm Ls (d + 5) 89 [vR 0, vL h, vI t] w Q' := by
  have outer : ∀ (k i : Nat), i + k = 5 → ∀ a b : ab_V, Ev Ls (Sm Ls (d + 4)) Q' bk_89 1 [vR 0, vL h, vX, vI t, vL (dms D t h i), vX, vR 100, vI 5, vI i, a, b] [] w := by
    intro k
    induction k with
    | zero =>
      intro i hi5 a b
      have : i = 5 := by omega
      subst this
      rw [ev_89_1]
      simp only [↓e_lload1, ↓e_lstore4, e_klI, e_klR, e_klX, e_klL, ↓e_gets, ↓x_100, ↓n_100, ↓e_astore6, ↓e_aload6, ↓e_istore7, ↓e_iconst, ↓e_istore8, ↓e_iload8, ↓e_iload7, ↓e_cmp_ge, ↓e_istore9, ↓e_istore10, ↓e_iload10, ↓e_cmp_gt, ↓e_ldc2_w, ↓e_lload4, ↓e_lmul, ↓e_aload0, ↓e_iload9, ↓e_iload3, ↓e_cv4, i_0, e_rpn, e_rps, e_few0, e_few1, e_few2, e_few3, e_few4, ↓e_i2l, ↓e_ladd, ↓e_iinc10, ↓e_goto, ↓e_iinc8, ↓e_lret, ↓e_nil, b_89_0, b_89_1, b_89_2, b_89_3, b_89_4, ↓ev_89_4]
      exact ⟨fun _ => hQ, fun z => absurd (by decide) z⟩
    | succ k ih =>
      intro i hi5 a b
      have hno : ¬ 5 ≤ (i : Int) := by omega
      have hin : 0 ≤ (i : Int) ∧ (i : Int) < 5 := by omega
      have hmo := hi.2.2.2.2.at (i := i) (by omega)
      have inner : ∀ (k2 x : Nat), x + k2 = 3 → Ev Ls (Sm Ls (d + 4)) Q' bk_89 2 [vR 0, vL h, vX, vI t, vL (hf (fun x => (D.cf 255).at' (mo i) t x) (dms D t h i) x), vX, vR 100, vI 5, vI i, vI (mo i), vI x] [] w := by
        intro k2
        induction k2 with
        | zero =>
          intro x hx
          have : x = 3 := by omega
          subst this
          have hnext := fun a b => ih (i + 1) (by omega) a b
          have w1 : iW ((i : Int) + 1) = (i : Int) + 1 := iW_id (by omega) (by omega)
          rw [ev_89_2]
          simp only [↓e_lload1, ↓e_lstore4, e_klI, e_klR, e_klX, e_klL, ↓e_gets, ↓x_100, ↓n_100, ↓e_astore6, ↓e_aload6, ↓e_istore7, ↓e_iconst, ↓e_istore8, ↓e_iload8, ↓e_iload7, ↓e_cmp_ge, ↓e_istore9, ↓e_istore10, ↓e_iload10, ↓e_cmp_gt, ↓e_ldc2_w, ↓e_lload4, ↓e_lmul, ↓e_aload0, ↓e_iload9, ↓e_iload3, ↓e_cv4, i_0, e_rpn, e_rps, e_few0, e_few1, e_few2, e_few3, e_few4, ↓e_i2l, ↓e_ladd, ↓e_iinc10, ↓e_goto, ↓e_iinc8, ↓e_lret, ↓e_nil, b_89_0, b_89_1, b_89_2, b_89_3, b_89_4, ↓ev_89_3, w1]
          exact ⟨fun _ => hnext _ _, fun z => absurd (by decide) z⟩
        | succ k2 ih2 =>
          intro x hx
          have hno2 : ¬ 2 < (x : Int) := by omega
          have hnext := ih2 (x + 1) (by omega)
          rw [hf_s] at hnext
          have e := pd_at (D := D) (x := x) (mo_in i) htT (by omega)
          have w1 : iW ((x : Int) + 1) = (x : Int) + 1 := iW_id (by omega) (by omega)
          rw [ev_89_2]
          simp only [↓e_lload1, ↓e_lstore4, e_klI, e_klR, e_klX, e_klL, ↓e_gets, ↓x_100, ↓n_100, ↓e_astore6, ↓e_aload6, ↓e_istore7, ↓e_iconst, ↓e_istore8, ↓e_iload8, ↓e_iload7, ↓e_cmp_ge, ↓e_istore9, ↓e_istore10, ↓e_iload10, ↓e_cmp_gt, ↓e_ldc2_w, ↓e_lload4, ↓e_lmul, ↓e_aload0, ↓e_iload9, ↓e_iload3, ↓e_cv4, i_0, e_rpn, e_rps, e_few0, e_few1, e_few2, e_few3, e_few4, ↓e_i2l, ↓e_ladd, ↓e_iinc10, ↓e_goto, ↓e_iinc8, ↓e_lret, ↓e_nil, b_89_0, b_89_1, b_89_2, b_89_3, b_89_4, hno2, one0, eq_self, ne_eq, not_true_eq_false, not_false_eq_true, true_implies, false_implies, true_and, and_true, and_self]
          refine q_atC hi.1 ?_
          simp only [↓e_lload1, ↓e_lstore4, e_klI, e_klR, e_klX, e_klL, ↓e_gets, ↓x_100, ↓n_100, ↓e_astore6, ↓e_aload6, ↓e_istore7, ↓e_iconst, ↓e_istore8, ↓e_iload8, ↓e_iload7, ↓e_cmp_ge, ↓e_istore9, ↓e_istore10, ↓e_iload10, ↓e_cmp_gt, ↓e_ldc2_w, ↓e_lload4, ↓e_lmul, ↓e_aload0, ↓e_iload9, ↓e_iload3, ↓e_cv4, i_0, e_rpn, e_rps, e_few0, e_few1, e_few2, e_few3, e_few4, ↓e_i2l, ↓e_ladd, ↓e_iinc10, ↓e_goto, ↓e_iinc8, ↓e_lret, ↓e_nil, b_89_0, b_89_1, b_89_2, b_89_3, b_89_4, e, w1, hs_e]
          exact hnext
      have h0 := inner 3 0 (by omega)
      rw [ev_89_1]
      simp only [↓e_lload1, ↓e_lstore4, e_klI, e_klR, e_klX, e_klL, ↓e_gets, ↓x_100, ↓n_100, ↓e_astore6, ↓e_aload6, ↓e_istore7, ↓e_iconst, ↓e_istore8, ↓e_iload8, ↓e_iload7, ↓e_cmp_ge, ↓e_istore9, ↓e_istore10, ↓e_iload10, ↓e_cmp_gt, ↓e_ldc2_w, ↓e_lload4, ↓e_lmul, ↓e_aload0, ↓e_iload9, ↓e_iload3, ↓e_cv4, i_0, e_rpn, e_rps, e_few0, e_few1, e_few2, e_few3, e_few4, ↓e_i2l, ↓e_ladd, ↓e_iinc10, ↓e_goto, ↓e_iinc8, ↓e_lret, ↓e_nil, b_89_0, b_89_1, b_89_2, b_89_3, b_89_4, hno, hin, hmo, one0, eq_self, ne_eq, not_true_eq_false, not_false_eq_true, true_implies, false_implies, true_and, and_true, and_self]
      exact h0
  have h0 := outer 5 0 (by omega)
  rw [en_89]
  simp only [↓e_lload1, ↓e_lstore4, e_klI, e_klR, e_klX, e_klL, ↓e_gets, ↓x_100, ↓n_100, ↓e_astore6, ↓e_aload6, ↓e_istore7, ↓e_iconst, ↓e_istore8, ↓e_iload8, ↓e_iload7, ↓e_cmp_ge, ↓e_istore9, ↓e_istore10, ↓e_iload10, ↓e_cmp_gt, ↓e_ldc2_w, ↓e_lload4, ↓e_lmul, ↓e_aload0, ↓e_iload9, ↓e_iload3, ↓e_cv4, i_0, e_rpn, e_rps, e_few0, e_few1, e_few2, e_few3, e_few4, ↓e_i2l, ↓e_ladd, ↓e_iinc10, ↓e_goto, ↓e_iinc8, ↓e_lret, ↓e_nil, b_89_0, b_89_1, b_89_2, b_89_3, b_89_4]
  exact h0 _ _
theorem q_dgLegC (hi : c_inv w D S) {h : Int} {t : Nat} (htT : t < D.T) {Q' : Option ab_V → ab_W → Prop} (hQ : ∀ v, c_tr w v → Q' (some (vL (dls D t h 4))) v) : Sm Ls (d + 7) 90 [vR 0, vL h, vI t] w Q' := by
  have outer : ∀ (k l : Nat), l + k = 4 → ∀ v, c_tr w v → Ev Ls (Sm Ls (d + 6)) Q' bk_90 1 [vR 0, vL h, vX, vI t, vL (dls D t h l), vX, vI l] [] v := by
    intro k
    induction k with
    | zero =>
      intro l hl v hv
      have : l = 4 := by omega
      subst this
      rw [ev_90_1]
      simp only [↓e_lload1, ↓e_lstore4, e_klI, e_klR, e_klX, e_klL, ↓e_iconst, ↓e_istore6, ↓e_iload6, ↓e_cmp_ge, ↓e_ldc2_w, ↓e_lload4, ↓e_lmul, ↓e_aload0, ↓e_iload3, ↓e_cv4, i_0, e_rpn, e_rps, e_few0, e_few1, e_few2, e_few3, e_few4, ↓e_i2l, ↓e_ladd, ↓e_cv3, ↓e_iinc6, ↓e_goto, ↓e_lret, ↓e_nil, b_90_0, b_90_1, b_90_2, ↓ev_90_2]
      exact ⟨fun _ => hQ v hv, fun z => absurd (by decide) z⟩
    | succ k ih =>
      intro l hl v hv
      have hno : ¬ 4 ≤ (l : Int) := by omega
      have hl4 : l < 4 := by omega
      obtain ⟨r0, r1⟩ := p_runner_in (D := D) htT hl4
      obtain ⟨a0, a1⟩ := p_was_in (D := D) htT hl4
      have e1 := p_tl_in (D := D) (f := (D.cf 255).la) htT hl4
      have e2 := p_tl_in (D := D) (f := D.ask) htT hl4
      have hiv := hi.tr hv
      have w1 : iW ((l : Int) + 1) = (l : Int) + 1 := iW_id (by omega) (by omega)
      rw [ev_90_1]
      simp only [↓e_lload1, ↓e_lstore4, e_klI, e_klR, e_klX, e_klL, ↓e_iconst, ↓e_istore6, ↓e_iload6, ↓e_cmp_ge, ↓e_ldc2_w, ↓e_lload4, ↓e_lmul, ↓e_aload0, ↓e_iload3, ↓e_cv4, i_0, e_rpn, e_rps, e_few0, e_few1, e_few2, e_few3, e_few4, ↓e_i2l, ↓e_ladd, ↓e_cv3, ↓e_iinc6, ↓e_goto, ↓e_lret, ↓e_nil, b_90_0, b_90_1, b_90_2, hno, one0, eq_self, ne_eq, not_true_eq_false, not_false_eq_true, true_implies, false_implies, true_and, and_true, and_self]
      refine q_runnerC hiv.1 ?_
      simp only [↓e_lload1, ↓e_lstore4, e_klI, e_klR, e_klX, e_klL, ↓e_iconst, ↓e_istore6, ↓e_iload6, ↓e_cmp_ge, ↓e_ldc2_w, ↓e_lload4, ↓e_lmul, ↓e_aload0, ↓e_iload3, ↓e_cv4, i_0, e_rpn, e_rps, e_few0, e_few1, e_few2, e_few3, e_few4, ↓e_i2l, ↓e_ladd, ↓e_cv3, ↓e_iinc6, ↓e_goto, ↓e_lret, ↓e_nil, b_90_0, b_90_1, b_90_2, r0, hs_e, one0, eq_self, ne_eq, not_true_eq_false, not_false_eq_true, true_implies, false_implies, true_and, and_true, and_self]
      refine q_runnerC hiv.1 ?_
      simp only [↓e_lload1, ↓e_lstore4, e_klI, e_klR, e_klX, e_klL, ↓e_iconst, ↓e_istore6, ↓e_iload6, ↓e_cmp_ge, ↓e_ldc2_w, ↓e_lload4, ↓e_lmul, ↓e_aload0, ↓e_iload3, ↓e_cv4, i_0, e_rpn, e_rps, e_few0, e_few1, e_few2, e_few3, e_few4, ↓e_i2l, ↓e_ladd, ↓e_cv3, ↓e_iinc6, ↓e_goto, ↓e_lret, ↓e_nil, b_90_0, b_90_1, b_90_2, r1, hs_e, one0, eq_self, ne_eq, not_true_eq_false, not_false_eq_true, true_implies, false_implies, true_and, and_true, and_self]
      refine q_lastedC hiv.1 ?_
      simp only [↓e_lload1, ↓e_lstore4, e_klI, e_klR, e_klX, e_klL, ↓e_iconst, ↓e_istore6, ↓e_iload6, ↓e_cmp_ge, ↓e_ldc2_w, ↓e_lload4, ↓e_lmul, ↓e_aload0, ↓e_iload3, ↓e_cv4, i_0, e_rpn, e_rps, e_few0, e_few1, e_few2, e_few3, e_few4, ↓e_i2l, ↓e_ladd, ↓e_cv3, ↓e_iinc6, ↓e_goto, ↓e_lret, ↓e_nil, b_90_0, b_90_1, b_90_2, e1, hs_e, one0, eq_self, ne_eq, not_true_eq_false, not_false_eq_true, true_implies, false_implies, true_and, and_true, and_self]
      refine q_wasC hiv.1 (fun x hx => ?_)
      have hix := hiv.tr hx
      simp only [↓e_lload1, ↓e_lstore4, e_klI, e_klR, e_klX, e_klL, ↓e_iconst, ↓e_istore6, ↓e_iload6, ↓e_cmp_ge, ↓e_ldc2_w, ↓e_lload4, ↓e_lmul, ↓e_aload0, ↓e_iload3, ↓e_cv4, i_0, e_rpn, e_rps, e_few0, e_few1, e_few2, e_few3, e_few4, ↓e_i2l, ↓e_ladd, ↓e_cv3, ↓e_iinc6, ↓e_goto, ↓e_lret, ↓e_nil, b_90_0, b_90_1, b_90_2, a0, hs_e, one0, eq_self, ne_eq, not_true_eq_false, not_false_eq_true, true_implies, false_implies, true_and, and_true, and_self]
      refine q_wasC hix.1 (fun y hy => ?_)
      have hiy := hix.tr hy
      simp only [↓e_lload1, ↓e_lstore4, e_klI, e_klR, e_klX, e_klL, ↓e_iconst, ↓e_istore6, ↓e_iload6, ↓e_cmp_ge, ↓e_ldc2_w, ↓e_lload4, ↓e_lmul, ↓e_aload0, ↓e_iload3, ↓e_cv4, i_0, e_rpn, e_rps, e_few0, e_few1, e_few2, e_few3, e_few4, ↓e_i2l, ↓e_ladd, ↓e_cv3, ↓e_iinc6, ↓e_goto, ↓e_lret, ↓e_nil, b_90_0, b_90_1, b_90_2, a1, hs_e, one0, eq_self, ne_eq, not_true_eq_false, not_false_eq_true, true_implies, false_implies, true_and, and_true, and_self]
      refine q_askC hiy.1 (fun z hz => ?_)
      simp only [↓e_lload1, ↓e_lstore4, e_klI, e_klR, e_klX, e_klL, ↓e_iconst, ↓e_istore6, ↓e_iload6, ↓e_cmp_ge, ↓e_ldc2_w, ↓e_lload4, ↓e_lmul, ↓e_aload0, ↓e_iload3, ↓e_cv4, i_0, e_rpn, e_rps, e_few0, e_few1, e_few2, e_few3, e_few4, ↓e_i2l, ↓e_ladd, ↓e_cv3, ↓e_iinc6, ↓e_goto, ↓e_lret, ↓e_nil, b_90_0, b_90_1, b_90_2, e2, hs_e, w1, one0, eq_self, ne_eq, not_true_eq_false, not_false_eq_true, true_implies, false_implies, true_and, and_true, and_self]
      exact ih (l + 1) (by clear w1; omega) z (((hv.trans hx).trans hy).trans hz)
  have h0 := outer 4 0 (by omega) w (c_tr.refl w)
  rw [en_90]
  simp only [↓e_lload1, ↓e_lstore4, e_klI, e_klR, e_klX, e_klL, ↓e_iconst, ↓e_istore6, ↓e_iload6, ↓e_cmp_ge, ↓e_ldc2_w, ↓e_lload4, ↓e_lmul, ↓e_aload0, ↓e_iload3, ↓e_cv4, i_0, e_rpn, e_rps, e_few0, e_few1, e_few2, e_few3, e_few4, ↓e_i2l, ↓e_ladd, ↓e_cv3, ↓e_iinc6, ↓e_goto, ↓e_lret, ↓e_nil, b_90_0, b_90_1, b_90_2]
  exact h0
theorem c_inv.fwd {v : ab_W} (hi : c_inv w D S) (hv : c_scr w v) (hc : c_cache v D) : c_inv v D S ∧ c_fra w v := ⟨hi.scr hv hc, hv.fra⟩
theorem q_dgPlanC (hi : c_inv w D S) {h : Int} {t : Nat} (htT : t < D.T) {Q' : Option ab_V → ab_W → Prop} (hQ : ∀ v, c_fra w v → c_inv v D S → Q' (some (vL (dpl D t h))) v) : Sm Ls (d + 7) 91 [vR 0, vL h, vI t] w Q' := by
  have e1 := p_team_in (D := D) (f := (D.cf 255).H) htT
  have e2 := p_team_in (D := D) (f := (D.cf 255).D) htT
  have e3 := p_team_in (D := D) (f := fun t => (D.cf 255).ft t 51 10) htT
  obtain ⟨t0, t1⟩ := p_train_in (D := D) htT
  obtain ⟨c0, c1⟩ := p_chance_in (D := D) htT
  have loop : ∀ v, c_tr w v → c_plan v ((D.cf 255).ord t 256) → ∀ (k i : Nat), i + k = 5 → Ev Ls (Sm Ls (d + 6)) Q' bk_91 1 [vR 0, vL h, vX, vI t, vL (hf (fun i => (D.cf 255).orda t i) (hs (hs h ((D.cf 255).H t)) ((D.cf 255).D t)) i), vX, vI i] [] v := by
    intro v hv hpl k
    have hiv := hi.tr hv
    induction k with
    | zero =>
      intro i hi5
      have : i = 5 := by omega
      subst this
      rw [ev_91_1]
      simp only [↓e_lload1, ↓e_lstore4, e_klI, e_klR, e_klX, e_klL, ↓e_ldc2_w, ↓e_lload4, ↓e_lmul, ↓e_aload0, ↓e_iload3, ↓e_cv2, i_0, e_rpn, e_rps, e_few0, e_few1, e_few2, e_few3, e_few4, ↓e_i2l, ↓e_ladd, ↓e_iconst, ↓e_istore6, ↓e_iload6, ↓e_cmp_gt, ↓g_0_8, ↓e_iinc6, ↓e_goto, ↓e_cv3, ↓e_cv4, ↓e_lret, ↓x_28, ↓e_nil, b_91_0, b_91_1, b_91_2]
      refine ⟨fun _ => ?_, fun z => absurd (by decide) z⟩
      rw [ev_91_2]
      simp only [↓e_lload1, ↓e_lstore4, e_klI, e_klR, e_klX, e_klL, ↓e_ldc2_w, ↓e_lload4, ↓e_lmul, ↓e_aload0, ↓e_iload3, ↓e_cv2, i_0, e_rpn, e_rps, e_few0, e_few1, e_few2, e_few3, e_few4, ↓e_i2l, ↓e_ladd, ↓e_iconst, ↓e_istore6, ↓e_iload6, ↓e_cmp_gt, ↓g_0_8, ↓e_iinc6, ↓e_goto, ↓e_cv3, ↓e_cv4, ↓e_lret, ↓x_28, ↓e_nil, b_91_0, b_91_1, b_91_2, one0, eq_self, ne_eq, not_true_eq_false, not_false_eq_true, true_implies, false_implies, true_and, and_true, and_self]
      refine q_trainC hiv.1 (fun x hx => ?_)
      have hix := hiv.tr hx
      simp only [↓e_lload1, ↓e_lstore4, e_klI, e_klR, e_klX, e_klL, ↓e_ldc2_w, ↓e_lload4, ↓e_lmul, ↓e_aload0, ↓e_iload3, ↓e_cv2, i_0, e_rpn, e_rps, e_few0, e_few1, e_few2, e_few3, e_few4, ↓e_i2l, ↓e_ladd, ↓e_iconst, ↓e_istore6, ↓e_iload6, ↓e_cmp_gt, ↓g_0_8, ↓e_iinc6, ↓e_goto, ↓e_cv3, ↓e_cv4, ↓e_lret, ↓x_28, ↓e_nil, b_91_0, b_91_1, b_91_2, t0, hs_e, one0, eq_self, ne_eq, not_true_eq_false, not_false_eq_true, true_implies, false_implies, true_and, and_true, and_self]
      refine q_trainC hix.1 (fun y hy => ?_)
      have hiy := hix.tr hy
      simp only [↓e_lload1, ↓e_lstore4, e_klI, e_klR, e_klX, e_klL, ↓e_ldc2_w, ↓e_lload4, ↓e_lmul, ↓e_aload0, ↓e_iload3, ↓e_cv2, i_0, e_rpn, e_rps, e_few0, e_few1, e_few2, e_few3, e_few4, ↓e_i2l, ↓e_ladd, ↓e_iconst, ↓e_istore6, ↓e_iload6, ↓e_cmp_gt, ↓g_0_8, ↓e_iinc6, ↓e_goto, ↓e_cv3, ↓e_cv4, ↓e_lret, ↓x_28, ↓e_nil, b_91_0, b_91_1, b_91_2, t1, hs_e, one0, eq_self, ne_eq, not_true_eq_false, not_false_eq_true, true_implies, false_implies, true_and, and_true, and_self]
      refine q_fitC hiy.1 (fun z hz => ?_)
      have hiz := hiy.tr hz
      simp only [↓e_lload1, ↓e_lstore4, e_klI, e_klR, e_klX, e_klL, ↓e_ldc2_w, ↓e_lload4, ↓e_lmul, ↓e_aload0, ↓e_iload3, ↓e_cv2, i_0, e_rpn, e_rps, e_few0, e_few1, e_few2, e_few3, e_few4, ↓e_i2l, ↓e_ladd, ↓e_iconst, ↓e_istore6, ↓e_iload6, ↓e_cmp_gt, ↓g_0_8, ↓e_iinc6, ↓e_goto, ↓e_cv3, ↓e_cv4, ↓e_lret, ↓x_28, ↓e_nil, b_91_0, b_91_1, b_91_2, e3, hs_e, one0, eq_self, ne_eq, not_true_eq_false, not_false_eq_true, true_implies, false_implies, true_and, and_true, and_self]
      refine q_chanceC hiz.1 hiz.2.1 (fun u hu hc => ?_)
      obtain ⟨hiu, fu⟩ := hiz.fwd hu hc
      simp only [↓e_lload1, ↓e_lstore4, e_klI, e_klR, e_klX, e_klL, ↓e_ldc2_w, ↓e_lload4, ↓e_lmul, ↓e_aload0, ↓e_iload3, ↓e_cv2, i_0, e_rpn, e_rps, e_few0, e_few1, e_few2, e_few3, e_few4, ↓e_i2l, ↓e_ladd, ↓e_iconst, ↓e_istore6, ↓e_iload6, ↓e_cmp_gt, ↓g_0_8, ↓e_iinc6, ↓e_goto, ↓e_cv3, ↓e_cv4, ↓e_lret, ↓x_28, ↓e_nil, b_91_0, b_91_1, b_91_2, c0, hs_e, one0, eq_self, ne_eq, not_true_eq_false, not_false_eq_true, true_implies, false_implies, true_and, and_true, and_self]
      refine q_chanceC hiu.1 hiu.2.1 (fun u2 hu2 hc2 => ?_)
      obtain ⟨hiu2, fu2⟩ := hiu.fwd hu2 hc2
      simp only [↓e_lload1, ↓e_lstore4, e_klI, e_klR, e_klX, e_klL, ↓e_ldc2_w, ↓e_lload4, ↓e_lmul, ↓e_aload0, ↓e_iload3, ↓e_cv2, i_0, e_rpn, e_rps, e_few0, e_few1, e_few2, e_few3, e_few4, ↓e_i2l, ↓e_ladd, ↓e_iconst, ↓e_istore6, ↓e_iload6, ↓e_cmp_gt, ↓g_0_8, ↓e_iinc6, ↓e_goto, ↓e_cv3, ↓e_cv4, ↓e_lret, ↓x_28, ↓e_nil, b_91_0, b_91_1, b_91_2, c1, hs_e, one0, eq_self, ne_eq, not_true_eq_false, not_false_eq_true, true_implies, false_implies, true_and, and_true, and_self]
      exact hQ u2 ((((hv.fra.trans hx.fra).trans hy.fra).trans hz.fra).trans (fu.trans fu2)) hiu2
    | succ k ih =>
      intro i hi5
      have hno : ¬ 4 < (i : Int) := by omega
      have hin : 0 ≤ (i : Int) ∧ (i : Int) < 5 := by omega
      have hnext := ih (i + 1) (by omega)
      rw [hf_s] at hnext
      have hp : v 28 i = (D.cf 255).orda t i := hpl.ans (by omega)
      have w1 : iW ((i : Int) + 1) = (i : Int) + 1 := iW_id (by omega) (by omega)
      rw [ev_91_1]
      simp only [↓e_lload1, ↓e_lstore4, e_klI, e_klR, e_klX, e_klL, ↓e_ldc2_w, ↓e_lload4, ↓e_lmul, ↓e_aload0, ↓e_iload3, ↓e_cv2, i_0, e_rpn, e_rps, e_few0, e_few1, e_few2, e_few3, e_few4, ↓e_i2l, ↓e_ladd, ↓e_iconst, ↓e_istore6, ↓e_iload6, ↓e_cmp_gt, ↓g_0_8, ↓e_iinc6, ↓e_goto, ↓e_cv3, ↓e_cv4, ↓e_lret, ↓x_28, ↓e_nil, b_91_0, b_91_1, b_91_2, hno, hin, hp, hs_e, w1, one0, eq_self, ne_eq, not_true_eq_false, not_false_eq_true, true_implies, false_implies, true_and, and_true, and_self]
      exact hnext
  rw [en_91]
  simp only [↓e_lload1, ↓e_lstore4, e_klI, e_klR, e_klX, e_klL, ↓e_ldc2_w, ↓e_lload4, ↓e_lmul, ↓e_aload0, ↓e_iload3, ↓e_cv2, i_0, e_rpn, e_rps, e_few0, e_few1, e_few2, e_few3, e_few4, ↓e_i2l, ↓e_ladd, ↓e_iconst, ↓e_istore6, ↓e_iload6, ↓e_cmp_gt, ↓g_0_8, ↓e_iinc6, ↓e_goto, ↓e_cv3, ↓e_cv4, ↓e_lret, ↓x_28, ↓e_nil, b_91_0, b_91_1, b_91_2, one0, eq_self, ne_eq, not_true_eq_false, not_false_eq_true, true_implies, false_implies, true_and, and_true, and_self]
  refine q_homeC hi.1 ?_
  simp only [↓e_lload1, ↓e_lstore4, e_klI, e_klR, e_klX, e_klL, ↓e_ldc2_w, ↓e_lload4, ↓e_lmul, ↓e_aload0, ↓e_iload3, ↓e_cv2, i_0, e_rpn, e_rps, e_few0, e_few1, e_few2, e_few3, e_few4, ↓e_i2l, ↓e_ladd, ↓e_iconst, ↓e_istore6, ↓e_iload6, ↓e_cmp_gt, ↓g_0_8, ↓e_iinc6, ↓e_goto, ↓e_cv3, ↓e_cv4, ↓e_lret, ↓x_28, ↓e_nil, b_91_0, b_91_1, b_91_2, e1, hs_e, one0, eq_self, ne_eq, not_true_eq_false, not_false_eq_true, true_implies, false_implies, true_and, and_true, and_self]
  refine q_stoodC hi.1 ?_
  simp only [↓e_lload1, ↓e_lstore4, e_klI, e_klR, e_klX, e_klL, ↓e_ldc2_w, ↓e_lload4, ↓e_lmul, ↓e_aload0, ↓e_iload3, ↓e_cv2, i_0, e_rpn, e_rps, e_few0, e_few1, e_few2, e_few3, e_few4, ↓e_i2l, ↓e_ladd, ↓e_iconst, ↓e_istore6, ↓e_iload6, ↓e_cmp_gt, ↓g_0_8, ↓e_iinc6, ↓e_goto, ↓e_cv3, ↓e_cv4, ↓e_lret, ↓x_28, ↓e_nil, b_91_0, b_91_1, b_91_2, e2, hs_e, one0, eq_self, ne_eq, not_true_eq_false, not_false_eq_true, true_implies, false_implies, true_and, and_true, and_self]
  refine q_findOrder hi.1 htT (fun v hv hpl => ?_)
  simp only [↓e_lload1, ↓e_lstore4, e_klI, e_klR, e_klX, e_klL, ↓e_ldc2_w, ↓e_lload4, ↓e_lmul, ↓e_aload0, ↓e_iload3, ↓e_cv2, i_0, e_rpn, e_rps, e_few0, e_few1, e_few2, e_few3, e_few4, ↓e_i2l, ↓e_ladd, ↓e_iconst, ↓e_istore6, ↓e_iload6, ↓e_cmp_gt, ↓g_0_8, ↓e_iinc6, ↓e_goto, ↓e_cv3, ↓e_cv4, ↓e_lret, ↓x_28, ↓e_nil, b_91_0, b_91_1, b_91_2]
  exact loop v hv hpl 5 0 (by omega)
set_option maxHeartbeats 2000000 in
theorem q_digestC (hi : c_inv w D S) (h : ∀ v, c_fra w v → c_inv v D S → q (some (vL (p_digest D S))) v) : Sm Ls (d + 8) 88 [vR 0] w q := by
  have hT4 := Td.T4 hi.1.ok
  have hend : ∀ v, c_fra w v → c_inv v D S → ∀ y : ab_V, Ev Ls (Sm Ls (d + 7)) q bk_88 4 [vR 0, vL (dte D (hs (hf (fun x => p_count D S x) 17 8) D.v) D.T), vX, y] [] v := fun v v0 v1 y => by
    have won : p_won D 0 = (D.cf 255).wb 0 ∧ p_won D 1 = (D.cf 255).wb 1 := by unfold p_won; exact ⟨by rw [if_pos (by omega)], by rw [if_pos (by omega)]⟩
    have lea : p_leader D 0 = ((D.cf 255).le D.T).1 ∧ p_leader D 1 = ((D.cf 255).le D.T).2 := by unfold p_leader; exact ⟨by rw [if_pos (by omega), if_pos rfl], by rw [if_pos (by omega), if_neg (by decide)]⟩
    have spa : p_spare D (-1) = D.spr.1 ∧ p_spare D 0 = D.spa 0 := by unfold p_spare; exact ⟨by rw [if_pos (by omega)]; rfl, by rw [if_pos (by omega)]⟩
    have yea : p_years D 7 6 0 = (D.cy 7 6).wb 0 ∧ p_years D 7 6 1 = (D.cy 7 6).wb 1 := by unfold p_years; exact ⟨by rw [if_pos (by omega)]; rfl, by rw [if_pos (by omega)]; rfl⟩
    unfold p_digest at h
    rw [ev_88_4]
    simp only [↓e_ldc2_w, ↓e_lstore1, e_klI, e_klR, e_klX, e_klL, ↓e_iconst, ↓e_istore3, ↓e_iload3, ↓e_bipush, ↓e_cmp_gt, ↓e_lload1, ↓e_lmul, ↓e_aload0, ↓e_cv2, i_0, e_rpn, e_rps, e_few0, e_few1, e_few2, e_few3, e_few4, ↓e_i2l, ↓e_ladd, ↓e_iinc3, ↓e_goto, ↓e_cv1, ↓g_0_4, ↓g_15_5, ↓g_21_5, ↓e_cmp_ge, ↓e_cv3, ↓e_cv4, ↓e_lret, ↓e_nil, b_88_0, b_88_1, b_88_2, b_88_3, b_88_4, one0, eq_self, ne_eq, not_true_eq_false, not_false_eq_true, true_implies, false_implies, true_and, and_true, and_self]
    refine q_wonC v1.1 ?_
    simp only [↓e_ldc2_w, ↓e_lstore1, e_klI, e_klR, e_klX, e_klL, ↓e_iconst, ↓e_istore3, ↓e_iload3, ↓e_bipush, ↓e_cmp_gt, ↓e_lload1, ↓e_lmul, ↓e_aload0, ↓e_cv2, i_0, e_rpn, e_rps, e_few0, e_few1, e_few2, e_few3, e_few4, ↓e_i2l, ↓e_ladd, ↓e_iinc3, ↓e_goto, ↓e_cv1, ↓g_0_4, ↓g_15_5, ↓g_21_5, ↓e_cmp_ge, ↓e_cv3, ↓e_cv4, ↓e_lret, ↓e_nil, b_88_0, b_88_1, b_88_2, b_88_3, b_88_4, won.1, hs_e, one0, eq_self, ne_eq, not_true_eq_false, not_false_eq_true, true_implies, false_implies, true_and, and_true, and_self]
    refine q_wonC v1.1 ?_
    simp only [↓e_ldc2_w, ↓e_lstore1, e_klI, e_klR, e_klX, e_klL, ↓e_iconst, ↓e_istore3, ↓e_iload3, ↓e_bipush, ↓e_cmp_gt, ↓e_lload1, ↓e_lmul, ↓e_aload0, ↓e_cv2, i_0, e_rpn, e_rps, e_few0, e_few1, e_few2, e_few3, e_few4, ↓e_i2l, ↓e_ladd, ↓e_iinc3, ↓e_goto, ↓e_cv1, ↓g_0_4, ↓g_15_5, ↓g_21_5, ↓e_cmp_ge, ↓e_cv3, ↓e_cv4, ↓e_lret, ↓e_nil, b_88_0, b_88_1, b_88_2, b_88_3, b_88_4, won.2, hs_e, one0, eq_self, ne_eq, not_true_eq_false, not_false_eq_true, true_implies, false_implies, true_and, and_true, and_self]
    refine q_leaderC v1.1 ?_
    simp only [↓e_ldc2_w, ↓e_lstore1, e_klI, e_klR, e_klX, e_klL, ↓e_iconst, ↓e_istore3, ↓e_iload3, ↓e_bipush, ↓e_cmp_gt, ↓e_lload1, ↓e_lmul, ↓e_aload0, ↓e_cv2, i_0, e_rpn, e_rps, e_few0, e_few1, e_few2, e_few3, e_few4, ↓e_i2l, ↓e_ladd, ↓e_iinc3, ↓e_goto, ↓e_cv1, ↓g_0_4, ↓g_15_5, ↓g_21_5, ↓e_cmp_ge, ↓e_cv3, ↓e_cv4, ↓e_lret, ↓e_nil, b_88_0, b_88_1, b_88_2, b_88_3, b_88_4, lea.1, hs_e, one0, eq_self, ne_eq, not_true_eq_false, not_false_eq_true, true_implies, false_implies, true_and, and_true, and_self]
    refine q_leaderC v1.1 ?_
    simp only [↓e_ldc2_w, ↓e_lstore1, e_klI, e_klR, e_klX, e_klL, ↓e_iconst, ↓e_istore3, ↓e_iload3, ↓e_bipush, ↓e_cmp_gt, ↓e_lload1, ↓e_lmul, ↓e_aload0, ↓e_cv2, i_0, e_rpn, e_rps, e_few0, e_few1, e_few2, e_few3, e_few4, ↓e_i2l, ↓e_ladd, ↓e_iinc3, ↓e_goto, ↓e_cv1, ↓g_0_4, ↓g_15_5, ↓g_21_5, ↓e_cmp_ge, ↓e_cv3, ↓e_cv4, ↓e_lret, ↓e_nil, b_88_0, b_88_1, b_88_2, b_88_3, b_88_4, lea.2, hs_e, one0, eq_self, ne_eq, not_true_eq_false, not_false_eq_true, true_implies, false_implies, true_and, and_true, and_self]
    refine q_spareC v1.1 v1.2.1 (fun x hx hc => ?_)
    obtain ⟨ix, fx⟩ := v1.fwd hx hc
    simp only [↓e_ldc2_w, ↓e_lstore1, e_klI, e_klR, e_klX, e_klL, ↓e_iconst, ↓e_istore3, ↓e_iload3, ↓e_bipush, ↓e_cmp_gt, ↓e_lload1, ↓e_lmul, ↓e_aload0, ↓e_cv2, i_0, e_rpn, e_rps, e_few0, e_few1, e_few2, e_few3, e_few4, ↓e_i2l, ↓e_ladd, ↓e_iinc3, ↓e_goto, ↓e_cv1, ↓g_0_4, ↓g_15_5, ↓g_21_5, ↓e_cmp_ge, ↓e_cv3, ↓e_cv4, ↓e_lret, ↓e_nil, b_88_0, b_88_1, b_88_2, b_88_3, b_88_4, spa.1, hs_e, one0, eq_self, ne_eq, not_true_eq_false, not_false_eq_true, true_implies, false_implies, true_and, and_true, and_self]
    refine q_spareC ix.1 ix.2.1 (fun z hz hc2 => ?_)
    obtain ⟨iz, fz⟩ := ix.fwd hz hc2
    simp only [↓e_ldc2_w, ↓e_lstore1, e_klI, e_klR, e_klX, e_klL, ↓e_iconst, ↓e_istore3, ↓e_iload3, ↓e_bipush, ↓e_cmp_gt, ↓e_lload1, ↓e_lmul, ↓e_aload0, ↓e_cv2, i_0, e_rpn, e_rps, e_few0, e_few1, e_few2, e_few3, e_few4, ↓e_i2l, ↓e_ladd, ↓e_iinc3, ↓e_goto, ↓e_cv1, ↓g_0_4, ↓g_15_5, ↓g_21_5, ↓e_cmp_ge, ↓e_cv3, ↓e_cv4, ↓e_lret, ↓e_nil, b_88_0, b_88_1, b_88_2, b_88_3, b_88_4, spa.2, hs_e, one0, eq_self, ne_eq, not_true_eq_false, not_false_eq_true, true_implies, false_implies, true_and, and_true, and_self]
    refine q_neverC iz.1 (fun u hu => ?_)
    have iu := iz.tr hu
    simp only [↓e_ldc2_w, ↓e_lstore1, e_klI, e_klR, e_klX, e_klL, ↓e_iconst, ↓e_istore3, ↓e_iload3, ↓e_bipush, ↓e_cmp_gt, ↓e_lload1, ↓e_lmul, ↓e_aload0, ↓e_cv2, i_0, e_rpn, e_rps, e_few0, e_few1, e_few2, e_few3, e_few4, ↓e_i2l, ↓e_ladd, ↓e_iinc3, ↓e_goto, ↓e_cv1, ↓g_0_4, ↓g_15_5, ↓g_21_5, ↓e_cmp_ge, ↓e_cv3, ↓e_cv4, ↓e_lret, ↓e_nil, b_88_0, b_88_1, b_88_2, b_88_3, b_88_4, hs_e, one0, eq_self, ne_eq, not_true_eq_false, not_false_eq_true, true_implies, false_implies, true_and, and_true, and_self]
    refine q_yearsC iu.1 (fun u2 hu2 => ?_)
    have iu2 := iu.tr hu2
    simp only [↓e_ldc2_w, ↓e_lstore1, e_klI, e_klR, e_klX, e_klL, ↓e_iconst, ↓e_istore3, ↓e_iload3, ↓e_bipush, ↓e_cmp_gt, ↓e_lload1, ↓e_lmul, ↓e_aload0, ↓e_cv2, i_0, e_rpn, e_rps, e_few0, e_few1, e_few2, e_few3, e_few4, ↓e_i2l, ↓e_ladd, ↓e_iinc3, ↓e_goto, ↓e_cv1, ↓g_0_4, ↓g_15_5, ↓g_21_5, ↓e_cmp_ge, ↓e_cv3, ↓e_cv4, ↓e_lret, ↓e_nil, b_88_0, b_88_1, b_88_2, b_88_3, b_88_4, yea.1, hs_e, one0, eq_self, ne_eq, not_true_eq_false, not_false_eq_true, true_implies, false_implies, true_and, and_true, and_self]
    refine q_yearsC iu2.1 (fun u3 hu3 => ?_)
    have iu3 := iu2.tr hu3
    simp only [↓e_ldc2_w, ↓e_lstore1, e_klI, e_klR, e_klX, e_klL, ↓e_iconst, ↓e_istore3, ↓e_iload3, ↓e_bipush, ↓e_cmp_gt, ↓e_lload1, ↓e_lmul, ↓e_aload0, ↓e_cv2, i_0, e_rpn, e_rps, e_few0, e_few1, e_few2, e_few3, e_few4, ↓e_i2l, ↓e_ladd, ↓e_iinc3, ↓e_goto, ↓e_cv1, ↓g_0_4, ↓g_15_5, ↓g_21_5, ↓e_cmp_ge, ↓e_cv3, ↓e_cv4, ↓e_lret, ↓e_nil, b_88_0, b_88_1, b_88_2, b_88_3, b_88_4, yea.2, hs_e, one0, eq_self, ne_eq, not_true_eq_false, not_false_eq_true, true_implies, false_implies, true_and, and_true, and_self]
    exact h u3 ((((((v0.trans fx).trans fz).trans hu.fra).trans hu2.fra)).trans hu3.fra) iu3
  have teams : ∀ (k t : Nat), t + k = D.T → ∀ v, c_fra w v → c_inv v D S → Ev Ls (Sm Ls (d + 7)) q bk_88 3 [vR 0, vL (dte D (hs (hf (fun x => p_count D S x) 17 8) D.v) t), vX, vI t] [] v := by
    intro k
    induction k with
    | zero =>
      intro t ht v v0 v1
      have : t = D.T := by omega
      subst this
      have f0 : v 15 5 = (D.T : Int) := v1.1.rc.2.2.2.1
      have he := hend v v0 v1
      rw [ev_88_3]
      simp only [↓e_ldc2_w, ↓e_lstore1, e_klI, e_klR, e_klX, e_klL, ↓e_iconst, ↓e_istore3, ↓e_iload3, ↓e_bipush, ↓e_cmp_gt, ↓e_lload1, ↓e_lmul, ↓e_aload0, ↓e_cv2, i_0, e_rpn, e_rps, e_few0, e_few1, e_few2, e_few3, e_few4, ↓e_i2l, ↓e_ladd, ↓e_iinc3, ↓e_goto, ↓e_cv1, ↓g_0_4, ↓g_15_5, ↓g_21_5, ↓e_cmp_ge, ↓e_cv3, ↓e_cv4, ↓e_lret, ↓e_nil, b_88_0, b_88_1, b_88_2, b_88_3, b_88_4, f0]
      exact ⟨fun _ => he _, fun z => absurd (Int.le_refl _) z⟩
    | succ k ih =>
      intro t ht v v0 v1
      have htT : t < D.T := by omega
      have hno : ¬ (D.T : Int) ≤ (t : Int) := by omega
      have f0 : v 15 5 = (D.T : Int) := v1.1.rc.2.2.2.1
      have w1 : iW ((t : Int) + 1) = (t : Int) + 1 := iW_id (by omega) (by omega)
      rw [ev_88_3]
      simp only [↓e_ldc2_w, ↓e_lstore1, e_klI, e_klR, e_klX, e_klL, ↓e_iconst, ↓e_istore3, ↓e_iload3, ↓e_bipush, ↓e_cmp_gt, ↓e_lload1, ↓e_lmul, ↓e_aload0, ↓e_cv2, i_0, e_rpn, e_rps, e_few0, e_few1, e_few2, e_few3, e_few4, ↓e_i2l, ↓e_ladd, ↓e_iinc3, ↓e_goto, ↓e_cv1, ↓g_0_4, ↓g_15_5, ↓g_21_5, ↓e_cmp_ge, ↓e_cv3, ↓e_cv4, ↓e_lret, ↓e_nil, b_88_0, b_88_1, b_88_2, b_88_3, b_88_4, f0, hno, one0, eq_self, ne_eq, not_true_eq_false, not_false_eq_true, true_implies, false_implies, true_and, and_true, and_self]
      refine q_dgMomC v1 htT ?_
      simp only [↓e_ldc2_w, ↓e_lstore1, e_klI, e_klR, e_klX, e_klL, ↓e_iconst, ↓e_istore3, ↓e_iload3, ↓e_bipush, ↓e_cmp_gt, ↓e_lload1, ↓e_lmul, ↓e_aload0, ↓e_cv2, i_0, e_rpn, e_rps, e_few0, e_few1, e_few2, e_few3, e_few4, ↓e_i2l, ↓e_ladd, ↓e_iinc3, ↓e_goto, ↓e_cv1, ↓g_0_4, ↓g_15_5, ↓g_21_5, ↓e_cmp_ge, ↓e_cv3, ↓e_cv4, ↓e_lret, ↓e_nil, b_88_0, b_88_1, b_88_2, b_88_3, b_88_4, one0, eq_self, ne_eq, not_true_eq_false, not_false_eq_true, true_implies, false_implies, true_and, and_true, and_self]
      refine q_dgLegC v1 htT (fun x hx => ?_)
      have ix := v1.tr hx
      simp only [↓e_ldc2_w, ↓e_lstore1, e_klI, e_klR, e_klX, e_klL, ↓e_iconst, ↓e_istore3, ↓e_iload3, ↓e_bipush, ↓e_cmp_gt, ↓e_lload1, ↓e_lmul, ↓e_aload0, ↓e_cv2, i_0, e_rpn, e_rps, e_few0, e_few1, e_few2, e_few3, e_few4, ↓e_i2l, ↓e_ladd, ↓e_iinc3, ↓e_goto, ↓e_cv1, ↓g_0_4, ↓g_15_5, ↓g_21_5, ↓e_cmp_ge, ↓e_cv3, ↓e_cv4, ↓e_lret, ↓e_nil, b_88_0, b_88_1, b_88_2, b_88_3, b_88_4, one0, eq_self, ne_eq, not_true_eq_false, not_false_eq_true, true_implies, false_implies, true_and, and_true, and_self]
      refine q_dgPlanC ix htT (fun z fz iz => ?_)
      simp only [↓e_ldc2_w, ↓e_lstore1, e_klI, e_klR, e_klX, e_klL, ↓e_iconst, ↓e_istore3, ↓e_iload3, ↓e_bipush, ↓e_cmp_gt, ↓e_lload1, ↓e_lmul, ↓e_aload0, ↓e_cv2, i_0, e_rpn, e_rps, e_few0, e_few1, e_few2, e_few3, e_few4, ↓e_i2l, ↓e_ladd, ↓e_iinc3, ↓e_goto, ↓e_cv1, ↓g_0_4, ↓g_15_5, ↓g_21_5, ↓e_cmp_ge, ↓e_cv3, ↓e_cv4, ↓e_lret, ↓e_nil, b_88_0, b_88_1, b_88_2, b_88_3, b_88_4, w1]
      exact ih (t + 1) (by clear w1; omega) z ((v0.trans hx.fra).trans fz) iz
  have counts : ∀ (k x : Nat), x + k = 8 → Ev Ls (Sm Ls (d + 7)) q bk_88 1 [vR 0, vL (hf (fun x => p_count D S x) 17 x), vX, vI x] [] w := by
    intro k
    induction k with
    | zero =>
      intro x hx
      have : x = 8 := by omega
      subst this
      rw [ev_88_1]
      simp only [↓e_ldc2_w, ↓e_lstore1, e_klI, e_klR, e_klX, e_klL, ↓e_iconst, ↓e_istore3, ↓e_iload3, ↓e_bipush, ↓e_cmp_gt, ↓e_lload1, ↓e_lmul, ↓e_aload0, ↓e_cv2, i_0, e_rpn, e_rps, e_few0, e_few1, e_few2, e_few3, e_few4, ↓e_i2l, ↓e_ladd, ↓e_iinc3, ↓e_goto, ↓e_cv1, ↓g_0_4, ↓g_15_5, ↓g_21_5, ↓e_cmp_ge, ↓e_cv3, ↓e_cv4, ↓e_lret, ↓e_nil, b_88_0, b_88_1, b_88_2, b_88_3, b_88_4, ↓ev_88_2, one0, eq_self, ne_eq, not_true_eq_false, not_false_eq_true, true_implies, false_implies, true_and, and_true, and_self]
      refine ⟨fun _ => q_faultC hi.1 ?_, fun z => absurd (by decide) z⟩
      simp only [↓e_ldc2_w, ↓e_lstore1, e_klI, e_klR, e_klX, e_klL, ↓e_iconst, ↓e_istore3, ↓e_iload3, ↓e_bipush, ↓e_cmp_gt, ↓e_lload1, ↓e_lmul, ↓e_aload0, ↓e_cv2, i_0, e_rpn, e_rps, e_few0, e_few1, e_few2, e_few3, e_few4, ↓e_i2l, ↓e_ladd, ↓e_iinc3, ↓e_goto, ↓e_cv1, ↓g_0_4, ↓g_15_5, ↓g_21_5, ↓e_cmp_ge, ↓e_cv3, ↓e_cv4, ↓e_lret, ↓e_nil, b_88_0, b_88_1, b_88_2, b_88_3, b_88_4, hs_e]
      exact teams D.T 0 (by omega) w (c_fra.refl w) hi
    | succ k ih =>
      intro x hx
      have hno : ¬ 7 < (x : Int) := by omega
      have hnext := ih (x + 1) (by omega)
      rw [hf_s] at hnext
      have w1 : iW ((x : Int) + 1) = (x : Int) + 1 := iW_id (by omega) (by omega)
      rw [ev_88_1]
      simp only [↓e_ldc2_w, ↓e_lstore1, e_klI, e_klR, e_klX, e_klL, ↓e_iconst, ↓e_istore3, ↓e_iload3, ↓e_bipush, ↓e_cmp_gt, ↓e_lload1, ↓e_lmul, ↓e_aload0, ↓e_cv2, i_0, e_rpn, e_rps, e_few0, e_few1, e_few2, e_few3, e_few4, ↓e_i2l, ↓e_ladd, ↓e_iinc3, ↓e_goto, ↓e_cv1, ↓g_0_4, ↓g_15_5, ↓g_21_5, ↓e_cmp_ge, ↓e_cv3, ↓e_cv4, ↓e_lret, ↓e_nil, b_88_0, b_88_1, b_88_2, b_88_3, b_88_4, hno, one0, eq_self, ne_eq, not_true_eq_false, not_false_eq_true, true_implies, false_implies, true_and, and_true, and_self]
      refine q_countC hi ?_
      simp only [↓e_ldc2_w, ↓e_lstore1, e_klI, e_klR, e_klX, e_klL, ↓e_iconst, ↓e_istore3, ↓e_iload3, ↓e_bipush, ↓e_cmp_gt, ↓e_lload1, ↓e_lmul, ↓e_aload0, ↓e_cv2, i_0, e_rpn, e_rps, e_few0, e_few1, e_few2, e_few3, e_few4, ↓e_i2l, ↓e_ladd, ↓e_iinc3, ↓e_goto, ↓e_cv1, ↓g_0_4, ↓g_15_5, ↓g_21_5, ↓e_cmp_ge, ↓e_cv3, ↓e_cv4, ↓e_lret, ↓e_nil, b_88_0, b_88_1, b_88_2, b_88_3, b_88_4, hs_e, w1]
      exact hnext
  have h0 := counts 8 0 (by omega)
  rw [en_88]
  simp only [↓e_ldc2_w, ↓e_lstore1, e_klI, e_klR, e_klX, e_klL, ↓e_iconst, ↓e_istore3, ↓e_iload3, ↓e_bipush, ↓e_cmp_gt, ↓e_lload1, ↓e_lmul, ↓e_aload0, ↓e_cv2, i_0, e_rpn, e_rps, e_few0, e_few1, e_few2, e_few3, e_few4, ↓e_i2l, ↓e_ladd, ↓e_iinc3, ↓e_goto, ↓e_cv1, ↓g_0_4, ↓g_15_5, ↓g_21_5, ↓e_cmp_ge, ↓e_cv3, ↓e_cv4, ↓e_lret, ↓e_nil, b_88_0, b_88_1, b_88_2, b_88_3, b_88_4]
  exact h0
end Digest65
