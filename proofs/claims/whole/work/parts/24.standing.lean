/-! the class's race once run: standings, ranks, who is foremost, who has won -/
/-- the race at P has T teams; they are so far behind each moment, and their legs end so -/
def c_race (P : Nat) (w : ab_W) (T : Nat) (F : Nat → Nat → Int) (E : Nat → Nat → Int) : Prop :=
  w P 5 = T ∧ ∀ t : Nat, t < T → (∀ m : Nat, m < 48 → w (P + 4) ((t : Int) * 48 + m) = F t m) ∧ ∀ l : Nat, l < 4 → w (P + 5) ((t : Int) * 4 + l) = E t l
abbrev Eh (E : Nat → Nat → Int) : Nat → Int := fun t => E t 3
theorem r_rk_s {F : Nat → Nat → Int} {H : Nat → Int} {t m n : Nat} : r_rk F H t m (n + 1) = r_rk F H t m n + (if r_V F H t m < r_V F H n m then 1 else 0) := rfl
theorem r_fo_s {F : Nat → Nat → Int} {H : Nat → Int} {m n : Nat} : r_fo F H m (n + 1) = if (r_fo F H m n).2 < r_V F H n m then ((n : Int), r_V F H n m) else r_fo F H m n := rfl
section Standing24
variable {Ls d : Nat} {w : ab_W} {q : Option ab_V → ab_W → Prop} {P T : Nat} {F E : Nat → Nat → Int}
theorem q_metresAt (hP : P = 15 ∨ P = 21) {a b : Int} (ha : 0 ≤ a ∧ a < 4) (hb : 0 ≤ b ∧ b < 48) (h : q (some (vI (w (P + 4) (a * 48 + b)))) w) : Sm Ls (d + 1) 14 [vR P, vI a, vI b] w q := by
  have hin : 0 ≤ a * 48 + b ∧ a * 48 + b < 192 := by omega
  obtain ⟨w1, w2⟩ : iW (a * 48) = a * 48 ∧ iW (a * 48 + b) = a * 48 + b := ⟨iW_id (by omega) (by omega), iW_id (by omega) (by omega)⟩
  rw [en_14]
  rcases hP with rfl | rfl
  all_goals
    simp only [↓e_aload0, ↓g_15_3, ↓g_21_3, ↓e_iload1, ↓e_bipush, ↓e_imul, ↓e_iload2, ↓e_iadd, ↓e_iret, ↓x_19, ↓x_25, ↓e_nil, b_14_0, w1, w2, hin, and_self, true_and]
    exact h
theorem q_homeOf (hP : P = 15 ∨ P = 21) {a : Int} (ha : 0 ≤ a ∧ a < 4) (h : q (some (vI (w (P + 5) (a * 4 + 3)))) w) : Sm Ls (d + 1) 15 [vR P, vI a] w q := by
  have hin : 0 ≤ a * 4 + 3 ∧ a * 4 + 3 < 16 := by omega
  have he : a * 4 + 4 - 1 = a * 4 + 3 := by omega
  obtain ⟨w1, w2, w3⟩ : iW (a * 4) = a * 4 ∧ iW (a * 4 + 4) = a * 4 + 4 ∧ iW (a * 4 + 3) = a * 4 + 3 := ⟨iW_id (by omega) (by omega), iW_id (by omega) (by omega), iW_id (by omega) (by omega)⟩
  rw [en_15]
  rcases hP with rfl | rfl
  all_goals
    simp only [↓e_aload0, ↓g_15_4, ↓g_21_4, ↓e_iload1, ↓e_iconst, ↓e_imul, ↓e_iadd, ↓e_isub, ↓e_iret, ↓x_20, ↓x_26, ↓e_nil, b_15_0, w1, w2, w3, he, hin, and_self, true_and]
    exact h
theorem q_standingAt (hP : P = 15 ∨ P = 21) (hr : c_race P w T F E) (hok : r_ok F (Eh E) T) {t m : Nat} (ht : t < T) (hm : m < 48) (h : q (some (vI (r_V F (Eh E) t m))) w) : Sm Ls (d + 2) 18 [vR P, vI t, vI m] w q := by
  have hT := hok.1
  obtain ⟨f1, f2⟩ := (hok.2 t ht).1 m hm
  obtain ⟨g1, g2⟩ : -1 ≤ E t 3 ∧ E t 3 ≤ 47 := (hok.2 t ht).2
  have hF := (hr.2 t ht).1 m hm
  have hE := (hr.2 t ht).2 3 (by omega)
  have hE : w (P + 5) ((t : Int) * 4 + 3) = E t 3 := hE
  have hc1 : ∀ Q' : Option ab_V → ab_W → Prop, Q' (some (vI (E t 3))) w → Sm Ls (d + 1) 15 [vR P, vI t] w Q' := fun Q' hQ => q_homeOf hP (by omega) (by rw [hE]; exact hQ)
  have hc2 : ∀ Q' : Option ab_V → ab_W → Prop, Q' (some (vI (F t m))) w → Sm Ls (d + 1) 14 [vR P, vI t, vI m] w Q' := fun Q' hQ => q_metresAt hP (by omega) (by omega) (by rw [hF]; exact hQ)
  have hfin : ∀ s : Int, (s = if E t 3 ≠ -1 ∧ E t 3 ≤ m then 48 - E t 3 else 0) → Ev Ls (Sm Ls (d + 1)) q bk_18 2 [vR P, vI t, vI m, vI (E t 3), vX] [vI s] w := fun s hs => by
    have hs1 : 0 ≤ s ∧ s ≤ 48 := by rw [hs]; split <;> omega
    have hV : r_V F (Eh E) t m = s * 4096 + 4 * F t m + 3 - t := by
      rw [hs]; unfold r_V
      dsimp only [Eh]
      split <;> omega
    obtain ⟨w1, w2, w3, w4, w5⟩ : iW (s * 4096) = s * 4096 ∧ iW (4 * F t m) = 4 * F t m ∧ iW (s * 4096 + 4 * F t m) = s * 4096 + 4 * F t m ∧ iW (s * 4096 + 4 * F t m + 3) = s * 4096 + 4 * F t m + 3 ∧ iW (s * 4096 + 4 * F t m + 3 - t) = s * 4096 + 4 * F t m + 3 - t :=
      ⟨iW_id (by omega) (by omega), iW_id (by omega) (by omega), iW_id (by omega) (by omega), iW_id (by omega) (by omega), iW_id (by omega) (by omega)⟩
    rw [ev_18_2]
    rcases hP with rfl | rfl
    all_goals
      simp only [↓e_aload0, ↓e_iload1, ↓e_cv2, i_15, i_21, e_rpn, e_rps, e_few0, e_few1, e_few2, e_few3, e_few4, ↓e_istore3, e_klI, e_klR, e_klX, e_klL, ↓e_iload3, ↓e_iconst, ↓e_cmp_eq, ↓e_iload2, ↓e_cmp_gt, ↓e_bipush, ↓e_isub, ↓e_goto, ↓e_istore4, ↓e_iload4, ↓e_sipush, ↓e_imul, ↓e_cv3, ↓e_iadd, ↓e_iret, ↓e_nil, b_18_0, b_18_1, b_18_2, true_and]
      refine hc2 _ ?_
      simp only [↓e_aload0, ↓e_iload1, ↓e_cv2, i_15, i_21, e_rpn, e_rps, e_few0, e_few1, e_few2, e_few3, e_few4, ↓e_istore3, e_klI, e_klR, e_klX, e_klL, ↓e_iload3, ↓e_iconst, ↓e_cmp_eq, ↓e_iload2, ↓e_cmp_gt, ↓e_bipush, ↓e_isub, ↓e_goto, ↓e_istore4, ↓e_iload4, ↓e_sipush, ↓e_imul, ↓e_cv3, ↓e_iadd, ↓e_iret, ↓e_nil, b_18_0, b_18_1, b_18_2, w1, w2, w3, w4, w5]
      rw [← hV]; exact h
  have h0 := hfin 0
  have h1 := hfin (48 - E t 3)
  have w1 : iW (48 - E t 3) = 48 - E t 3 := iW_id (by omega) (by omega)
  rw [en_18]
  rcases hP with rfl | rfl
  all_goals
    simp only [↓e_aload0, ↓e_iload1, ↓e_cv2, i_15, i_21, e_rpn, e_rps, e_few0, e_few1, e_few2, e_few3, e_few4, ↓e_istore3, e_klI, e_klR, e_klX, e_klL, ↓e_iload3, ↓e_iconst, ↓e_cmp_eq, ↓e_iload2, ↓e_cmp_gt, ↓e_bipush, ↓e_isub, ↓e_goto, ↓e_istore4, ↓e_iload4, ↓e_sipush, ↓e_imul, ↓e_cv3, ↓e_iadd, ↓e_iret, ↓e_nil, b_18_0, b_18_1, b_18_2, true_and]
    refine hc1 _ ?_
    simp only [↓e_aload0, ↓e_iload1, ↓e_cv2, i_15, i_21, e_rpn, e_rps, e_few0, e_few1, e_few2, e_few3, e_few4, ↓e_istore3, e_klI, e_klR, e_klX, e_klL, ↓e_iload3, ↓e_iconst, ↓e_cmp_eq, ↓e_iload2, ↓e_cmp_gt, ↓e_bipush, ↓e_isub, ↓e_goto, ↓e_istore4, ↓e_iload4, ↓e_sipush, ↓e_imul, ↓e_cv3, ↓e_iadd, ↓e_iret, ↓e_nil, b_18_0, b_18_1, b_18_2, ↓ev_18_1]
    refine ⟨fun hq => h0 (by rw [if_neg (by intro z; exact z.1 hq)]), fun hq => ⟨fun hz => h0 (by rw [if_neg (by intro z; clear w1; omega)]), fun hz => ?_⟩⟩
    rw [w1]
    exact h1 (by rw [if_pos ⟨hq, by clear w1; omega⟩])
theorem q_rankAt (hP : P = 15 ∨ P = 21) (hr : c_race P w T F E) (hok : r_ok F (Eh E) T) {t m : Nat} (ht : t < T) (hm : m < 48) (h : q (some (vI (r_rk F (Eh E) t m T))) w) : Sm Ls (d + 3) 19 [vR P, vI t, vI m] w q := by
  have hT := hok.1
  have hteams := hr.1
  have hc : ∀ (o : Nat), o < T → ∀ Q' : Option ab_V → ab_W → Prop, Q' (some (vI (r_V F (Eh E) o m))) w → Sm Ls (d + 2) 18 [vR P, vI o, vI m] w Q' := fun o ho Q' hQ => q_standingAt hP hr hok ho hm hQ
  have key : ∀ (k o : Nat), o + k = T → Ev Ls (Sm Ls (d + 2)) q bk_19 1 [vR P, vI t, vI m, vI (r_V F (Eh E) t m), vI (r_rk F (Eh E) t m o), vI o] [] w := by
    intro k
    induction k with
    | zero =>
      intro o ho
      have : o = T := by omega
      subst this
      rw [ev_19_1]
      rcases hP with rfl | rfl
      all_goals
        simp only [↓e_aload0, ↓e_iload1, ↓e_iload2, ↓e_cv3, i_15, i_21, e_rpn, e_rps, e_few0, e_few1, e_few2, e_few3, e_few4, ↓e_istore3, e_klI, e_klR, e_klX, e_klL, ↓e_iconst, ↓e_istore4, ↓e_istore5, ↓e_iload5, ↓g_15_5, ↓g_21_5, ↓e_cmp_ge, ↓e_iload3, ↓e_cmp_le, ↓e_iinc4, ↓e_iinc5, ↓e_goto, ↓e_iload4, ↓e_iret, ↓e_nil, b_19_0, b_19_1, b_19_2, b_19_3, ↓ev_19_3, hteams]
        exact ⟨fun _ => h, fun z => absurd (Int.le_refl _) z⟩
    | succ k ih =>
      intro o ho
      have hrk := r_rk_in (F := F) (H := Eh E) t m o
      have hno : ¬ (T : Int) ≤ (o : Int) := by omega
      have hI : ∀ x : Int, x = r_rk F (Eh E) t m (o + 1) → Ev Ls (Sm Ls (d + 2)) q bk_19 1 [vR P, vI t, vI m, vI (r_V F (Eh E) t m), vI x, vI ((o : Int) + 1)] [] w := fun x hx => by rw [hx]; exact ih (o + 1) (by omega)
      have hI1 := hI (r_rk F (Eh E) t m o)
      have hI2 := hI (r_rk F (Eh E) t m o + 1)
      have hco := hc o (by omega)
      obtain ⟨w1, w2⟩ : iW ((o : Int) + 1) = (o : Int) + 1 ∧ iW (r_rk F (Eh E) t m o + 1) = r_rk F (Eh E) t m o + 1 := ⟨iW_id (by omega) (by omega), iW_id (by omega) (by omega)⟩
      rw [ev_19_1]
      rcases hP with rfl | rfl
      all_goals
        simp only [↓e_aload0, ↓e_iload1, ↓e_iload2, ↓e_cv3, i_15, i_21, e_rpn, e_rps, e_few0, e_few1, e_few2, e_few3, e_few4, ↓e_istore3, e_klI, e_klR, e_klX, e_klL, ↓e_iconst, ↓e_istore4, ↓e_istore5, ↓e_iload5, ↓g_15_5, ↓g_21_5, ↓e_cmp_ge, ↓e_iload3, ↓e_cmp_le, ↓e_iinc4, ↓e_iinc5, ↓e_goto, ↓e_iload4, ↓e_iret, ↓e_nil, b_19_0, b_19_1, b_19_2, b_19_3, hteams, hno, false_implies, not_false_eq_true, true_implies, true_and]
        refine hco _ ?_
        simp only [↓e_aload0, ↓e_iload1, ↓e_iload2, ↓e_cv3, i_15, i_21, e_rpn, e_rps, e_few0, e_few1, e_few2, e_few3, e_few4, ↓e_istore3, e_klI, e_klR, e_klX, e_klL, ↓e_iconst, ↓e_istore4, ↓e_istore5, ↓e_iload5, ↓g_15_5, ↓g_21_5, ↓e_cmp_ge, ↓e_iload3, ↓e_cmp_le, ↓e_iinc4, ↓e_iinc5, ↓e_goto, ↓e_iload4, ↓e_iret, ↓e_nil, b_19_0, b_19_1, b_19_2, b_19_3, ↓ev_19_2, w1, w2]
        refine ⟨fun hz => hI1 ?_, fun hz => hI2 ?_⟩
        · rw [r_rk_s, if_neg (by clear w1 w2; omega), Int.add_zero]
        · rw [r_rk_s, if_pos (by clear w1 w2; omega)]
  have h0 := key T 0 (by omega)
  have hc0 := hc t ht
  rw [en_19]
  rcases hP with rfl | rfl
  all_goals
    simp only [↓e_aload0, ↓e_iload1, ↓e_iload2, ↓e_cv3, i_15, i_21, e_rpn, e_rps, e_few0, e_few1, e_few2, e_few3, e_few4, ↓e_istore3, e_klI, e_klR, e_klX, e_klL, ↓e_iconst, ↓e_istore4, ↓e_istore5, ↓e_iload5, ↓g_15_5, ↓g_21_5, ↓e_cmp_ge, ↓e_iload3, ↓e_cmp_le, ↓e_iinc4, ↓e_iinc5, ↓e_goto, ↓e_iload4, ↓e_iret, ↓e_nil, b_19_0, b_19_1, b_19_2, b_19_3, true_and]
    refine hc0 _ ?_
    simp only [↓e_aload0, ↓e_iload1, ↓e_iload2, ↓e_cv3, i_15, i_21, e_rpn, e_rps, e_few0, e_few1, e_few2, e_few3, e_few4, ↓e_istore3, e_klI, e_klR, e_klX, e_klL, ↓e_iconst, ↓e_istore4, ↓e_istore5, ↓e_iload5, ↓g_15_5, ↓g_21_5, ↓e_cmp_ge, ↓e_iload3, ↓e_cmp_le, ↓e_iinc4, ↓e_iinc5, ↓e_goto, ↓e_iload4, ↓e_iret, ↓e_nil, b_19_0, b_19_1, b_19_2, b_19_3]
    exact h0
theorem q_foremostAt (hP : P = 15 ∨ P = 21) (hr : c_race P w T F E) (hok : r_ok F (Eh E) T) {m : Nat} (hm : m < 48) (h : q (some (vI (r_fo F (Eh E) m T).1)) w) : Sm Ls (d + 3) 20 [vR P, vI m] w q := by
  have hT := hok.1
  have hteams := hr.1
  have hc : ∀ (o : Nat), o < T → ∀ Q' : Option ab_V → ab_W → Prop, Q' (some (vI (r_V F (Eh E) o m))) w → Sm Ls (d + 2) 18 [vR P, vI o, vI m] w Q' := fun o ho Q' hQ => q_standingAt hP hr hok ho hm hQ
  have key : ∀ (k o : Nat), o + k = T → ∀ x : ab_V, Ev Ls (Sm Ls (d + 2)) q bk_20 1 [vR P, vI m, vI (r_fo F (Eh E) m o).1, vI (r_fo F (Eh E) m o).2, vI o, x] [] w := by
    intro k
    induction k with
    | zero =>
      intro o ho x
      have : o = T := by omega
      subst this
      rw [ev_20_1]
      rcases hP with rfl | rfl
      all_goals
        simp only [↓e_iconst, ↓e_istore2, e_klI, e_klR, e_klX, e_klL, ↓e_istore3, ↓e_istore4, ↓e_iload4, ↓e_aload0, ↓g_15_5, ↓g_21_5, ↓e_cmp_ge, ↓e_iload1, ↓e_cv3, i_15, i_21, e_rpn, e_rps, e_few0, e_few1, e_few2, e_few3, e_few4, ↓e_istore5, ↓e_iload5, ↓e_iload3, ↓e_cmp_le, ↓e_iinc4, ↓e_goto, ↓e_iload2, ↓e_iret, ↓e_nil, b_20_0, b_20_1, b_20_2, b_20_3, ↓ev_20_3, hteams]
        exact ⟨fun _ => h, fun z => absurd (Int.le_refl _) z⟩
    | succ k ih =>
      intro o ho x
      have hno : ¬ (T : Int) ≤ (o : Int) := by omega
      have hI : ∀ (y : ab_V) (z : Int × Int), z = r_fo F (Eh E) m (o + 1) → Ev Ls (Sm Ls (d + 2)) q bk_20 1 [vR P, vI m, vI z.1, vI z.2, vI ((o : Int) + 1), y] [] w := fun y z hz => by rw [hz]; exact ih (o + 1) (by omega) y
      have hI1 := fun y => hI y (r_fo F (Eh E) m o)
      have hI2 := fun y => hI y ((o : Int), r_V F (Eh E) o m)
      have hco := hc o (by omega)
      have w1 : iW ((o : Int) + 1) = (o : Int) + 1 := iW_id (by omega) (by omega)
      rw [ev_20_1]
      rcases hP with rfl | rfl
      all_goals
        simp only [↓e_iconst, ↓e_istore2, e_klI, e_klR, e_klX, e_klL, ↓e_istore3, ↓e_istore4, ↓e_iload4, ↓e_aload0, ↓g_15_5, ↓g_21_5, ↓e_cmp_ge, ↓e_iload1, ↓e_cv3, i_15, i_21, e_rpn, e_rps, e_few0, e_few1, e_few2, e_few3, e_few4, ↓e_istore5, ↓e_iload5, ↓e_iload3, ↓e_cmp_le, ↓e_iinc4, ↓e_goto, ↓e_iload2, ↓e_iret, ↓e_nil, b_20_0, b_20_1, b_20_2, b_20_3, hteams, hno, false_implies, not_false_eq_true, true_implies, true_and]
        refine hco _ ?_
        simp only [↓e_iconst, ↓e_istore2, e_klI, e_klR, e_klX, e_klL, ↓e_istore3, ↓e_istore4, ↓e_iload4, ↓e_aload0, ↓g_15_5, ↓g_21_5, ↓e_cmp_ge, ↓e_iload1, ↓e_cv3, i_15, i_21, e_rpn, e_rps, e_few0, e_few1, e_few2, e_few3, e_few4, ↓e_istore5, ↓e_iload5, ↓e_iload3, ↓e_cmp_le, ↓e_iinc4, ↓e_goto, ↓e_iload2, ↓e_iret, ↓e_nil, b_20_0, b_20_1, b_20_2, b_20_3, ↓ev_20_2, w1]
        refine ⟨fun hz => hI1 _ ?_, fun hz => hI2 _ ?_⟩
        · rw [r_fo_s, if_neg (by clear w1; omega)]
        · rw [r_fo_s, if_pos (by clear w1; omega)]
  have h0 := key T 0 (by omega) vX
  rw [en_20]
  simp only [↓e_iconst, ↓e_istore2, e_klI, e_klR, e_klX, e_klL, ↓e_istore3, ↓e_istore4, ↓e_iload4, ↓e_aload0, ↓g_15_5, ↓g_21_5, ↓e_cmp_ge, ↓e_iload1, ↓e_cv3, i_15, i_21, e_rpn, e_rps, e_few0, e_few1, e_few2, e_few3, e_few4, ↓e_istore5, ↓e_iload5, ↓e_iload3, ↓e_cmp_le, ↓e_iinc4, ↓e_goto, ↓e_iload2, ↓e_iret, ↓e_nil, b_20_0, b_20_1, b_20_2, b_20_3]
  exact h0
theorem q_winner (hP : P = 15 ∨ P = 21) (hr : c_race P w T F E) (hok : r_ok F (Eh E) T) (h : q (some (vI (r_won F (Eh E) T))) w) : Sm Ls (d + 4) 21 [vR P] w q := by
  have hT := hok.1
  have hc1 : ∀ Q' : Option ab_V → ab_W → Prop, Q' (some (vI (r_fo F (Eh E) 47 T).1)) w → Sm Ls (d + 3) 20 [vR P, vI 47] w Q' := fun Q' hQ => q_foremostAt (m := 47) hP hr hok (by omega) hQ
  have hc2 : ∀ u : Nat, u < T → ∀ Q' : Option ab_V → ab_W → Prop, Q' (some (vI (E u 3))) w → Sm Ls (d + 3) 15 [vR P, vI u] w Q' := fun u hu Q' hQ => q_homeOf hP (by omega) (by
    have hE : w (P + 5) ((u : Int) * 4 + 3) = E u 3 := (hr.2 u hu).2 3 (by omega)
    rw [hE]; exact hQ)
  unfold r_won at h
  rw [en_21]
  rcases r_fo_spec hok (show 47 < 48 by omega) T (Nat.le_refl _) with ⟨h3, h4⟩ | ⟨u, h3, h4, h5⟩
  · rw [h4] at hc1 h
    rcases hP with rfl | rfl
    all_goals
      simp only [↓e_aload0, ↓e_bipush, ↓e_cv2, i_15, i_21, e_rpn, e_rps, e_few0, e_few1, e_few2, e_few3, e_few4, ↓e_istore1, e_klI, e_klR, e_klX, e_klL, ↓e_iload1, ↓e_iconst, ↓e_cmp_eq, ↓e_goto, ↓e_iret, ↓e_nil, b_21_0, b_21_1, b_21_2, true_and]
      refine hc1 _ ?_
      simp only [↓e_aload0, ↓e_bipush, ↓e_cv2, i_15, i_21, e_rpn, e_rps, e_few0, e_few1, e_few2, e_few3, e_few4, ↓e_istore1, e_klI, e_klR, e_klX, e_klL, ↓e_iload1, ↓e_iconst, ↓e_cmp_eq, ↓e_goto, ↓e_iret, ↓e_nil, b_21_0, b_21_1, b_21_2, ↓ev_21_1, ↓ev_21_2]
      exact ⟨fun _ => h, fun z => absurd trivial z⟩
  · rw [h4] at hc1 h
    dsimp only at hc1 h
    rw [Int.toNat_natCast] at h
    have hu1 : ¬ (u : Int) = -1 := by omega
    rcases hP with rfl | rfl
    all_goals
      simp only [↓e_aload0, ↓e_bipush, ↓e_cv2, i_15, i_21, e_rpn, e_rps, e_few0, e_few1, e_few2, e_few3, e_few4, ↓e_istore1, e_klI, e_klR, e_klX, e_klL, ↓e_iload1, ↓e_iconst, ↓e_cmp_eq, ↓e_goto, ↓e_iret, ↓e_nil, b_21_0, b_21_1, b_21_2, true_and]
      refine hc1 _ ?_
      simp only [↓e_aload0, ↓e_bipush, ↓e_cv2, i_15, i_21, e_rpn, e_rps, e_few0, e_few1, e_few2, e_few3, e_few4, ↓e_istore1, e_klI, e_klR, e_klX, e_klL, ↓e_iload1, ↓e_iconst, ↓e_cmp_eq, ↓e_goto, ↓e_iret, ↓e_nil, b_21_0, b_21_1, b_21_2, ↓ev_21_1, ↓ev_21_2, hu1, false_implies, not_false_eq_true, true_implies, true_and]
      refine hc2 u h3 _ ?_
      simp only [↓e_aload0, ↓e_bipush, ↓e_cv2, i_15, i_21, e_rpn, e_rps, e_few0, e_few1, e_few2, e_few3, e_few4, ↓e_istore1, e_klI, e_klR, e_klX, e_klL, ↓e_iload1, ↓e_iconst, ↓e_cmp_eq, ↓e_goto, ↓e_iret, ↓e_nil, b_21_0, b_21_1, b_21_2, ↓ev_21_1, ↓ev_21_2]
      refine ⟨fun hz => ?_, fun hz => ?_⟩
      · rw [if_neg (fun z => z.2 hz)] at h; exact h
      · rw [if_pos ⟨hu1, hz⟩] at h; exact h
end Standing24
