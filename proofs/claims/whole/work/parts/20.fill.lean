/-! filling rows; generic stepping over arrays; worlds -/
section Fill20
variable {Ls : Nat} {C : Nat → List ab_V → ab_W → (Option ab_V → ab_W → Prop) → Prop} {J : Nat → List ab_V → List ab_V → ab_W → Prop} {Rt : Option ab_V → ab_W → Prop} {nx : Nat} {is : List ab_I} {ex : List Nat} {z : Int} {L S : List ab_V} {w : ab_W}
theorem e_ias {p n : Nat} {i x : Int} (h : ab_arr 0 p = some n) : ab_wb Ls C J Rt nx ((.iastore, ex, z) :: is) L (vI x :: vI i :: vR p :: S) w = ((0 ≤ i ∧ i < (n : Int)) ∧ ab_wb Ls C J Rt nx is L S (ab_up w p i x)) := by
  simp only [ab_wb, ab_wp, h]
theorem e_las {p n : Nat} {i x : Int} (h : ab_arr 1 p = some n) : ab_wb Ls C J Rt nx ((.lastore, ex, z) :: is) L (vL x :: vI i :: vR p :: S) w = ((0 ≤ i ∧ i < (n : Int)) ∧ ab_wb Ls C J Rt nx is L S (ab_up w p i x)) := by
  simp only [ab_wb, ab_wp, h]
theorem e_lenk {kd p n : Nat} (h : ab_arr kd p = some n) : ab_wb Ls C J Rt nx ((.arraylength, ex, z) :: is) L (vR p :: S) w = ab_wb Ls C J Rt nx is L (vI (n : Int) :: S) w := by
  obtain ⟨rs, e⟩ := ab_arr_of h
  simp only [ab_wb, ab_wp, ab_pR, ab_len, e]
end Fill20
def ab_fl (w : ab_W) (p : Nat) (a b v : Int) : ab_W := fun r j => if r = p then (if a ≤ j ∧ j < b then v else w r j) else w r j
theorem ab_fl_0 {w : ab_W} {p : Nat} {a v : Int} : ab_fl w p a a v = w := by
  funext r j
  unfold ab_fl
  split
  · rw [if_neg (by omega)]
  · rfl
theorem ab_fl_s {w : ab_W} {p : Nat} {a i v : Int} (h : a ≤ i) : ab_up (ab_fl w p a i v) p i v = ab_fl w p a (i + 1) v := by
  funext r j
  unfold ab_up ab_fl
  by_cases hr : r = p
  · simp only [if_pos hr]
    by_cases hj : j = i
    · rw [if_pos hj, if_pos (by omega)]
    · rw [if_neg hj]
      by_cases h2 : a ≤ j ∧ j < i
      · rw [if_pos h2, if_pos (by omega)]
      · rw [if_neg h2, if_neg (by omega)]
  · simp only [if_neg hr]
theorem ab_up_at {w : ab_W} {p : Nat} {i v : Int} : ab_up w p i v p i = v := by simp [ab_up]
theorem ab_up_nj {w : ab_W} {p : Nat} {i v j : Int} (h : j ≠ i) : ab_up w p i v p j = w p j := by simp [ab_up, h]
theorem ab_up_p {w : ab_W} {p r : Nat} {i v j : Int} (h : r ≠ p) : ab_up w p i v r j = w r j := by simp [ab_up, h]
theorem ab_fl_p {w : ab_W} {p r : Nat} {a b v j : Int} (h : r ≠ p) : ab_fl w p a b v r j = w r j := by simp [ab_fl, h]
theorem ab_fl_pp {w : ab_W} {p r : Nat} {a b v : Int} (h : r ≠ p) : ab_fl w p a b v r = w r := by funext j; simp [ab_fl, h]
theorem ab_fl_in {w : ab_W} {p : Nat} {a b v j : Int} (h : a ≤ j ∧ j < b) : ab_fl w p a b v p j = v := by simp [ab_fl, h]
theorem ab_fl_out {w : ab_W} {p : Nat} {a b v j : Int} (h : ¬ (a ≤ j ∧ j < b)) : ab_fl w p a b v p j = w p j := by simp only [ab_fl, if_pos, if_neg h]
section Fills20
variable {Ls d : Nat} {q : Option ab_V → ab_W → Prop}
/-- Arrays.fill(int[], int) -/
theorem q_fill1 {p n : Nat} {v : Int} {w : ab_W} (hp : ab_arr 0 p = some n) (hn : n < 2000) (h : q none (ab_fl w p 0 n v)) : Sm Ls (d + 1) 4 [vR p, vI v] w q := by
  have key : ∀ (k i : Nat), i + k = n → Ev Ls (Sm Ls d) q bk_4 1 [vR p, vI v, vI (i : Int), vI (n : Int)] [] (ab_fl w p 0 i v) := by
    intro k
    induction k with
    | zero =>
      intro i hi
      rw [ev_4_1]
      simp only [↓e_iconst, ↓e_istore2, e_klI, e_klR, e_klX, e_klL, ↓e_aload0, ↓e_istore3, ↓e_iload2, ↓e_iload3, ↓e_cmp_ge, ↓e_iload1, ↓e_iinc2, ↓e_goto, ↓e_vret, ↓y_2, ↓n_2, ↓y_4, ↓n_4, ↓y_5, ↓n_5, ↓y_6, ↓n_6, ↓y_8, ↓n_8, ↓y_9, ↓n_9, ↓y_10, ↓n_10, ↓y_12, ↓n_12, ↓y_13, ↓n_13, ↓y_14, ↓n_14, ↓y_16, ↓n_16, ↓y_17, ↓n_17, ↓n_18, ↓y_19, ↓n_19, ↓y_20, ↓n_20, ↓y_22, ↓n_22, ↓y_23, ↓n_23, ↓n_24, ↓y_25, ↓n_25, ↓y_26, ↓n_26, ↓y_27, ↓n_27, ↓y_28, ↓n_28, ↓y_29, ↓n_29, ↓y_32, ↓n_32, ↓y_34, ↓n_34, ↓y_36, ↓n_36, ↓y_38, ↓n_38, ↓e_nil, b_4_0, b_4_1, b_4_2, ↓ev_4_2]
      have : i = n := by omega
      subst this
      exact ⟨fun _ => h, fun q => absurd (Int.le_refl _) q⟩
    | succ k ih =>
      intro i hi
      rw [ev_4_1]
      simp only [↓e_iconst, ↓e_istore2, e_klI, e_klR, e_klX, e_klL, ↓e_aload0, ↓e_istore3, ↓e_iload2, ↓e_iload3, ↓e_cmp_ge, ↓e_iload1, ↓e_iinc2, ↓e_goto, ↓e_vret, ↓y_2, ↓n_2, ↓y_4, ↓n_4, ↓y_5, ↓n_5, ↓y_6, ↓n_6, ↓y_8, ↓n_8, ↓y_9, ↓n_9, ↓y_10, ↓n_10, ↓y_12, ↓n_12, ↓y_13, ↓n_13, ↓y_14, ↓n_14, ↓y_16, ↓n_16, ↓y_17, ↓n_17, ↓n_18, ↓y_19, ↓n_19, ↓y_20, ↓n_20, ↓y_22, ↓n_22, ↓y_23, ↓n_23, ↓n_24, ↓y_25, ↓n_25, ↓y_26, ↓n_26, ↓y_27, ↓n_27, ↓y_28, ↓n_28, ↓y_29, ↓n_29, ↓y_32, ↓n_32, ↓y_34, ↓n_34, ↓y_36, ↓n_36, ↓y_38, ↓n_38, ↓e_nil, b_4_0, b_4_1, b_4_2, ↓ev_4_2, ↓e_ias hp]
      refine ⟨fun hq => absurd hq (by omega), fun _ => ⟨⟨by omega, by omega⟩, ?_⟩⟩
      rw [ab_fl_s (by omega), iW_id (by omega) (by omega)]
      exact ih (i + 1) (by omega)
  rw [en_4]
  simp only [↓e_iconst, ↓e_istore2, e_klI, e_klR, e_klX, e_klL, ↓e_aload0, ↓e_istore3, ↓e_iload2, ↓e_iload3, ↓e_cmp_ge, ↓e_iload1, ↓e_iinc2, ↓e_goto, ↓e_vret, ↓y_2, ↓n_2, ↓y_4, ↓n_4, ↓y_5, ↓n_5, ↓y_6, ↓n_6, ↓y_8, ↓n_8, ↓y_9, ↓n_9, ↓y_10, ↓n_10, ↓y_12, ↓n_12, ↓y_13, ↓n_13, ↓y_14, ↓n_14, ↓y_16, ↓n_16, ↓y_17, ↓n_17, ↓n_18, ↓y_19, ↓n_19, ↓y_20, ↓n_20, ↓y_22, ↓n_22, ↓y_23, ↓n_23, ↓n_24, ↓y_25, ↓n_25, ↓y_26, ↓n_26, ↓y_27, ↓n_27, ↓y_28, ↓n_28, ↓y_29, ↓n_29, ↓y_32, ↓n_32, ↓y_34, ↓n_34, ↓y_36, ↓n_36, ↓y_38, ↓n_38, ↓e_nil, b_4_0, b_4_1, b_4_2, ↓e_lenk hp]
  have := key n 0 (by omega)
  rw [show ((0 : Nat) : Int) = 0 from rfl, ab_fl_0] at this
  exact this
/-- Arrays.fill(long[], long) -/
theorem q_fillL {p n : Nat} {v : Int} {w : ab_W} (hp : ab_arr 1 p = some n) (hn : n < 2000) (h : q none (ab_fl w p 0 n v)) : Sm Ls (d + 1) 3 [vR p, vL v] w q := by
  have key : ∀ (k i : Nat), i + k = n → Ev Ls (Sm Ls d) q bk_3 1 [vR p, vL v, vX, vI (i : Int), vI (n : Int)] [] (ab_fl w p 0 i v) := by
    intro k
    induction k with
    | zero =>
      intro i hi
      rw [ev_3_1]
      simp only [↓e_iconst, ↓e_istore3, e_klI, e_klR, e_klX, e_klL, ↓e_aload0, ↓e_istore4, ↓e_iload3, ↓e_iload4, ↓e_cmp_ge, ↓e_lload1, ↓e_iinc3, ↓e_goto, ↓e_vret, ↓n_2, ↓n_4, ↓n_5, ↓n_6, ↓n_8, ↓n_9, ↓n_10, ↓n_12, ↓n_13, ↓n_14, ↓n_16, ↓n_17, ↓y_18, ↓n_18, ↓n_19, ↓n_20, ↓n_22, ↓n_23, ↓y_24, ↓n_24, ↓n_25, ↓n_26, ↓n_27, ↓n_28, ↓n_29, ↓n_32, ↓n_34, ↓n_36, ↓n_38, ↓e_nil, b_3_0, b_3_1, b_3_2, ↓ev_3_2]
      have : i = n := by omega
      subst this
      exact ⟨fun _ => h, fun q => absurd (Int.le_refl _) q⟩
    | succ k ih =>
      intro i hi
      rw [ev_3_1]
      simp only [↓e_iconst, ↓e_istore3, e_klI, e_klR, e_klX, e_klL, ↓e_aload0, ↓e_istore4, ↓e_iload3, ↓e_iload4, ↓e_cmp_ge, ↓e_lload1, ↓e_iinc3, ↓e_goto, ↓e_vret, ↓n_2, ↓n_4, ↓n_5, ↓n_6, ↓n_8, ↓n_9, ↓n_10, ↓n_12, ↓n_13, ↓n_14, ↓n_16, ↓n_17, ↓y_18, ↓n_18, ↓n_19, ↓n_20, ↓n_22, ↓n_23, ↓y_24, ↓n_24, ↓n_25, ↓n_26, ↓n_27, ↓n_28, ↓n_29, ↓n_32, ↓n_34, ↓n_36, ↓n_38, ↓e_nil, b_3_0, b_3_1, b_3_2, ↓ev_3_2, ↓e_las hp]
      refine ⟨fun hq => absurd hq (by omega), fun _ => ⟨⟨by omega, by omega⟩, ?_⟩⟩
      rw [ab_fl_s (by omega), iW_id (by omega) (by omega)]
      exact ih (i + 1) (by omega)
  rw [en_3]
  simp only [↓e_iconst, ↓e_istore3, e_klI, e_klR, e_klX, e_klL, ↓e_aload0, ↓e_istore4, ↓e_iload3, ↓e_iload4, ↓e_cmp_ge, ↓e_lload1, ↓e_iinc3, ↓e_goto, ↓e_vret, ↓n_2, ↓n_4, ↓n_5, ↓n_6, ↓n_8, ↓n_9, ↓n_10, ↓n_12, ↓n_13, ↓n_14, ↓n_16, ↓n_17, ↓y_18, ↓n_18, ↓n_19, ↓n_20, ↓n_22, ↓n_23, ↓y_24, ↓n_24, ↓n_25, ↓n_26, ↓n_27, ↓n_28, ↓n_29, ↓n_32, ↓n_34, ↓n_36, ↓n_38, ↓e_nil, b_3_0, b_3_1, b_3_2, ↓e_lenk hp]
  have := key n 0 (by omega)
  rw [show ((0 : Nat) : Int) = 0 from rfl, ab_fl_0] at this
  exact this
theorem q_range {a b c : Int} {w : ab_W} (h1 : 0 ≤ b) (h2 : b ≤ c) (h3 : c ≤ a) : Sm Ls (d + 1) 2 [vI a, vI b, vI c] w q = q none w := by
  rw [en_2]
  simp only [↓e_iload1, ↓e_iload2, ↓e_cmp_le, ↓e_if_ge, ↓e_iload0, ↓e_vret, ↓e_nil, b_2_0, b_2_1, b_2_2, b_2_3, b_2_4, b_2_5, b_2_6, ↓ev_2_2, ↓ev_2_4, ↓ev_2_6]
  simp [h1, h2, h3]
/-- Arrays.fill(int[], int, int, int) -/
theorem q_fill3 {p n : Nat} {a b v : Int} {w : ab_W} (hp : ab_arr 0 p = some n) (hn : n < 2000) (h1 : 0 ≤ a) (h2 : a ≤ b) (h3 : b ≤ n) (h : q none (ab_fl w p a b v)) : Sm Ls (d + 2) 5 [vR p, vI a, vI b, vI v] w q := by
  have key : ∀ (k : Nat) (i : Int), a ≤ i → i + k = b → Ev Ls (Sm Ls (d + 1)) q bk_5 1 [vR p, vI a, vI b, vI v, vI i] [] (ab_fl w p a i v) := by
    intro k
    induction k with
    | zero =>
      intro i ha hi
      rw [ev_5_1]
      simp only [↓e_aload0, ↓e_iload1, ↓e_iload2, e_rpn, e_rps, e_few0, e_few1, e_few2, e_few3, e_few4, ↓e_cs3, ↓e_istore4, e_klI, e_klR, e_klX, e_klL, ↓e_iload4, ↓e_cmp_ge, ↓e_iload3, ↓e_iinc4, ↓e_goto, ↓e_vret, ↓y_2, ↓n_2, ↓y_4, ↓n_4, ↓y_5, ↓n_5, ↓y_6, ↓n_6, ↓y_8, ↓n_8, ↓y_9, ↓n_9, ↓y_10, ↓n_10, ↓y_12, ↓n_12, ↓y_13, ↓n_13, ↓y_14, ↓n_14, ↓y_16, ↓n_16, ↓y_17, ↓n_17, ↓n_18, ↓y_19, ↓n_19, ↓y_20, ↓n_20, ↓y_22, ↓n_22, ↓y_23, ↓n_23, ↓n_24, ↓y_25, ↓n_25, ↓y_26, ↓n_26, ↓y_27, ↓n_27, ↓y_28, ↓n_28, ↓y_29, ↓n_29, ↓y_32, ↓n_32, ↓y_34, ↓n_34, ↓y_36, ↓n_36, ↓y_38, ↓n_38, ↓e_nil, b_5_0, b_5_1, b_5_2, ↓ev_5_2]
      have : i = b := by omega
      subst this
      exact ⟨fun _ => h, fun q => absurd (Int.le_refl _) q⟩
    | succ k ih =>
      intro i ha hi
      rw [ev_5_1]
      simp only [↓e_aload0, ↓e_iload1, ↓e_iload2, e_rpn, e_rps, e_few0, e_few1, e_few2, e_few3, e_few4, ↓e_cs3, ↓e_istore4, e_klI, e_klR, e_klX, e_klL, ↓e_iload4, ↓e_cmp_ge, ↓e_iload3, ↓e_iinc4, ↓e_goto, ↓e_vret, ↓y_2, ↓n_2, ↓y_4, ↓n_4, ↓y_5, ↓n_5, ↓y_6, ↓n_6, ↓y_8, ↓n_8, ↓y_9, ↓n_9, ↓y_10, ↓n_10, ↓y_12, ↓n_12, ↓y_13, ↓n_13, ↓y_14, ↓n_14, ↓y_16, ↓n_16, ↓y_17, ↓n_17, ↓n_18, ↓y_19, ↓n_19, ↓y_20, ↓n_20, ↓y_22, ↓n_22, ↓y_23, ↓n_23, ↓n_24, ↓y_25, ↓n_25, ↓y_26, ↓n_26, ↓y_27, ↓n_27, ↓y_28, ↓n_28, ↓y_29, ↓n_29, ↓y_32, ↓n_32, ↓y_34, ↓n_34, ↓y_36, ↓n_36, ↓y_38, ↓n_38, ↓e_nil, b_5_0, b_5_1, b_5_2, ↓ev_5_2, ↓e_ias hp]
      refine ⟨fun hq => absurd hq (by omega), fun _ => ⟨⟨by omega, by omega⟩, ?_⟩⟩
      rw [ab_fl_s ha, iW_id (by omega) (by omega)]
      exact ih (i + 1) (by omega) (by push_cast at hi; omega)
  rw [en_5]
  simp only [↓e_aload0, ↓e_iload1, ↓e_iload2, e_rpn, e_rps, e_few0, e_few1, e_few2, e_few3, e_few4, ↓e_cs3, ↓e_istore4, e_klI, e_klR, e_klX, e_klL, ↓e_iload4, ↓e_cmp_ge, ↓e_iload3, ↓e_iinc4, ↓e_goto, ↓e_vret, ↓y_2, ↓n_2, ↓y_4, ↓n_4, ↓y_5, ↓n_5, ↓y_6, ↓n_6, ↓y_8, ↓n_8, ↓y_9, ↓n_9, ↓y_10, ↓n_10, ↓y_12, ↓n_12, ↓y_13, ↓n_13, ↓y_14, ↓n_14, ↓y_16, ↓n_16, ↓y_17, ↓n_17, ↓n_18, ↓y_19, ↓n_19, ↓y_20, ↓n_20, ↓y_22, ↓n_22, ↓y_23, ↓n_23, ↓n_24, ↓y_25, ↓n_25, ↓y_26, ↓n_26, ↓y_27, ↓n_27, ↓y_28, ↓n_28, ↓y_29, ↓n_29, ↓y_32, ↓n_32, ↓y_34, ↓n_34, ↓y_36, ↓n_36, ↓y_38, ↓n_38, ↓e_nil, b_5_0, b_5_1, b_5_2, ↓e_lenk hp]
  rw [q_range h1 h2 h3]
  simp only [↓e_aload0, ↓e_iload1, ↓e_iload2, e_rpn, e_rps, e_few0, e_few1, e_few2, e_few3, e_few4, ↓e_cs3, ↓e_istore4, e_klI, e_klR, e_klX, e_klL, ↓e_iload4, ↓e_cmp_ge, ↓e_iload3, ↓e_iinc4, ↓e_goto, ↓e_vret, ↓y_2, ↓n_2, ↓y_4, ↓n_4, ↓y_5, ↓n_5, ↓y_6, ↓n_6, ↓y_8, ↓n_8, ↓y_9, ↓n_9, ↓y_10, ↓n_10, ↓y_12, ↓n_12, ↓y_13, ↓n_13, ↓y_14, ↓n_14, ↓y_16, ↓n_16, ↓y_17, ↓n_17, ↓n_18, ↓y_19, ↓n_19, ↓y_20, ↓n_20, ↓y_22, ↓n_22, ↓y_23, ↓n_23, ↓n_24, ↓y_25, ↓n_25, ↓y_26, ↓n_26, ↓y_27, ↓n_27, ↓y_28, ↓n_28, ↓y_29, ↓n_29, ↓y_32, ↓n_32, ↓y_34, ↓n_34, ↓y_36, ↓n_36, ↓y_38, ↓n_38, ↓e_nil, b_5_0, b_5_1, b_5_2]
  have := key (b - a).toNat a (Int.le_refl _) (by omega)
  rw [ab_fl_0] at this
  exact ⟨trivial, this⟩
end Fills20
