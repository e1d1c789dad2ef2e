/-! the model: years -/
def y_n (s : Int) : Int := iW (iW (1103515245 * s) + 12345)
def y_s (seed : Int) : Nat → Int
  | 0 => seed
  | e + 1 => y_n (y_n (y_n (y_s seed e)))
theorem y_s_s {seed : Int} {e : Nat} : y_s seed (e + 1) = y_n (y_n (y_n (y_s seed e))) := rfl
def y_k (seed : Int) (e : Nat) : Int := i_rem (i_ushr (y_n (y_s seed e)) 16) 3
def y_w (seed : Int) (e : Nat) : Int := i_rem (i_ushr (y_n (y_n (y_s seed e))) 16) 48
def y_t (seed : Int) (e : Nat) : Int := i_rem (i_ushr (y_n (y_n (y_n (y_s seed e)))) 16) 4
theorem b_iushr16 (x : Int) : ∃ n : Nat, n < 65536 ∧ i_ushr x 16 = n := by
  refine ⟨(Int32.ofInt x).toUInt32.toNat / 65536, ?_, ?_⟩
  · have := (Int32.ofInt x).toUInt32.toNat_lt
    omega
  · unfold i_ushr
    have e : ((Int32.ofInt 16).toUInt32 &&& Int32.toUInt32 31) = 16 := by decide
    rw [e]
    generalize (Int32.ofInt x).toUInt32 = u
    have hu := u.toNat_lt
    have h1 : (u >>> 16).toNat = u.toNat / 65536 := by
      rw [UInt32.toNat_shiftRight]
      show u.toNat >>> 16 = _
      rw [Nat.shiftRight_eq_div_pow]
    rw [← h1]
    have h2 : (u >>> 16).toNat < 2 ^ 31 := by omega
    generalize u >>> 16 = v at h2
    have h3 : v.toInt32.toInt = v.toBitVec.toInt := rfl
    rw [h3, BitVec.toInt_eq_toNat_of_lt (by show 2 * v.toNat < 2 ^ 32; omega)]
    rfl
theorem y_rem {x : Int} {k : Nat} (h0 : 0 < k) (hk : k < 2 ^ 31) : 0 ≤ i_rem (i_ushr x 16) k ∧ i_rem (i_ushr x 16) k < k := by
  obtain ⟨n, hn, e⟩ := b_iushr16 x
  rw [e, b_rem (by omega) h0 hk]
  have := Nat.mod_lt n h0
  omega
theorem y_ok {seed : Int} {n : Nat} (hn : n ≤ 8) : e_ok n (y_k seed) (y_w seed) (y_t seed) := by
  refine ⟨hn, fun e he => ⟨?_, ?_, ?_⟩⟩
  · have : 0 ≤ y_k seed e ∧ y_k seed e < ((3 : Nat) : Int) := y_rem (k := 3) (by omega) (by omega)
    omega
  · have : 0 ≤ y_w seed e ∧ y_w seed e < ((48 : Nat) : Int) := y_rem (k := 48) (by omega) (by omega)
    omega
  · have : 0 ≤ y_t seed e ∧ y_t seed e < ((4 : Nat) : Int) := y_rem (k := 4) (by omega) (by omega)
    omega
noncomputable def Td.cy (D : Td) (seed : Int) (n : Nat) : Cf := ⟨D.T, D.so, D.pa, D.lg, fun m => e_rn (y_k seed) (y_w seed) 255 m n, fun t m => e_sd (y_k seed) (y_w seed) (y_t seed) 255 t m n⟩
theorem Td.cy_ok {D : Td} (h : D.ok) {seed : Int} {n : Nat} : (D.cy seed n).ok := Td.cok h 255
section MYears42
variable {Ls d : Nat} {w : ab_W} {q : Option ab_V → ab_W → Prop} {D : Td}
theorem q_yearsOf (ht : m_told w D) {seed x : Int} {n : Nat} (hn : n ≤ 8) (h : ∀ w', m_post D w w' → q (some (vI ((D.cy seed n).wb x))) w') : Sm Ls (d + 7) 175 [vR 39, vI seed, vI n, vI x] w q := by
  have key : ∀ (k e : Nat), e + k = n → ∀ v : ab_W, m_post D w v → v 39 11 = n → v 39 10 = D.lg → v 39 15 = 0 → m_cfg v D.T D.so D.pa → (∀ e' : Nat, e' < e → v 46 e' = y_k seed e' ∧ v 47 e' = y_w seed e' ∧ v 48 e' = y_t seed e') → Ev Ls (Sm Ls (d + 6)) q bk_175 1 [vR 39, vI seed, vI n, vI x, vI (y_s seed e), vI e] [] v := by
    intro k
    induction k with
    | zero =>
      intro e he v v0 v1 v2 v3 v4 v5
      have : e = n := by omega
      subst this
      have hr : m_ready v (D.cy seed e) := by
        refine ⟨v4, Td.cy_ok ht.ok, e, y_k seed, y_w seed, y_t seed, 255, ⟨v1, v2, ⟨0, by omega, v3, fun j hj => ?_⟩, v5⟩, y_ok hn, fun _ _ => rfl, fun _ _ _ _ => rfl⟩
        rw [Nat.zero_testBit, b_255 j hj]; rfl
      have hfin : ∀ y, m_done v y (D.cy seed e) → Sm Ls (d + 6) 141 [vR 39, vI x] y (fun r w' => ab_wb Ls (Sm Ls (d + 6)) (Ev Ls (Sm Ls (d + 6)) q bk_175) q 3 [(.ireturn, [0], 0)] [vR 39, vI seed, vI e, vI x, vI (y_s seed e), vI e] (ab_rp r []) w') := fun y y0 => by
        refine q_wonBy (y0.res hr) ?_
        simp only [↓e_aload0, ↓e_cv1, i_39, e_rpn, e_rps, e_few0, e_few1, e_few2, e_few3, e_few4, ↓e_iload1, ↓e_istore4, e_klI, e_klR, e_klX, e_klL, ↓e_iload2, ↓p_39_11, ↓e_iconst, ↓e_istore5, ↓e_iload5, ↓e_cmp_ge, ↓e_ldc_w, ↓e_iload4, ↓e_imul, ↓e_sipush, ↓e_iadd, ↓g_39_12, ↓e_bipush, ↓e_iushr, ↓e_irem, ↓g_39_13, ↓g_39_14, ↓e_iinc5, ↓e_goto, ↓e_iload3, ↓e_cv2, ↓e_iret, ↓y_46, ↓y_47, ↓y_48, ↓e_nil, b_175_0, b_175_1, b_175_2]
        exact h y (v0.trans (y0.post v0.2))
      rw [ev_175_1]
      simp only [↓e_aload0, ↓e_cv1, i_39, e_rpn, e_rps, e_few0, e_few1, e_few2, e_few3, e_few4, ↓e_iload1, ↓e_istore4, e_klI, e_klR, e_klX, e_klL, ↓e_iload2, ↓p_39_11, ↓e_iconst, ↓e_istore5, ↓e_iload5, ↓e_cmp_ge, ↓e_ldc_w, ↓e_iload4, ↓e_imul, ↓e_sipush, ↓e_iadd, ↓g_39_12, ↓e_bipush, ↓e_iushr, ↓e_irem, ↓g_39_13, ↓g_39_14, ↓e_iinc5, ↓e_goto, ↓e_iload3, ↓e_cv2, ↓e_iret, ↓y_46, ↓y_47, ↓y_48, ↓e_nil, b_175_0, b_175_1, b_175_2, ↓ev_175_2, one0, eq_self, ne_eq, not_true_eq_false, not_false_eq_true, true_implies, false_implies, true_and, and_true, and_self]
      refine ⟨fun _ => q_run hr (fun y y0 => ?_), fun z => absurd (Int.le_refl _) z⟩
      simp only [↓e_aload0, ↓e_cv1, i_39, e_rpn, e_rps, e_few0, e_few1, e_few2, e_few3, e_few4, ↓e_iload1, ↓e_istore4, e_klI, e_klR, e_klX, e_klL, ↓e_iload2, ↓p_39_11, ↓e_iconst, ↓e_istore5, ↓e_iload5, ↓e_cmp_ge, ↓e_ldc_w, ↓e_iload4, ↓e_imul, ↓e_sipush, ↓e_iadd, ↓g_39_12, ↓e_bipush, ↓e_iushr, ↓e_irem, ↓g_39_13, ↓g_39_14, ↓e_iinc5, ↓e_goto, ↓e_iload3, ↓e_cv2, ↓e_iret, ↓y_46, ↓y_47, ↓y_48, ↓e_nil, b_175_0, b_175_1, b_175_2, one0, eq_self, ne_eq, not_true_eq_false, not_false_eq_true, true_implies, false_implies, true_and, and_true, and_self]
      exact hfin y y0
    | succ k ih =>
      intro e he v v0 v1 v2 v3 v4 v5
      have hno : ¬ (n : Int) ≤ (e : Int) := by omega
      have hin : 0 ≤ (e : Int) ∧ (e : Int) < 8 := by omega
      have nz3 : (3 : Int) ≠ 0 := by decide
      have nz48 : (48 : Int) ≠ 0 := by decide
      have nz4 : (4 : Int) ≠ 0 := by decide
      have hnext := ih (e + 1) (by omega) (ab_up (ab_up (ab_up v 46 e (y_k seed e)) 47 e (y_w seed e)) 48 e (y_t seed e)) ⟨v0.1.trans ⟨fun p hp => by rw [ab_up_ne (by omega), ab_up_ne (by omega), ab_up_ne (by omega)], fun j _ _ _ _ => by rw [ab_up_p (by omega), ab_up_p (by omega), ab_up_p (by omega)]⟩, by rw [ab_up_p (by omega), ab_up_p (by omega), ab_up_p (by omega)]; exact v0.2.1, fun t ht l hl => by rw [ab_up_p (by omega), ab_up_p (by omega), ab_up_p (by omega), ab_up_p (by omega), ab_up_p (by omega), ab_up_p (by omega)]; exact v0.2.2 t ht l hl⟩
        (by rw [ab_up_p (by omega), ab_up_p (by omega), ab_up_p (by omega)]; exact v1) (by rw [ab_up_p (by omega), ab_up_p (by omega), ab_up_p (by omega)]; exact v2) (by rw [ab_up_p (by omega), ab_up_p (by omega), ab_up_p (by omega)]; exact v3)
        (by
          unfold m_cfg
          rw [ab_up_ne (show (39 : Nat) ≠ 48 by omega), ab_up_ne (show (39 : Nat) ≠ 47 by omega), ab_up_ne (show (39 : Nat) ≠ 46 by omega), ab_up_ne (show (41 : Nat) ≠ 48 by omega), ab_up_ne (show (41 : Nat) ≠ 47 by omega), ab_up_ne (show (41 : Nat) ≠ 46 by omega), ab_up_ne (show (42 : Nat) ≠ 48 by omega), ab_up_ne (show (42 : Nat) ≠ 47 by omega), ab_up_ne (show (42 : Nat) ≠ 46 by omega), ab_up_ne (show (49 : Nat) ≠ 48 by omega), ab_up_ne (show (49 : Nat) ≠ 47 by omega), ab_up_ne (show (49 : Nat) ≠ 46 by omega)]
          exact v4)
        (fun e' he' => by
          by_cases hee : e' = e
          · subst hee
            rw [ab_up_p (by omega), ab_up_p (by omega), ab_up_at, ab_up_p (by omega), ab_up_at, ab_up_at]
            exact ⟨rfl, rfl, rfl⟩
          · rw [ab_up_p (by omega), ab_up_p (by omega), ab_up_nj (by omega), ab_up_p (by omega), ab_up_nj (by omega), ab_up_p (by omega), ab_up_nj (by omega), ab_up_p (by omega), ab_up_p (by omega)]
            exact v5 e' (by omega))
      rw [y_s_s] at hnext
      have w1 : iW ((e : Int) + 1) = (e : Int) + 1 := iW_id (by omega) (by omega)
      have f0 : ∀ s : Int, iW (iW (1103515245 * s) + 12345) = y_n s := fun _ => rfl
      have f1 : i_rem (i_ushr (y_n (y_s seed e)) 16) 3 = y_k seed e := rfl
      have f2 : i_rem (i_ushr (y_n (y_n (y_s seed e))) 16) 48 = y_w seed e := rfl
      have f3 : i_rem (i_ushr (y_n (y_n (y_n (y_s seed e)))) 16) 4 = y_t seed e := rfl
      rw [ev_175_1]
      simp only [↓e_aload0, ↓e_cv1, i_39, e_rpn, e_rps, e_few0, e_few1, e_few2, e_few3, e_few4, ↓e_iload1, ↓e_istore4, e_klI, e_klR, e_klX, e_klL, ↓e_iload2, ↓p_39_11, ↓e_iconst, ↓e_istore5, ↓e_iload5, ↓e_cmp_ge, ↓e_ldc_w, ↓e_iload4, ↓e_imul, ↓e_sipush, ↓e_iadd, ↓g_39_12, ↓e_bipush, ↓e_iushr, ↓e_irem, ↓g_39_13, ↓g_39_14, ↓e_iinc5, ↓e_goto, ↓e_iload3, ↓e_cv2, ↓e_iret, ↓y_46, ↓y_47, ↓y_48, ↓e_nil, b_175_0, b_175_1, b_175_2, hno, hin, w1, f0, f1, f2, f3, nz3, nz48, nz4, one0, eq_self, ne_eq, not_true_eq_false, not_false_eq_true, true_implies, false_implies, true_and, and_true, and_self]
      exact hnext
  rw [en_175]
  simp only [↓e_aload0, ↓e_cv1, i_39, e_rpn, e_rps, e_few0, e_few1, e_few2, e_few3, e_few4, ↓e_iload1, ↓e_istore4, e_klI, e_klR, e_klX, e_klL, ↓e_iload2, ↓p_39_11, ↓e_iconst, ↓e_istore5, ↓e_iload5, ↓e_cmp_ge, ↓e_ldc_w, ↓e_iload4, ↓e_imul, ↓e_sipush, ↓e_iadd, ↓g_39_12, ↓e_bipush, ↓e_iushr, ↓e_irem, ↓g_39_13, ↓g_39_14, ↓e_iinc5, ↓e_goto, ↓e_iload3, ↓e_cv2, ↓e_iret, ↓y_46, ↓y_47, ↓y_48, ↓e_nil, b_175_0, b_175_1, b_175_2, one0, eq_self, ne_eq, not_true_eq_false, not_false_eq_true, true_implies, false_implies, true_and, and_true, and_self]
  refine q_asTold ht (fun v v0 v1 => ?_)
  have hc := v1.cfg (Td.T4 ht.ok)
  have h0 := key n 0 (by omega) (ab_up v 39 11 n) ⟨v0.1.trans ⟨fun p hp => by rw [ab_up_ne (by omega)], fun j _ _ j3 _ => by rw [ab_up_nj j3]⟩, by rw [ab_up_nj (by omega)]; exact v0.2.1, fun t ht l hl => by rw [ab_up_p (by omega), ab_up_p (by omega)]; exact v0.2.2 t ht l hl⟩ ab_up_at (by rw [ab_up_nj (by omega)]; exact v1.2.1) (by rw [ab_up_nj (by omega)]; exact v1.2.2.1) ⟨by rw [ab_up_nj (by omega)]; exact hc.1, fun t ht l hl => by rw [ab_up_p (by omega), ab_up_p (by omega), ab_up_p (by omega)]; exact hc.2 t ht l hl⟩ (fun e' he' => by omega)
  simp only [↓e_aload0, ↓e_cv1, i_39, e_rpn, e_rps, e_few0, e_few1, e_few2, e_few3, e_few4, ↓e_iload1, ↓e_istore4, e_klI, e_klR, e_klX, e_klL, ↓e_iload2, ↓p_39_11, ↓e_iconst, ↓e_istore5, ↓e_iload5, ↓e_cmp_ge, ↓e_ldc_w, ↓e_iload4, ↓e_imul, ↓e_sipush, ↓e_iadd, ↓g_39_12, ↓e_bipush, ↓e_iushr, ↓e_irem, ↓g_39_13, ↓g_39_14, ↓e_iinc5, ↓e_goto, ↓e_iload3, ↓e_cv2, ↓e_iret, ↓y_46, ↓y_47, ↓y_48, ↓e_nil, b_175_0, b_175_1, b_175_2, one0, eq_self, ne_eq, not_true_eq_false, not_false_eq_true, true_implies, false_implies, true_and, and_true, and_self]
  exact h0
noncomputable def p_years (D : Td) (seed a x : Int) : Int := if (0 ≤ a ∧ a ≤ 8) ∧ (x = 0 ∨ x = 1) then (D.cy seed a.toNat).wb x else -2
theorem q_yearsM (ht : m_told w D) {seed a x : Int} (h : ∀ w', m_scr w w' → q (some (vI (p_years D seed a x))) w') : Sm Ls (d + 8) 176 [vR 39, vI seed, vI a, vI x] w q := by
  unfold p_years at h
  rw [en_176]
  simp only [↓e_iload2, ↓e_iconst, ↓e_bipush, e_rpn, e_rps, e_few0, e_few1, e_few2, e_few3, e_few4, ↓e_cs3, ↓e_if_eq, ↓e_iload3, ↓e_cs1, ↓e_aload0, ↓e_iload1, ↓e_cv4, i_39, ↓e_goto, ↓e_iret, ↓e_nil, b_176_0, b_176_1, b_176_2, ↓ev_176_1, ↓ev_176_2, q_in, q_isTwo, ab_yn, one0, eq_self, ne_eq, not_true_eq_false, not_false_eq_true, true_implies, false_implies, true_and, and_true, and_self]
  refine ⟨fun g1 => ⟨fun g2 => ?_, fun g2 => ?_⟩, fun g1 => ?_⟩
  · obtain ⟨n, rfl⟩ : ∃ n : Nat, a = n := ⟨a.toNat, by omega⟩
    refine q_yearsOf ht (by omega) (fun w2 h2 => ?_)
    have := h w2 h2.1
    rw [if_pos (by omega), Int.toNat_natCast] at this
    simp only [↓e_iload2, ↓e_iconst, ↓e_bipush, e_rpn, e_rps, e_few0, e_few1, e_few2, e_few3, e_few4, ↓e_cs3, ↓e_if_eq, ↓e_iload3, ↓e_cs1, ↓e_aload0, ↓e_iload1, ↓e_cv4, i_39, ↓e_goto, ↓e_iret, ↓e_nil, b_176_0, b_176_1, b_176_2, ↓ev_176_2]
    exact this
  · have := h w (m_scr.refl w); rw [if_neg (by omega)] at this; exact this
  · have := h w (m_scr.refl w); rw [if_neg (by omega)] at this; exact this
end MYears42
