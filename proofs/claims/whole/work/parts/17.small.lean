/-! the smallest methods, as equations -/
section Small17
variable {Ls d : Nat} {w : ab_W} {q : Option ab_V → ab_W → Prop}
/-- a yes or no -/
def ab_yn (P : Prop) (q : Option ab_V → ab_W → Prop) (w : ab_W) : Prop := (P → q (some (vI 1)) w) ∧ (¬ P → q (some (vI 0)) w)
theorem yn_t {P : Prop} (h : P) : ab_yn P q w = q (some (vI 1)) w := propext ⟨fun k => k.1 h, fun k => ⟨fun _ => k, fun n => absurd h n⟩⟩
theorem yn_f {P : Prop} (h : ¬ P) : ab_yn P q w = q (some (vI 0)) w := propext ⟨fun k => k.2 h, fun k => ⟨fun n => absurd n h, fun _ => k⟩⟩
theorem q_isLeg {a : Int} : Sm Ls (d + 1) 93 [vI a] w q = ab_yn (0 ≤ a ∧ a < 4) q w := by
  rw [en_93]; simp only [↓e_iload0, ↓e_if_lt, ↓e_iconst, ↓e_cmp_ge, ↓e_goto, ↓e_zret, ↓e_nil, b_93_0, b_93_1, b_93_2, ↓ev_93_1, ↓ev_93_2]
  by_cases h1 : a < 0
  · rw [yn_f (by omega)]; simp [h1]
  · by_cases h3 : 4 ≤ a
    · rw [yn_f (by omega)]; simp [h1, h3]
    · rw [yn_t (by omega)]; simp [h1, h3]
theorem q_isMoment {a : Int} : Sm Ls (d + 1) 94 [vI a] w q = ab_yn (0 ≤ a ∧ a < 48) q w := by
  rw [en_94]; simp only [↓e_iload0, ↓e_if_lt, ↓e_bipush, ↓e_cmp_ge, ↓e_iconst, ↓e_goto, ↓e_zret, ↓e_nil, b_94_0, b_94_1, b_94_2, ↓ev_94_1, ↓ev_94_2]
  by_cases h1 : a < 0
  · rw [yn_f (by omega)]; simp [h1]
  · by_cases h3 : 48 ≤ a
    · rw [yn_f (by omega)]; simp [h1, h3]
    · rw [yn_t (by omega)]; simp [h1, h3]
theorem q_isNumber {a : Int} : Sm Ls (d + 1) 95 [vI a] w q = ab_yn (0 ≤ a ∧ a < 4) q w := by
  rw [en_95]; simp only [↓e_iload0, ↓e_if_lt, ↓e_iconst, ↓e_cmp_ge, ↓e_goto, ↓e_zret, ↓e_nil, b_95_0, b_95_1, b_95_2, ↓ev_95_1, ↓ev_95_2]
  by_cases h1 : a < 0
  · rw [yn_f (by omega)]; simp [h1]
  · by_cases h3 : 4 ≤ a
    · rw [yn_f (by omega)]; simp [h1, h3]
    · rw [yn_t (by omega)]; simp [h1, h3]
theorem q_isSheet {a : Int} : Sm Ls (d + 1) 98 [vI a] w q = ab_yn (0 ≤ a ∧ a < 4) q w := by
  rw [en_98]; simp only [↓e_iload0, ↓e_if_lt, ↓e_iconst, ↓e_cmp_ge, ↓e_goto, ↓e_zret, ↓e_nil, b_98_0, b_98_1, b_98_2, ↓ev_98_1, ↓ev_98_2]
  by_cases h1 : a < 0
  · rw [yn_f (by omega)]; simp [h1]
  · by_cases h3 : 4 ≤ a
    · rw [yn_f (by omega)]; simp [h1, h3]
    · rw [yn_t (by omega)]; simp [h1, h3]
theorem q_isForm {a : Int} : Sm Ls (d + 1) 99 [vI a] w q = ab_yn (0 ≤ a ∧ a < 3) q w := by
  rw [en_99]; simp only [↓e_iload0, ↓e_if_lt, ↓e_iconst, ↓e_cmp_ge, ↓e_goto, ↓e_zret, ↓e_nil, b_99_0, b_99_1, b_99_2, ↓ev_99_1, ↓ev_99_2]
  by_cases h1 : a < 0
  · rw [yn_f (by omega)]; simp [h1]
  · by_cases h3 : 3 ≤ a
    · rw [yn_f (by omega)]; simp [h1, h3]
    · rw [yn_t (by omega)]; simp [h1, h3]
theorem q_isEither {a : Int} : Sm Ls (d + 1) 97 [vI a] w q = ab_yn (a = 0 ∨ a = 1) q w := by
  rw [en_97]; simp only [↓e_iload0, ↓e_if_eq, ↓e_iconst, ↓e_cmp_ne, ↓e_goto, ↓e_zret, ↓e_nil, b_97_0, b_97_1, b_97_2, b_97_3, ↓ev_97_1, ↓ev_97_2, ↓ev_97_3]
  by_cases h1 : a = 0
  · rw [yn_t (by omega)]; simp [h1]
  · by_cases h3 : a = 1
    · rw [yn_t (by omega)]; simp [h3]
    · rw [yn_f (by omega)]; simp [h1, h3]
theorem q_isTeam {a : Int} : Sm Ls (d + 1) 92 [vR 0, vI a] w q = ab_yn (0 ≤ a ∧ a < w 15 5) q w := by
  rw [en_92]; simp only [↓e_iload1, ↓e_if_lt, ↓e_aload0, ↓g_0_4, ↓g_15_5, ↓g_21_5, ↓e_cmp_ge, ↓e_iconst, ↓e_goto, ↓e_zret, ↓e_nil, b_92_0, b_92_1, b_92_2, ↓ev_92_1, ↓ev_92_2]
  by_cases h1 : a < 0
  · rw [yn_f (by omega)]; simp [h1]
  · by_cases h3 : w 15 5 ≤ a
    · rw [yn_f (by omega)]; simp [h1, h3]
    · rw [yn_t (by omega)]; simp [h1, h3]
theorem q_isEvent {a b c : Int} : Sm Ls (d + 2) 96 [vI a, vI b, vI c] w q = ab_yn ((0 ≤ a ∧ a ≤ 2) ∧ (0 ≤ b ∧ b < 48) ∧ (0 ≤ c ∧ c < 4)) q w := by
  rw [en_96]; simp only [↓e_iload0, ↓e_if_lt, ↓e_iconst, ↓e_cmp_gt, ↓e_iload1, e_rpn, e_rps, e_few0, e_few1, e_few2, e_few3, e_few4, ↓e_cs1, ↓e_if_eq, ↓e_iload2, ↓e_goto, ↓e_zret, ↓e_nil, b_96_0, b_96_1, b_96_2, ↓ev_96_1, ↓ev_96_2, q_isMoment, q_isNumber, ab_yn]
  by_cases h1 : a < 0
  · have h5 : ¬ ((0 ≤ a ∧ a ≤ 2) ∧ (0 ≤ b ∧ b < 48) ∧ (0 ≤ c ∧ c < 4)) := by omega
    simp [h1, h5]
  · by_cases h2 : 2 < a
    · have h5 : ¬ ((0 ≤ a ∧ a ≤ 2) ∧ (0 ≤ b ∧ b < 48) ∧ (0 ≤ c ∧ c < 4)) := by omega
      simp [h1, h2, h5]
    · by_cases h3 : 0 ≤ b ∧ b < 48
      · by_cases h4 : 0 ≤ c ∧ c < 4
        · have h5 : ((0 ≤ a ∧ a ≤ 2) ∧ (0 ≤ b ∧ b < 48) ∧ (0 ≤ c ∧ c < 4)) := by omega
          simp [h1, h2, h3, h4, h5]
        · have h5 : ¬ ((0 ≤ a ∧ a ≤ 2) ∧ (0 ≤ b ∧ b < 48) ∧ (0 ≤ c ∧ c < 4)) := by omega
          simp [h1, h2, h3, h4, h5]
      · have h5 : ¬ ((0 ≤ a ∧ a ≤ 2) ∧ (0 ≤ b ∧ b < 48) ∧ (0 ≤ c ∧ c < 4)) := by omega
        simp [h1, h2, h3, h5]
theorem q_isSooner {a b : Int} : Sm Ls (d + 1) 55 [vI a, vI b] w q = ab_yn (a ≠ -1 ∧ (b = -1 ∨ a < b)) q w := by
  rw [en_55]; simp only [↓e_iload0, ↓e_iconst, ↓e_cmp_eq, ↓e_iload1, ↓e_cmp_ge, ↓e_goto, ↓e_zret, ↓e_nil, b_55_0, b_55_1, b_55_2, b_55_3, ↓ev_55_1, ↓ev_55_2, ↓ev_55_3]
  by_cases h1 : a = -1
  · rw [yn_f (by omega)]; simp [h1]
  · by_cases h3 : b = -1
    · rw [yn_t (by omega)]; simp [h1, h3]
    · by_cases h4 : b ≤ a
      · rw [yn_f (by omega)]; simp [h1, h3, h4]
      · rw [yn_t (by omega)]; simp [h1, h3, h4]
theorem q_spared {i n a b : Int} : Sm Ls (d + 1) 58 [vI i, vI n, vI a, vI b] w q = q (some (vI (if i = -1 then n else if i = 0 then a else b))) w := by
  rw [en_58]; simp only [↓e_iload0, ↓e_iconst, ↓e_cmp_ne, ↓e_iload1, ↓e_iret, ↓e_if_ne, ↓e_iload2, ↓e_goto, ↓e_iload3, ↓e_nil, b_58_0, b_58_1, b_58_2, b_58_3, ↓ev_58_1, ↓ev_58_2, ↓ev_58_3]
  by_cases h1 : i = -1
  · simp [h1]
  · by_cases h3 : i = 0
    · simp [h3]
    · simp [h1, h3]
theorem q_nextSeed {a : Int} : Sm Ls (d + 1) 77 [vI a] w q = q (some (vI (iW (iW (1103515245 * a) + 12345)))) w := by
  rw [en_77]; simp only [↓e_ldc_w, ↓e_iload0, ↓e_imul, ↓e_sipush, ↓e_iadd, ↓e_iret, ↓e_nil, b_77_0]
theorem q_found {a : Int} : Sm Ls (d + 1) 100 [vR 0, vI a] w q = q (some (vI (iW (-10 - a)))) (ab_up w 0 12 a) := by
  rw [en_100]; simp only [↓e_aload0, ↓e_iload1, ↓p_0_12, ↓e_bipush, ↓e_isub, ↓e_iret, ↓e_nil, b_100_0]
theorem q_everyEvent : Sm Ls (d + 1) 41 [vR 0] w q = q (some (vI (iW (i_shl 1 (w 3 3) - 1)))) w := by
  rw [en_41]; simp only [↓e_iconst, ↓e_aload0, ↓g_0_1, ↓g_3_3, ↓g_7_3, ↓g_11_3, ↓e_ishl, ↓e_isub, ↓e_iret, ↓e_nil, b_41_0]
theorem q_in {a b c : Int} : Sm Ls (d + 1) 101 [vI a, vI b, vI c] w q = ab_yn (b ≤ a ∧ a ≤ c) q w := by
  rw [en_101]; simp only [↓e_iload0, ↓e_iload1, ↓e_cmp_lt, ↓e_iload2, ↓e_cmp_gt, ↓e_iconst, ↓e_goto, ↓e_zret, ↓e_nil, b_101_0, b_101_1, b_101_2, ↓ev_101_1, ↓ev_101_2]
  by_cases h1 : a < b
  · rw [yn_f (by omega)]; simp [h1]
  · by_cases h3 : c < a
    · rw [yn_f (by omega)]; simp [h1, h3]
    · rw [yn_t (by omega)]; simp [h1, h3]
theorem q_isIn {a b : Int} : Sm Ls (d + 1) 102 [vI a, vI b] w q = ab_yn (i_and (i_shr a b) 1 = 1) q w := by
  rw [en_102]; simp only [↓e_iload0, ↓e_iload1, ↓e_ishr, ↓e_iconst, ↓e_iand, ↓e_cmp_ne, ↓e_goto, ↓e_zret, ↓e_nil, b_102_0, b_102_1, b_102_2, ↓ev_102_1, ↓ev_102_2]
  by_cases h1 : i_and (i_shr a b) 1 = 1
  · rw [yn_t h1]; simp [h1]
  · rw [yn_f h1]; simp [h1]
theorem q_no {a : Int} : Sm Ls (d + 1) 103 [vI a] w q = q (some (vL (lW (-9223372036854775808 - a)))) w := by
  rw [en_103]; simp only [↓e_ldc2_w, ↓e_iload0, ↓e_i2l, ↓e_lsub, ↓e_lret, ↓e_nil, b_103_0]
theorem yn_ret {P : Prop} : ab_yn P (fun r w' => ab_wb Ls (Sm Ls d) (Ev Ls (Sm Ls d) q []) q 1 [(.ireturn, [1], 0)] [] (ab_rp r []) w') w = ab_yn P q w := by
  unfold ab_yn
  simp only [e_rps, e_zret]
  simp
theorem yn_fin {P : Prop} {J : Nat → List ab_V → List ab_V → ab_W → Prop} {L : List ab_V} {nx : Nat} : ab_yn P (fun r w' => ab_wb Ls (Sm Ls d) J q nx [(.ireturn, [1], 0)] L (ab_rp r []) w') w = ab_yn P q w := by
  unfold ab_yn
  simp only [e_rps, e_zret]
  simp
theorem q_isMomentM {a : Int} : Sm Ls (d + 2) 105 [vI a] w q = ab_yn (0 ≤ a ∧ a ≤ 47) q w := by
  rw [en_105]; simp only [↓e_iload0, ↓e_iconst, ↓e_bipush, e_rpn, e_rps, e_few0, e_few1, e_few2, e_few3, e_few4, ↓e_cs3, ↓e_zret, ↓e_nil, b_105_0, q_in, yn_fin, true_and]
theorem q_isFour {a : Int} : Sm Ls (d + 2) 106 [vI a] w q = ab_yn (0 ≤ a ∧ a ≤ 3) q w := by
  rw [en_106]; simp only [↓e_iload0, ↓e_iconst, e_rpn, e_rps, e_few0, e_few1, e_few2, e_few3, e_few4, ↓e_cs3, ↓e_zret, ↓e_nil, b_106_0, q_in, yn_fin, true_and]
theorem q_isTwo {a : Int} : Sm Ls (d + 2) 107 [vI a] w q = ab_yn (0 ≤ a ∧ a ≤ 1) q w := by
  rw [en_107]; simp only [↓e_iload0, ↓e_iconst, e_rpn, e_rps, e_few0, e_few1, e_few2, e_few3, e_few4, ↓e_cs3, ↓e_zret, ↓e_nil, b_107_0, q_in, yn_fin, true_and]
theorem q_isThree {a : Int} : Sm Ls (d + 2) 108 [vI a] w q = ab_yn (0 ≤ a ∧ a ≤ 2) q w := by
  rw [en_108]; simp only [↓e_iload0, ↓e_iconst, e_rpn, e_rps, e_few0, e_few1, e_few2, e_few3, e_few4, ↓e_cs3, ↓e_zret, ↓e_nil, b_108_0, q_in, yn_fin, true_and]
theorem q_isSheetM {a : Int} : Sm Ls (d + 2) 178 [vI a] w q = ab_yn (0 ≤ a ∧ a ≤ 3) q w := by
  rw [en_178]; simp only [↓e_iload0, ↓e_iconst, e_rpn, e_rps, e_few0, e_few1, e_few2, e_few3, e_few4, ↓e_cs3, ↓e_zret, ↓e_nil, b_178_0, q_in, yn_fin, true_and]
theorem q_meets {a : Int} : Sm Ls (d + 1) 177 [vR 39, vI a] w q = q (some (vI (iW (-10 - a)))) (ab_up w 39 37 a) := by
  rw [en_177]; simp only [↓e_aload0, ↓e_iload1, ↓p_39_37, ↓e_bipush, ↓e_isub, ↓e_iret, ↓e_nil, b_177_0]
end Small17
