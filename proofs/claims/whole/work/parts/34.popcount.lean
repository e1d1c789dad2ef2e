/-! how many bits -/
def cb (N : Nat) : Nat → Nat
  | 0 => 0
  | k + 1 => cb N k + (if N.testBit k then 1 else 0)
theorem cb_s {N k : Nat} : cb N (k + 1) = cb N k + (if N.testBit k then 1 else 0) := rfl
theorem cb_le (N : Nat) : ∀ k, cb N k ≤ k
  | 0 => Nat.le_refl _
  | k + 1 => by have := cb_le N k; rw [cb_s]; split <;> omega
theorem tb8 {a b j : Nat} (ha : a < 256) : (256 * b + a).testBit j = if j < 8 then a.testBit j else b.testBit (j - 8) :=
  Nat.testBit_two_pow_mul_add b (i := 8) ha j
theorem and8 {a b c d : Nat} (ha : a < 256) (hc : c < 256) : (256 * b + a) &&& (256 * d + c) = 256 * (b &&& d) + (a &&& c) := by
  have h1 : a &&& c < 256 := Nat.lt_of_le_of_lt Nat.and_le_left ha
  apply Nat.eq_of_testBit_eq
  intro j
  rw [Nat.testBit_and, tb8 ha, tb8 hc, tb8 h1]
  split <;> rw [Nat.testBit_and]
theorem cb8 {a b : Nat} (ha : a < 256) : ∀ k, cb (256 * b + a) (8 + k) = cb a 8 + cb b k
  | 0 => by
    have e : ∀ j, j ≤ 8 → cb (256 * b + a) j = cb a j := by
      intro j
      induction j with
      | zero => intro _; rfl
      | succ j ih => intro hj; rw [cb_s, cb_s, ih (by omega), tb8 ha, if_pos (show j < 8 by omega)]
    exact e 8 (Nat.le_refl _)
  | k + 1 => by
    rw [show 8 + (k + 1) = (8 + k) + 1 from rfl, cb_s (k := 8 + k), cb8 ha k, tb8 ha, if_neg (show ¬ 8 + k < 8 by omega), cb_s (N := b) (k := k), show 8 + k - 8 = k by omega, Nat.add_assoc]
def k_m (c : Nat) : Nat → Nat
  | 0 => 0
  | k + 1 => 256 * k_m c k + c
def k_1 (m N : Nat) : Nat := N - (N / 2 &&& m)
def k_2 (m x : Nat) : Nat := (x &&& m) + (x / 4 &&& m)
def k_3 (m x : Nat) : Nat := (x + x / 16) &&& m
theorem k_a1 : ∀ a : Nat, a < 256 → ∀ b : Nat, b < 2 → (128 * b + a / 2) &&& 85 = a / 2 &&& 85 := by decide +kernel
theorem k_a2 : ∀ a : Nat, a < 256 → ∀ b : Nat, b < 4 → (64 * b + a / 4) &&& 51 = a / 4 &&& 51 := by decide +kernel
theorem k_g1 : ∀ a : Nat, a < 256 → k_1 85 a < 256 := by decide +kernel
theorem k_g2 : ∀ a : Nat, a < 256 → k_2 51 (k_1 85 a) ≤ 68 ∧ k_2 51 (k_1 85 a) % 16 ≤ 4 := by decide +kernel
theorem k_g3 : ∀ a : Nat, a < 256 → (k_2 51 (k_1 85 a) + k_2 51 (k_1 85 a) / 16) % 16 = cb a 8 := by decide +kernel
theorem k_1s {a b m : Nat} (ha : a < 256) : k_1 (256 * m + 85) (256 * b + a) = 256 * k_1 m b + k_1 85 a := by
  unfold k_1
  have e : (256 * b + a) / 2 = 256 * (b / 2) + (128 * (b % 2) + a / 2) := by omega
  rw [e, and8 (by omega) (by omega), k_a1 a ha _ (by omega)]
  have h1 : b / 2 &&& m ≤ b / 2 := Nat.and_le_left
  have h2 : a / 2 &&& 85 ≤ a / 2 := Nat.and_le_left
  omega
theorem k_2s {x u m : Nat} (hu : u < 256) : k_2 (256 * m + 51) (256 * x + u) = 256 * k_2 m x + k_2 51 u := by
  unfold k_2
  have e : (256 * x + u) / 4 = 256 * (x / 4) + (64 * (x % 4) + u / 4) := by omega
  rw [e, and8 hu (by omega), and8 (by omega) (by omega), k_a2 u hu _ (by omega)]
  omega
theorem k_3s {x u m : Nat} (hu : u ≤ 68) (hx : x % 16 ≤ 4) : k_3 (256 * m + 15) (256 * x + u) = 256 * k_3 m x + (u + u / 16) % 16 := by
  unfold k_3
  have e : 256 * x + u + (256 * x + u) / 16 = 256 * (x + x / 16) + (u + u / 16 + 16 * (x % 16)) := by omega
  rw [e, and8 (by omega) (by omega)]
  have h : (u + u / 16 + 16 * (x % 16)) &&& 15 = (u + u / 16 + 16 * (x % 16)) % 16 := Nat.and_two_pow_sub_one_eq_mod _ 4
  rw [h]
  omega
def k_t (k N : Nat) : Nat := k_3 (k_m 15 k) (k_2 (k_m 51 k) (k_1 (k_m 85 k) N))
theorem k_low {k N : Nat} (hN : N < 256 ^ k) : k_2 (k_m 51 k) (k_1 (k_m 85 k) N) % 16 ≤ 4 := by
  cases k with
  | zero =>
    have : N = 0 := by omega
    subst this; decide
  | succ k =>
    have hd : N = 256 * (N / 256) + N % 256 := by omega
    rw [hd]
    show k_2 (256 * k_m 51 k + 51) (k_1 (256 * k_m 85 k + 85) _) % 16 ≤ 4
    have ha : N % 256 < 256 := by omega
    rw [k_1s ha, k_2s (k_g1 _ ha)]
    have := (k_g2 _ ha).2
    omega
theorem k_ts {k a b : Nat} (ha : a < 256) (hb : b < 256 ^ k) : k_t (k + 1) (256 * b + a) = 256 * k_t k b + cb a 8 := by
  unfold k_t
  show k_3 (256 * k_m 15 k + 15) (k_2 (256 * k_m 51 k + 51) (k_1 (256 * k_m 85 k + 85) _)) = _
  rw [k_1s ha, k_2s (k_g1 _ ha), k_3s (k_g2 _ ha).1 (k_low hb), k_g3 a ha]
theorem k_end {z d0 d1 d2 d3 d4 d5 : Nat} (h0 : d0 ≤ 8) (h1 : d1 ≤ 8) (h2 : d2 ≤ 8) (h3 : d3 ≤ 8) (h4 : d4 ≤ 8) (h5 : d5 ≤ 8) (hz : z = 256 * (256 * (256 * (256 * (256 * d5 + d4) + d3) + d2) + d1) + d0) :
    (z + z / 256 + (z + z / 256) / 65536 + (z + z / 256 + (z + z / 256) / 65536) / 4294967296) % 128 = d0 + (d1 + (d2 + (d3 + (d4 + d5)))) ∧ z < 281474976710656 := by
  have e1 : z / 256 = 256 * (256 * (256 * (256 * d5 + d4) + d3) + d2) + d1 := by omega
  have e2 : (z + z / 256) / 65536 = (d2 + d3) + 256 * (d3 + d4) + 65536 * (d4 + d5) + 16777216 * d5 := by omega
  have e3 : (z + z / 256 + (z + z / 256) / 65536) / 4294967296 = (d4 + d5) + 256 * d5 := by omega
  rw [e3, e2, e1]
  omega
theorem k_l9 {z : Nat} (h : z < 281474976710656) : z + z / 256 < 562949953421312 := by omega
theorem k_l10 {z : Nat} (h : z < 562949953421312) : z + z / 65536 < 1125899906842624 := by omega
theorem k_l8 {N x y : Nat} (hN : N < 281474976710656) (h : x ≤ N) (h2 : y ≤ 2 * x) : y + y / 16 < 2 ^ 63 := by omega
theorem b_lushr {a k : Nat} (hk : k < 64) (h : a < 2 ^ 63) : l_ushr (a : Int) (k : Int) = ((a / 2 ^ k : Nat) : Int) := by
  unfold l_ushr
  rw [l_of, i_of, wb_shr (by omega) hk, pk_lT (Nat.lt_of_le_of_lt (Nat.div_le_self _ _) h)]
theorem q_bitL {Ls d : Nat} {w : ab_W} {q : Option ab_V → ab_W → Prop} {N : Nat} (hN : N < 281474976710656) : Sm Ls (d + 1) 1 [vL N] w q = q (some (vI (cb N 48))) w := by
  obtain ⟨n0, n1, n2, n3, n4, n5, b0, b1, b2, b3, b4, b5, hn⟩ : ∃ n0 n1 n2 n3 n4 n5 : Nat, n0 < 256 ∧ n1 < 256 ∧ n2 < 256 ∧ n3 < 256 ∧ n4 < 256 ∧ n5 < 256 ∧ N = 256 * (256 * (256 * (256 * (256 * n5 + n4) + n3) + n2) + n1) + n0 :=
    ⟨N % 256, N / 256 % 256, N / 65536 % 256, N / 16777216 % 256, N / 4294967296 % 256, N / 1099511627776, by omega, by omega, by omega, by omega, by omega, by omega, by omega⟩
  have hz : ∀ k, k_t k 0 = 0 := fun k => by unfold k_t k_1 k_2 k_3; simp
  have t5 : k_t 3 n5 = cb n5 8 := by have := k_ts (k := 2) (a := n5) (b := 0) b5 (by omega); rw [hz] at this; simpa using this
  have ht : k_t 8 N = 256 * (256 * (256 * (256 * (256 * cb n5 8 + cb n4 8) + cb n3 8) + cb n2 8) + cb n1 8) + cb n0 8 := by
    rw [hn, k_ts b0 (by omega), k_ts b1 (by omega), k_ts b2 (by omega), k_ts b3 (by omega), k_ts b4 (by omega), t5]
  have hc : cb N 48 = cb n0 8 + (cb n1 8 + (cb n2 8 + (cb n3 8 + (cb n4 8 + cb n5 8)))) := by
    rw [hn, show 48 = 8 + 40 from rfl, cb8 b0 40, show 40 = 8 + 32 from rfl, cb8 b1 32, show 32 = 8 + 24 from rfl, cb8 b2 24, show 24 = 8 + 16 from rfl, cb8 b3 16, show 16 = 8 + 8 from rfl, cb8 b4 8]
  obtain ⟨z1, z2⟩ := k_end (cb_le n0 8) (cb_le n1 8) (cb_le n2 8) (cb_le n3 8) (cb_le n4 8) (cb_le n5 8) ht
  rw [← hc] at z1
  -- the steps
  have m1 : (6148914691236517205 : Int) = ((k_m 85 8 : Nat) : Int) := by decide +kernel
  have m2 : (3689348814741910323 : Int) = ((k_m 51 8 : Nat) : Int) := by decide +kernel
  have m3 : (1085102592571150095 : Int) = ((k_m 15 8 : Nat) : Int) := by decide +kernel
  have c1 : l_ushr (N : Int) 1 = ((N / 2 : Nat) : Int) := b_lushr (k := 1) (by omega) (by omega)
  have c2 : l_and ((N / 2 : Nat) : Int) ((k_m 85 8 : Nat) : Int) = ((N / 2 &&& k_m 85 8 : Nat) : Int) := b_land (by omega) (by decide)
  have l2 : N / 2 &&& k_m 85 8 ≤ N / 2 := Nat.and_le_left
  have c3 : lW ((N : Int) - ((N / 2 &&& k_m 85 8 : Nat) : Int)) = ((k_1 (k_m 85 8) N : Nat) : Int) := by
    rw [lW_id (by omega) (by omega)]; unfold k_1; omega
  have l3 : k_1 (k_m 85 8) N ≤ N := Nat.sub_le _ _
  have t8 : k_t 8 N = k_3 (k_m 15 8) (k_2 (k_m 51 8) (k_1 (k_m 85 8) N)) := rfl
  generalize k_1 (k_m 85 8) N = x at c3 l3 t8
  have c4 : l_and (x : Int) ((k_m 51 8 : Nat) : Int) = ((x &&& k_m 51 8 : Nat) : Int) := b_land (by omega) (by decide)
  have c5 : l_ushr (x : Int) 2 = ((x / 4 : Nat) : Int) := b_lushr (k := 2) (by omega) (by omega)
  have c6 : l_and ((x / 4 : Nat) : Int) ((k_m 51 8 : Nat) : Int) = ((x / 4 &&& k_m 51 8 : Nat) : Int) := b_land (by omega) (by decide)
  have l6 : x &&& k_m 51 8 ≤ x := Nat.and_le_left
  have l7 : x / 4 &&& k_m 51 8 ≤ x / 4 := Nat.and_le_left
  have c7 : lW (((x &&& k_m 51 8 : Nat) : Int) + ((x / 4 &&& k_m 51 8 : Nat) : Int)) = ((k_2 (k_m 51 8) x : Nat) : Int) := by
    rw [lW_id (by omega) (by omega)]; unfold k_2; omega
  have l8 : k_2 (k_m 51 8) x ≤ 2 * x := by unfold k_2; omega
  generalize k_2 (k_m 51 8) x = y at c7 l8 t8
  have c8 : l_ushr (y : Int) 4 = ((y / 16 : Nat) : Int) := b_lushr (k := 4) (by omega) (by omega)
  have c9 : lW ((y : Int) + ((y / 16 : Nat) : Int)) = ((y + y / 16 : Nat) : Int) := by
    rw [lW_id (by omega) (by omega)]; omega
  have c10 : l_and ((y + y / 16 : Nat) : Int) ((k_m 15 8 : Nat) : Int) = ((k_t 8 N : Nat) : Int) := by
    rw [b_land (k_l8 hN l3 l8) (by decide), t8]; rfl
  generalize k_t 8 N = z at c10 z1 z2
  have c11 : l_ushr (z : Int) 8 = ((z / 256 : Nat) : Int) := b_lushr (k := 8) (by omega) (by omega)
  have c12 : lW ((z : Int) + ((z / 256 : Nat) : Int)) = ((z + z / 256 : Nat) : Int) := by
    rw [lW_id (by omega) (by omega)]; omega
  have l9 : z + z / 256 < 562949953421312 := k_l9 z2
  generalize z + z / 256 = z' at c12 l9 z1
  have c13 : l_ushr (z' : Int) 16 = ((z' / 65536 : Nat) : Int) := b_lushr (k := 16) (by omega) (by omega)
  have c14 : lW ((z' : Int) + ((z' / 65536 : Nat) : Int)) = ((z' + z' / 65536 : Nat) : Int) := by
    rw [lW_id (by omega) (by omega)]; omega
  have l10 : z' + z' / 65536 < 1125899906842624 := k_l10 l9
  generalize z' + z' / 65536 = z'' at c14 l10 z1
  have c15 : l_ushr (z'' : Int) 32 = ((z'' / 4294967296 : Nat) : Int) := b_lushr (k := 32) (by omega) (by omega)
  have c16 : lW ((z'' : Int) + ((z'' / 4294967296 : Nat) : Int)) = ((z'' + z'' / 4294967296 : Nat) : Int) := by
    rw [lW_id (by omega) (by omega)]; omega
  generalize z'' + z'' / 4294967296 = y3 at c16 z1
  have c17 : i_and (iW (y3 : Int)) 127 = ((cb N 48 : Nat) : Int) := by
    have e : Int32.ofInt (iW (y3 : Int)) = nI y3 := by
      rw [← i_of]
      apply Int32.toInt_inj.mp
      rw [Int32.toInt_ofInt, Int32.toInt_ofInt]
      unfold iW
      simp [Int.bmod_bmod]
    unfold i_and
    rw [e, show Int32.ofInt 127 = nI 127 from i_of 127, nx_and, show y3 &&& 127 = y3 % 128 from Nat.and_two_pow_sub_one_eq_mod _ 7, z1, nI_T (by have := cb_le N 48; omega)]
  rw [en_1]
  simp only [↓e_lload0, ↓e_iconst, ↓e_lushr, ↓e_ldc2_w, ↓e_land, ↓e_lsub, ↓e_lstore0, e_klI, e_klR, e_klX, e_klL, ↓e_ladd, ↓e_bipush, ↓e_l2i, ↓e_iand, ↓e_iret, ↓e_nil, b_1_0, m1, m2, m3, c1, c2, c3, c4, c5, c6, c7, c8, c9, c10, c11, c12, c13, c14, c15, c16, c17]
/-- an int's, below 256 -/
theorem k_int : ∀ n : Nat, n < 256 → i_and (iW (iW (i_and (iW (iW (i_and (iW ((n : Int) - i_and (i_ushr n 1) 1431655765)) 858993459 + i_and (i_ushr (iW ((n : Int) - i_and (i_ushr n 1) 1431655765)) 2) 858993459) + i_ushr (iW (i_and (iW ((n : Int) - i_and (i_ushr n 1) 1431655765)) 858993459 + i_and (i_ushr (iW ((n : Int) - i_and (i_ushr n 1) 1431655765)) 2) 858993459)) 4)) 252645135 + i_ushr (i_and (iW (iW (i_and (iW ((n : Int) - i_and (i_ushr n 1) 1431655765)) 858993459 + i_and (i_ushr (iW ((n : Int) - i_and (i_ushr n 1) 1431655765)) 2) 858993459) + i_ushr (iW (i_and (iW ((n : Int) - i_and (i_ushr n 1) 1431655765)) 858993459 + i_and (i_ushr (iW ((n : Int) - i_and (i_ushr n 1) 1431655765)) 2) 858993459)) 4)) 252645135) 8) + i_ushr (iW (i_and (iW (iW (i_and (iW ((n : Int) - i_and (i_ushr n 1) 1431655765)) 858993459 + i_and (i_ushr (iW ((n : Int) - i_and (i_ushr n 1) 1431655765)) 2) 858993459) + i_ushr (iW (i_and (iW ((n : Int) - i_and (i_ushr n 1) 1431655765)) 858993459 + i_and (i_ushr (iW ((n : Int) - i_and (i_ushr n 1) 1431655765)) 2) 858993459)) 4)) 252645135 + i_ushr (i_and (iW (iW (i_and (iW ((n : Int) - i_and (i_ushr n 1) 1431655765)) 858993459 + i_and (i_ushr (iW ((n : Int) - i_and (i_ushr n 1) 1431655765)) 2) 858993459) + i_ushr (iW (i_and (iW ((n : Int) - i_and (i_ushr n 1) 1431655765)) 858993459 + i_and (i_ushr (iW ((n : Int) - i_and (i_ushr n 1) 1431655765)) 2) 858993459)) 4)) 252645135) 8)) 16)) 63 = ((cb n 8 : Nat) : Int) := by decide +kernel
theorem q_bitI {Ls d : Nat} {w : ab_W} {q : Option ab_V → ab_W → Prop} {n : Nat} (hN : n < 256) : Sm Ls (d + 1) 0 [vI n] w q = q (some (vI (cb n 8))) w := by
  rw [en_0]
  simp only [↓e_iload0, ↓e_iconst, ↓e_iushr, ↓e_ldc_w, ↓e_iand, ↓e_isub, ↓e_istore0, e_klI, e_klR, e_klX, e_klL, ↓e_iadd, ↓e_bipush, ↓e_iret, ↓e_nil, b_0_0]
  rw [← k_int n hN]
