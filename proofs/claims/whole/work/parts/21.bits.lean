/-! bits (rows of kit/laws/BITS.to-paste first) -/
theorem wb_tb (n : Nat) : (lN n).toBitVec = BitVec.ofNat 64 n := rfl
theorem wb_inj {a b : Int64} (h : a.toBitVec = b.toBitVec) : a = b := Int64.toBitVec_inj.mp h
theorem wb_tn {n : Nat} (h : n < 2 ^ 64) : (lN n).toBitVec.toNat = n := by rw [wb_tb, BitVec.toNat_ofNat, Nat.mod_eq_of_lt h]
theorem wb_of (x : Int64) : ∃ n, n < 2 ^ 64 ∧ x = lN n := ⟨x.toBitVec.toNat, x.toBitVec.isLt, wb_inj (by rw [wb_tb]; simp)⟩
theorem wb_of32 (x : Int32) : ∃ n, n < 2 ^ 32 ∧ x = nI n := ⟨x.toBitVec.toNat, x.toBitVec.isLt, Int32.toBitVec_inj.mp (by show _ = BitVec.ofNat 32 _; simp)⟩
theorem wb_c : ∀ k, k < 64 → ((nI k).toInt64 &&& 63) = lN k := by decide +kernel
theorem wb_cu : ∀ k, k < 64 → ((nI k).toInt64.toUInt64 &&& Int64.toUInt64 63) = UInt64.ofNat k := by decide +kernel
theorem wb_sm : ∀ k, k < 64 → (BitVec.ofNat 64 k).smod 64 = BitVec.ofNat 64 k := by decide +kernel
theorem wb_pw {a b : Nat} (h : a ≤ b) : 2 ^ b = 2 ^ a * 2 ^ (b - a) := by rw [← Nat.pow_add]; congr 1; omega
theorem wb_lt2 {a b : Nat} (h : a < b) : 2 ^ a < 2 ^ b := Nat.pow_lt_pow_right (by decide) h
theorem wb_mod (n : Nat) : lN n = lN (n % 2 ^ 64) := wb_inj (by rw [wb_tb, wb_tb]; apply BitVec.eq_of_toNat_eq; rw [BitVec.toNat_ofNat, BitVec.toNat_ofNat, Nat.mod_mod])
theorem wb_shr {n k : Nat} (hn : n < 2 ^ 64) (hk : k < 64) : ((lN n).toUInt64 >>> ((nI k).toInt64.toUInt64 &&& Int64.toUInt64 63)).toInt64 = lN (n / 2 ^ k) := by
  rw [wb_cu k hk]
  apply wb_inj
  apply BitVec.eq_of_toNat_eq
  show ((lN n).toUInt64 >>> UInt64.ofNat k).toNat = (BitVec.ofNat 64 _).toNat
  have h1 : (UInt64.ofNat k).toNat = k := by
    show (BitVec.ofNat 64 k).toNat = k
    rw [BitVec.toNat_ofNat, Nat.mod_eq_of_lt (by omega)]
  have h2 : (lN n).toUInt64.toNat = n := wb_tn hn
  rw [UInt64.toNat_shiftRight, h1, h2, Nat.mod_eq_of_lt hk, Nat.shiftRight_eq_div_pow, BitVec.toNat_ofNat, Nat.mod_eq_of_lt (Nat.lt_of_le_of_lt (Nat.div_le_self _ _) hn)]
theorem wb_shl (n : Nat) {k : Nat} (hk : k < 64) : lN n <<< ((nI k).toInt64 &&& 63) = lN (n * 2 ^ k) := by
  rw [wb_c k hk]
  apply wb_inj
  rw [Int64.toBitVec_shiftLeft, wb_tb, wb_tb, wb_tb, wb_sm k hk]
  apply BitVec.eq_of_toNat_eq
  rw [BitVec.shiftLeft_eq', BitVec.toNat_shiftLeft, BitVec.toNat_ofNat, BitVec.toNat_ofNat, BitVec.toNat_ofNat, Nat.mod_eq_of_lt (show k < 2 ^ 64 by omega), Nat.shiftLeft_eq, Nat.mul_mod, Nat.mod_mod, ← Nat.mul_mod]
theorem wb_and {a b : Nat} (ha : a < 2 ^ 64) (hb : b < 2 ^ 64) : lN a &&& lN b = lN (a &&& b) := by
  apply wb_inj
  rw [Int64.toBitVec_and, wb_tb, wb_tb, wb_tb]
  apply BitVec.eq_of_toNat_eq
  rw [BitVec.toNat_and, BitVec.toNat_ofNat, BitVec.toNat_ofNat, BitVec.toNat_ofNat, Nat.mod_eq_of_lt ha, Nat.mod_eq_of_lt hb, Nat.mod_eq_of_lt (Nat.and_lt_two_pow _ hb)]
theorem wb_or {a b : Nat} (ha : a < 2 ^ 64) (hb : b < 2 ^ 64) : lN a ||| lN b = lN (a ||| b) := by
  apply wb_inj
  rw [Int64.toBitVec_or, wb_tb, wb_tb, wb_tb]
  apply BitVec.eq_of_toNat_eq
  rw [BitVec.toNat_or, BitVec.toNat_ofNat, BitVec.toNat_ofNat, BitVec.toNat_ofNat, Nat.mod_eq_of_lt ha, Nat.mod_eq_of_lt hb, Nat.mod_eq_of_lt (Nat.or_lt_two_pow ha hb)]
theorem wb_mask {n k : Nat} (hn : n < 2 ^ 64) (hk : k < 64) : lN n &&& lN (2 ^ k - 1) = lN (n % 2 ^ k) := by
  rw [wb_and hn (by have := wb_lt2 hk; omega), Nat.and_two_pow_sub_one_eq_mod]
theorem wb_a1 {n : Nat} (hn : n < 2 ^ 64) : lN n &&& 1 = lN (n % 2) := wb_mask (k := 1) hn (by decide)
theorem wb_bit {n k : Nat} (hn : n < 2 ^ 64) (hk : k < 64) : ((lN n).toUInt64 >>> ((nI k).toInt64.toUInt64 &&& Int64.toUInt64 63)).toInt64 &&& 1 = lN (n / 2 ^ k % 2) := by
  rw [wb_shr hn hk, wb_a1 (Nat.lt_of_le_of_lt (Nat.div_le_self _ _) hn)]
theorem pf_lI {a : Nat} (h : a < 2 ^ 63) : (lN a).toInt = (a : Int) := lg_ofNat_toInt h
theorem pf_shr {a d : Nat} {D : Int64} (hD : (D.toBitVec.smod 64).toNat = d) (h : a < 2 ^ 62) : lN a >>> D = lN (a / 2 ^ d) := by
  have hd : a / 2 ^ d ≤ a := Nat.div_le_self _ _
  apply Int64.toInt_inj.mp
  have e : (lN a >>> D).toInt = (lN a).toInt >>> d := by
    rw [← hD]
    exact BitVec.toInt_sshiftRight ..
  rw [e, Int.shiftRight_eq_div_pow, pf_lI (by omega), pf_lI (by omega)]
  rfl
theorem s_l : ∀ n, n < 32 → ((nI n &&& 31).toBitVec.smod 32).toNat = n := by decide +kernel
theorem nx_and (a b : Nat) : nI a &&& nI b = nI (a &&& b) := by
  apply Int32.toBitVec_inj.1
  show BitVec.ofNat 32 a &&& BitVec.ofNat 32 b = BitVec.ofNat 32 (a &&& b)
  apply BitVec.eq_of_getLsbD_eq
  intro i hi
  simp [hi]
theorem l_of (n : Nat) : Int64.ofInt (n : Int) = lN n := by
  apply Int64.toInt_inj.mp
  rw [Int64.toInt_ofInt]
  simp [lN, Int64.toInt_ofNat']
theorem i_of (n : Nat) : Int32.ofInt (n : Int) = nI n := (ab_ofNat n).symm
theorem b_land {a b : Nat} (ha : a < 2 ^ 63) (hb : b < 2 ^ 63) : l_and (a : Int) (b : Int) = ((a &&& b : Nat) : Int) := by
  unfold l_and
  rw [l_of, l_of, wb_and (by omega) (by omega), pk_lT (Nat.lt_of_le_of_lt Nat.and_le_left ha)]
theorem b_lor {a b : Nat} (ha : a < 2 ^ 63) (hb : b < 2 ^ 63) : l_or (a : Int) (b : Int) = ((a ||| b : Nat) : Int) := by
  unfold l_or
  rw [l_of, l_of, wb_or (by omega) (by omega), pk_lT (Nat.or_lt_two_pow ha hb)]
theorem b_lshl {a k : Nat} (hk : k < 64) (h : a * 2 ^ k < 2 ^ 63) : l_shl (a : Int) (k : Int) = ((a * 2 ^ k : Nat) : Int) := by
  unfold l_shl
  rw [l_of, i_of, wb_shl a hk, pk_lT h]
theorem b_lshr {a k : Nat} (hk : k < 64) (h : a < 2 ^ 62) : l_shr (a : Int) (k : Int) = ((a / 2 ^ k : Nat) : Int) := by
  unfold l_shr
  have e : (((nI k).toInt64 &&& 63).toBitVec.smod 64).toNat = k := by
    rw [wb_c k hk, wb_tb, wb_sm k hk, BitVec.toNat_ofNat, Nat.mod_eq_of_lt (by omega)]
  rw [l_of, i_of, pf_shr e h, pk_lT (Nat.lt_of_le_of_lt (Nat.div_le_self _ _) (by omega))]
theorem nI_T {n : Nat} (h : n < 2 ^ 31) : (nI n).toInt = (n : Int) := nI_toInt h
theorem b_iand {a b : Nat} (ha : a < 2 ^ 31) : i_and (a : Int) (b : Int) = ((a &&& b : Nat) : Int) := by
  unfold i_and
  rw [i_of, i_of, nx_and, nI_T (Nat.lt_of_le_of_lt Nat.and_le_left ha)]
theorem b_ishl {a k : Nat} (hk : k < 32) (h : a * 2 ^ k < 2 ^ 31) : i_shl (a : Int) (k : Int) = ((a * 2 ^ k : Nat) : Int) := by
  unfold i_shl
  rw [i_of, i_of, pk_shlN (nI k &&& 31) k (s_l k hk) (by omega), nI_T h]
theorem b_ishr {a k : Nat} (hk : k < 32) (h : a < 2 ^ 31) : i_shr (a : Int) (k : Int) = ((a / 2 ^ k : Nat) : Int) := by
  unfold i_shr
  rw [i_of, i_of, pk_shrN h (nI k &&& 31) k (s_l k hk), nI_T (Nat.lt_of_le_of_lt (Nat.div_le_self _ _) h)]
theorem b_ior {a b : Nat} (ha : a < 2 ^ 31) (hb : b < 2 ^ 31) : i_or (a : Int) (b : Int) = ((a ||| b : Nat) : Int) := by
  unfold i_or
  have e : nI a ||| nI b = nI (a ||| b) := by
    apply Int32.toBitVec_inj.mp
    rw [Int32.toBitVec_or]
    show BitVec.ofNat 32 a ||| BitVec.ofNat 32 b = BitVec.ofNat 32 (a ||| b)
    apply BitVec.eq_of_toNat_eq
    rw [BitVec.toNat_or, BitVec.toNat_ofNat, BitVec.toNat_ofNat, BitVec.toNat_ofNat, Nat.mod_eq_of_lt (by omega), Nat.mod_eq_of_lt (by omega), Nat.mod_eq_of_lt (Nat.lt_of_lt_of_le (Nat.or_lt_two_pow ha hb) (by decide))]
  rw [i_of, i_of, e, nI_T (Nat.or_lt_two_pow ha hb)]
theorem b_bit {a k : Nat} : a / 2 ^ k % 2 = if a.testBit k then 1 else 0 := by
  rw [Nat.testBit_eq_decide_div_mod_eq]
  by_cases h : a / 2 ^ k % 2 = 1
  · simp [h]
  · have : a / 2 ^ k % 2 = 0 := by omega
    simp [this]
/-- a bit of a long -/
theorem b_lbit {a k : Nat} (hk : k < 64) (h : a < 2 ^ 62) : l_and (l_shr (a : Int) (k : Int)) 1 = if a.testBit k then 1 else 0 := by
  rw [b_lshr hk h, show (1 : Int) = ((1 : Nat) : Int) from rfl, b_land (Nat.lt_of_le_of_lt (Nat.div_le_self _ _) (by omega)) (by omega)]
  rw [show a / 2 ^ k &&& 1 = a / 2 ^ k % 2 from Nat.and_one_is_mod _, b_bit]
  split <;> rfl
/-- a bit of an int -/
theorem b_ibit {a k : Nat} (hk : k < 32) (h : a < 2 ^ 31) : i_and (i_shr (a : Int) (k : Int)) 1 = if a.testBit k then 1 else 0 := by
  rw [b_ishr hk h, show (1 : Int) = ((1 : Nat) : Int) from rfl, b_iand (Nat.lt_of_le_of_lt (Nat.div_le_self _ _) h)]
  rw [show a / 2 ^ k &&& 1 = a / 2 ^ k % 2 from Nat.and_one_is_mod _, b_bit]
  split <;> rfl
theorem b_7 (k : Nat) : (7 : Nat).testBit k = decide (k < 3) := by
  by_cases h : k < 3
  · rcases (show k = 0 ∨ k = 1 ∨ k = 2 by omega) with rfl | rfl | rfl <;> rfl
  · rw [Nat.testBit_lt_two_pow (Nat.lt_of_lt_of_le (show 7 < 2 ^ 3 by decide) (Nat.pow_le_pow_right (by decide) (by omega)))]
    simp [h]
theorem b_1s {k j : Nat} : (1 * 2 ^ k).testBit j = decide (j = k) := by
  rw [Nat.one_mul, Nat.testBit_two_pow]
  by_cases h : k = j
  · simp [h]
  · have : ¬ j = k := fun q => h q.symm
    simp [h, this]
theorem b_7s {k j : Nat} : (7 * 2 ^ k).testBit j = decide (k ≤ j ∧ j ≤ k + 2) := by
  rw [← Nat.shiftLeft_eq, Nat.testBit_shiftLeft, b_7]
  by_cases h : k ≤ j
  · by_cases h2 : j ≤ k + 2
    · have : j - k < 3 := by omega
      simp [h, h2, this]
    · have : ¬ j - k < 3 := by omega
      simp [h, h2, this]
  · simp [h]
/-- taking an event out of a set of eight -/
theorem b_out : ∀ s : Nat, s < 256 → ∀ a : Nat, a < 8 → i_and (s : Int) (i_xor (i_shl 1 (a : Int)) (-1)) = ((s &&& (255 - 2 ^ a) : Nat) : Int) := by decide +kernel
theorem b_out_bit : ∀ a : Nat, a < 8 → ∀ e : Nat, e < 8 → (255 - 2 ^ a).testBit e = decide (e ≠ a) := by decide +kernel
