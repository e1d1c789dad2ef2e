/-! numbers: the machine's and the mathematical ones -/
theorem ab_bm32 {x : Int} (h1 : -2147483648 ≤ x) (h2 : x < 2147483648) : Int.bmod x 4294967296 = x := by
  rw [Int.bmod_def]
  split <;> rename_i h <;> omega
theorem ab_bm64 {x : Int} (h1 : -9223372036854775808 ≤ x) (h2 : x < 9223372036854775808) : Int.bmod x 18446744073709551616 = x := by
  rw [Int.bmod_def]
  split <;> rename_i h <;> omega
theorem ab_bm8 {x : Int} (h1 : -128 ≤ x) (h2 : x < 128) : Int.bmod x 256 = x := by
  rw [Int.bmod_def]
  split <;> rename_i h <;> omega
theorem ab_bm16 {x : Int} (h1 : -32768 ≤ x) (h2 : x < 32768) : Int.bmod x 65536 = x := by
  rw [Int.bmod_def]
  split <;> rename_i h <;> omega
theorem ab_ti {x : Int} (h : ab_r32 x) : (Int32.ofInt x).toInt = x := by
  rw [Int32.toInt_ofInt]
  obtain ⟨h1, h2⟩ := h
  exact ab_bm32 (by omega) (by omega)
theorem ab_tl {x : Int} (h : ab_r64 x) : (Int64.ofInt x).toInt = x := by
  rw [Int64.toInt_ofInt]
  obtain ⟨h1, h2⟩ := h
  exact ab_bm64 (by omega) (by omega)
theorem ab_oi (a : Int32) : Int32.ofInt a.toInt = a := Int32.ofInt_toInt a
theorem ab_ol (a : Int64) : Int64.ofInt a.toInt = a := Int64.ofInt_toInt a
theorem iW_eq (x : Int) : iW x = (Int32.ofInt x).toInt := by rw [Int32.toInt_ofInt]; rfl
theorem lW_eq (x : Int) : lW x = (Int64.ofInt x).toInt := by rw [Int64.toInt_ofInt]; rfl
theorem iW_o (x : Int) : Int32.ofInt (iW x) = Int32.ofInt x := by rw [iW_eq, ab_oi]
theorem lW_o (x : Int) : Int64.ofInt (lW x) = Int64.ofInt x := by rw [lW_eq, ab_ol]
theorem iW_id {x : Int} (h1 : -2147483648 ≤ x) (h2 : x < 2147483648) : iW x = x := ab_bm32 h1 h2
theorem lW_id {x : Int} (h1 : -9223372036854775808 ≤ x) (h2 : x < 9223372036854775808) : lW x = x := ab_bm64 h1 h2
theorem ab_ri (a : Int32) : ab_r32 a.toInt := ⟨Int32.le_toInt a, Int32.toInt_lt a⟩
theorem ab_rl (a : Int64) : ab_r64 a.toInt := ⟨Int64.le_toInt a, Int64.toInt_lt a⟩
theorem iW_r (x : Int) : ab_r32 (iW x) := by rw [iW_eq]; exact ab_ri _
theorem lW_r (x : Int) : ab_r64 (lW x) := by rw [lW_eq]; exact ab_rl _
theorem ab_eq32 {x y : Int} (hx : ab_r32 x) (hy : ab_r32 y) : Int32.ofInt x = Int32.ofInt y ↔ x = y := by
  constructor
  · intro h
    have := congrArg Int32.toInt h
    rwa [ab_ti hx, ab_ti hy] at this
  · intro h; rw [h]
theorem ab_lt32 {x y : Int} (hx : ab_r32 x) (hy : ab_r32 y) : Int32.ofInt x < Int32.ofInt y ↔ x < y := by
  rw [Int32.lt_iff_toInt_lt, ab_ti hx, ab_ti hy]
theorem ab_le32 {x y : Int} (hx : ab_r32 x) (hy : ab_r32 y) : Int32.ofInt x ≤ Int32.ofInt y ↔ x ≤ y := by
  rw [Int32.le_iff_toInt_le, ab_ti hx, ab_ti hy]
theorem ab_eq64 {x y : Int} (hx : ab_r64 x) (hy : ab_r64 y) : Int64.ofInt x = Int64.ofInt y ↔ x = y := by
  constructor
  · intro h
    have := congrArg Int64.toInt h
    rwa [ab_tl hx, ab_tl hy] at this
  · intro h; rw [h]
theorem ab_lt64 {x y : Int} (hx : ab_r64 x) (hy : ab_r64 y) : Int64.ofInt x < Int64.ofInt y ↔ x < y := by
  rw [Int64.lt_iff_toInt_lt, ab_tl hx, ab_tl hy]
theorem ab_z32 : (0 : Int32) = Int32.ofInt 0 := by decide +kernel
theorem ab_z64 : (0 : Int64) = Int64.ofInt 0 := by decide +kernel
theorem ab_r0 : ab_r32 0 := by unfold ab_r32; omega
theorem ab_clamp {i : Int} (h : ab_r32 i) : (Int32.ofInt i).toNatClampNeg = i.toNat := by
  show (Int32.ofInt i).toInt.toNat = _
  rw [ab_ti h]
theorem ab_in {i : Int} {n : Nat} (hr : ab_r32 i) (h0 : 0 ≤ i) (h : i < (n : Int)) : vp_in (Int32.ofInt i) n := by
  intro q
  rcases q with q | q
  · rw [ab_z32, ab_lt32 hr ab_r0] at q
    omega
  · rw [ab_clamp hr] at q
    omega
theorem ab_ofNat (n : Nat) : Int32.ofNat n = Int32.ofInt (n : Int) := by
  apply Int32.toInt_inj.mp
  rw [Int32.toInt_ofInt]
  simp [Int32.toInt_ofNat']
theorem ab_bip {n : Int} (h1 : -128 ≤ n) (h2 : n ≤ 127) : (Int8.ofInt n).toInt32 = Int32.ofInt n := by
  apply Int32.toInt_inj.mp
  rw [Int8.toInt_toInt32, Int8.toInt_ofInt, ab_ti ⟨by omega, by omega⟩]
  exact ab_bm8 (by omega) (by omega)
theorem ab_sip {n : Int} (h1 : -32768 ≤ n) (h2 : n ≤ 32767) : (Int16.ofInt n).toInt32 = Int32.ofInt n := by
  apply Int32.toInt_inj.mp
  rw [Int16.toInt_toInt32, Int16.toInt_ofInt, ab_ti ⟨by omega, by omega⟩]
  exact ab_bm16 (by omega) (by omega)
theorem ab_i2l {x : Int} (h : ab_r32 x) : (Int32.ofInt x).toInt64 = Int64.ofInt x := by
  apply Int64.toInt_inj.mp
  rw [Int32.toInt_toInt64, ab_ti h, ab_tl ⟨by have := h.1; omega, by have := h.2; omega⟩]
theorem ab_l2i {x : Int} (h : ab_r64 x) : (Int64.ofInt x).toInt32 = Int32.ofInt (iW x) := by
  apply Int32.toInt_inj.mp
  rw [Int64.toInt_toInt32, ab_tl h, iW_o, Int32.toInt_ofInt]
theorem ab_lcm {x y : Int} (hx : ab_r64 x) (hy : ab_r64 y) : lg_cmp (Int64.ofInt x) (Int64.ofInt y) = Int32.ofInt (l_cmp x y) := by
  unfold lg_cmp l_cmp
  by_cases h1 : y < x
  · rw [if_pos (show Int64.ofInt x > Int64.ofInt y from (ab_lt64 hy hx).mpr h1), if_pos h1]; decide +kernel
  · rw [if_neg (fun q : Int64.ofInt x > Int64.ofInt y => h1 ((ab_lt64 hy hx).mp q)), if_neg h1]
    by_cases h2 : x = y
    · rw [if_pos ((ab_eq64 hx hy).mpr h2), if_pos h2]; decide +kernel
    · rw [if_neg (fun q => h2 ((ab_eq64 hx hy).mp q)), if_neg h2]; decide +kernel
theorem ab_lcr (x y : Int) : ab_r32 (l_cmp x y) := by
  unfold l_cmp ab_r32
  split
  · omega
  · split <;> omega
theorem ab_mx32 {x y : Int} (hx : ab_r32 x) (hy : ab_r32 y) : (if Int32.ofInt x < Int32.ofInt y then Int32.ofInt y else Int32.ofInt x) = Int32.ofInt (i_max x y) := by
  unfold i_max
  by_cases h : x < y
  · rw [if_pos ((ab_lt32 hx hy).mpr h), if_pos h]
  · rw [if_neg (fun q => h ((ab_lt32 hx hy).mp q)), if_neg h]
theorem ab_mn32 {x y : Int} (hx : ab_r32 x) (hy : ab_r32 y) : (if Int32.ofInt y < Int32.ofInt x then Int32.ofInt y else Int32.ofInt x) = Int32.ofInt (i_min x y) := by
  unfold i_min
  by_cases h : y < x
  · rw [if_pos ((ab_lt32 hy hx).mpr h), if_pos h]
  · rw [if_neg (fun q => h ((ab_lt32 hy hx).mp q)), if_neg h]
theorem ab_mxr {x y : Int} (hx : ab_r32 x) (hy : ab_r32 y) : ab_r32 (i_max x y) := by unfold i_max; split <;> assumption
theorem ab_mnr {x y : Int} (hx : ab_r32 x) (hy : ab_r32 y) : ab_r32 (i_min x y) := by unfold i_min; split <;> assumption
