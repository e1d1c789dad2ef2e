/-! MATHEMATICS: the chance, both ways -/
/-- C for each of the first h, the rest of sixteen for the others -/
def kw (C h : Nat) : Nat → Nat
  | 0 => 1
  | e + 1 => kw C h e * (if e < h then C else 16 - C)
theorem kw_s {C h e : Nat} : kw C h (e + 1) = kw C h e * (if e < h then C else 16 - C) := rfl
theorem kw_le {C h : Nat} (hC : C ≤ 16) : ∀ n, kw C h n ≤ 16 ^ n
  | 0 => Nat.le_refl _
  | n + 1 => by
    rw [kw_s, Nat.pow_succ]
    exact Nat.mul_le_mul (kw_le hC n) (by split <;> omega)
theorem kw_pow {C h : Nat} : ∀ n, kw C h n = C ^ (if n ≤ h then n else h) * (16 - C) ^ (n - h)
  | 0 => by rw [if_pos (Nat.zero_le _), Nat.zero_sub]; rfl
  | n + 1 => by
    rw [kw_s, kw_pow n]
    by_cases hn : n < h
    · rw [if_pos hn, if_pos (show n ≤ h by omega), if_pos (show n + 1 ≤ h by omega), show n + 1 - h = 0 by omega, show n - h = 0 by omega, Nat.pow_succ, Nat.mul_right_comm]
    · rw [if_neg hn, if_neg (show ¬ n + 1 ≤ h by omega), show n + 1 - h = (n - h) + 1 by omega, Nat.pow_succ, Nat.mul_assoc]
      by_cases hnh : n ≤ h
      · rw [if_pos hnh, show n = h by omega]
      · rw [if_neg hnh]
/-- a set's weight by what it lacks -/
theorem cw_pow {C s z : Nat} : ∀ n, (∀ e, e < n → s.testBit e = !z.testBit e) → cw C s n = C ^ (cb z n) * (16 - C) ^ (n - cb z n)
  | 0, _ => by rw [show cb z 0 = 0 from rfl]; rfl
  | n + 1, h => by
    have hle := cb_le z n
    rw [cw_s, cw_pow n (fun e he => h e (by omega)), cb_s, h n (by omega)]
    cases z.testBit n
    · simp only [Bool.not_false, if_true, Bool.false_eq_true, if_false, Nat.add_zero]
      rw [show n + 1 - cb z n = (n - cb z n) + 1 by omega, Nat.pow_succ, Nat.mul_assoc]
    · simp only [Bool.not_true, Bool.false_eq_true, if_false, if_true]
      rw [show n + 1 - (cb z n + 1) = n - cb z n by omega, Nat.pow_succ, Nat.mul_right_comm]
theorem cw_kw {C s z n : Nat} (h : ∀ e, e < n → s.testBit e = !z.testBit e) : cw C s n = kw C (cb z n) n := by
  have hle := cb_le z n
  rw [cw_pow n h, kw_pow]
  by_cases hn : n ≤ cb z n
  · rw [if_pos hn, show cb z n = n by omega]
  · rw [if_neg hn]
/-- summed over sets -/
def sm' (f : Nat → Nat) : Nat → Nat
  | 0 => 0
  | n + 1 => sm' f n + f n
theorem sm_s {f : Nat → Nat} {n : Nat} : sm' f (n + 1) = sm' f n + f n := rfl
theorem sm_ext {f g : Nat → Nat} : ∀ n, (∀ a, a < n → f a = g a) → sm' f n = sm' g n
  | 0, _ => rfl
  | n + 1, h => by rw [sm_s, sm_s, sm_ext n (fun a ha => h a (by omega)), h n (by omega)]
theorem sm_front {f : Nat → Nat} : ∀ n, sm' f (n + 1) = f 0 + sm' (fun a => f (a + 1)) n
  | 0 => by rw [sm_s]; show 0 + f 0 = f 0 + 0; omega
  | n + 1 => by rw [sm_s, sm_front n, sm_s]; omega
theorem sm_rev {f : Nat → Nat} : ∀ n, sm' (fun a => f (n - 1 - a)) n = sm' f n
  | 0 => rfl
  | n + 1 => by
    rw [sm_front, sm_s]
    have e : sm' (fun a => f (n + 1 - 1 - (a + 1))) n = sm' (fun a => f (n - 1 - a)) n := sm_ext n (fun a ha => by rw [show n + 1 - 1 - (a + 1) = n - 1 - a by omega])
    rw [e, sm_rev n]
    show f (n + 1 - 1 - 0) + _ = _
    rw [show n + 1 - 1 - 0 = n by omega]
    omega
theorem Td.cs_sm {D : Td} {C : Nat} {t : Int} : ∀ n, D.cs C t n = sm' (fun s => if (D.cx s).won = t then cw C s D.k else 0) n
  | 0 => rfl
  | n + 1 => by rw [Td.cs_s, sm_s, Td.cs_sm n]
/-- the class's sum -/
noncomputable def Td.ks (D : Td) (C : Nat) (t : Int) (n : Nat) : Nat := sm' (fun s => if (D.cf s).won = t then kw C (cb s 8) D.k else 0) n
theorem Td.ks_s {D : Td} {C : Nat} {t : Int} {n : Nat} : D.ks C t (n + 1) = D.ks C t n + (if (D.cf n).won = t then kw C (cb n 8) D.k else 0) := rfl
theorem b_comp {k s e : Nat} (hs : s < 2 ^ k) (he : e < k) : s.testBit e = !(2 ^ k - 1 - s).testBit e := by
  rw [show 2 ^ k - 1 - s = 2 ^ k - (s + 1) by omega, Nat.testBit_two_pow_sub_succ hs]
  simp [he]
theorem Td.ks_cs {D : Td} (h : D.ok) {C : Nat} {t : Int} : D.ks C t (2 ^ D.k) = D.cs C t (2 ^ D.k) := by
  have hk : D.k ≤ 8 := h.2.2.2.1.1
  rw [Td.cs_sm]
  unfold Td.ks
  rw [← sm_rev]
  refine sm_ext _ (fun s hs => ?_)
  have hb := fun e he => b_comp (k := D.k) (s := s) (e := e) hs he
  have hcf : D.cf (2 ^ D.k - 1 - s) = D.cx s := Td.cf_ext (fun e he => by
    rw [b_x255 (by omega), hb e he, Bool.not_not])
  have hlt : 2 ^ D.k - 1 - s < 2 ^ D.k := by have := Nat.two_pow_pos D.k; omega
  have hcb : cb (2 ^ D.k - 1 - s) 8 = cb (2 ^ D.k - 1 - s) D.k := by
    have := cb_none hlt (8 - D.k)
    rw [show D.k + (8 - D.k) = 8 by omega] at this
    exact this
  rw [hcf, hcb, cw_kw hb]
/-- what is shared with a power of two -/
theorem gcd_two {a m j : Nat} (hj : j ≤ m) (hd : a % 2 ^ j = 0) (ho : j = m ∨ a / 2 ^ j % 2 = 1) : Nat.gcd a (2 ^ m) = 2 ^ j := by
  have ha : a = 2 ^ j * (a / 2 ^ j) := by rw [Nat.mul_div_cancel' (Nat.dvd_of_mod_eq_zero hd)]
  have hm : 2 ^ m = 2 ^ j * 2 ^ (m - j) := by rw [← Nat.pow_add]; congr 1; omega
  rw [hm, ha, Nat.gcd_mul_left]
  have : Nat.gcd (a / 2 ^ j) (2 ^ (m - j)) = 1 := by
    rcases ho with rfl | ho
    · rw [Nat.sub_self]; exact Nat.gcd_one_right _
    · have hc : Nat.gcd (a / 2 ^ j) 2 = 1 := by rw [Nat.gcd_comm, Nat.gcd_rec, ho]; rfl
      exact Nat.Coprime.pow_right _ hc
  rw [this, Nat.mul_one]
