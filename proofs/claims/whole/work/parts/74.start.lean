/-! the world as both constructors leave it -/
def w_rc : Int → Int := fun i => if i = 7 then 48 else 0
def w_sh : Int → Int := fun i => if i = 1 then 1 else 0
def w_0 (f : Int → Int) : ab_W := fun p => if p = 0 then (fun i => if i = 7 then 1 else if i = 11 then 30 else 0) else if p = 15 then w_rc else if p = 21 then w_rc else if p = 31 then w_sh else if p = 33 then w_sh else if p = 35 then w_sh else if p = 37 then w_sh else if p = 39 then (fun i => if i = 5 then 30 else 0) else if p = 100 then (fun i => if i = 1 then 9 else if i = 2 then 18 else if i = 3 then 30 else if i = 4 then 47 else 0) else if p = 101 then f else (fun _ => 0)
def D_0 : Td := ⟨0, fun _ => 0, 30, 0, fun _ => 0, fun _ => 0, fun _ => 0, 0, fun _ => 0, fun _ => 0, fun _ => 0⟩
def S_0 : Sh := ⟨fun _ => false, fun _ => 0, fun _ => 0, fun _ _ => 0, 0⟩
theorem D_0_ok : D_0.ok := ⟨Nat.zero_le _, fun k hk => absurd hk (Nat.not_lt_zero _), ⟨by decide, by decide⟩, ⟨Nat.zero_le _, fun k hk => absurd hk (Nat.not_lt_zero _)⟩, ⟨Nat.zero_le _, fun k hk => absurd hk (Nat.not_lt_zero _)⟩⟩
theorem D_0_T : D_0.T = 0 := by
  unfold Td.T x_T
  split <;> rfl
section Start74
variable {f : Int → Int}
theorem c_inv_0 : c_inv (w_0 f) D_0 S_0 := by
  have hT := D_0_T
  refine ⟨⟨⟨rfl, Nat.zero_le _, fun k hk => absurd hk (Nat.not_lt_zero _)⟩, rfl, ⟨rfl, fun k hk => absurd hk (Nat.not_lt_zero _)⟩, ⟨rfl, fun k hk => absurd hk (Nat.not_lt_zero _)⟩, ⟨fun h => ?_, fun t ht => ?_, Td.cok D_0_ok 255, ?_, fun t ht => ?_⟩, D_0_ok⟩, ⟨Or.inr rfl, fun h => ?_⟩, ⟨rfl, fun s hs => ?_⟩, fun s hs => ⟨⟨Int.le_refl _, (by show (0 : Int) ≤ 2; decide)⟩, Nat.zero_le _⟩, rfl, rfl, rfl, rfl, rfl⟩
  · have h : 0 < D_0.T := h
    omega
  · have ht : t < D_0.T := ht
    omega
  · show (0 : Int) = (D_0.T : Int)
    rw [hT]; rfl
  · have ht : t < D_0.T := ht
    omega
  · exact absurd h (by show ¬ (1 : Int) = 0; decide)
  · rcases s4 hs with rfl | rfl | rfl | rfl <;> exact ⟨rfl, rfl, rfl, fun i _ => rfl⟩
theorem m_inv_0 : m_inv (w_0 f) D_0 S_0 := by
  refine ⟨⟨⟨rfl, Nat.zero_le _, fun k hk => absurd hk (Nat.not_lt_zero _)⟩, rfl, rfl, fun k hk => absurd hk (Nat.not_lt_zero _), rfl, fun k hk => absurd hk (Nat.not_lt_zero _), D_0_ok⟩, ⟨rfl, fun s hs => ?_⟩, fun s hs => ⟨⟨Int.le_refl _, (by show (0 : Int) ≤ 2; decide)⟩, Nat.zero_le _⟩⟩
  exact ⟨rfl, rfl, rfl, fun i _ => rfl⟩
theorem w_0_ok (hf : ∀ j, ab_r32 (f j)) : ab_okW (w_0 f) := by
  have hrc : ∀ i, ab_r32 (w_rc i) := fun i => by unfold w_rc ab_r32; split <;> omega
  have hsh : ∀ i, ab_r32 (w_sh i) := fun i => by unfold w_sh ab_r32; split <;> omega
  have h32 : ∀ p i, ab_r32 (w_0 f p i) := by
    intro p i
    by_cases h0 : p = 0
    · subst h0
      show ab_r32 (if i = 7 then 1 else if i = 11 then 30 else 0)
      unfold ab_r32
      split
      · omega
      · split <;> omega
    by_cases h15 : p = 15
    · subst h15; exact hrc i
    by_cases h21 : p = 21
    · subst h21; exact hrc i
    by_cases h31 : p = 31
    · subst h31; exact hsh i
    by_cases h33 : p = 33
    · subst h33; exact hsh i
    by_cases h35 : p = 35
    · subst h35; exact hsh i
    by_cases h37 : p = 37
    · subst h37; exact hsh i
    by_cases h39 : p = 39
    · subst h39
      show ab_r32 (if i = 5 then 30 else 0)
      unfold ab_r32
      split <;> omega
    by_cases h100 : p = 100
    · subst h100
      show ab_r32 (if i = 1 then 9 else if i = 2 then 18 else if i = 3 then 30 else if i = 4 then 47 else 0)
      unfold ab_r32
      split
      · omega
      · split
        · omega
        · split
          · omega
          · split <;> omega
    by_cases h101 : p = 101
    · subst h101; exact hf i
    unfold w_0
    rw [if_neg h0, if_neg h15, if_neg h21, if_neg h31, if_neg h33, if_neg h35, if_neg h37, if_neg h39, if_neg h100, if_neg h101]
    exact ⟨by decide, by decide⟩
  exact fun p i => ⟨ab_r3264 (h32 p i), fun _ => h32 p i⟩
end Start74
