/-! MATHEMATICS: who is ahead -/
/-- a team's standing behind a moment: F how far, H when home -/
def r_V (F : Nat → Nat → Int) (H : Nat → Int) (t m : Nat) : Int := (if H t ≠ -1 ∧ H t ≤ m then (48 - H t) * 4096 else 0) + 4 * F t m + 3 - t
/-- how many of the first n teams are ahead of t -/
def r_rk (F : Nat → Nat → Int) (H : Nat → Int) (t m : Nat) : Nat → Int
  | 0 => 0
  | n + 1 => r_rk F H t m n + (if r_V F H t m < r_V F H n m then 1 else 0)
/-- the foremost of the first n teams, and its standing -/
def r_fo (F : Nat → Nat → Int) (H : Nat → Int) (m : Nat) : Nat → Int × Int
  | 0 => (-1, -1)
  | n + 1 => if (r_fo F H m n).2 < r_V F H n m then ((n : Int), r_V F H n m) else r_fo F H m n
/-- the last of the first n teams whose rank is 0 -/
def r_fi (R : Nat → Int) : Nat → Int
  | 0 => -1
  | n + 1 => if R n = 0 then (n : Int) else r_fi R n
/-- as far and as late as may be -/
def r_ok (F : Nat → Nat → Int) (H : Nat → Int) (T : Nat) : Prop := T ≤ 4 ∧ ∀ t, t < T → (∀ m, m < 48 → 0 ≤ F t m ∧ F t m ≤ 249) ∧ -1 ≤ H t ∧ H t ≤ 47
section Rank19
variable {F : Nat → Nat → Int} {H : Nat → Int} {T : Nat}
theorem r_V_in (h : r_ok F H T) {t m : Nat} (ht : t < T) (hm : m < 48) : 0 ≤ r_V F H t m := by
  obtain ⟨h1, h2⟩ := (h.2 t ht).1 m hm
  obtain ⟨h3, h4⟩ := (h.2 t ht).2
  have := h.1
  unfold r_V
  split <;> omega
theorem r_V_ne (h : r_ok F H T) {a b m : Nat} (ha : a < T) (hb : b < T) (hm : m < 48) (hab : a ≠ b) : r_V F H a m ≠ r_V F H b m := by
  have := h.1
  unfold r_V
  split <;> split <;> omega
/-- who is home is ahead; of two, who came sooner; else who is farther, then the less -/
theorem r_ahead (h : r_ok F H T) {a b m : Nat} (ha : a < T) (hb : b < T) (hm : m < 48) (hab : a ≠ b) {x y : Int} (hx : x = if H a ≠ -1 ∧ H a ≤ m then H a else -1) (hy : y = if H b ≠ -1 ∧ H b ≤ m then H b else -1) :
    r_V F H b m < r_V F H a m ↔ (if (x ≠ -1 ∧ y = -1) ∨ (x = -1 ∧ y ≠ -1) then x ≠ -1 else if x ≠ -1 ∧ x ≠ y then x < y else if F a m ≠ F b m then F b m < F a m else a < b) := by
  have h1 := h.1
  obtain ⟨a1, a2⟩ := (h.2 a ha).1 m hm
  obtain ⟨b1, b2⟩ := (h.2 b hb).1 m hm
  obtain ⟨a3, a4⟩ := (h.2 a ha).2
  obtain ⟨b3, b4⟩ := (h.2 b hb).2
  unfold r_V
  by_cases ca : H a ≠ -1 ∧ H a ≤ m
  · rw [if_pos ca] at hx
    by_cases cb : H b ≠ -1 ∧ H b ≤ m
    · rw [if_pos cb] at hy
      rw [if_pos ca, if_pos cb, if_neg (by omega)]
      subst hx; subst hy
      by_cases hne : H a = H b
      · rw [if_neg (by omega), hne]
        by_cases hf : F a m = F b m
        · rw [if_neg (by omega)]; omega
        · rw [if_pos hf]; omega
      · rw [if_pos ⟨ca.1, hne⟩]; omega
    · rw [if_neg cb] at hy
      rw [if_pos ca, if_neg cb, if_pos (by omega)]
      omega
  · rw [if_neg ca] at hx
    by_cases cb : H b ≠ -1 ∧ H b ≤ m
    · rw [if_pos cb] at hy
      rw [if_neg ca, if_pos cb, if_pos (by omega)]
      omega
    · rw [if_neg cb] at hy
      rw [if_neg ca, if_neg cb, if_neg (by omega), if_neg (by omega)]
      by_cases hf : F a m = F b m
      · rw [if_neg (by omega)]; omega
      · rw [if_pos hf]; omega
theorem r_rk_in (t m : Nat) : ∀ n, 0 ≤ r_rk F H t m n ∧ r_rk F H t m n ≤ n
  | 0 => by simp [r_rk]
  | n + 1 => by
    have := r_rk_in t m n
    unfold r_rk
    split <;> omega
theorem r_rk_0 (t m : Nat) : ∀ n, r_rk F H t m n = 0 ↔ ∀ o, o < n → ¬ r_V F H t m < r_V F H o m
  | 0 => by simp [r_rk]
  | n + 1 => by
    have h1 := r_rk_in (F := F) (H := H) t m n
    have h2 := r_rk_0 t m n
    unfold r_rk
    constructor
    · intro h o ho
      by_cases hon : o = n
      · subst hon; intro hq; rw [if_pos hq] at h; omega
      · refine h2.mp ?_ o (by omega)
        split at h <;> omega
    · intro h
      rw [if_neg (h n (by omega)), h2.mpr (fun o ho => h o (by omega))]
      rfl
theorem r_fo_spec (h : r_ok F H T) {m : Nat} (hm : m < 48) : ∀ n, n ≤ T → (n = 0 ∧ r_fo F H m n = (-1, -1)) ∨ ∃ t, t < n ∧ r_fo F H m n = ((t : Int), r_V F H t m) ∧ ∀ o, o < n → r_V F H o m ≤ r_V F H t m
  | 0, _ => Or.inl ⟨rfl, rfl⟩
  | n + 1, hn => by
    refine Or.inr ?_
    have hV := r_V_in h (show n < T by omega) hm
    rcases r_fo_spec h hm n (by omega) with ⟨h0, h1⟩ | ⟨t, h1, h2, h3⟩
    · subst h0
      refine ⟨0, by omega, ?_, fun o ho => ?_⟩
      · unfold r_fo; rw [h1, if_pos (by dsimp only; omega)]
      · have : o = 0 := by omega
        subst this; exact Int.le_refl _
    · unfold r_fo
      rw [h2]
      dsimp only
      by_cases hlt : r_V F H t m < r_V F H n m
      · rw [if_pos hlt]
        refine ⟨n, by omega, rfl, fun o ho => ?_⟩
        by_cases hon : o = n
        · subst hon; exact Int.le_refl _
        · have := h3 o (by omega); omega
      · rw [if_neg hlt]
        refine ⟨t, by omega, rfl, fun o ho => ?_⟩
        by_cases hon : o = n
        · subst hon; omega
        · exact h3 o (by omega)
theorem r_fo_rk (h : r_ok F H T) {m t : Nat} (hm : m < 48) (ht : t < T) : (r_fo F H m T).1 = t ↔ r_rk F H t m T = 0 := by
  rw [r_rk_0]
  rcases r_fo_spec h hm T (Nat.le_refl _) with ⟨h0, h1⟩ | ⟨u, h1, h2, h3⟩
  · omega
  · rw [h2]
    dsimp only
    constructor
    · intro hq o ho
      have : u = t := by omega
      subst this
      have := h3 o ho; omega
    · intro hq
      by_cases hut : u = t
      · omega
      · have h4 := h3 t ht
        have h5 := r_V_ne h ht h1 hm (Ne.symm hut)
        exact absurd (by omega) (hq u h1)
/-- the last whose rank is 0 is the foremost -/
theorem r_fi_fo (h : r_ok F H T) {m : Nat} (hm : m < 48) : r_fi (fun t => r_rk F H t m T) T = (r_fo F H m T).1 := by
  have key : ∀ n, n ≤ T → ((∃ t : Nat, t < n ∧ r_rk F H t m T = 0 ∧ r_fi (fun t => r_rk F H t m T) n = t) ∨ ((∀ t, t < n → r_rk F H t m T ≠ 0) ∧ r_fi (fun t => r_rk F H t m T) n = -1)) := by
    intro n
    induction n with
    | zero => intro _; exact Or.inr ⟨fun t ht => by omega, rfl⟩
    | succ n ih =>
      intro hn
      unfold r_fi
      by_cases h0 : r_rk F H n m T = 0
      · rw [if_pos h0]; exact Or.inl ⟨n, by omega, h0, rfl⟩
      · rw [if_neg h0]
        rcases ih (by omega) with ⟨t, h1, h2, h3⟩ | ⟨h1, h2⟩
        · exact Or.inl ⟨t, by omega, h2, h3⟩
        · refine Or.inr ⟨fun t ht => ?_, h2⟩
          by_cases htn : t = n
          · subst htn; exact h0
          · exact h1 t (by omega)
  rcases key T (Nat.le_refl _) with ⟨t, h1, h2, h3⟩ | ⟨h1, h2⟩
  · rw [h3]; exact ((r_fo_rk h hm h1).mpr h2).symm
  · rw [h2]
    rcases r_fo_spec h hm T (Nat.le_refl _) with ⟨h3, h4⟩ | ⟨u, h3, h4, h5⟩
    · rw [h4]
    · exact absurd ((r_fo_rk h hm h3).mp (by rw [h4])) (h1 u h3)
/-- who has won; -1 -/
def r_won (F : Nat → Nat → Int) (H : Nat → Int) (T : Nat) : Int := if (r_fo F H 47 T).1 ≠ -1 ∧ H (r_fo F H 47 T).1.toNat ≠ -1 then (r_fo F H 47 T).1 else -1
/-- the model's way: the last who is home and has rank 0 -/
def r_wi (H R : Nat → Int) : Nat → Int
  | 0 => -1
  | n + 1 => if H n ≠ -1 ∧ R n = 0 then (n : Int) else r_wi H R n
theorem r_wi_won (h : r_ok F H T) : r_wi H (fun t => r_rk F H t 47 T) T = r_won F H T := by
  have key : ∀ n, n ≤ T → ((∃ t : Nat, t < n ∧ H t ≠ -1 ∧ r_rk F H t 47 T = 0 ∧ r_wi H (fun t => r_rk F H t 47 T) n = t) ∨ ((∀ t, t < n → ¬ (H t ≠ -1 ∧ r_rk F H t 47 T = 0)) ∧ r_wi H (fun t => r_rk F H t 47 T) n = -1)) := by
    intro n
    induction n with
    | zero => intro _; exact Or.inr ⟨fun t ht => by omega, rfl⟩
    | succ n ih =>
      intro hn
      unfold r_wi
      by_cases h0 : H n ≠ -1 ∧ r_rk F H n 47 T = 0
      · rw [if_pos h0]; exact Or.inl ⟨n, by omega, h0.1, h0.2, rfl⟩
      · rw [if_neg h0]
        rcases ih (by omega) with ⟨t, h1, h2, h3, h4⟩ | ⟨h1, h2⟩
        · exact Or.inl ⟨t, by omega, h2, h3, h4⟩
        · refine Or.inr ⟨fun t ht => ?_, h2⟩
          by_cases htn : t = n
          · subst htn; exact h0
          · exact h1 t (by omega)
  unfold r_won
  rcases key T (Nat.le_refl _) with ⟨t, h1, h2, h3, h4⟩ | ⟨h1, h2⟩
  · have h5 := (r_fo_rk h (show 47 < 48 by omega) h1).mpr h3
    rw [h4, h5, if_pos]
    exact ⟨by omega, by rw [Int.toNat_natCast]; exact h2⟩
  · rw [h2]
    rcases r_fo_spec h (show 47 < 48 by omega) T (Nat.le_refl _) with ⟨h3, h4⟩ | ⟨u, h3, h4, h5⟩
    · rw [h4]; rfl
    · have h6 := (r_fo_rk h (show 47 < 48 by omega) h3).mp (by rw [h4])
      rw [h4, if_neg]
      rintro ⟨-, h7⟩
      rw [Int.toNat_natCast] at h7
      exact h1 u h3 ⟨h7, h6⟩
/-- the class's way: the greatest standing above 4095 -/
def r_ww (V : Nat → Int) : Nat → Int × Int
  | 0 => (-1, 4095)
  | n + 1 => if (r_ww V n).2 < V n then ((n : Int), V n) else r_ww V n
theorem r_ww_won (h : r_ok F H T) : (r_ww (fun t => r_V F H t 47) T).1 = r_won F H T := by
  have hom : ∀ t, t < T → (H t ≠ -1 ↔ 4095 < r_V F H t 47) := by
    intro t ht
    have h1 := h.1
    obtain ⟨a1, a2⟩ := (h.2 t ht).1 47 (by omega)
    obtain ⟨a3, a4⟩ := (h.2 t ht).2
    unfold r_V
    by_cases c : H t ≠ -1 ∧ H t ≤ ((47 : Nat) : Int)
    · rw [if_pos c]; omega
    · rw [if_neg c]; omega
  have key : ∀ n, n ≤ T → ((∃ t : Nat, t < n ∧ H t ≠ -1 ∧ (∀ o, o < n → r_V F H o 47 ≤ r_V F H t 47) ∧ r_ww (fun t => r_V F H t 47) n = ((t : Int), r_V F H t 47)) ∨ ((∀ t, t < n → ¬ (H t ≠ -1)) ∧ r_ww (fun t => r_V F H t 47) n = (-1, 4095))) := by
    intro n
    induction n with
    | zero => intro _; exact Or.inr ⟨fun t ht => by omega, rfl⟩
    | succ n ih =>
      intro hn
      have hh := hom n (by omega)
      unfold r_ww
      rcases ih (by omega) with ⟨t, h1, h2, h3, h4⟩ | ⟨h1, h2⟩
      · rw [h4]
        dsimp only
        have ht := (hom t (by omega)).mp h2
        by_cases hlt : r_V F H t 47 < r_V F H n 47
        · rw [if_pos hlt]
          refine Or.inl ⟨n, by omega, hh.mpr (by omega), fun o ho => ?_, rfl⟩
          by_cases hon : o = n
          · subst hon; exact Int.le_refl _
          · have := h3 o (by omega); omega
        · rw [if_neg hlt]
          refine Or.inl ⟨t, by omega, h2, fun o ho => ?_, rfl⟩
          by_cases hon : o = n
          · subst hon; omega
          · exact h3 o (by omega)
      · rw [h2]
        dsimp only
        by_cases hlt : 4095 < r_V F H n 47
        · rw [if_pos hlt]
          refine Or.inl ⟨n, by omega, hh.mpr hlt, fun o ho => ?_, rfl⟩
          by_cases hon : o = n
          · subst hon; exact Int.le_refl _
          · have h5 := h1 o (by omega)
            have h6 := hom o (by omega)
            have : ¬ 4095 < r_V F H o 47 := fun q => h5 (h6.mpr q)
            omega
        · rw [if_neg hlt]
          refine Or.inr ⟨fun t ht => ?_, rfl⟩
          by_cases htn : t = n
          · subst htn; intro q; exact hlt (hh.mp q)
          · exact h1 t (by omega)
  unfold r_won
  rcases r_fo_spec h (show 47 < 48 by omega) T (Nat.le_refl _) with ⟨h3, h4⟩ | ⟨u, h3, h4, h5⟩
  · subst h3; rfl
  · rw [h4]
    dsimp only
    rw [Int.toNat_natCast]
    rcases key T (Nat.le_refl _) with ⟨t, h1, h2, h6, h7⟩ | ⟨h1, h2⟩
    · rw [h7]
      dsimp only
      have hut : u = t := by
        by_cases hne : u = t
        · exact hne
        · have := r_V_ne h h3 h1 (show 47 < 48 by omega) hne
          have := h5 t h1
          have := h6 u h3
          omega
      subst hut
      rw [if_pos ⟨by omega, h2⟩]
    · rw [h2, if_neg (fun q => h1 u h3 q.2)]
end Rank19
