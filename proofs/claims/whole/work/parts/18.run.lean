/-! MATHEMATICS: one team's run, moment by moment -/
def t_str (so pa own : Int) (rn : Bool) : Int :=
  if pa + (if so = 0 then (if own < 3 then 1 else if own < 6 then 0 else -1) else 0) - (if so = 2 ∧ own = 0 then 1 else 0) - (if rn = true then 1 else 0) < 1 then 1
  else pa + (if so = 0 then (if own < 3 then 1 else if own < 6 then 0 else -1) else 0) - (if so = 2 ∧ own = 0 then 1 else 0) - (if rn = true then 1 else 0)
theorem t_str_in {so pa own : Int} {rn : Bool} (h : 1 ≤ pa ∧ pa ≤ 9) : 1 ≤ t_str so pa own rn ∧ t_str so pa own rn ≤ 10 := by
  unfold t_str
  repeat' split
  all_goals omega
/-- how far it is behind a moment in which it goes on (or stands) -/
def t_far (so pa : Nat → Int) (r s : Bool) (st : Int × Nat × Int) : Int := if s = true then st.1 else st.1 + t_str (so st.2.1) (pa st.2.1) st.2.2 r
/-- far, leg, own moments -/
def t_nx (so pa : Nat → Int) (lg : Int) (r s : Bool) (st : Int × Nat × Int) : Int × Nat × Int :=
  if st.2.1 = 4 then st
  else if lg * ((st.2.1 : Int) + 1) ≤ t_far so pa r s st then (t_far so pa r s st, st.2.1 + 1, 0)
  else (t_far so pa r s st, st.2.1, st.2.2 + 1)
def t_S (so pa : Nat → Int) (lg : Int) (rn sd : Nat → Bool) : Nat → Int × Nat × Int
  | 0 => (0, 0, 0)
  | m + 1 => t_nx so pa lg (rn m) (sd m) (t_S so pa lg rn sd m)
/-- the moment in which leg l is done, among the first m; -1 -/
def t_E (so pa : Nat → Int) (lg : Int) (rn sd : Nat → Bool) (l : Nat) : Nat → Int
  | 0 => -1
  | m + 1 => if (t_S so pa lg rn sd m).2.1 = l ∧ (t_S so pa lg rn sd (m + 1)).2.1 = l + 1 then (m : Int) else t_E so pa lg rn sd l m
/-- in how many of the first m moments it stands, ahead of home -/
def t_D (so pa : Nat → Int) (lg : Int) (rn sd : Nat → Bool) : Nat → Int
  | 0 => 0
  | m + 1 => t_D so pa lg rn sd m + (if ¬ (t_S so pa lg rn sd m).2.1 = 4 ∧ sd m = true then 1 else 0)
section Run18
variable {so pa : Nat → Int} {lg : Int} {rn sd : Nat → Bool}
theorem t_S_s (m : Nat) : t_S so pa lg rn sd (m + 1) = t_nx so pa lg (rn m) (sd m) (t_S so pa lg rn sd m) := rfl
theorem t_leg_step (m : Nat) : (t_S so pa lg rn sd (m + 1)).2.1 = (t_S so pa lg rn sd m).2.1 ∨ ((t_S so pa lg rn sd m).2.1 ≠ 4 ∧ (t_S so pa lg rn sd (m + 1)).2.1 = (t_S so pa lg rn sd m).2.1 + 1) := by
  rw [t_S_s]
  unfold t_nx
  split
  · exact Or.inl rfl
  · rename_i h
    split
    · exact Or.inr ⟨h, rfl⟩
    · exact Or.inl rfl
theorem t_leg_le (m : Nat) : (t_S so pa lg rn sd m).2.1 ≤ 4 := by
  induction m with
  | zero => exact Nat.zero_le _
  | succ m ih =>
    rcases t_leg_step (so := so) (pa := pa) (lg := lg) (rn := rn) (sd := sd) m with h | ⟨h1, h⟩ <;> omega
theorem t_leg_m (m : Nat) : (t_S so pa lg rn sd m).2.1 ≤ m := by
  induction m with
  | zero => exact Nat.zero_le _
  | succ m ih =>
    rcases t_leg_step (so := so) (pa := pa) (lg := lg) (rn := rn) (sd := sd) m with h | ⟨h1, h⟩ <;> omega
theorem t_leg_mono {a b : Nat} (h : a ≤ b) : (t_S so pa lg rn sd a).2.1 ≤ (t_S so pa lg rn sd b).2.1 := by
  induction b with
  | zero => have : a = 0 := by omega
            subst this; exact Nat.le_refl _
  | succ b ih =>
    by_cases hb : a = b + 1
    · subst hb; exact Nat.le_refl _
    · have := ih (by omega)
      rcases t_leg_step (so := so) (pa := pa) (lg := lg) (rn := rn) (sd := sd) b with h | ⟨h1, h⟩ <;> omega
/-- paces and the length as they may be -/
def t_ok (pa : Nat → Int) (lg : Int) : Prop := (∀ l, l < 4 → 1 ≤ pa l ∧ pa l ≤ 9) ∧ 10 ≤ lg ∧ lg ≤ 60
theorem t_mul {lg : Int} {l : Nat} (h : l < 4) : lg * ((l : Int) + 1) = (if l = 0 then lg else if l = 1 then 2 * lg else if l = 2 then 3 * lg else 4 * lg) := by
  rcases (show l = 0 ∨ l = 1 ∨ l = 2 ∨ l = 3 by omega) with rfl | rfl | rfl | rfl <;> simp <;> omega
theorem t_inv (h : t_ok pa lg) (m : Nat) : 0 ≤ (t_S so pa lg rn sd m).1 ∧ ((t_S so pa lg rn sd m).2.1 ≠ 4 → (t_S so pa lg rn sd m).1 < lg * (((t_S so pa lg rn sd m).2.1 : Int) + 1)) ∧ (t_S so pa lg rn sd m).1 ≤ 249 ∧ 0 ≤ (t_S so pa lg rn sd m).2.2 ∧ (t_S so pa lg rn sd m).2.2 ≤ m := by
  obtain ⟨hp, hl1, hl2⟩ := h
  induction m with
  | zero => exact ⟨Int.le_refl _, fun _ => by simp [t_S]; omega, by simp [t_S], Int.le_refl _, Int.le_refl _⟩
  | succ m ih =>
    obtain ⟨h1, h2, h3, h4, h5⟩ := ih
    have h6 := t_leg_le (so := so) (pa := pa) (lg := lg) (rn := rn) (sd := sd) m
    rw [t_S_s]
    generalize t_S so pa lg rn sd m = st at h1 h2 h3 h4 h5 h6 ⊢
    obtain ⟨f, l, o⟩ := st
    dsimp only at h1 h2 h3 h4 h5 h6
    unfold t_nx
    dsimp only
    by_cases h4l : l = 4
    · rw [if_pos h4l]
      exact ⟨h1, h2, h3, h4, by dsimp only; omega⟩
    · rw [if_neg h4l]
      have hl : l < 4 := by omega
      have hs := t_str_in (so := so l) (own := o) (rn := rn m) (hp l hl)
      have hf : f ≤ t_far so pa (rn m) (sd m) (f, l, o) ∧ t_far so pa (rn m) (sd m) (f, l, o) ≤ f + 10 := by
        unfold t_far
        dsimp only
        split <;> omega
      have h2' := h2 h4l
      rw [t_mul hl] at h2'
      by_cases hge : lg * ((l : Int) + 1) ≤ t_far so pa (rn m) (sd m) (f, l, o)
      · rw [if_pos hge]
        rw [t_mul hl] at hge
        generalize t_far so pa (rn m) (sd m) (f, l, o) = g at hf hge ⊢
        refine ⟨by dsimp only; omega, fun h5l => ?_, ?_, Int.le_refl _, by dsimp only; omega⟩
        · dsimp only at h5l ⊢
          rw [t_mul (by omega)]
          rcases (show l = 0 ∨ l = 1 ∨ l = 2 by omega) with rfl | rfl | rfl <;> simp at h2' hge ⊢ <;> omega
        · dsimp only
          rcases (show l = 0 ∨ l = 1 ∨ l = 2 ∨ l = 3 by omega) with rfl | rfl | rfl | rfl <;> simp at h2' hge ⊢ <;> omega
      · rw [if_neg hge]
        rw [t_mul hl] at hge
        generalize t_far so pa (rn m) (sd m) (f, l, o) = g at hf hge ⊢
        refine ⟨by dsimp only; omega, fun _ => ?_, ?_, by dsimp only; omega, by dsimp only; omega⟩
        · dsimp only
          rw [t_mul hl]
          omega
        · dsimp only
          rcases (show l = 0 ∨ l = 1 ∨ l = 2 ∨ l = 3 by omega) with rfl | rfl | rfl | rfl <;> simp at h2' hge ⊢ <;> omega
/-- who is as far as the next leg's end didn't stand -/
theorem t_go (h : t_ok pa lg) {m : Nat} (hm : (t_S so pa lg rn sd (m + 1)).2.1 = (t_S so pa lg rn sd m).2.1 + 1) : sd m = false := by
  have hi := (t_inv (so := so) (rn := rn) (sd := sd) h m).2.1
  rw [t_S_s] at hm
  unfold t_nx at hm
  split at hm
  · omega
  · rename_i h4
    have hi := hi h4
    split at hm
    · rename_i hge
      cases hs : sd m with
      | false => rfl
      | true =>
        rw [hs] at hge
        simp [t_far] at hge
        omega
    · dsimp only at hm; omega
theorem t_E_s (l m : Nat) : t_E so pa lg rn sd l (m + 1) = if (t_S so pa lg rn sd m).2.1 = l ∧ (t_S so pa lg rn sd (m + 1)).2.1 = l + 1 then (m : Int) else t_E so pa lg rn sd l m := rfl
theorem t_E_in (l m : Nat) : -1 ≤ t_E so pa lg rn sd l m ∧ t_E so pa lg rn sd l m < m := by
  induction m with
  | zero => simp [t_E]
  | succ m ih =>
    rw [t_E_s]
    split <;> omega
/-- done by then -/
theorem t_E_iff (l : Nat) : ∀ (n k : Nat), k < n → ((t_E so pa lg rn sd l n ≠ -1 ∧ t_E so pa lg rn sd l n ≤ k) ↔ l < (t_S so pa lg rn sd (k + 1)).2.1) := by
  intro n
  induction n with
  | zero => intro k hk; omega
  | succ n ih =>
    intro k hk
    have hstep := t_leg_step (so := so) (pa := pa) (lg := lg) (rn := rn) (sd := sd) n
    have hin := t_E_in (so := so) (pa := pa) (lg := lg) (rn := rn) (sd := sd) l n
    rw [t_E_s]
    by_cases hc : (t_S so pa lg rn sd n).2.1 = l ∧ (t_S so pa lg rn sd (n + 1)).2.1 = l + 1
    · rw [if_pos hc]
      by_cases hkn : k = n
      · subst hkn; omega
      · have hmono := t_leg_mono (so := so) (pa := pa) (lg := lg) (rn := rn) (sd := sd) (show k + 1 ≤ n by omega)
        omega
    · rw [if_neg hc]
      by_cases hkn : k = n
      · subst hkn
        by_cases hz : k = 0
        · subst hz
          have h0 : (t_S so pa lg rn sd 0).2.1 = 0 := rfl
          have hE : t_E so pa lg rn sd l 0 = -1 := rfl
          rw [h0] at hc hstep
          rw [hE]
          omega
        · obtain ⟨k', rfl⟩ : ∃ k', k = k' + 1 := ⟨k - 1, by omega⟩
          have h1 := ih k' (by omega)
          push_cast at hin ⊢
          omega
      · exact ih k (by omega)
theorem t_E_end {l n k : Nat} (hk : k < n) : t_E so pa lg rn sd l (k + 1) = if t_E so pa lg rn sd l n ≠ -1 ∧ t_E so pa lg rn sd l n ≤ k then t_E so pa lg rn sd l n else -1 := by
  induction n with
  | zero => omega
  | succ n ih =>
    have hi := t_E_iff (so := so) (pa := pa) (lg := lg) (rn := rn) (sd := sd) l (n + 1) k hk
    by_cases hkn : k = n
    · subst hkn
      have hin := t_E_in (so := so) (pa := pa) (lg := lg) (rn := rn) (sd := sd) l (k + 1)
      push_cast at hin
      by_cases h9 : t_E so pa lg rn sd l (k + 1) = -1
      · rw [if_neg (by omega)]; exact h9
      · rw [if_pos ⟨h9, by omega⟩]
    · have h2 := ih (by omega)
      have hi2 := t_E_iff (so := so) (pa := pa) (lg := lg) (rn := rn) (sd := sd) l n k (by omega)
      rw [h2, t_E_s]
      by_cases hc : (t_S so pa lg rn sd n).2.1 = l ∧ (t_S so pa lg rn sd (n + 1)).2.1 = l + 1
      · rw [t_E_s, if_pos hc] at hi
        rw [if_pos hc]
        have hnot : ¬ (t_E so pa lg rn sd l n ≠ -1 ∧ t_E so pa lg rn sd l n ≤ k) := by
          rw [hi2, ← hi]; omega
        rw [if_neg hnot, if_neg (by omega)]
      · rw [if_neg hc]
theorem t_S_home {m : Nat} (h : (t_S so pa lg rn sd m).2.1 = 4) : t_S so pa lg rn sd (m + 1) = t_S so pa lg rn sd m := by
  rw [t_S_s]; unfold t_nx; rw [if_pos h]
/-- the moment ahead of the leg under way -/
def t_P (so pa : Nat → Int) (lg : Int) (rn sd : Nat → Bool) (l m : Nat) : Int := if l = 0 then -1 else t_E so pa lg rn sd (l - 1) m
theorem t_own (m : Nat) : (t_S so pa lg rn sd m).2.1 ≠ 4 → (t_S so pa lg rn sd m).2.2 = (m : Int) - 1 - t_P so pa lg rn sd (t_S so pa lg rn sd m).2.1 m := by
  induction m with
  | zero => intro _; rfl
  | succ m ih =>
    intro h
    have hstep := t_leg_step (so := so) (pa := pa) (lg := lg) (rn := rn) (sd := sd) m
    have hle := t_leg_le (so := so) (pa := pa) (lg := lg) (rn := rn) (sd := sd) m
    rcases hstep with hs | ⟨h1, hs⟩
    · have h4 : (t_S so pa lg rn sd m).2.1 ≠ 4 := by omega
      have ih := ih h4
      have ho : (t_S so pa lg rn sd (m + 1)).2.2 = (t_S so pa lg rn sd m).2.2 + 1 := by
        rw [t_S_s] at hs ⊢
        unfold t_nx at hs ⊢
        rw [if_neg h4] at hs ⊢
        split at hs
        · dsimp only at hs; omega
        · rename_i hq; rw [if_neg hq]
      have hP : t_P so pa lg rn sd (t_S so pa lg rn sd (m + 1)).2.1 (m + 1) = t_P so pa lg rn sd (t_S so pa lg rn sd m).2.1 m := by
        rw [hs]
        unfold t_P
        split
        · rfl
        · rw [t_E_s, if_neg (by omega)]
      rw [ho, ih, hP]
      push_cast
      omega
    · have ho : (t_S so pa lg rn sd (m + 1)).2.2 = 0 := by
        rw [t_S_s] at hs ⊢
        unfold t_nx at hs ⊢
        rw [if_neg h1] at hs ⊢
        split at hs
        · rename_i hq; rw [if_pos hq]
        · dsimp only at hs; omega
      have hP : t_P so pa lg rn sd (t_S so pa lg rn sd (m + 1)).2.1 (m + 1) = m := by
        rw [hs]
        unfold t_P
        rw [if_neg (by omega), t_E_s, if_pos ⟨by omega, by omega⟩]
      rw [ho, hP]
      push_cast
      omega
/-- how long leg l lasted, among the first m moments -/
def t_L (so pa : Nat → Int) (lg : Int) (rn sd : Nat → Bool) (l m : Nat) : Int := if t_E so pa lg rn sd l m = -1 then -1 else t_E so pa lg rn sd l m - t_P so pa lg rn sd l m
theorem t_L_s (l m : Nat) : t_L so pa lg rn sd l (m + 1) = if (t_S so pa lg rn sd m).2.1 = l ∧ (t_S so pa lg rn sd (m + 1)).2.1 = l + 1 then (t_S so pa lg rn sd m).2.2 + 1 else t_L so pa lg rn sd l m := by
  have hle := t_leg_le (so := so) (pa := pa) (lg := lg) (rn := rn) (sd := sd) (m + 1)
  by_cases hc : (t_S so pa lg rn sd m).2.1 = l ∧ (t_S so pa lg rn sd (m + 1)).2.1 = l + 1
  · rw [if_pos hc]
    have ho := t_own (so := so) (pa := pa) (lg := lg) (rn := rn) (sd := sd) m (by omega)
    rw [hc.1] at ho
    unfold t_L
    rw [t_E_s, if_pos hc, if_neg (by omega), ho]
    have hP : t_P so pa lg rn sd l (m + 1) = t_P so pa lg rn sd l m := by
      unfold t_P
      split
      · rfl
      · rw [t_E_s, if_neg (by omega)]
    rw [hP]
    omega
  · rw [if_neg hc]
    unfold t_L
    rw [t_E_s, if_neg hc]
    by_cases h9 : t_E so pa lg rn sd l m = -1
    · rw [if_pos h9, if_pos h9]
    · rw [if_neg h9, if_neg h9]
      have hP : t_P so pa lg rn sd l (m + 1) = t_P so pa lg rn sd l m := by
        unfold t_P
        split
        · rfl
        · rename_i hl0
          rw [t_E_s, if_neg]
          intro hq
          have hin := t_E_in (so := so) (pa := pa) (lg := lg) (rn := rn) (sd := sd) l m
          have hm0 : m ≠ 0 := by
            intro hz; subst hz; exact h9 rfl
          obtain ⟨m', rfl⟩ : ∃ m', m = m' + 1 := ⟨m - 1, by omega⟩
          have hi := (t_E_iff (so := so) (pa := pa) (lg := lg) (rn := rn) (sd := sd) l (m' + 1) m' (by omega)).mp ⟨h9, by push_cast at hin; omega⟩
          omega
      rw [hP]
end Run18
