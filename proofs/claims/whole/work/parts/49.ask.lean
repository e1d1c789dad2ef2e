/-! MATHEMATICS: the own rank fixes all ranks -/
section Ask49
variable {T t m : Nat} {F1 F2 : Nat → Nat → Int} {H1 H2 : Nat → Int}
theorem rk_mono {a b : Nat} (h : ∀ o, o < T → r_V F1 H1 a m < r_V F1 H1 o m → r_V F2 H2 b m < r_V F2 H2 o m) : ∀ n, n ≤ T → r_rk F1 H1 a m n ≤ r_rk F2 H2 b m n
  | 0, _ => Int.le_refl _
  | n + 1, hn => by
    have ih := rk_mono h n (by omega)
    have h1 := h n (by omega)
    rw [r_rk_s, r_rk_s]
    by_cases g : r_V F1 H1 a m < r_V F1 H1 n m
    · rw [if_pos g, if_pos (h1 g)]; omega
    · rw [if_neg g]; split <;> omega
theorem rk_back {a b : Nat} (h : ∀ o, o < T → r_V F1 H1 a m < r_V F1 H1 o m → r_V F2 H2 b m < r_V F2 H2 o m) : ∀ n, n ≤ T → r_rk F1 H1 a m n = r_rk F2 H2 b m n → ∀ o, o < n → r_V F2 H2 b m < r_V F2 H2 o m → r_V F1 H1 a m < r_V F1 H1 o m
  | 0, _ => fun _ o ho => by omega
  | n + 1, hn => by
    intro he o ho hq
    have hm := rk_mono h n (by omega)
    have h1 := h n (by omega)
    rw [r_rk_s, r_rk_s] at he
    have heq : r_rk F1 H1 a m n = r_rk F2 H2 b m n := by
      by_cases g : r_V F1 H1 a m < r_V F1 H1 n m
      · rw [if_pos g, if_pos (h1 g)] at he; omega
      · rw [if_neg g] at he
        split at he <;> omega
    by_cases hon : o = n
    · subst hon
      rw [if_pos hq] at he
      by_cases g : r_V F1 H1 a m < r_V F1 H1 o m
      · exact g
      · rw [if_neg g] at he; omega
    · exact rk_back h n (by omega) heq o (by omega) hq
theorem rk_ext {a b : Nat} : ∀ n, (∀ o, o < n → (r_V F1 H1 a m < r_V F1 H1 o m ↔ r_V F2 H2 b m < r_V F2 H2 o m)) → r_rk F1 H1 a m n = r_rk F2 H2 b m n
  | 0, _ => rfl
  | n + 1, h => by
    rw [r_rk_s, r_rk_s, rk_ext n (fun o ho => h o (by omega))]
    by_cases g : r_V F1 H1 a m < r_V F1 H1 n m
    · rw [if_pos g, if_pos ((h n (by omega)).mp g)]
    · rw [if_neg g, if_neg (fun z => g ((h n (by omega)).mpr z))]
/-- others stand as they do; who is above t is then known by t's rank -/
theorem rk_above (hV : ∀ u, u < T → u ≠ t → r_V F1 H1 u m = r_V F2 H2 u m) (ht : t < T) (he : r_rk F1 H1 t m T = r_rk F2 H2 t m T) : ∀ o, o < T → (r_V F1 H1 t m < r_V F1 H1 o m ↔ r_V F2 H2 t m < r_V F2 H2 o m) := by
  by_cases hle : r_V F2 H2 t m ≤ r_V F1 H1 t m
  · have h : ∀ o, o < T → r_V F1 H1 t m < r_V F1 H1 o m → r_V F2 H2 t m < r_V F2 H2 o m := fun o ho hq => by
      by_cases hot : o = t
      · subst hot; omega
      · have := hV o ho hot; omega
    exact fun o ho => ⟨h o ho, rk_back h T (Nat.le_refl _) he o ho⟩
  · have h : ∀ o, o < T → r_V F2 H2 t m < r_V F2 H2 o m → r_V F1 H1 t m < r_V F1 H1 o m := fun o ho hq => by
      by_cases hot : o = t
      · subst hot; omega
      · have := hV o ho hot; omega
    exact fun o ho => ⟨rk_back h T (Nat.le_refl _) he.symm o ho, h o ho⟩
theorem rk_all (h1 : r_ok F1 H1 T) (h2 : r_ok F2 H2 T) (hm : m < 48) (hV : ∀ u, u < T → u ≠ t → r_V F1 H1 u m = r_V F2 H2 u m) (ht : t < T) (he : r_rk F1 H1 t m T = r_rk F2 H2 t m T) : ∀ u, u < T → r_rk F1 H1 u m T = r_rk F2 H2 u m T := by
  intro u hu
  have ha := rk_above hV ht he
  refine rk_ext T (fun o ho => ?_)
  by_cases hut : u = t
  · subst hut; exact ha o ho
  · by_cases hot : o = t
    · subst hot
      have n1 := r_V_ne h1 hu ht hm hut
      have n2 := r_V_ne h2 hu ht hm hut
      have := ha u hu
      omega
    · have e1 := hV u hu hut
      have e2 := hV o ho hot
      omega
end Ask49
/-- the rows are alike just where the own rank is -/
theorem Cf.rw_inj {c1 c2 : Cf} (hT : c1.T ≤ 4) (hTT : c2.T = c1.T) {m : Nat} : ∀ n, n ≤ c1.T → (c1.rw' m n = c2.rw' m n ↔ ∀ u, u < n → c1.R u m = c2.R u m)
  | 0, _ => ⟨fun _ u hu => by omega, fun _ => rfl⟩
  | n + 1, hn => by
    have ih := Cf.rw_inj hT hTT (m := m) n (by omega)
    have b1 := Cf.R4 hT (m := m) (show n < c1.T by omega)
    have b2 := Cf.R4 (c := c2) (by omega) (m := m) (show n < c2.T by omega)
    rw [Cf.rw_s, Cf.rw_s]
    constructor
    · intro h u hu
      by_cases hun : u = n
      · subst hun; omega
      · exact ih.mp (by omega) u (by omega)
    · intro h
      rw [ih.mpr (fun u hu => h u (by omega)), h n (by omega)]
theorem Cf.pc_ok {c : Cf} (h : c.ok) {t l : Nat} {v : Int} (ht : t < c.T) (hv : 1 ≤ v ∧ v ≤ 9) : (c.pc t l v).ok := Cf.sub_ok h (p_at_in (h.2.2.2 t ht) hv)
theorem Cf.pc_row {c : Cf} (h : c.ok) {t l m : Nat} {v v' : Int} (ht : t < c.T) (hm : m < 48) (hv : 1 ≤ v ∧ v ≤ 9) (hv' : 1 ≤ v' ∧ v' ≤ 9) : (c.pc t l v).rw' m c.T = (c.pc t l v').rw' m c.T ↔ (c.pc t l v).R t m = (c.pc t l v').R t m := by
  have k1 := Cf.pc_ok (l := l) h ht hv
  have k2 := Cf.pc_ok (l := l) h ht hv'
  refine (Cf.rw_inj (c1 := c.pc t l v) (c2 := c.pc t l v') h.1 rfl c.T (Nat.le_refl _)).trans ⟨fun z => z t ht, fun z => ?_⟩
  refine rk_all (t := t) (Cf.rok k1) (Cf.rok k2) hm (fun u hu hut => ?_) ht z
  have e1 : ∀ v, (c.pc t l v).F u m = c.F u m := fun v => Cf.sub_F_u hut
  have e2 : ∀ v, (c.pc t l v).H u = c.H u := fun v => Cf.sub_E_u hut
  unfold r_V
  rw [e1, e1, e2, e2]
/-- how many of the first n have o = r -/
def ct (P : Nat → Bool) (o : Nat → Int) (r : Int) : Nat → Int
  | 0 => 0
  | b + 1 => ct P o r b + (if P b = true ∧ o b = r then 1 else 0)
theorem ct_s {P : Nat → Bool} {o : Nat → Int} {r : Int} {b : Nat} : ct P o r (b + 1) = ct P o r b + (if P b = true ∧ o b = r then 1 else 0) := rfl
theorem ct_in {P : Nat → Bool} {o : Nat → Int} {r : Int} : ∀ b, 0 ≤ ct P o r b ∧ ct P o r b ≤ b
  | 0 => ⟨Int.le_refl _, Int.le_refl _⟩
  | b + 1 => by have := ct_in (P := P) (o := o) (r := r) b; rw [ct_s]; split <;> omega
theorem ct_some {P : Nat → Bool} {o : Nat → Int} {r : Int} : ∀ b, 0 < ct P o r b → ∃ a, a < b ∧ P a = true ∧ o a = r
  | 0, h => absurd h (Int.lt_irrefl _)
  | b + 1, h => by
    rw [ct_s] at h
    by_cases g : P b = true ∧ o b = r
    · exact ⟨b, by omega, g.1, g.2⟩
    · rw [if_neg g] at h
      obtain ⟨a, a1, a2, a3⟩ := ct_some (P := P) (o := o) (r := r) b (by omega)
      exact ⟨a, by omega, a2, a3⟩
/-- the greatest of the first n, 0 at least -/
def mx (f : Nat → Int) : Nat → Int
  | 0 => 0
  | n + 1 => if mx f n < f n then f n else mx f n
theorem mx_s {f : Nat → Int} {n : Nat} : mx f (n + 1) = if mx f n < f n then f n else mx f n := rfl
theorem mx_ge {f : Nat → Int} : ∀ n, 0 ≤ mx f n ∧ ∀ a, a < n → f a ≤ mx f n
  | 0 => ⟨Int.le_refl _, fun a ha => by omega⟩
  | n + 1 => by
    obtain ⟨h1, h2⟩ := mx_ge (f := f) n
    rw [mx_s]
    refine ⟨by split <;> omega, fun a ha => ?_⟩
    by_cases han : a = n
    · subst han; split <;> omega
    · have := h2 a (by omega); split <;> omega
theorem mx_le {f : Nat → Int} {B : Int} (hB : 0 ≤ B) : ∀ n, (∀ a, a < n → f a ≤ B) → mx f n ≤ B
  | 0, _ => hB
  | n + 1, h => by
    have h1 := mx_le hB n (fun a ha => h a (by omega))
    have h2 := h n (by omega)
    rw [mx_s]; split <;> omega
theorem ak_m_mx {P : Nat → Bool} {r : Nat → Int} : ∀ n, ak_m P r n = mx (fun a => ak_n P r a 10) n
  | 0 => rfl
  | n + 1 => by rw [ak_m_s, mx_s, ak_m_mx n]
theorem ak_n_ct {P : Nat → Bool} {r o : Nat → Int} {a : Nat} (ha : P a = true) : ∀ n, (∀ b, b < n → P b = true → (r a = r b ↔ o b = o a)) → ak_n P r a n = ct P o (o a) n
  | 0, _ => rfl
  | n + 1, h => by
    rw [ak_n_s, ct_s, ak_n_ct ha n (fun b hb => h b (by omega))]
    by_cases hP : P n = true
    · have := h n (by omega) hP
      by_cases g : r a = r n
      · rw [if_pos ⟨ha, hP, g⟩, if_pos ⟨hP, this.mp g⟩]
      · rw [if_neg (fun z => g z.2.2), if_neg (fun z => g (this.mpr z.2))]
    · rw [if_neg (fun z => hP z.2.1), if_neg (fun z => hP z.1)]
/-- the same greatest -/
theorem ak_same {P : Nat → Bool} {r o : Nat → Int} (hr : ∀ a b, a < 10 → b < 10 → P a = true → P b = true → (r a = r b ↔ o b = o a)) (ho : ∀ a, a < 10 → P a = true → 0 ≤ o a ∧ o a ≤ 3) : ak_m P r 10 = mx (fun k => ct P o (k : Int) 10) 4 := by
  rw [ak_m_mx]
  apply Int.le_antisymm
  · refine mx_le (mx_ge 4).1 10 (fun a ha => ?_)
    by_cases hP : P a = true
    · have e := ak_n_ct hP 10 (fun b hb hb2 => hr a b ha hb hP hb2)
      obtain ⟨o1, o2⟩ := ho a ha hP
      have := (mx_ge (f := fun k => ct P o (k : Int) 10) 4).2 (o a).toNat (by omega)
      rw [show (((o a).toNat : Nat) : Int) = o a by omega] at this
      rw [e]; exact this
    · rw [ak_n_0 (by simpa using hP)]; exact (mx_ge 4).1
  · refine mx_le (mx_ge 10).1 4 (fun k hk => ?_)
    by_cases hz : 0 < ct P o (k : Int) 10
    · obtain ⟨a, a1, a2, a3⟩ := ct_some 10 hz
      have e := ak_n_ct a2 10 (fun b hb hb2 => hr a b a1 hb a2 hb2)
      have := (mx_ge (f := fun a => ak_n P r a 10) 10).2 a a1
      rw [e, a3] at this
      exact this
    · have := (mx_ge (f := fun a => ak_n P r a 10) 10).1
      omega
theorem ak_b_in {M : Nat → Int} : ∀ m, ∃ b, b ≤ m ∧ ak_b M (m + 1) = ((b : Int), M b)
  | 0 => ⟨0, Nat.le_refl _, by rw [ak_b_s, if_pos (Or.inl (show (ak_b M 0).1 = -1 from rfl))]⟩
  | m + 1 => by
    obtain ⟨b, hb, e⟩ := ak_b_in (M := M) m
    rw [ak_b_s, e]
    dsimp only
    by_cases g : M (m + 1) < M b
    · exact ⟨m + 1, Nat.le_refl _, by rw [if_pos (Or.inr g)]⟩
    · exact ⟨b, by omega, by rw [if_neg (by omega)]⟩
