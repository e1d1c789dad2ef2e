/-! the abstract world and the machine's heap -/
def ab_c (ad : Nat → Nat) (v : ab_V) : Value := match v with
  | .inl x => .int (Int32.ofInt x)
  | .inr (.inl x) => .long (Int64.ofInt x)
  | .inr (.inr (some p)) => .ref (ad p)
  | .inr (.inr none) => .null
def ab_ok (v : ab_V) : Prop := match v with
  | .inl x => ab_r32 x
  | .inr (.inl x) => ab_r64 x
  | .inr (.inr _) => True
def ab_fv (ad : Nat → Nat) (w : ab_W) (k i : Nat) (f : Option Nat) : Value := match f with
  | none => .int (Int32.ofInt (w k (i : Int)))
  | some j => .ref (ad j)
def ab_cell (ad : Nat → Nat) (cA : Nat → ClassId) (w : ab_W) (k : Nat) (sh : ab_Sh) : va_E := match sh with
  | .inl (ci, fs) => .inr (ci, fs.mapIdx (ab_fv ad w k))
  | .inr (0, n, _) => .inl (cA 0, n, .inl (fun i => Int32.ofInt (w k (i : Int))))
  | .inr (1, n, _) => .inl (cA 1, n, .inr (.inl (fun i => Int64.ofInt (w k (i : Int)))))
  | .inr (2, n, _) => .inl (cA 2, n, .inl (fun i => Int32.ofInt (w k (i : Int))))
  | .inr (_, n, rs) => .inl (cA 3, n, .inr (.inr (.inr (.inr (fun i => (rs[i]?).map ad)))))
def ab_ws (ad : Nat → Nat) (cA : Nat → ClassId) (w : ab_W) : va_W := ab_shp.mapIdx (fun k sh => (ad k, ab_cell ad cA w k sh))
theorem ab_ws_get {ad : Nat → Nat} {cA : Nat → ClassId} {w : ab_W} {k : Nat} {sh : ab_Sh} (h : ab_shp[k]? = some sh) : (ab_ws ad cA w)[k]? = some (ad k, ab_cell ad cA w k sh) := by
  unfold ab_ws
  rw [List.getElem?_mapIdx, h]
  rfl
theorem ab_ws_of {ad : Nat → Nat} {cA : Nat → ClassId} {w : ab_W} {k : Nat} {q : Nat × va_E} (h : (ab_ws ad cA w)[k]? = some q) : ∃ sh, ab_shp[k]? = some sh ∧ q = (ad k, ab_cell ad cA w k sh) := by
  unfold ab_ws at h
  rw [List.getElem?_mapIdx] at h
  cases hs : ab_shp[k]? with
  | none => rw [hs] at h; cases h
  | some sh =>
    rw [hs] at h
    exact ⟨sh, rfl, (Option.some.inj h).symm⟩
theorem ab_cell_eq {ad : Nat → Nat} {cA : Nat → ClassId} {w w' : ab_W} {k : Nat} (h : w' k = w k) (sh : ab_Sh) : ab_cell ad cA w' k sh = ab_cell ad cA w k sh := by
  have hf : ab_fv ad w' k = ab_fv ad w k := by
    funext i f
    cases f <;> simp [ab_fv, h]
  unfold ab_cell
  rw [h, hf]
theorem ab_ws_set {ad : Nat → Nat} {cA : Nat → ClassId} {w w' : ab_W} {k : Nat} {sh : ab_Sh} {e : va_E} (hk : ab_shp[k]? = some sh) (he : e = ab_cell ad cA w' k sh) (h : ∀ j, j ≠ k → w' j = w j) : (ab_ws ad cA w).set k (ad k, e) = ab_ws ad cA w' := by
  apply List.ext_getElem?
  intro j
  have hl : k < (ab_ws ad cA w).length := (List.getElem?_eq_some_iff.mp (ab_ws_get (ad := ad) (cA := cA) (w := w) hk)).1
  by_cases hj : j = k
  · subst hj
    rw [List.getElem?_set_self hl, ab_ws_get hk, he]
  · rw [List.getElem?_set_ne (Ne.symm hj)]
    cases hs : ab_shp[j]? with
    | none =>
      unfold ab_ws
      rw [List.getElem?_mapIdx, List.getElem?_mapIdx, hs]
      rfl
    | some s2 =>
      rw [ab_ws_get hs, ab_ws_get hs, ab_cell_eq (h j hj)]
theorem ab_up_ne {w : ab_W} {p : Nat} {i v : Int} {j : Nat} (h : j ≠ p) : ab_up w p i v j = w j := by
  funext q
  simp [ab_up, h]
theorem ab_cp_ne {w : ab_W} {p q : Nat} {sp dp n : Int} {j : Nat} (h : j ≠ q) : ab_cp w p q sp dp n j = w j := by
  funext r
  simp [ab_cp, h]
-- what a shape says
theorem ab_fld_of {ci p k : Nat} {f : Option Nat} (h : ab_fld ci p k = some f) : ∃ fs, ab_shp[p]? = some (.inl (ci, fs)) ∧ fs[k]? = some f := by
  unfold ab_fld at h
  split at h
  next c fs e =>
    split at h
    next hc => subst hc; exact ⟨fs, e, h⟩
    next => cases h
  next => cases h
theorem ab_ci_of {p ci : Nat} (h : ab_ci p = some ci) : ∃ fs, ab_shp[p]? = some (.inl (ci, fs)) := by
  unfold ab_ci at h
  split at h
  next c fs e => cases h; exact ⟨fs, e⟩
  next => cases h
theorem ab_arr_of {kd p n : Nat} (h : ab_arr kd p = some n) : ∃ rs, ab_shp[p]? = some (.inr (kd, n, rs)) := by
  unfold ab_arr at h
  split at h
  next k m rs e =>
    split at h
    next hc => subst hc; cases h; exact ⟨rs, e⟩
    next => cases h
  next => cases h
theorem ab_refs_of {p : Nat} {rs : List Nat} (h : ab_refs p = some rs) : ∃ n, ab_shp[p]? = some (.inr (3, n, rs)) := by
  unfold ab_refs at h
  split at h
  next n rs' e => cases h; exact ⟨n, e⟩
  next => cases h
theorem ab_ro_of {Ls p n : Nat} (h : ab_ro Ls p = some n) : (p = 100 ∧ n = 5) ∨ (p = 101 ∧ n = Ls) := by
  unfold ab_ro at h
  split at h
  next e => cases h; exact Or.inl ⟨e, rfl⟩
  next =>
    split at h
    next e => cases h; exact Or.inr ⟨e, rfl⟩
    next => cases h
theorem ab_ild_of {Ls p n : Nat} (h : ab_ild Ls p = some n) : ab_arr 0 p = some n ∨ ab_ro Ls p = some n := by
  unfold ab_ild at h
  split at h
  next m e => cases h; exact Or.inl e
  next => exact Or.inr h
theorem ab_len_of {Ls p n : Nat} (h : ab_len Ls p = some n) : (∃ kd rs, ab_shp[p]? = some (.inr (kd, n, rs))) ∨ ab_ro Ls p = some n := by
  unfold ab_len at h
  split at h
  next k m rs e => cases h; exact Or.inl ⟨k, rs, e⟩
  next => exact Or.inr h
theorem ab_shp_small : ∀ (p : Nat) (kd n : Nat) (rs : List Nat), ab_shp[p]? = some (.inr (kd, n, rs)) → n ≤ 1024 := by
  have h : ∀ sh ∈ ab_shp, (match sh with | .inl _ => True | .inr (_, n, _) => n ≤ 1024 : Prop) := by
    unfold ab_shp
    simp only [List.forall_mem_cons, List.not_mem_nil, false_implies, implies_true, and_true, true_and, shA]
    decide
  intro p kd n rs hp
  exact h _ (List.mem_of_getElem? hp)
theorem ab_shp_69 {p : Nat} {sh : ab_Sh} (h : ab_shp[p]? = some sh) : p < 69 := (List.getElem?_eq_some_iff.mp h).1
/-- cells may be written: those of the two objects, and new ones -/
def ab_A (ad : Nat → Nat) (sz : Nat) : Nat → Prop := fun q => (∃ k, k < 69 ∧ q = ad k) ∨ sz ≤ q
def ab_inj (ad : Nat → Nat) : Prop := ∀ i j, i < 69 → j < 69 → ad i = ad j → i = j
theorem ab_ws_D {ad : Nat → Nat} {cA : Nat → ClassId} {w : ab_W} {sz : Nat} (h : ab_inj ad) : va_D (ab_A ad sz) (ab_ws ad cA w) := by
  refine ⟨fun i j x y hi hj hxy => ?_, fun k q hq => ?_⟩
  · obtain ⟨s1, e1, rfl⟩ := ab_ws_of hi
    obtain ⟨s2, e2, rfl⟩ := ab_ws_of hj
    exact h i j (ab_shp_69 e1) (ab_shp_69 e2) hxy
  · obtain ⟨s1, e1, rfl⟩ := ab_ws_of hq
    exact Or.inl ⟨k, ab_shp_69 e1, rfl⟩
-- the locals
theorem ab_st_len : ∀ (L : List ab_V) (n : Nat) (v : ab_V), (ab_st L n v).length = L.length
  | [], _, _ => rfl
  | _ :: _, 0, _ => rfl
  | _ :: L, n + 1, v => by
    show (ab_st L n v).length + 1 = L.length + 1
    rw [ab_st_len L n v]
theorem ab_st_get : ∀ (L : List ab_V) (n : Nat) (v : ab_V) (k : Nat) (v' : ab_V), (ab_st L n v)[k]? = some v' → v' ≠ vX → (k = n ∧ v' = v) ∨ (k ≠ n ∧ L[k]? = some v' ∧ ¬ (k + 1 = n ∧ ∃ x, v' = vL x))
  | [], _, _, k, v', h, _ => by simp [ab_st] at h
  | y :: L, 0, v, 0, v', h, _ => Or.inl ⟨rfl, (Option.some.inj h).symm⟩
  | y :: L, 0, v, k + 1, v', h, _ => Or.inr ⟨by omega, h, fun q => by omega⟩
  | y :: L, n + 1, v, 0, v', h, hx => by
    have h1 : ab_kl y n = v' := Option.some.inj h
    cases n with
    | zero =>
      rcases y with y | y | y
      · have h2 : v' = .inl y := h1.symm
        subst h2
        exact Or.inr ⟨by omega, rfl, fun q => by obtain ⟨-, x, hx⟩ := q; cases hx⟩
      · exact absurd h1.symm hx
      · have h2 : v' = .inr (.inr y) := h1.symm
        subst h2
        exact Or.inr ⟨by omega, rfl, fun q => by obtain ⟨-, x, hx⟩ := q; cases hx⟩
    | succ n =>
      have h2 : v' = y := h1.symm
      subst h2
      exact Or.inr ⟨by omega, rfl, fun q => by omega⟩
  | y :: L, n + 1, v, k + 1, v', h, hx => by
    rcases ab_st_get L n v k v' h hx with ⟨a, b⟩ | ⟨a, b, c⟩
    · exact Or.inl ⟨by omega, b⟩
    · exact Or.inr ⟨by omega, b, fun q => c ⟨by omega, q.2⟩⟩
theorem ab_st_ok : ∀ (L : List ab_V) (n : Nat) (v : ab_V), (∀ x ∈ L, ab_ok x) → ab_ok v → ∀ x ∈ ab_st L n v, ab_ok x
  | [], _, _, _, _, x, h => by simp [ab_st] at h
  | y :: L, 0, v, hL, hv, x, h => by
    rcases List.mem_cons.mp h with rfl | h
    · exact hv
    · exact hL x (List.mem_cons_of_mem _ h)
  | y :: L, n + 1, v, hL, hv, x, h => by
    rcases List.mem_cons.mp h with rfl | h
    · have hy := hL y List.mem_cons_self
      cases n with
      | zero =>
        rcases y with y | y | y
        · exact hy
        · trivial
        · trivial
      | succ n => exact hy
    · exact ab_st_ok L n v (fun z hz => hL z (List.mem_cons_of_mem _ hz)) hv x h
def ab_lp (ad : Nat → Nat) (L : List ab_V) : List (Nat × Value) := (List.range L.length).filterMap (fun k => match L[k]? with
  | some v => if v = vX then none else some (k, ab_c ad v)
  | none => none)
theorem ab_lp_mem {ad : Nat → Nat} {L : List ab_V} {q : Nat × Value} : q ∈ ab_lp ad L ↔ ∃ v, L[q.1]? = some v ∧ v ≠ vX ∧ q.2 = ab_c ad v := by
  unfold ab_lp
  rw [List.mem_filterMap]
  constructor
  · rintro ⟨k, hk, h⟩
    split at h
    next v e =>
      split at h
      next => cases h
      next hv =>
        cases h
        exact ⟨v, e, hv, rfl⟩
    next => cases h
  · rintro ⟨v, h1, h2, h3⟩
    refine ⟨q.1, List.mem_range.mpr (List.getElem?_eq_some_iff.mp h1).1, ?_⟩
    rw [h1]
    simp only [if_neg h2]
    rw [← h3]
/-- the frame's locals are those of the abstract machine -/
def ab_lr (ad : Nat → Nat) (nL : Nat) (L : List ab_V) (ls : Array Slot) : Prop := L.length = nL ∧ lv_has ls nL (ab_lp ad L) ∧ ∀ v ∈ L, ab_ok v
theorem ab_lr.at {ad : Nat → Nat} {nL : Nat} {L : List ab_V} {ls : Array Slot} (h : ab_lr ad nL L ls) {k : Nat} {v : ab_V} (hk : L[k]? = some v) (hv : v ≠ vX) : ls[k]? = some (.val (ab_c ad v)) :=
  h.2.1.2.2 (k, ab_c ad v) (ab_lp_mem.mpr ⟨v, hk, hv, rfl⟩)
theorem ab_c_cat {ad : Nat → Nat} {v : ab_V} : (ab_c ad v).category = 2 ↔ ∃ x, v = vL x := by
  rcases v with y | y | (_ | y)
  · exact ⟨fun h => (by cases h), fun ⟨x, h⟩ => (by cases h)⟩
  · exact ⟨fun _ => ⟨y, rfl⟩, fun _ => rfl⟩
  · exact ⟨fun h => (by cases h), fun ⟨x, h⟩ => (by cases h)⟩
  · exact ⟨fun h => (by cases h), fun ⟨x, h⟩ => (by cases h)⟩
theorem ab_lr.st {ad : Nat → Nat} {nL : Nat} {L : List ab_V} {ls ls' : Array Slot} {n : Nat} {v : ab_V} (h : ab_lr ad nL L ls) (hv : ab_ok v) (h2 : lv_has ls' nL ((n, ab_c ad v) :: (ab_lp ad L).filter (fun q => !(q.1 == n) && !(q.1 + 1 == n && q.2.category == 2)))) : ab_lr ad nL (ab_st L n v) ls' := by
  refine ⟨(ab_st_len L n v).trans h.1, ⟨h2.1, h2.2.1, fun q hq => ?_⟩, ab_st_ok L n v h.2.2 hv⟩
  obtain ⟨v', e1, e2, e3⟩ := ab_lp_mem.mp hq
  apply h2.2.2
  rcases ab_st_get L n v q.1 v' e1 e2 with ⟨a, b⟩ | ⟨a, b, c⟩
  · rw [← b, ← a, ← e3]
    exact List.mem_cons_self
  · apply List.mem_cons_of_mem
    rw [List.mem_filter]
    refine ⟨ab_lp_mem.mpr ⟨v', b, e2, e3⟩, ?_⟩
    simp only [Bool.and_eq_true, Bool.not_eq_true', beq_eq_false_iff_ne, ne_eq, Bool.and_eq_false_iff]
    refine ⟨a, ?_⟩
    by_cases hz : q.1 + 1 = n
    · refine Or.inr fun hc => c ⟨hz, ?_⟩
      rw [e3] at hc
      exact ab_c_cat.mp hc
    · exact Or.inl hz
theorem ab_lr.stl {ad : Nat → Nat} {nL : Nat} {L : List ab_V} {ls ls' : Array Slot} {n : Nat} {v : ab_V} (h : ab_lr ad nL L ls) (hv : ab_ok v) (h2 : lv_has ls' nL ((n, ab_c ad v) :: (ab_lp ad L).filter (fun q => !(q.1 == n) && (!(q.1 == n + 1) && !(q.1 + 1 == n && q.2.category == 2))))) : ab_lr ad nL (ab_stl L n v) ls' := by
  have hok : ∀ x ∈ ab_stl L n v, ab_ok x := ab_st_ok _ n v (ab_st_ok L (n + 1) vX h.2.2 trivial) hv
  refine ⟨((ab_st_len _ n v).trans (ab_st_len L _ _)).trans h.1, ⟨h2.1, h2.2.1, fun q hq => ?_⟩, hok⟩
  obtain ⟨v', e1, e2, e3⟩ := ab_lp_mem.mp hq
  apply h2.2.2
  rcases ab_st_get _ n v q.1 v' e1 e2 with ⟨a, b⟩ | ⟨a, b, c⟩
  · rw [← b, ← a, ← e3]
    exact List.mem_cons_self
  · rcases ab_st_get L (n + 1) vX q.1 v' b e2 with ⟨a2, b2⟩ | ⟨a2, b2, c2⟩
    · exact absurd b2 e2
    · apply List.mem_cons_of_mem
      rw [List.mem_filter]
      refine ⟨ab_lp_mem.mpr ⟨v', b2, e2, e3⟩, ?_⟩
      simp only [Bool.and_eq_true, Bool.not_eq_true', beq_eq_false_iff_ne, ne_eq, Bool.and_eq_false_iff]
      refine ⟨a, a2, ?_⟩
      by_cases hz : q.1 + 1 = n
      · refine Or.inr fun hc => c ⟨hz, ?_⟩
        rw [e3] at hc
        exact ab_c_cat.mp hc
      · exact Or.inl hz
-- what the readings of locals and stack say
theorem ab_gI_of {L : List ab_V} {n : Nat} {f : Int → Prop} (h : ab_gI L n f) : ∃ x, L[n]? = some (vI x) ∧ f x := by
  unfold ab_gI at h
  split at h
  next x e => exact ⟨x, e, h⟩
  next => exact h.elim
theorem ab_gL_of {L : List ab_V} {n : Nat} {f : Int → Prop} (h : ab_gL L n f) : ∃ x, L[n]? = some (vL x) ∧ f x := by
  unfold ab_gL at h
  split at h
  next x e => exact ⟨x, e, h⟩
  next => exact h.elim
theorem ab_gR_of {L : List ab_V} {n : Nat} {f : Nat → Prop} (h : ab_gR L n f) : ∃ x, L[n]? = some (vR x) ∧ f x := by
  unfold ab_gR at h
  split at h
  next x e => exact ⟨x, e, h⟩
  next => exact h.elim
theorem ab_pI_of {S : List ab_V} {f : Int → List ab_V → Prop} (h : ab_pI S f) : ∃ x S', S = vI x :: S' ∧ f x S' := by
  unfold ab_pI at h
  split at h
  next x S' => exact ⟨x, S', rfl, h⟩
  next => exact h.elim
theorem ab_pL_of {S : List ab_V} {f : Int → List ab_V → Prop} (h : ab_pL S f) : ∃ x S', S = vL x :: S' ∧ f x S' := by
  unfold ab_pL at h
  split at h
  next x S' => exact ⟨x, S', rfl, h⟩
  next => exact h.elim
theorem ab_pR_of {S : List ab_V} {f : Nat → List ab_V → Prop} (h : ab_pR S f) : ∃ x S', S = vR x :: S' ∧ f x S' := by
  unfold ab_pR at h
  split at h
  next x S' => exact ⟨x, S', rfl, h⟩
  next => exact h.elim
theorem ab_pII_of {S : List ab_V} {f : Int → Int → List ab_V → Prop} (h : ab_pII S f) : ∃ x y S', S = vI y :: vI x :: S' ∧ f x y S' := by
  unfold ab_pII at h
  split at h
  next y x S' => exact ⟨x, y, S', rfl, h⟩
  next => exact h.elim
theorem ab_pLL_of {S : List ab_V} {f : Int → Int → List ab_V → Prop} (h : ab_pLL S f) : ∃ x y S', S = vL y :: vL x :: S' ∧ f x y S' := by
  unfold ab_pLL at h
  split at h
  next y x S' => exact ⟨x, y, S', rfl, h⟩
  next => exact h.elim
theorem ab_pIL_of {S : List ab_V} {f : Int → Int → List ab_V → Prop} (h : ab_pIL S f) : ∃ x y S', S = vI y :: vL x :: S' ∧ f x y S' := by
  unfold ab_pIL at h
  split at h
  next y x S' => exact ⟨x, y, S', rfl, h⟩
  next => exact h.elim
theorem ab_pIR_of {S : List ab_V} {f : Nat → Int → List ab_V → Prop} (h : ab_pIR S f) : ∃ p i S', S = vI i :: vR p :: S' ∧ f p i S' := by
  unfold ab_pIR at h
  split at h
  next i p S' => exact ⟨p, i, S', rfl, h⟩
  next => exact h.elim
theorem ab_tk_of : ∀ (n : Nat) (acc S as S' : List ab_V), ab_tk n acc S = some (as, S') → ∃ bs, bs.length = n ∧ as = bs.reverse ++ acc ∧ S = bs ++ S'
  | 0, acc, S, as, S', h => by cases h; exact ⟨[], rfl, rfl, rfl⟩
  | n + 1, acc, [], as, S', h => by cases h
  | n + 1, acc, v :: S, as, S', h => by
    obtain ⟨bs, h1, h2, h3⟩ := ab_tk_of n (v :: acc) S as S' h
    exact ⟨v :: bs, by simp [h1], by simp [h2], by simp [h3]⟩
theorem ab_few_of {ad : Nat → Nat} {S : List ab_V} (h : ab_few S) : ((S.map (ab_c ad)).map fun v => v.category).sum ≤ 8 := by
  have hc : ∀ v : Value, v.category ≤ 2 := fun v => by rcases lv_cat v with h | h <;> omega
  unfold ab_few at h
  split at h
  · simp
  · rename_i a
    have := hc (ab_c ad a)
    simp only [List.map_cons, List.map_nil, List.sum_cons, List.sum_nil]
    omega
  · rename_i a b
    have := hc (ab_c ad a); have := hc (ab_c ad b)
    simp only [List.map_cons, List.map_nil, List.sum_cons, List.sum_nil]
    omega
  · rename_i a b c
    have := hc (ab_c ad a); have := hc (ab_c ad b); have := hc (ab_c ad c)
    simp only [List.map_cons, List.map_nil, List.sum_cons, List.sum_nil]
    omega
  · rename_i a b c d
    have := hc (ab_c ad a); have := hc (ab_c ad b); have := hc (ab_c ad c); have := hc (ab_c ad d)
    simp only [List.map_cons, List.map_nil, List.sum_cons, List.sum_nil]
    omega
  · exact h.elim
