/-! each instruction of the abstract machine is the machine's own -/
section Steps8
variable {p : Program} {l : Launch} {e : Env} {R : Room} {s : State} {m : MethodId} {args : Array Value} {below : List Frame} {meth : Method} {c : Code} {Q : State → Prop} {cells slots : Nat} {cc : ByteArray} {own : String} {nL : Nat} {rt : Option FieldType}
variable {ad : Nat → Nat} {cA : Nat → ClassId} {D : va_G} {Ls : Nat} {w0 : ab_W} {mt : Nat → Option ab_M} {pcs : List Nat} {rm : Room}
theorem ab_ti2 {a b : Int32} {pc : Nat} {ls : Array Slot} {rest : List Value} {H : Heap} {locs : List Loc} (h : a = b) (k : W p l e R s m args below meth c H locs cells slots Q (F0 m pc ls (.int b :: rest))) : W p l e R s m args below meth c H locs cells slots Q (F0 m pc ls (.int a :: rest)) := h ▸ k
theorem ab_tl2 {a b : Int64} {pc : Nat} {ls : Array Slot} {rest : List Value} {H : Heap} {locs : List Loc} (h : a = b) (k : W p l e R s m args below meth c H locs cells slots Q (F0 m pc ls (.long b :: rest))) : W p l e R s m args below meth c H locs cells slots Q (F0 m pc ls (.long a :: rest)) := h ▸ k
theorem ab_fv_set {w : ab_W} {q k : Nat} {x : Int} {fs : List (Option Nat)} (h : fs[k]? = some none) : (fs.mapIdx (ab_fv ad w q)).set k (.int (Int32.ofInt x)) = fs.mapIdx (ab_fv ad (ab_up w q (k : Int) x) q) := by
  apply List.ext_getElem?
  intro j
  have hl : k < (fs.mapIdx (ab_fv ad w q)).length := by
    rw [List.length_mapIdx]
    exact (List.getElem?_eq_some_iff.mp h).1
  by_cases hj : j = k
  · subst hj
    rw [List.getElem?_set_self hl, List.getElem?_mapIdx, h]
    simp [ab_fv, ab_up]
  · rw [List.getElem?_set_ne (Ne.symm hj), List.getElem?_mapIdx, List.getElem?_mapIdx]
    cases hf : fs[j]? with
    | none => rfl
    | some f =>
      cases f with
      | none =>
        have hj2 : ¬ (j : Int) = (k : Int) := by omega
        simp [ab_fv, ab_up, hj2]
      | some z => rfl
theorem ab_okW_up {w : ab_W} {q : Nat} {i x : Int} (h : ab_okW w) (h1 : ab_r64 x) (h2 : ab_arr 1 q = none → ab_r32 x) : ab_okW (ab_up w q i x) := by
  intro p j
  unfold ab_up
  by_cases hp : p = q
  · subst hp
    rw [if_pos rfl]
    by_cases hj : j = i
    · rw [if_pos hj]; exact ⟨h1, h2⟩
    · rw [if_neg hj]; exact h p j
  · rw [if_neg hp]; exact h p j
theorem ab_r3264 {x : Int} (h : ab_r32 x) : ab_r64 x := by
  obtain ⟨h1, h2⟩ := h
  exact ⟨by omega, by omega⟩
theorem ab_rel_up {w : ab_W} {H1 : Heap} {locs1 : List Loc} {q : Nat} {i x : Int} (hq : q < 69) (hro : ∀ p, 100 ≤ p → w p = w0 p) (hok : ab_okW (ab_up w q i x)) (hP : va_P D ab_cl (ab_ws ad cA (ab_up w q i x)) H1) (hS : va_S (ab_A ad s.heap.size) s.heap H1 locs1) : ab_rel ad cA D s w0 (ab_up w q i x) H1 locs1 :=
  ⟨hP, hS, fun p hp => by rw [ab_up_ne (by omega)]; exact hro p hp, hok⟩
theorem ab_cons_ok {v : ab_V} {S : List ab_V} (h : ab_ok v) (hS : ∀ x ∈ S, ab_ok x) : ∀ x ∈ v :: S, ab_ok x := fun x hx => by
  rcases List.mem_cons.mp hx with rfl | hx
  · exact h
  · exact hS x hx
theorem ab_tail_ok {v : ab_V} {S : List ab_V} (hS : ∀ x ∈ v :: S, ab_ok x) : ∀ x ∈ S, ab_ok x := fun x hx => hS x (List.mem_cons_of_mem _ hx)
/-- behind a call -/
theorem ab_behind {H : Heap} {locs : List Loc} {pc : Nat} {ls : Array Slot} {st0 : List Value} {S : List ab_V} {w : ab_W} {post : Option ab_V → ab_W → Prop} {a : Array Value}
    (hr : va_Run p l e R s m args below meth c H locs cells slots 0 0 (F0 m pc ls st0) (S.map (ab_c ad)) (ab_Qc ad cA D w H.size post a) (ab_A ad H.size)) (hS : va_S (ab_A ad s.heap.size) s.heap H locs)
    (kk : ∀ (r : Option ab_V) (w' : ab_W) (H1 : Heap) (locs1 : List Loc), post r w' → ab_okO r → va_P D ab_cl (ab_ws ad cA w') H1 → ab_okW w' → (∀ p, 100 ≤ p → w' p = w p) → va_S (ab_A ad s.heap.size) s.heap H1 locs1 → W p l e R s m args below meth c H1 locs1 cells slots Q (F0 m (pc + 3) ls ((ab_rp r S).map (ab_c ad)))) : W p l e R s m args below meth c H locs cells slots Q (F0 m pc ls st0) := by
  have hA : ∀ q, q < H.size → ab_A ad H.size q → ab_A ad s.heap.size q := fun q h1 h2 => by
    rcases h2 with h2 | h2
    · exact Or.inl h2
    · omega
  have hf : ∀ q, ab_A ad H.size q → ab_A ad s.heap.size q := fun q h2 => by
    rcases h2 with h2 | h2
    · exact Or.inl h2
    · exact Or.inr (Nat.le_trans hS.1 h2)
  intro T hT X
  obtain ⟨v, st₀, t, T', L, h0, X', hL, e1, e2, ⟨⟨r, w', hv, hp, hok, hP, hW, hro⟩, hz, hk⟩, st⟩ := hr T hT X
  cases hv
  rw [h0] at hz hk
  obtain ⟨t2, a1, b1⟩ := kk r w' T'.heap (locs ++ L) hp hok (by rw [e1]; exact hP) hW hro
    ⟨Nat.le_trans hS.1 (by rw [e1]; exact hz), fun q h1 h2 => by rw [e1, hk q (Nat.lt_of_lt_of_le h1 hS.1) (fun z => h2 (hA q (Nat.lt_of_lt_of_le h1 hS.1) z))]; exact hS.2.1 q h1 h2, fun q hq => by
      rcases List.mem_append.mp hq with h | h
      · exact hS.2.2 q h
      · exact hf _ (hL q h)⟩ T' rfl X'
  refine ⟨t2, st t2 ?_, b1⟩
  have e3 : (r.map (ab_c ad)).toList ++ S.map (ab_c ad) = (ab_rp r S).map (ab_c ad) := by cases r <;> rfl
  show Steps p.tables e below (T'.setTop (F0 m (pc + 3) ls ((r.map (ab_c ad)).toList ++ S.map (ab_c ad)))) t2
  rw [e3]
  exact a1
/-- the callee's start out of the caller's state -/
theorem ab_pre {H : Heap} {locs : List Loc} {w : ab_W} {as : List ab_V} (hKK : va_K D ab_cl (ab_tys cA) s) (hinj : ab_inj ad) (hX : ab_X ad Ls w0 (ab_A ad s.heap.size) s s.heap) (hw : ab_rel ad cA D s w0 w H locs) : ∀ U : State, U.heap = H → s.WarmedH U.vm → ab_Pc ad cA D Ls as w H.size (as.map (ab_c ad)).toArray U := by
  intro U hU hW
  obtain ⟨hP, hS, hro, hok⟩ := hw
  obtain ⟨x1, x2, x3, x4, x5, x6, x7, x8⟩ := hX
  have hnA : ∀ q, q < s.heap.size → ¬ ab_A ad s.heap.size q → q < H.size ∧ ¬ ab_A ad H.size q := by
    intro q h1 h2
    refine ⟨Nat.lt_of_lt_of_le h1 hS.1, fun z => ?_⟩
    rcases z with z | z
    · exact h2 (Or.inl z)
    · exact absurd (Nat.le_trans hS.1 z) (by omega)
  refine ⟨rfl, by rw [hU], by rw [hU]; exact hP, va_K.moved hW.alike hKK, hinj, hok, ?_⟩
  rw [hU]
  refine ⟨?_, (hnA _ x2 x3).1, (hnA _ x2 x3).2, ?_, (hnA _ x5 x6).1, (hnA _ x5 x6).2, ?_, x8⟩
  · rw [hro 100 (by omega)]
    exact (x1.kept (hS.2.1 _ x2 x3)).moved hW.alike
  · rw [hro 101 (by omega)]
    exact (x4.kept (hS.2.1 _ x5 x6)).moved hW.alike
  · obtain ⟨cf, kf, fi, f, a, cell, h1, h2, h3, h4, h5, h6, h7, h8⟩ := x7
    have ha : a < s.heap.size := (Array.getElem?_eq_some_iff.mp h5).1
    exact va_Z.moved hW.alike ⟨cf, kf, fi, f, a, cell, h1, h2, h3, h4, by rw [hS.2.1 a ha h8]; exact h5, h6, h7, (hnA a ha h8).2⟩
end Steps8
theorem ab_refs_len {q n : Nat} {rs : List Nat} (h : ab_refs q = some rs) (e : ab_shp[q]? = some (.inr (3, n, rs))) : rs.length = n := by
  have hh : ∀ sh ∈ ab_shp, (match sh with | .inr (3, n, rs) => rs.length = n | _ => True : Prop) := by
    unfold ab_shp
    simp only [List.forall_mem_cons, List.not_mem_nil, false_implies, implies_true, and_true, true_and, shA]
    decide
  exact hh _ (List.mem_of_getElem? e)
theorem ab_lcst (k : Fin 2) : Int64.ofNat k.val = Int64.ofInt (k.val : Int) := by revert k; decide +kernel
theorem ab_rc_of {as : List ab_V} {ci : Nat} (h : ab_rc as ci) : ∃ pl as', as = vR pl :: as' ∧ ab_ci pl = some ci := by
  unfold ab_rc at h
  split at h
  · exact ⟨_, _, rfl, h⟩
  · exact h.elim
