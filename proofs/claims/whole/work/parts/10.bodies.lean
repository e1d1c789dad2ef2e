/-! blocks, bodies, methods -/
section Body10
variable {p : Program} {l : Launch} {e : Env} {R : Room} {s : State} {m : MethodId} {args : Array Value} {below : List Frame} {meth : Method} {c : Code} {Q : State → Prop} {cells slots : Nat} {cc : ByteArray} {own : String} {nL : Nat} {rt : Option FieldType}
variable {ad : Nat → Nat} {cA : Nat → ClassId} {D : va_G} {Ls : Nat} {w0 : ab_W} {mt : Nat → Option ab_M} {pcs : List Nat} {rm : Room}
variable {C : Nat → List ab_V → ab_W → (Option ab_V → ab_W → Prop) → Prop} {J : Nat → List ab_V → List ab_V → ab_W → Prop} {Rt : Option ab_V → ab_W → Prop}
theorem ab_blk (X : ab_ctx p s m args c cc nL own ad cA D Ls w0) (hcs : cells ≤ R.cells ∧ slots ≤ R.slots) (hC : ab_hC l R rm ad cA D Ls mt C) (hR : ab_hR p l e R s m args below meth c Q cells slots cc rt ad cA D w0 Rt)
    (hJ : ∀ (b t : Nat) (L S : List ab_V) (w : ab_W), pcs[b]? = some t → J b L S w → ab_G p l e R s m args below meth c Q cells slots ad cA D w0 nL t L S w) (nx : Nat) :
    ∀ (is : List ab_I) (pc : Nat) (L S : List ab_V) (w : ab_W), ab_ckb mt own cc rt nL pcs nx pc is → ab_wb Ls C J Rt nx is L S w → ab_G p l e R s m args below meth c Q cells slots ad cA D w0 nL pc L S w := by
  intro is
  induction is with
  | nil => exact fun pc L S w h1 h2 => hJ nx pc L S w h1 h2
  | cons i is ih =>
    intro pc L S w h1 h2
    obtain ⟨op, ex, z⟩ := i
    rcases h1 with h1 | ⟨n, hdg, hn, hck, hnext⟩
    · have h3 : ab_wp Ls C J Rt (ab_wb Ls C J Rt nx is) op ex z L S w := h2
      have h1 : op = .athrow := h1
      rw [h1] at h3
      exact h3.elim
    · refine ab_step X hcs hC hR (pcs := pcs) (mt := mt) (rt := rt) hJ (K := ab_wb Ls C J Rt nx is) (fun hst L S w hk => ?_) hdg hn hck h2
      rcases hnext with hs | hnext
      · have hs : ab_stop op = true := hs
        rw [hst] at hs; cases hs
      · exact ih _ L S w hnext hk
theorem ab_bdy (X : ab_ctx p s m args c cc nL own ad cA D Ls w0) (hcs : cells ≤ R.cells ∧ slots ≤ R.slots) (hC : ab_hC l R rm ad cA D Ls mt C) (hR : ab_hR p l e R s m args below meth c Q cells slots cc rt ad cA D w0 Rt) {bl : List (List ab_I)} (hck : ab_ckm mt own cc rt nL pcs bl) {b t : Nat} {L S : List ab_V} {w : ab_W} (hb : pcs[b]? = some t) (h : Ev Ls C Rt bl b L S w) : ab_G p l e R s m args below meth c Q cells slots ad cA D w0 nL t L S w := by
  refine h (fun b L S w => ∀ t, pcs[b]? = some t → ab_G p l e R s m args below meth c Q cells slots ad cA D w0 nL t L S w) ?_ t hb
  intro b L S w hat t ht
  unfold ab_at at hat
  split at hat
  · rename_i is hbl
    obtain ⟨pc, hpc, hckb⟩ := hck.2 b is hbl
    cases ht.symm.trans hpc
    exact ab_blk X hcs hC hR (fun b t L S w h1 h2 => h2 t h1) (b + 1) is t L S w hckb hat
  · exact hat.elim
end Body10
-- the locals at a method's entry
def ab_il : List ab_V → List ab_V
  | [] => []
  | .inr (.inl x) :: vs => vL x :: vX :: ab_il vs
  | .inl x :: vs => vI x :: ab_il vs
  | .inr (.inr x) :: vs => .inr (.inr x) :: ab_il vs
def ab_init (nL : Nat) (as : List ab_V) : List ab_V := ab_il as ++ List.replicate (nL - (ab_il as).length) vX
theorem ab_il_len (ad : Nat → Nat) : ∀ as : List ab_V, (lg_sl (as.map (ab_c ad))).length = (ab_il as).length
  | [] => rfl
  | .inl x :: vs => by
    have e : lg_sl ((Sum.inl x :: vs : List ab_V).map (ab_c ad)) = [Slot.val (.int (Int32.ofInt x))] ++ lg_sl (vs.map (ab_c ad)) := rfl
    rw [e, List.length_append, ab_il_len ad vs]
    show 1 + _ = (ab_il vs).length + 1
    omega
  | .inr (.inl x) :: vs => by
    have e : lg_sl ((Sum.inr (Sum.inl x) :: vs : List ab_V).map (ab_c ad)) = [Slot.val (.long (Int64.ofInt x)), Slot.second] ++ lg_sl (vs.map (ab_c ad)) := rfl
    rw [e, List.length_append, ab_il_len ad vs]
    show 2 + _ = (ab_il vs).length + 1 + 1
    omega
  | .inr (.inr (some x)) :: vs => by
    have e : lg_sl ((Sum.inr (Sum.inr (some x)) :: vs : List ab_V).map (ab_c ad)) = [Slot.val (.ref (ad x))] ++ lg_sl (vs.map (ab_c ad)) := rfl
    rw [e, List.length_append, ab_il_len ad vs]
    show 1 + _ = (ab_il vs).length + 1
    omega
  | .inr (.inr none) :: vs => by
    have e : lg_sl ((Sum.inr (Sum.inr none) :: vs : List ab_V).map (ab_c ad)) = [Slot.val .null] ++ lg_sl (vs.map (ab_c ad)) := rfl
    rw [e, List.length_append, ab_il_len ad vs]
    show 1 + _ = (ab_il vs).length + 1
    omega
theorem ab_il_mem (ad : Nat → Nat) : ∀ (as : List ab_V) (i k : Nat) (v : ab_V), (ab_il as)[k]? = some v → v ≠ vX → (i + k, ab_c ad v) ∈ lv_args i (as.map (ab_c ad))
  | [], i, k, v, h, _ => by simp [ab_il] at h
  | .inl x :: vs, i, 0, v, h, _ => by
    cases (Option.some.inj h)
    exact List.mem_cons_self
  | .inl x :: vs, i, k + 1, v, h, hv => by
    have := ab_il_mem ad vs (i + 1) k v h hv
    apply List.mem_cons_of_mem
    show (i + (k + 1), ab_c ad v) ∈ lv_args (if (Value.int (Int32.ofInt x)).category = 2 then i + 2 else i + 1) (vs.map (ab_c ad))
    rw [if_neg (by simp [Value.category]), show i + (k + 1) = i + 1 + k by omega]
    exact this
  | .inr (.inl x) :: vs, i, 0, v, h, _ => by
    cases (Option.some.inj h)
    exact List.mem_cons_self
  | .inr (.inl x) :: vs, i, 1, v, h, hv => absurd (Option.some.inj h).symm hv
  | .inr (.inl x) :: vs, i, k + 2, v, h, hv => by
    have := ab_il_mem ad vs (i + 2) k v h hv
    apply List.mem_cons_of_mem
    show (i + (k + 2), ab_c ad v) ∈ lv_args (if (Value.long (Int64.ofInt x)).category = 2 then i + 2 else i + 1) (vs.map (ab_c ad))
    rw [if_pos (by simp [Value.category]), show i + (k + 2) = i + 2 + k by omega]
    exact this
  | .inr (.inr (some x)) :: vs, i, 0, v, h, _ => by
    cases (Option.some.inj h)
    exact List.mem_cons_self
  | .inr (.inr (some x)) :: vs, i, k + 1, v, h, hv => by
    have := ab_il_mem ad vs (i + 1) k v h hv
    apply List.mem_cons_of_mem
    show (i + (k + 1), ab_c ad v) ∈ lv_args (if (Value.ref (ad x)).category = 2 then i + 2 else i + 1) (vs.map (ab_c ad))
    rw [if_neg (by simp [Value.category]), show i + (k + 1) = i + 1 + k by omega]
    exact this
  | .inr (.inr none) :: vs, i, 0, v, h, hv => absurd (Option.some.inj h).symm hv
  | .inr (.inr none) :: vs, i, k + 1, v, h, hv => by
    have := ab_il_mem ad vs (i + 1) k v h hv
    apply List.mem_cons_of_mem
    show (i + (k + 1), ab_c ad v) ∈ lv_args (if (Value.null).category = 2 then i + 2 else i + 1) (vs.map (ab_c ad))
    rw [if_neg (by simp [Value.category]), show i + (k + 1) = i + 1 + k by omega]
    exact this
theorem ab_il_ok : ∀ (as : List ab_V), (∀ v ∈ as, ab_ok v) → ∀ v ∈ ab_il as, ab_ok v
  | [], _, v, h => by simp [ab_il] at h
  | .inl x :: vs, ha, v, h => by
    rcases List.mem_cons.mp h with rfl | h
    · exact ha _ List.mem_cons_self
    · exact ab_il_ok vs (ab_tail_ok ha) v h
  | .inr (.inl x) :: vs, ha, v, h => by
    rcases List.mem_cons.mp h with rfl | h
    · exact ha _ List.mem_cons_self
    · rcases List.mem_cons.mp h with rfl | h
      · trivial
      · exact ab_il_ok vs (ab_tail_ok ha) v h
  | .inr (.inr x) :: vs, ha, v, h => by
    rcases List.mem_cons.mp h with rfl | h
    · trivial
    · exact ab_il_ok vs (ab_tail_ok ha) v h
theorem ab_entry {ad : Nat → Nat} {nL : Nat} {as : List ab_V} (hlen : (ab_il as).length ≤ nL) (hok : ∀ v ∈ as, ab_ok v) : ab_lr ad nL (ab_init nL as) (lg_sl (as.map (ab_c ad)) ++ List.replicate (nL - (lg_sl (as.map (ab_c ad))).length) Slot.unset).toArray := by
  have hl := lv_entry (as.map (ab_c ad)) (n := nL) (by rw [ab_il_len]; exact hlen)
  refine ⟨by unfold ab_init; rw [List.length_append, List.length_replicate]; omega, ⟨hl.1, hl.2.1, fun q hq => ?_⟩, fun v hv => ?_⟩
  · obtain ⟨v, e1, e2, e3⟩ := ab_lp_mem.mp hq
    unfold ab_init at e1
    by_cases hk : q.1 < (ab_il as).length
    · rw [List.getElem?_append_left hk] at e1
      have := ab_il_mem ad as 0 q.1 v e1 e2
      rw [Nat.zero_add, ← e3] at this
      exact hl.2.2 q this
    · rw [List.getElem?_append_right (by omega)] at e1
      exact absurd (List.eq_of_mem_replicate (List.mem_of_getElem? e1)) e2
  · unfold ab_init at hv
    rcases List.mem_append.mp hv with hv | hv
    · exact ab_il_ok as hok v hv
    · rw [List.eq_of_mem_replicate hv]
      trivial
def ab_rm (d : Nat) : Room := { frames := d, cells := 0, slots := 0, locals := 42 * d }
/-- a method's body, read by the abstract machine, gives its contract -/
theorem ab_met {l : Launch} {ad : Nat → Nat} {cA : Nat → ClassId} {D : va_G} {Ls : Nat} {mt : Nat → Option ab_M} {C : Nat → List ab_V → ab_W → (Option ab_V → ab_W → Prop) → Prop} {d : Nat} {rm : Room} {r : ab_M} {pcs : List Nat} {bl : List (List ab_I)} {as : List ab_V} {w : ab_W} {post : Option ab_V → ab_W → Prop}
    (hC : ab_hC l (ab_rm d) rm ad cA D Ls mt C) (hm : ab_mok r) (hck : ab_ckm mt r.1.cls r.2.1 r.2.2.2.1 r.2.2.1 pcs bl) (hlen : (ab_il as).length ≤ r.2.2.1) (hokA : ∀ v ∈ as, ab_ok v) (h : Ev Ls C post bl 0 (ab_init r.2.2.1 as) [] w) (sz : Nat) :
    Met l r.1 (ab_cw r :: ab_TB) (ab_rm d) (ab_Pc ad cA D Ls as w sz) (ab_Qc ad cA D w sz post) 0 0 (ab_A ad sz) := by
  refine Met.ofW (cc := r.2.1) (maxL := r.2.2.1) (ret := r.2.2.2.1) hm.2.2.2.2.1 rfl ?_
  intro p e s m args below meth c s₁ B hml hv
  obtain ⟨rfl, hsz, hP, hK, hinj, hok, hX⟩ := hv
  have hx := B.exec
  have hb := B.bytes
  have hr := B.returns
  have hts := atoms_spec (ws := ab_cw r :: ab_TB) B.pre
  have hown : s.vm.findClass r.1.cls = some m.cls := findClass_of_methodNamed B.named
  have hlocks := B.notSynchronized
  subst hsz
  rw [lg_entry_eq]
  have hctx : ab_ctx p s m (as.map (ab_c ad)).toArray c r.2.1 r.2.2.1 r.1.cls ad cA D Ls w := ⟨hx, hb, hml, hown, fun w hw => hts w (List.mem_cons_of_mem _ hw), hK, hinj, hX⟩
  refine ab_bdy (rm := rm) (mt := mt) (rt := r.2.2.2.1) (pcs := pcs) (bl := bl) (L := ab_init r.2.2.1 as) (S := []) (w := w) (C := C) (Rt := post) hctx ⟨Nat.zero_le _, Nat.zero_le _⟩ hC ?_ hck hck.1 h _ _ _ (ab_entry hlen hokA) (fun v hv => by cases hv) ⟨hP, va_S.rf, fun _ _ => rfl, hok⟩
  intro pc w' ls H locs hw
  obtain ⟨hP', hS', hro', hok'⟩ := hw
  refine ⟨fun ex x hdg hrt hpost hxr hbo => ?_, fun x hdg hrt hpost hxr => ?_, fun hdg hrt hpost => ?_⟩
  · have hn : ∃ ty, r.2.2.2.1 = some ty ∧ narrow ty (.int (Int32.ofInt x)) = .int (Int32.ofInt x) := by
      rcases hrt with ⟨h1, h2⟩ | ⟨h1, h2⟩
      · exact ⟨.int, h1, vp_nar_int _⟩
      · refine ⟨.boolean, h1, ?_⟩
        rcases hbo h2 with rfl | rfl <;> decide +kernel
    obtain ⟨ty, h1, h2⟩ := hn
    exact W.zret hx hb (hr.trans h1) h2 (fun t ht hW => ⟨⟨some (vI x), w', rfl, hpost, fun v hv => by cases hv; exact hxr, by rw [ht]; exact hP', hok', hro'⟩, hS'.F ht⟩) hS'.2.2 hdg
  · exact W.lret hx hb (hr.trans hrt) (fun t ht hW => ⟨⟨some (vL x), w', rfl, hpost, fun v hv => by cases hv; exact hxr, by rw [ht]; exact hP', hok', hro'⟩, hS'.F ht⟩) hS'.2.2 hdg
  · exact W.vret hx hb (hr.trans hrt) (fun t ht hW => ⟨⟨none, w', rfl, hpost, fun v hv => (by cases hv), by rw [ht]; exact hP', hok', hro'⟩, hS'.F ht⟩) hS'.2.2 hdg
/-- a method by its number, its calls at most d deep -/
def ab_Sm (Ls : Nat) (mt : Nat → Option ab_M) (bd : Nat → Option (List Nat × List (List ab_I))) : Nat → Nat → List ab_V → ab_W → (Option ab_V → ab_W → Prop) → Prop
  | 0, _, _, _, _ => False
  | d + 1, k, as, w, post => match mt k, bd k with
    | some r, some b => (ab_il as).length ≤ r.2.2.1 ∧ Ev Ls (ab_Sm Ls mt bd d) post b.2 0 (ab_init r.2.2.1 as) [] w
    | _, _ => k = 999 ∧ post none w
theorem ab_Sm_mono {Ls : Nat} {mt : Nat → Option ab_M} {bd : Nat → Option (List Nat × List (List ab_I))} : ∀ d, ab_Cm (ab_Sm Ls mt bd d)
  | 0, _, _, _, _, _, _, h => h
  | d + 1, k, as, w, q, q', hq, h => by
    unfold ab_Sm at h ⊢
    split at h
    · exact ⟨h.1, h.2.mono (ab_Sm_mono d) hq⟩
    · exact ⟨h.1, hq _ _ h.2⟩
theorem ab_snd {l : Launch} {ad : Nat → Nat} {cA : Nat → ClassId} {D : va_G} {Ls : Nat} {mt : Nat → Option ab_M} {bd : Nat → Option (List Nat × List (List ab_I))} (hok : ∀ k r b, mt k = some r → bd k = some b → ab_mok r ∧ ab_ckm mt r.1.cls r.2.1 r.2.2.2.1 r.2.2.1 b.1 b.2) (hbd : ∀ k r, mt k = some r → ∃ b, bd k = some b) :
    ∀ d, ab_hC l (ab_rm (d + 1)) (ab_rm d) ad cA D Ls mt (ab_Sm Ls mt bd (d + 1)) ∧ ab_hC l (ab_rm d) (ab_rm (d - 1)) ad cA D Ls mt (ab_Sm Ls mt bd d) := by
  intro d
  induction d with
  | zero =>
    have h0 : ab_hC l (ab_rm 0) (ab_rm (0 - 1)) ad cA D Ls mt (ab_Sm Ls mt bd 0) := fun k as w post h => h.elim
    refine ⟨fun k as w post h => ⟨⟨Nat.le_refl _, Nat.le_refl _, rfl, rfl⟩, fun hokA r hr => ?_⟩, h0⟩
    obtain ⟨b, hb⟩ := hbd k r hr
    obtain ⟨h1, h2⟩ := hok k r b hr hb
    unfold ab_Sm at h
    rw [hr, hb] at h
    exact ⟨h1, fun sz => ab_met h0 h1 h2 h.1 hokA h.2 sz⟩
  | succ d ih =>
    refine ⟨fun k as w post h => ⟨⟨Nat.le_refl _, Nat.le_of_eq (by show 42 + 42 * (d + 1) = 42 * (d + 1 + 1); omega), rfl, rfl⟩, fun hokA r hr => ?_⟩, ih.1⟩
    obtain ⟨b, hb⟩ := hbd k r hr
    obtain ⟨h1, h2⟩ := hok k r b hr hb
    unfold ab_Sm at h
    rw [hr, hb] at h
    exact ⟨h1, fun sz => ab_met ih.1 h1 h2 h.1 hokA h.2 sz⟩
