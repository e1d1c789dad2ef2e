/-! one instruction, whichever it is -/
section Step9
variable {p : Program} {l : Launch} {e : Env} {R : Room} {s : State} {m : MethodId} {args : Array Value} {below : List Frame} {meth : Method} {c : Code} {Q : State → Prop} {cells slots : Nat} {cc : ByteArray} {own : String} {nL : Nat} {rt : Option FieldType}
variable {ad : Nat → Nat} {cA : Nat → ClassId} {D : va_G} {Ls : Nat} {w0 : ab_W} {mt : Nat → Option ab_M} {pcs : List Nat} {rm : Room}
variable {C : Nat → List ab_V → ab_W → (Option ab_V → ab_W → Prop) → Prop} {J : Nat → List ab_V → List ab_V → ab_W → Prop} {Rt : Option ab_V → ab_W → Prop}
theorem ab_goodTB {r : ab_M} (h : ab_cw r ∈ ab_TB) : GoodIn ab_TB (ab_cw r :: ab_TB) := by
  intro w hw
  have hm : w ∈ ab_TB := by
    rcases List.mem_cons.mp hw with rfl | hw
    · exact h
    · exact hw
  exact ⟨hm, good_of_word (List.mem_filter.mp hm).2⟩
theorem ab_lsw_ok {pc : Nat} {d : Int} {db : Nat} (x : Int) : ∀ (ps : List (Int × Int)) (bs : List Nat), bs.length = ps.length → (∃ t : Nat, pcs[db]? = some t ∧ (pc : Int) + d = (t : Int)) → (∀ (j b : Nat) (q : Int × Int), bs[j]? = some b → ps[j]? = some q → ∃ t : Nat, pcs[b]? = some t ∧ (pc : Int) + q.2 = (t : Int)) →
    ∃ t : Nat, pcs[ab_lsw ps bs db x]? = some t ∧ (pc : Int) + Op.lookupswitch.offset ps d x = (t : Int)
  | [], bs, _, hd, _ => by
    have : ab_lsw [] bs db x = db := by unfold ab_lsw; rfl
    rw [this]; exact hd
  | (a, o) :: ps, [], h, _, _ => by simp at h
  | (a, o) :: ps, b :: bs, h, hd, hq => by
    rw [Op.lookupswitch.offset_cons]
    show ∃ t : Nat, pcs[if x = a then b else ab_lsw ps bs db x]? = some t ∧ _
    by_cases hx : x = a
    · rw [if_pos hx, if_pos hx.symm]
      exact hq 0 b (a, o) rfl rfl
    · rw [if_neg hx, if_neg (fun q => hx q.symm)]
      exact ab_lsw_ok x ps bs (by simpa using h) hd (fun j b' q h1 h2 => hq (j + 1) b' q h1 h2)
/-- what is asked of calls: the room is there, and the method's contract -/
def ab_hC (l : Launch) (R rm : Room) (ad : Nat → Nat) (cA : Nat → ClassId) (D : va_G) (Ls : Nat) (mt : Nat → Option ab_M) (C : Nat → List ab_V → ab_W → (Option ab_V → ab_W → Prop) → Prop) : Prop :=
  ∀ (k : Nat) (as : List ab_V) (w : ab_W) (post : Option ab_V → ab_W → Prop), C k as w post → (rm.frames + 1 ≤ R.frames ∧ 42 + rm.locals ≤ R.locals ∧ rm.cells = 0 ∧ rm.slots = 0) ∧ ((∀ v ∈ as, ab_ok v) → ∀ r, mt k = some r → ab_mok r ∧ ∀ sz, Met l r.1 (ab_cw r :: ab_TB) rm (ab_Pc ad cA D Ls as w sz) (ab_Qc ad cA D w sz post) 0 0 (ab_A ad sz))
def ab_hR (p : Program) (l : Launch) (e : Env) (R : Room) (s : State) (m : MethodId) (args : Array Value) (below : List Frame) (meth : Method) (c : Code) (Q : State → Prop) (cells slots : Nat) (cc : ByteArray) (rt : Option FieldType) (ad : Nat → Nat) (cA : Nat → ClassId) (D : va_G) (w0 : ab_W) (Rt : Option ab_V → ab_W → Prop) : Prop :=
  ∀ (pc : Nat) (w : ab_W) (ls : Array Slot) (H : Heap) (locs : List Loc), ab_rel ad cA D s w0 w H locs →
    (∀ (ex : List Nat) (x : Int), decode cc pc = .ok (.ireturn, 1) → ((rt = some .int ∧ ex = [0]) ∨ (rt = some .boolean ∧ ex = [1])) → Rt (some (vI x)) w → ab_r32 x → (ex = [1] → ab_bool x) → W p l e R s m args below meth c H locs cells slots Q (F0 m pc ls [.int (Int32.ofInt x)])) ∧
    (∀ x : Int, decode cc pc = .ok (.lreturn, 1) → rt = some .long → Rt (some (vL x)) w → ab_r64 x → W p l e R s m args below meth c H locs cells slots Q (F0 m pc ls [.long (Int64.ofInt x)])) ∧
    (decode cc pc = .ok (.return_, 1) → rt = none → Rt none w → W p l e R s m args below meth c H locs cells slots Q (F0 m pc ls []))
theorem ab_step (X : ab_ctx p s m args c cc nL own ad cA D Ls w0) (hcs : cells ≤ R.cells ∧ slots ≤ R.slots) (hC : ab_hC l R rm ad cA D Ls mt C) (hR : ab_hR p l e R s m args below meth c Q cells slots cc rt ad cA D w0 Rt) {pc : Nat} {op : Instr} {ex : List Nat} {z : Int}
    (hJ : ∀ (b t : Nat) (L S : List ab_V) (w : ab_W), pcs[b]? = some t → J b L S w → ab_G p l e R s m args below meth c Q cells slots ad cA D w0 nL t L S w)
    {K : List ab_V → List ab_V → ab_W → Prop} (hK : ab_stop op = false → ∀ (L S : List ab_V) (w : ab_W), K L S w → ab_G p l e R s m args below meth c Q cells slots ad cA D w0 nL (pc + ab_ln op) L S w)
    {n : Nat} (hdg : decode cc pc = .ok (op, n)) (hn : ab_ln op = 0 ∨ n = ab_ln op) (hck : ab_ck mt own rt nL pcs pc op ex z) {L S : List ab_V} {w : ab_W} (h : ab_wp Ls C J Rt K op ex z L S w) : ab_G p l e R s m args below meth c Q cells slots ad cA D w0 nL pc L S w := by
  intro ls H locs hl hS hw
  obtain ⟨hx, hb, hml, hown, hts, hKK, hinj, hX⟩ := X
  have hw' := hw
  obtain ⟨hP, hSS, hro, hok⟩ := hw'
  have hD : va_D (ab_A ad s.heap.size) (ab_ws ad cA w) := ab_ws_D hinj
  cases op <;> first | exact h.elim | skip
  case iconst k =>
    have hd := hn.resolve_left (by intro z; cases z)
    subst hd
    refine lv_iconst hx hb hdg rfl ?_
    exact hK rfl _ _ _ h ls H locs hl (ab_cons_ok hck hS) hw
  case bipush k =>
    have hd := hn.resolve_left (by intro z; cases z)
    subst hd
    refine lv_bipush hx hb hdg (ab_bip hck.1 hck.2) ?_
    exact hK rfl _ _ _ h ls H locs hl (ab_cons_ok (show ab_r32 k from ⟨by have := hck.1; omega, by have := hck.2; omega⟩) hS) hw
  case sipush k =>
    have hd := hn.resolve_left (by intro z; cases z)
    subst hd
    refine lv_sipush hx hb hdg (ab_sip hck.1 hck.2) ?_
    exact hK rfl _ _ _ h ls H locs hl (ab_cons_ok (show ab_r32 k from ⟨by have := hck.1; omega, by have := hck.2; omega⟩) hS) hw
  case lconst k =>
    have hd := hn.resolve_left (by intro z; cases z)
    subst hd
    refine lv_lconst hx hb hdg (v := Int64.ofInt (k.val : Int)) (ab_lcst k) ?_
    exact hK rfl _ _ _ h ls H locs hl (ab_cons_ok (show ab_r64 (k.val : Int) from ⟨by omega, by have := k.isLt; omega⟩) hS) hw
  case ldc k =>
    have hd := hn.resolve_left (by intro z; cases z)
    subst hd
    refine lv_ldc hx hb hown (hts _ hck.2) hdg ?_
    exact hK rfl _ _ _ h ls H locs hl (ab_cons_ok hck.1 hS) hw
  case ldc_w k =>
    have hd := hn.resolve_left (by intro z; cases z)
    subst hd
    refine lv_ldcw hx hb hown (hts _ hck.2) hdg ?_
    exact hK rfl _ _ _ h ls H locs hl (ab_cons_ok hck.1 hS) hw
  case ldc2_w k =>
    have hd := hn.resolve_left (by intro z; cases z)
    subst hd
    refine lv_ldc2 hx hb hown (hts _ hck.2) hdg ?_
    exact hK rfl _ _ _ h ls H locs hl (ab_cons_ok hck.1 hS) hw
  case iload k =>
    have hd := hn.resolve_left (by intro z; cases z)
    subst hd
    replace h := ab_gI_of h
    obtain ⟨x, e1, h⟩ := h
    refine lv_iload hx hb hdg (hl.at e1 (by intro q; cases q)) ?_
    exact hK rfl _ _ _ h ls H locs hl (ab_cons_ok (hl.2.2 _ (List.mem_of_getElem? e1)) hS) hw
  case iload_n k =>
    have hd := hn.resolve_left (by intro z; cases z)
    subst hd
    replace h := ab_gI_of h
    obtain ⟨x, e1, h⟩ := h
    refine lv_iload_n hx hb hdg rfl (hl.at e1 (by intro q; cases q)) ?_
    exact hK rfl _ _ _ h ls H locs hl (ab_cons_ok (hl.2.2 _ (List.mem_of_getElem? e1)) hS) hw
  case lload k =>
    have hd := hn.resolve_left (by intro z; cases z)
    subst hd
    replace h := ab_gL_of h
    obtain ⟨x, e1, h⟩ := h
    refine lv_lload hx hb hdg (hl.at e1 (by intro q; cases q)) ?_
    exact hK rfl _ _ _ h ls H locs hl (ab_cons_ok (hl.2.2 _ (List.mem_of_getElem? e1)) hS) hw
  case lload_n k =>
    have hd := hn.resolve_left (by intro z; cases z)
    subst hd
    replace h := ab_gL_of h
    obtain ⟨x, e1, h⟩ := h
    refine lv_lload_n hx hb hdg rfl (hl.at e1 (by intro q; cases q)) ?_
    exact hK rfl _ _ _ h ls H locs hl (ab_cons_ok (hl.2.2 _ (List.mem_of_getElem? e1)) hS) hw
  case aload k =>
    have hd := hn.resolve_left (by intro z; cases z)
    subst hd
    replace h := ab_gR_of h
    obtain ⟨x, e1, h⟩ := h
    refine lv_aload hx hb hdg (hl.at e1 (by intro q; cases q)) ?_
    exact hK rfl _ _ _ h ls H locs hl (ab_cons_ok (hl.2.2 _ (List.mem_of_getElem? e1)) hS) hw
  case aload_n k =>
    have hd := hn.resolve_left (by intro z; cases z)
    subst hd
    replace h := ab_gR_of h
    obtain ⟨x, e1, h⟩ := h
    refine lv_aload_n hx hb hdg rfl (hl.at e1 (by intro q; cases q)) ?_
    exact hK rfl _ _ _ h ls H locs hl (ab_cons_ok (hl.2.2 _ (List.mem_of_getElem? e1)) hS) hw
  case istore k =>
    have hd := hn.resolve_left (by intro z; cases z)
    subst hd
    replace h := ab_pI_of h
    obtain ⟨x, S', rfl, h⟩ := h
    refine lv_istore hx hb hdg hl.2.1 hck rfl (fun ls' hl' => ?_)
    exact hK rfl _ _ _ h ls' H locs (hl.st (v := vI x) (hS _ List.mem_cons_self) hl') (ab_tail_ok hS) hw
  case istore_n k =>
    have hd := hn.resolve_left (by intro z; cases z)
    subst hd
    replace h := ab_pI_of h
    obtain ⟨x, S', rfl, h⟩ := h
    refine lv_istore_n hx hb hdg rfl hl.2.1 hck rfl (fun ls' hl' => ?_)
    exact hK rfl _ _ _ h ls' H locs (hl.st (v := vI x) (hS _ List.mem_cons_self) hl') (ab_tail_ok hS) hw
  case astore k =>
    have hd := hn.resolve_left (by intro z; cases z)
    subst hd
    replace h := ab_pR_of h
    obtain ⟨x, S', rfl, h⟩ := h
    refine lv_astore hx hb hdg hl.2.1 hck rfl (fun ls' hl' => ?_)
    exact hK rfl _ _ _ h ls' H locs (hl.st (v := vR x) (hS _ List.mem_cons_self) hl') (ab_tail_ok hS) hw
  case astore_n k =>
    have hd := hn.resolve_left (by intro z; cases z)
    subst hd
    replace h := ab_pR_of h
    obtain ⟨x, S', rfl, h⟩ := h
    refine lv_astore_n hx hb hdg rfl hl.2.1 hck rfl (fun ls' hl' => ?_)
    exact hK rfl _ _ _ h ls' H locs (hl.st (v := vR x) (hS _ List.mem_cons_self) hl') (ab_tail_ok hS) hw
  case lstore k =>
    have hd := hn.resolve_left (by intro z; cases z)
    subst hd
    replace h := ab_pL_of h
    obtain ⟨x, S', rfl, h⟩ := h
    refine lv_lstore hx hb hdg hl.2.1 hck rfl (fun ls' hl' => ?_)
    exact hK rfl _ _ _ h ls' H locs (hl.stl (v := vL x) (hS _ List.mem_cons_self) hl') (ab_tail_ok hS) hw
  case lstore_n k =>
    have hd := hn.resolve_left (by intro z; cases z)
    subst hd
    replace h := ab_pL_of h
    obtain ⟨x, S', rfl, h⟩ := h
    refine lv_lstore_n hx hb hdg rfl hl.2.1 hck rfl (fun ls' hl' => ?_)
    exact hK rfl _ _ _ h ls' H locs (hl.stl (v := vL x) (hS _ List.mem_cons_self) hl') (ab_tail_ok hS) hw
  case iinc k c =>
    have hd := hn.resolve_left (by intro z; cases z)
    subst hd
    replace h := ab_gI_of h
    obtain ⟨x, e1, h⟩ := h
    have hm : (k, Value.int (Int32.ofInt x)) ∈ ab_lp ad L := ab_lp_mem.mpr ⟨vI x, e1, (by intro q; cases q), rfl⟩
    obtain ⟨j, hj⟩ := List.getElem?_of_mem hm
    refine lv_iinc (v := Int32.ofInt (iW (x + c))) hx hb hdg hl.2.1 hj (by rw [iW_o, Int32.ofInt_add]) hck.1 rfl (fun ls' hl' => ?_)
    exact hK rfl _ _ _ h ls' H locs (hl.st (v := vI (iW (x + c))) (iW_r _) hl') hS hw
  case iadd =>
    have hd := hn.resolve_left (by intro z; cases z)
    subst hd
    replace h := ab_pII_of h
    obtain ⟨x, y, S', rfl, h⟩ := h
    refine lv_iadd hx hb hdg (ab_ti2 (b := Int32.ofInt (iW (x + y))) (by rw [iW_o, Int32.ofInt_add]) ?_)
    exact hK rfl _ _ _ h ls H locs hl (ab_cons_ok (iW_r _) (ab_tail_ok (ab_tail_ok hS))) hw
  case isub =>
    have hd := hn.resolve_left (by intro z; cases z)
    subst hd
    replace h := ab_pII_of h
    obtain ⟨x, y, S', rfl, h⟩ := h
    refine lv_isub hx hb hdg (ab_ti2 (b := Int32.ofInt (iW (x - y))) (by rw [iW_o, Int32.ofInt_sub]) ?_)
    exact hK rfl _ _ _ h ls H locs hl (ab_cons_ok (iW_r _) (ab_tail_ok (ab_tail_ok hS))) hw
  case imul =>
    have hd := hn.resolve_left (by intro z; cases z)
    subst hd
    replace h := ab_pII_of h
    obtain ⟨x, y, S', rfl, h⟩ := h
    refine lv_imul hx hb hdg (ab_ti2 (b := Int32.ofInt (iW (x * y))) (by rw [iW_o, Int32.ofInt_mul]) ?_)
    exact hK rfl _ _ _ h ls H locs hl (ab_cons_ok (iW_r _) (ab_tail_ok (ab_tail_ok hS))) hw
  case ladd =>
    have hd := hn.resolve_left (by intro z; cases z)
    subst hd
    replace h := ab_pLL_of h
    obtain ⟨x, y, S', rfl, h⟩ := h
    refine lv_ladd hx hb hdg (ab_tl2 (b := Int64.ofInt (lW (x + y))) (by rw [lW_o, Int64.ofInt_add]) ?_)
    exact hK rfl _ _ _ h ls H locs hl (ab_cons_ok (lW_r _) (ab_tail_ok (ab_tail_ok hS))) hw
  case lsub =>
    have hd := hn.resolve_left (by intro z; cases z)
    subst hd
    replace h := ab_pLL_of h
    obtain ⟨x, y, S', rfl, h⟩ := h
    refine lv_lsub hx hb hdg (ab_tl2 (b := Int64.ofInt (lW (x - y))) (by rw [lW_o, Int64.ofInt_sub]) ?_)
    exact hK rfl _ _ _ h ls H locs hl (ab_cons_ok (lW_r _) (ab_tail_ok (ab_tail_ok hS))) hw
  case lmul =>
    have hd := hn.resolve_left (by intro z; cases z)
    subst hd
    replace h := ab_pLL_of h
    obtain ⟨x, y, S', rfl, h⟩ := h
    refine lv_lmul hx hb hdg (ab_tl2 (b := Int64.ofInt (lW (x * y))) (by rw [lW_o, Int64.ofInt_mul]) ?_)
    exact hK rfl _ _ _ h ls H locs hl (ab_cons_ok (lW_r _) (ab_tail_ok (ab_tail_ok hS))) hw
  case idiv =>
    have hd := hn.resolve_left (by intro z; cases z)
    subst hd
    replace h := ab_pII_of h
    obtain ⟨x, y, S', rfl, h0, h⟩ := h
    refine lv_idiv hx hb hdg (by rw [ab_z32, ab_eq32 (hS _ List.mem_cons_self) ab_r0]; exact h0) (ab_ti2 (ab_oi _).symm ?_)
    exact hK rfl _ _ _ h ls H locs hl (ab_cons_ok (ab_ri _) (ab_tail_ok (ab_tail_ok hS))) hw
  case irem =>
    have hd := hn.resolve_left (by intro z; cases z)
    subst hd
    replace h := ab_pII_of h
    obtain ⟨x, y, S', rfl, h0, h⟩ := h
    refine lv_irem hx hb hdg (by rw [ab_z32, ab_eq32 (hS _ List.mem_cons_self) ab_r0]; exact h0) (ab_ti2 (ab_oi _).symm ?_)
    exact hK rfl _ _ _ h ls H locs hl (ab_cons_ok (ab_ri _) (ab_tail_ok (ab_tail_ok hS))) hw
  case ldiv =>
    have hd := hn.resolve_left (by intro z; cases z)
    subst hd
    replace h := ab_pLL_of h
    obtain ⟨x, y, S', rfl, h0, h⟩ := h
    refine lv_ldiv hx hb hdg (by rw [ab_z64, ab_eq64 (hS _ List.mem_cons_self) (ab_r3264 ab_r0)]; exact h0) (ab_tl2 (ab_ol _).symm ?_)
    exact hK rfl _ _ _ h ls H locs hl (ab_cons_ok (ab_rl _) (ab_tail_ok (ab_tail_ok hS))) hw
  case lrem =>
    have hd := hn.resolve_left (by intro z; cases z)
    subst hd
    replace h := ab_pLL_of h
    obtain ⟨x, y, S', rfl, h0, h⟩ := h
    refine lv_lrem hx hb hdg (by rw [ab_z64, ab_eq64 (hS _ List.mem_cons_self) (ab_r3264 ab_r0)]; exact h0) (ab_tl2 (ab_ol _).symm ?_)
    exact hK rfl _ _ _ h ls H locs hl (ab_cons_ok (ab_rl _) (ab_tail_ok (ab_tail_ok hS))) hw
  case iand =>
    have hd := hn.resolve_left (by intro z; cases z)
    subst hd
    replace h := ab_pII_of h
    obtain ⟨x, y, S', rfl, h⟩ := h
    refine lv_iand hx hb hdg (ab_ti2 (ab_oi _).symm ?_)
    exact hK rfl _ _ _ h ls H locs hl (ab_cons_ok (ab_ri _) (ab_tail_ok (ab_tail_ok hS))) hw
  case ior =>
    have hd := hn.resolve_left (by intro z; cases z)
    subst hd
    replace h := ab_pII_of h
    obtain ⟨x, y, S', rfl, h⟩ := h
    refine lv_ior hx hb hdg (ab_ti2 (ab_oi _).symm ?_)
    exact hK rfl _ _ _ h ls H locs hl (ab_cons_ok (ab_ri _) (ab_tail_ok (ab_tail_ok hS))) hw
  case ixor =>
    have hd := hn.resolve_left (by intro z; cases z)
    subst hd
    replace h := ab_pII_of h
    obtain ⟨x, y, S', rfl, h⟩ := h
    refine lv_ixor hx hb hdg (ab_ti2 (ab_oi _).symm ?_)
    exact hK rfl _ _ _ h ls H locs hl (ab_cons_ok (ab_ri _) (ab_tail_ok (ab_tail_ok hS))) hw
  case ishl =>
    have hd := hn.resolve_left (by intro z; cases z)
    subst hd
    replace h := ab_pII_of h
    obtain ⟨x, y, S', rfl, h⟩ := h
    refine lv_ishl hx hb hdg (ab_ti2 (ab_oi _).symm ?_)
    exact hK rfl _ _ _ h ls H locs hl (ab_cons_ok (ab_ri _) (ab_tail_ok (ab_tail_ok hS))) hw
  case ishr =>
    have hd := hn.resolve_left (by intro z; cases z)
    subst hd
    replace h := ab_pII_of h
    obtain ⟨x, y, S', rfl, h⟩ := h
    refine lv_ishr hx hb hdg (ab_ti2 (ab_oi _).symm ?_)
    exact hK rfl _ _ _ h ls H locs hl (ab_cons_ok (ab_ri _) (ab_tail_ok (ab_tail_ok hS))) hw
  case iushr =>
    have hd := hn.resolve_left (by intro z; cases z)
    subst hd
    replace h := ab_pII_of h
    obtain ⟨x, y, S', rfl, h⟩ := h
    refine lv_iushr hx hb hdg rfl (ab_ti2 (ab_oi _).symm ?_)
    exact hK rfl _ _ _ h ls H locs hl (ab_cons_ok (ab_ri _) (ab_tail_ok (ab_tail_ok hS))) hw
  case land =>
    have hd := hn.resolve_left (by intro z; cases z)
    subst hd
    replace h := ab_pLL_of h
    obtain ⟨x, y, S', rfl, h⟩ := h
    refine lv_land hx hb hdg (ab_tl2 (ab_ol _).symm ?_)
    exact hK rfl _ _ _ h ls H locs hl (ab_cons_ok (ab_rl _) (ab_tail_ok (ab_tail_ok hS))) hw
  case lor =>
    have hd := hn.resolve_left (by intro z; cases z)
    subst hd
    replace h := ab_pLL_of h
    obtain ⟨x, y, S', rfl, h⟩ := h
    refine lv_lor hx hb hdg (ab_tl2 (ab_ol _).symm ?_)
    exact hK rfl _ _ _ h ls H locs hl (ab_cons_ok (ab_rl _) (ab_tail_ok (ab_tail_ok hS))) hw
  case lshl =>
    have hd := hn.resolve_left (by intro z; cases z)
    subst hd
    replace h := ab_pIL_of h
    obtain ⟨x, y, S', rfl, h⟩ := h
    refine lv_lshl hx hb hdg rfl (ab_tl2 (ab_ol _).symm ?_)
    exact hK rfl _ _ _ h ls H locs hl (ab_cons_ok (ab_rl _) (ab_tail_ok (ab_tail_ok hS))) hw
  case lshr =>
    have hd := hn.resolve_left (by intro z; cases z)
    subst hd
    replace h := ab_pIL_of h
    obtain ⟨x, y, S', rfl, h⟩ := h
    refine lv_lshr hx hb hdg rfl (ab_tl2 (ab_ol _).symm ?_)
    exact hK rfl _ _ _ h ls H locs hl (ab_cons_ok (ab_rl _) (ab_tail_ok (ab_tail_ok hS))) hw
  case lushr =>
    have hd := hn.resolve_left (by intro z; cases z)
    subst hd
    replace h := ab_pIL_of h
    obtain ⟨x, y, S', rfl, h⟩ := h
    refine lv_lushr hx hb hdg rfl (ab_tl2 (ab_ol _).symm ?_)
    exact hK rfl _ _ _ h ls H locs hl (ab_cons_ok (ab_rl _) (ab_tail_ok (ab_tail_ok hS))) hw
  case i2l =>
    have hd := hn.resolve_left (by intro z; cases z)
    subst hd
    replace h := ab_pI_of h
    obtain ⟨x, S', rfl, h⟩ := h
    refine lv_i2l hx hb hdg (ab_i2l (hS _ List.mem_cons_self)) ?_
    exact hK rfl _ _ _ h ls H locs hl (ab_cons_ok (ab_r3264 (hS _ List.mem_cons_self)) (ab_tail_ok hS)) hw
  case l2i =>
    have hd := hn.resolve_left (by intro z; cases z)
    subst hd
    replace h := ab_pL_of h
    obtain ⟨x, S', rfl, h⟩ := h
    refine lv_l2i hx hb hdg (ab_l2i (hS _ List.mem_cons_self)) ?_
    exact hK rfl _ _ _ h ls H locs hl (ab_cons_ok (iW_r _) (ab_tail_ok hS)) hw
  case i2b =>
    have hd := hn.resolve_left (by intro z; cases z)
    subst hd
    replace h := ab_pI_of h
    obtain ⟨x, S', rfl, h⟩ := h
    refine lv_i2b hx hb hdg rfl (ab_ti2 (ab_oi _).symm ?_)
    exact hK rfl _ _ _ h ls H locs hl (ab_cons_ok (ab_ri _) (ab_tail_ok hS)) hw
  case i2s =>
    have hd := hn.resolve_left (by intro z; cases z)
    subst hd
    replace h := ab_pI_of h
    obtain ⟨x, S', rfl, h⟩ := h
    refine lv_i2s hx hb hdg rfl (ab_ti2 (ab_oi _).symm ?_)
    exact hK rfl _ _ _ h ls H locs hl (ab_cons_ok (ab_ri _) (ab_tail_ok hS)) hw
  case lcmp =>
    have hd := hn.resolve_left (by intro z; cases z)
    subst hd
    replace h := ab_pLL_of h
    obtain ⟨x, y, S', rfl, h⟩ := h
    refine W.lcmp hx hb hdg (ab_ti2 (ab_lcm (hS _ (List.mem_cons_of_mem _ List.mem_cons_self)) (hS _ List.mem_cons_self)) ?_)
    exact hK rfl _ _ _ h ls H locs hl (ab_cons_ok (ab_lcr _ _) (ab_tail_ok (ab_tail_ok hS))) hw
  case dup =>
    have hd := hn.resolve_left (by intro z; cases z)
    subst hd
    dsimp only [ab_wp] at h
    split at h
    · rename_i x S'
      refine lv_dup (va := .int (Int32.ofInt x)) hx hb hdg rfl ?_
      exact hK rfl _ _ _ h ls H locs hl (ab_cons_ok (hS _ List.mem_cons_self) hS) hw
    · rename_i x S'
      refine lv_dup (va := .ref (ad x)) hx hb hdg rfl ?_
      exact hK rfl _ _ _ h ls H locs hl (ab_cons_ok (hS _ List.mem_cons_self) hS) hw
    · exact h.elim
  case dup2 =>
    have hd := hn.resolve_left (by intro z; cases z)
    subst hd
    replace h := ab_pIR_of h
    obtain ⟨q, i, S', rfl, h⟩ := h
    refine lv_dup2_11 (va := .int (Int32.ofInt i)) (vb := .ref (ad q)) hx hb hdg rfl rfl ?_
    exact hK rfl _ _ _ h ls H locs hl (ab_cons_ok (hS _ List.mem_cons_self) (ab_cons_ok (v := vR q) trivial hS)) hw
  case ifCond k off =>
    have hd := hn.resolve_left (by intro z; cases z)
    subst hd
    replace h := ab_pI_of h
    obtain ⟨x, S', rfl, h⟩ := h
    obtain ⟨t, ht1, ht2⟩ := hck
    have hxr : ab_r32 x := hS _ List.mem_cons_self
    cases k
    · have hi := ab_eq32 hxr ab_r0
      rw [← ab_z32] at hi
      refine lv_if_eq hx hb hdg ht2 (fun q => ?_) (fun q => ?_)
      · exact hJ _ _ _ _ _ ht1 (h.1 (hi.mp q)) ls H locs hl (ab_tail_ok hS) hw
      · exact hK rfl _ _ _ (h.2 (fun z => q (hi.mpr z))) ls H locs hl (ab_tail_ok hS) hw
    · have hi := ab_eq32 hxr ab_r0
      rw [← ab_z32] at hi
      refine lv_if_ne hx hb hdg ht2 (fun q => ?_) (fun q => ?_)
      · exact hJ _ _ _ _ _ ht1 (h.1 (fun z => q (hi.mpr z))) ls H locs hl (ab_tail_ok hS) hw
      · exact hK rfl _ _ _ (h.2 (fun z => z (hi.mp q))) ls H locs hl (ab_tail_ok hS) hw
    · have hi := ab_lt32 hxr ab_r0
      rw [← ab_z32] at hi
      refine lv_if_lt hx hb hdg ht2 (fun q => ?_) (fun q => ?_)
      · exact hJ _ _ _ _ _ ht1 (h.1 (hi.mp q)) ls H locs hl (ab_tail_ok hS) hw
      · exact hK rfl _ _ _ (h.2 (fun z => q (hi.mpr z))) ls H locs hl (ab_tail_ok hS) hw
    · have hi := ab_le32 ab_r0 hxr
      rw [← ab_z32] at hi
      refine lv_if_ge hx hb hdg ht2 (fun q => ?_) (fun q => ?_)
      · exact hJ _ _ _ _ _ ht1 (h.1 (hi.mp q)) ls H locs hl (ab_tail_ok hS) hw
      · exact hK rfl _ _ _ (h.2 (fun z => q (hi.mpr z))) ls H locs hl (ab_tail_ok hS) hw
    · have hi := ab_lt32 ab_r0 hxr
      rw [← ab_z32] at hi
      refine lv_if_gt hx hb hdg ht2 (fun q => ?_) (fun q => ?_)
      · exact hJ _ _ _ _ _ ht1 (h.1 (hi.mp q)) ls H locs hl (ab_tail_ok hS) hw
      · exact hK rfl _ _ _ (h.2 (fun z => q (hi.mpr z))) ls H locs hl (ab_tail_ok hS) hw
    · have hi := ab_le32 hxr ab_r0
      rw [← ab_z32] at hi
      refine lv_if_le hx hb hdg ht2 (fun q => ?_) (fun q => ?_)
      · exact hJ _ _ _ _ _ ht1 (h.1 (hi.mp q)) ls H locs hl (ab_tail_ok hS) hw
      · exact hK rfl _ _ _ (h.2 (fun z => q (hi.mpr z))) ls H locs hl (ab_tail_ok hS) hw
  case if_icmp k off =>
    have hd := hn.resolve_left (by intro z; cases z)
    subst hd
    replace h := ab_pII_of h
    obtain ⟨x, y, S', rfl, h⟩ := h
    obtain ⟨t, ht1, ht2⟩ := hck
    have hxr : ab_r32 x := hS _ (List.mem_cons_of_mem _ List.mem_cons_self)
    have hyr : ab_r32 y := hS _ List.mem_cons_self
    cases k
    · have hi := ab_eq32 hxr hyr
      refine lv_icmp_eq hx hb hdg ht2 (fun q => ?_) (fun q => ?_)
      · exact hJ _ _ _ _ _ ht1 (h.1 (hi.mp q)) ls H locs hl (ab_tail_ok (ab_tail_ok hS)) hw
      · exact hK rfl _ _ _ (h.2 (fun z => q (hi.mpr z))) ls H locs hl (ab_tail_ok (ab_tail_ok hS)) hw
    · have hi := ab_eq32 hxr hyr
      refine lv_icmp_ne hx hb hdg ht2 (fun q => ?_) (fun q => ?_)
      · exact hJ _ _ _ _ _ ht1 (h.1 (fun z => q (hi.mpr z))) ls H locs hl (ab_tail_ok (ab_tail_ok hS)) hw
      · exact hK rfl _ _ _ (h.2 (fun z => z (hi.mp q))) ls H locs hl (ab_tail_ok (ab_tail_ok hS)) hw
    · have hi := ab_lt32 hxr hyr
      refine lv_icmp_lt hx hb hdg ht2 (fun q => ?_) (fun q => ?_)
      · exact hJ _ _ _ _ _ ht1 (h.1 (hi.mp q)) ls H locs hl (ab_tail_ok (ab_tail_ok hS)) hw
      · exact hK rfl _ _ _ (h.2 (fun z => q (hi.mpr z))) ls H locs hl (ab_tail_ok (ab_tail_ok hS)) hw
    · have hi := ab_le32 hyr hxr
      refine lv_icmp_ge hx hb hdg ht2 (fun q => ?_) (fun q => ?_)
      · exact hJ _ _ _ _ _ ht1 (h.1 (hi.mp q)) ls H locs hl (ab_tail_ok (ab_tail_ok hS)) hw
      · exact hK rfl _ _ _ (h.2 (fun z => q (hi.mpr z))) ls H locs hl (ab_tail_ok (ab_tail_ok hS)) hw
    · have hi := ab_lt32 hyr hxr
      refine lv_icmp_gt hx hb hdg ht2 (fun q => ?_) (fun q => ?_)
      · exact hJ _ _ _ _ _ ht1 (h.1 (hi.mp q)) ls H locs hl (ab_tail_ok (ab_tail_ok hS)) hw
      · exact hK rfl _ _ _ (h.2 (fun z => q (hi.mpr z))) ls H locs hl (ab_tail_ok (ab_tail_ok hS)) hw
    · have hi := ab_le32 hxr hyr
      refine lv_icmp_le hx hb hdg ht2 (fun q => ?_) (fun q => ?_)
      · exact hJ _ _ _ _ _ ht1 (h.1 (hi.mp q)) ls H locs hl (ab_tail_ok (ab_tail_ok hS)) hw
      · exact hK rfl _ _ _ (h.2 (fun z => q (hi.mpr z))) ls H locs hl (ab_tail_ok (ab_tail_ok hS)) hw
  case goto off =>
    have hd := hn.resolve_left (by intro z; cases z)
    subst hd
    obtain ⟨t, ht1, ht2⟩ := hck
    exact lv_goto hx hb hdg ht2 (hJ _ _ _ _ _ ht1 h ls H locs hl hS hw)
  case tableswitch d lo hi offs =>
    replace h := ab_pI_of h
    obtain ⟨x, S', rfl, h⟩ := h
    obtain ⟨⟨t, ht1, ht2⟩, hhi, hlen, hall⟩ := hck
    have hxr : ab_r32 x := hS _ List.mem_cons_self
    by_cases ho : x < lo ∨ hi < x
    · have hd : ab_sw lo ex.tail (ex.headD 0) x = ex.headD 0 := by
        unfold ab_sw
        by_cases hlo : lo ≤ x
        · rw [if_pos hlo, List.getElem?_eq_none (by omega)]; rfl
        · rw [if_neg hlo]
      rw [hd] at h
      exact lv_tableOut hx hb hdg (by rw [ab_ti hxr]; exact ho) ht2 (hJ _ _ _ _ _ ht1 h ls H locs hl (ab_tail_ok hS) hw)
    · have hj : (x - lo).toNat < ex.tail.length := by omega
      have hb' : ex.tail[(x - lo).toNat]? = some ex.tail[(x - lo).toNat] := List.getElem?_eq_getElem hj
      have ho' : offs[(x - lo).toNat]? = some (offs[(x - lo).toNat]'(by omega)) := Array.getElem?_eq_getElem _
      obtain ⟨t2, hq1, hq2⟩ := hall _ _ _ hb' ho'
      have hd : ab_sw lo ex.tail (ex.headD 0) x = ex.tail[(x - lo).toNat] := by
        unfold ab_sw
        rw [if_pos (by omega), hb']; rfl
      rw [hd] at h
      exact lv_tableIn hx hb hdg (by rw [ab_ti hxr]; omega) (by rw [ab_ti hxr]; omega) (by rw [ab_ti hxr]; exact ho') hq2 (hJ _ _ _ _ _ hq1 h ls H locs hl (ab_tail_ok hS) hw)
  case lookupswitch d ps =>
    replace h := ab_pI_of h
    obtain ⟨x, S', rfl, h⟩ := h
    obtain ⟨hdf, hsort, hlen, hall⟩ := hck
    have hxr : ab_r32 x := hS _ List.mem_cons_self
    obtain ⟨t2, hq1, hq2⟩ := ab_lsw_ok (pcs := pcs) (pc := pc) (d := d) (db := ex.headD 0) x ps.toList ex.tail hlen hdf hall
    exact lv_lookup hx hb hdg hsort (by rw [ab_ti hxr]) hq2 (hJ _ _ _ _ _ hq1 h ls H locs hl (ab_tail_ok hS) hw)
  case ireturn =>
    have hd := hn.resolve_left (by intro z; cases z)
    subst hd
    dsimp only [ab_wp] at h
    split at h
    · rename_i x
      exact (hR pc w ls H locs hw).1 ex x hdg hck h.2 (hS _ List.mem_cons_self) h.1
    · exact h.elim
  case lreturn =>
    have hd := hn.resolve_left (by intro z; cases z)
    subst hd
    dsimp only [ab_wp] at h
    split at h
    · rename_i x
      exact (hR pc w ls H locs hw).2.1 x hdg hck h (hS _ List.mem_cons_self)
    · exact h.elim
  case return_ =>
    have hd := hn.resolve_left (by intro z; cases z)
    subst hd
    dsimp only [ab_wp] at h
    split at h
    · exact (hR pc w ls H locs hw).2.2 hdg hck h
    · exact h.elim
  case getfield i =>
    have hd := hn.resolve_left (by intro z; cases z)
    subst hd
    replace h := ab_pR_of h
    obtain ⟨q, S', rfl, h⟩ := h
    obtain ⟨ci, k, Cn, T, N, rfl, hc, hk, hlink⟩ := hck
    dsimp only [List.headD, List.tail] at h
    split at h
    · rename_i hf
      obtain ⟨fs, e1, e2⟩ := ab_fld_of hf
      refine va_get (v := .int (Int32.ofInt (w q (k : Int)))) hx hb hts (ab_lay ci Cn T N hc) hown hKK hP q (ab_ws_get e1) hc k hk (hts _ hlink) (fun _ z => z) (by rw [List.getElem?_mapIdx, e2]; rfl) hdg ?_
      exact hK rfl _ _ _ h ls H locs hl (ab_cons_ok (show ab_r32 (w q (k : Int)) from (hok q _).2 (by unfold ab_arr; rw [e1])) (ab_tail_ok hS)) hw
    · rename_i j hf
      obtain ⟨fs, e1, e2⟩ := ab_fld_of hf
      refine va_get (v := .ref (ad j)) hx hb hts (ab_lay ci Cn T N hc) hown hKK hP q (ab_ws_get e1) hc k hk (hts _ hlink) (fun _ z => z) (by rw [List.getElem?_mapIdx, e2]; rfl) hdg ?_
      exact hK rfl _ _ _ h ls H locs hl (ab_cons_ok (v := vR j) trivial (ab_tail_ok hS)) hw
    · exact h.elim
  case putfield i =>
    have hd := hn.resolve_left (by intro z; cases z)
    subst hd
    dsimp only [ab_wp] at h
    split at h
    · rename_i x q S'
      obtain ⟨ci, k, b, Cn, T, N, rfl, hc, hk, hlink, hfin, hty⟩ := hck
      dsimp only [List.headD, List.tail] at h
      obtain ⟨hf, hbo, h⟩ := h
      obtain ⟨fs, e1, e2⟩ := ab_fld_of hf
      obtain ⟨ty0, ht0, hnm⟩ := ab_typ ci Cn T N hc
      have hxr : ab_r32 x := hS _ List.mem_cons_self
      have hnum : ∃ ty, parseFieldDescriptor (T k).2.2.1 = some ty ∧ narrow ty (.int (Int32.ofInt x)) = .int (Int32.ofInt x) ∧ fits ty (.int (Int32.ofInt x)) = true := by
        rcases hty with ⟨rfl, hty⟩ | ⟨rfl, hty⟩
        · rw [hty]
          exact ⟨.int, by decide +kernel, vp_nar_int _, rfl⟩
        · rw [hty]
          refine ⟨.boolean, by decide +kernel, ?_⟩
          rcases hbo rfl with rfl | rfl <;> exact ⟨by decide +kernel, by decide +kernel⟩
      obtain ⟨ty, hd1, hd2, hd3⟩ := hnum
      refine va_put hx hb hts (ab_lay ci Cn T N hc) ty0 ht0 hnm hown hKK hP hD hSS q (ab_ws_get e1) hc k hk (hts _ hlink) (fun _ z => z) hfin hd1 hd2 hd3 (by rw [List.length_mapIdx]; exact (List.getElem?_eq_some_iff.mp e2).1) hdg (fun H1 locs1 hP1 hD1 hS1 => ?_)
      have he : (ab_ws ad cA w).set q (ad q, .inr (ci, (fs.mapIdx (ab_fv ad w q)).set k (.int (Int32.ofInt x)))) = ab_ws ad cA (ab_up w q (k : Int) x) := ab_ws_set e1 (by rw [ab_fv_set e2]; rfl) (fun j hj => ab_up_ne hj)
      have hP2 : va_P D ab_cl (ab_ws ad cA (ab_up w q (k : Int) x)) H1 := by rw [← he]; exact hP1
      exact hK rfl _ _ _ h ls H1 locs1 hl (ab_tail_ok (ab_tail_ok hS)) (ab_rel_up (ab_shp_69 e1) hro (ab_okW_up hok (ab_r3264 hxr) (fun _ => hxr)) hP2 hS1)
    · exact h.elim
  case getstatic i =>
    have hd := hn.resolve_left (by intro z; cases z)
    subst hd
    refine va_gets (v := .ref (ad 100)) hx hb hX.2.2.2.2.2.2.1 hSS hown (hts _ hck) (fun _ z => z) hdg ?_
    exact hK rfl _ _ _ h ls H locs hl (ab_cons_ok (v := vR 100) trivial hS) hw
  case iaload =>
    have hd := hn.resolve_left (by intro z; cases z)
    subst hd
    replace h := ab_pIR_of h
    obtain ⟨q, i, S', rfl, h⟩ := h
    have hir : ab_r32 i := hS _ List.mem_cons_self
    split at h
    · rename_i n' hf
      obtain ⟨⟨hi0, hin⟩, h⟩ := h
      have hcl := ab_clamp hir
      rcases ab_ild_of hf with hf | hf
      · obtain ⟨rs, e1⟩ := ab_arr_of hf
        refine va_iald hx hb hKK hP q 0 (ab_ws_get e1) rfl (ab_in hir hi0 hin) hdg ?_
        rw [hcl, Int.toNat_of_nonneg hi0]
        exact hK rfl _ _ _ h ls H locs hl (ab_cons_ok (show ab_r32 (w q i) from (hok q _).2 (by unfold ab_arr; rw [e1]; rfl)) (ab_tail_ok (ab_tail_ok hS))) hw
      · rcases ab_ro_of hf with ⟨rfl, rfl⟩ | ⟨rfl, rfl⟩
        · refine va_sld hx hb hX.1 hX.2.1 hX.2.2.1 hSS (ab_in hir hi0 hin) hdg ?_
          rw [hcl, Int.toNat_of_nonneg hi0, ← hro 100 (by omega)]
          exact hK rfl _ _ _ h ls H locs hl (ab_cons_ok (show ab_r32 (w 100 i) from (hok 100 _).2 rfl) (ab_tail_ok (ab_tail_ok hS))) hw
        · refine va_sld hx hb hX.2.2.2.1 hX.2.2.2.2.1 hX.2.2.2.2.2.1 hSS (ab_in hir hi0 hin) hdg ?_
          rw [hcl, Int.toNat_of_nonneg hi0, ← hro 101 (by omega)]
          exact hK rfl _ _ _ h ls H locs hl (ab_cons_ok (show ab_r32 (w 101 i) from (hok 101 _).2 rfl) (ab_tail_ok (ab_tail_ok hS))) hw
    · exact h.elim
  case laload =>
    have hd := hn.resolve_left (by intro z; cases z)
    subst hd
    replace h := ab_pIR_of h
    obtain ⟨q, i, S', rfl, h⟩ := h
    have hir : ab_r32 i := hS _ List.mem_cons_self
    split at h
    · rename_i n' hf
      obtain ⟨⟨hi0, hin⟩, h⟩ := h
      have hcl := ab_clamp hir
      obtain ⟨rs, e1⟩ := ab_arr_of hf
      refine va_lald hx hb hKK hP q 1 (ab_ws_get e1) rfl (ab_in hir hi0 hin) hdg ?_
      rw [hcl, Int.toNat_of_nonneg hi0]
      exact hK rfl _ _ _ h ls H locs hl (ab_cons_ok (show ab_r64 (w q i) from (hok q _).1) (ab_tail_ok (ab_tail_ok hS))) hw
    · exact h.elim
  case baload =>
    have hd := hn.resolve_left (by intro z; cases z)
    subst hd
    replace h := ab_pIR_of h
    obtain ⟨q, i, S', rfl, h⟩ := h
    have hir : ab_r32 i := hS _ List.mem_cons_self
    split at h
    · rename_i n' hf
      obtain ⟨⟨hi0, hin⟩, h⟩ := h
      have hcl := ab_clamp hir
      obtain ⟨rs, e1⟩ := ab_arr_of hf
      refine va_zald hx hb hKK hP q 2 (ab_ws_get e1) rfl (ab_in hir hi0 hin) hdg ?_
      rw [hcl, Int.toNat_of_nonneg hi0]
      exact hK rfl _ _ _ h ls H locs hl (ab_cons_ok (show ab_r32 (w q i) from (hok q _).2 (by unfold ab_arr; rw [e1]; rfl)) (ab_tail_ok (ab_tail_ok hS))) hw
    · exact h.elim
  case aaload =>
    have hd := hn.resolve_left (by intro z; cases z)
    subst hd
    replace h := ab_pIR_of h
    obtain ⟨q, i, S', rfl, h⟩ := h
    have hir : ab_r32 i := hS _ List.mem_cons_self
    split at h
    · rename_i rs hf
      split at h
      · rename_i r hr
        obtain ⟨hi0, h⟩ := h
        have hcl := ab_clamp hir
        obtain ⟨n', e1⟩ := ab_refs_of hf
        have hlen := ab_refs_len hf e1
        refine va_aldq (C := RX1) hx hb hKK hP q 3 (ab_ws_get e1) rfl (ab_in hir hi0 (by have := (List.getElem?_eq_some_iff.mp hr).1; omega)) hdg ?_
        rw [hcl, hr]
        exact hK rfl _ _ _ h ls H locs hl (ab_cons_ok (v := vR r) trivial (ab_tail_ok (ab_tail_ok hS))) hw
      · exact h.elim
    · exact h.elim
  case iastore =>
    have hd := hn.resolve_left (by intro z; cases z)
    subst hd
    dsimp only [ab_wp] at h
    split at h
    · rename_i x i q S'
      split at h
      · rename_i n' hf
        obtain ⟨⟨hi0, hin⟩, h⟩ := h
        have hxr : ab_r32 x := hS _ List.mem_cons_self
        have hir : ab_r32 i := hS _ (List.mem_cons_of_mem _ List.mem_cons_self)
        have hcl := ab_clamp hir
        obtain ⟨rs, e1⟩ := ab_arr_of hf
        refine va_iast hx hb hKK hP hD hSS q 0 (ab_ws_get e1) rfl (ab_in hir hi0 hin) hdg (fun H1 locs1 hP1 hD1 hS1 => ?_)
        have he : (ab_ws ad cA w).set q (ad q, .inl (cA 0, n', .inl (upd (fun i => Int32.ofInt (w q (i : Int))) (Int32.ofInt i).toNatClampNeg (Int32.ofInt x)))) = ab_ws ad cA (ab_up w q i x) := by
          refine ab_ws_set e1 ?_ (fun j hj => ab_up_ne hj)
          rw [hcl]
          dsimp only [ab_cell]
          congr 4
          funext j
          by_cases hj : j = i.toNat
          · have hj2 : (j : Int) = i := by omega
            simp [upd, ab_up, hj, Int.toNat_of_nonneg hi0]
          · have hj2 : ¬ (j : Int) = i := by omega
            simp [upd, ab_up, hj, hj2]
        rw [he] at hP1
        exact hK rfl _ _ _ h ls H1 locs1 hl (ab_tail_ok (ab_tail_ok (ab_tail_ok hS))) (ab_rel_up (ab_shp_69 e1) hro (ab_okW_up hok (ab_r3264 hxr) (fun _ => hxr)) hP1 hS1)
      · exact h.elim
    · exact h.elim
  case lastore =>
    have hd := hn.resolve_left (by intro z; cases z)
    subst hd
    dsimp only [ab_wp] at h
    split at h
    · rename_i x i q S'
      split at h
      · rename_i n' hf
        obtain ⟨⟨hi0, hin⟩, h⟩ := h
        have hxr : ab_r64 x := hS _ List.mem_cons_self
        have hir : ab_r32 i := hS _ (List.mem_cons_of_mem _ List.mem_cons_self)
        have hcl := ab_clamp hir
        obtain ⟨rs, e1⟩ := ab_arr_of hf
        refine va_last hx hb hKK hP hD hSS q 1 (ab_ws_get e1) rfl (ab_in hir hi0 hin) hdg (fun H1 locs1 hP1 hD1 hS1 => ?_)
        have he : (ab_ws ad cA w).set q (ad q, .inl (cA 1, n', .inr (.inl (vp_updL (fun i => Int64.ofInt (w q (i : Int))) (Int32.ofInt i).toNatClampNeg (Int64.ofInt x))))) = ab_ws ad cA (ab_up w q i x) := by
          refine ab_ws_set e1 ?_ (fun j hj => ab_up_ne hj)
          rw [hcl]
          dsimp only [ab_cell]
          congr 5
          funext j
          by_cases hj : j = i.toNat
          · have hj2 : (j : Int) = i := by omega
            simp [vp_updL, ab_up, hj, Int.toNat_of_nonneg hi0]
          · have hj2 : ¬ (j : Int) = i := by omega
            simp [vp_updL, ab_up, hj, hj2]
        rw [he] at hP1
        exact hK rfl _ _ _ h ls H1 locs1 hl (ab_tail_ok (ab_tail_ok (ab_tail_ok hS))) (ab_rel_up (ab_shp_69 e1) hro (ab_okW_up hok hxr (fun z => by unfold ab_arr at z; rw [e1] at z; cases z)) hP1 hS1)
      · exact h.elim
    · exact h.elim
  case bastore =>
    have hd := hn.resolve_left (by intro z; cases z)
    subst hd
    dsimp only [ab_wp] at h
    split at h
    · rename_i x i q S'
      split at h
      · rename_i n' hf
        obtain ⟨⟨hi0, hin⟩, hbo, h⟩ := h
        have hxr : ab_r32 x := hS _ List.mem_cons_self
        have hir : ab_r32 i := hS _ (List.mem_cons_of_mem _ List.mem_cons_self)
        have hcl := ab_clamp hir
        obtain ⟨rs, e1⟩ := ab_arr_of hf
        refine va_zast hx hb hKK hP hD hSS q 2 (ab_ws_get e1) rfl (ab_in hir hi0 hin) hdg (fun H1 locs1 hP1 hD1 hS1 => ?_)
        have he : (ab_ws ad cA w).set q (ad q, .inl (cA 2, n', .inl (upd (fun i => Int32.ofInt (w q (i : Int))) (Int32.ofInt i).toNatClampNeg (vp_nar .boolean (Int32.ofInt x))))) = ab_ws ad cA (ab_up w q i x) := by
          refine ab_ws_set e1 ?_ (fun j hj => ab_up_ne hj)
          rw [show vp_nar .boolean (Int32.ofInt x) = Int32.ofInt x from by rcases hbo with rfl | rfl <;> decide +kernel]; rw [hcl]
          dsimp only [ab_cell]
          congr 4
          funext j
          by_cases hj : j = i.toNat
          · have hj2 : (j : Int) = i := by omega
            simp [upd, ab_up, hj, Int.toNat_of_nonneg hi0]
          · have hj2 : ¬ (j : Int) = i := by omega
            simp [upd, ab_up, hj, hj2]
        rw [he] at hP1
        exact hK rfl _ _ _ h ls H1 locs1 hl (ab_tail_ok (ab_tail_ok (ab_tail_ok hS))) (ab_rel_up (ab_shp_69 e1) hro (ab_okW_up hok (ab_r3264 hxr) (fun _ => hxr)) hP1 hS1)
      · exact h.elim
    · exact h.elim
  case arraylength =>
    have hd := hn.resolve_left (by intro z; cases z)
    subst hd
    replace h := ab_pR_of h
    obtain ⟨q, S', rfl, h⟩ := h
    split at h
    · rename_i n' hf
      rcases ab_len_of hf with ⟨kd, rs, e1⟩ | hf
      · have hsm := ab_shp_small q kd n' rs e1
        have hgo : W p l e R s m args below meth c H locs cells slots Q (F0 m (pc + 1) ls (.int (Int32.ofInt (n' : Int)) :: S'.map (ab_c ad))) := hK rfl _ _ _ h ls H locs hl (ab_cons_ok (show ab_r32 (n' : Int) from ⟨by omega, by omega⟩) (ab_tail_ok hS)) hw
        match kd, e1 with
        | 0, e1 => exact va_alen hx hb hKK hP q 0 (ab_ws_get e1) (ty := .int) rfl (ab_ofNat n') hdg hgo
        | 1, e1 => exact va_alen hx hb hKK hP q 1 (ab_ws_get e1) (ty := .long) rfl (ab_ofNat n') hdg hgo
        | 2, e1 => exact va_alen hx hb hKK hP q 2 (ab_ws_get e1) (ty := .boolean) rfl (ab_ofNat n') hdg hgo
        | kd + 3, e1 => exact va_alen hx hb hKK hP q 3 (ab_ws_get e1) (ty := .object RX1) rfl (ab_ofNat n') hdg hgo
      · have hLs := hX.2.2.2.2.2.2.2
        rcases ab_ro_of hf with ⟨rfl, rfl⟩ | ⟨rfl, rfl⟩
        · refine va_slen hx hb hX.1 hX.2.1 hX.2.2.1 hSS hdg (ab_ti2 (ab_ofNat 5) ?_)
          exact hK rfl _ _ _ h ls H locs hl (ab_cons_ok (show ab_r32 ((5 : Nat) : Int) from ⟨by omega, by omega⟩) (ab_tail_ok hS)) hw
        · refine va_slen hx hb hX.2.2.2.1 hX.2.2.2.2.1 hX.2.2.2.2.2.1 hSS hdg (ab_ti2 (ab_ofNat _) ?_)
          exact hK rfl _ _ _ h ls H locs hl (ab_cons_ok (show ab_r32 ((n' : Nat) : Int) from ⟨by omega, by omega⟩) (ab_tail_ok hS)) hw
    · exact h.elim
  case invokevirtual i =>
    have hd := hn.resolve_left (by intro z; cases z)
    subst hd
    obtain ⟨k, n', ci, r, q, rfl, hmt, hst, rfl, hlink, hc, hq⟩ := hck
    dsimp only [ab_wp, ab_call] at h
    split at h
    · rename_i as S' htk
      obtain ⟨hrc, hfew, h⟩ := h
      obtain ⟨bs, hb1, hb2, rfl⟩ := ab_tk_of _ _ _ _ _ htk
      rw [List.append_nil] at hb2
      have hokA : ∀ v ∈ as, ab_ok v := fun v hv => hS v (List.mem_append_left _ (by rw [hb2] at hv; exact List.mem_reverse.mp hv))
      have hokS : ∀ v ∈ S', ab_ok v := fun v hv => hS v (List.mem_append_right _ hv)
      obtain ⟨⟨hR1, hR2, hR3, hR4⟩, hM⟩ := hC _ _ _ _ h
      obtain ⟨⟨m1, m2, m3, m4, m5, m6, m7⟩, hM⟩ := hM hokA r hmt
      obtain ⟨m8, m9⟩ := m7 hst
      replace hrc := ab_rc_of (hrc rfl)
      obtain ⟨pl, as', rfl, hrc⟩ := hrc
      · obtain ⟨fs, e1⟩ := ab_ci_of hrc
        have hcb : CallW R s args own r.1.cls i r.1 r.2.1 r.2.2.1 r.2.2.2.1 (ab_cw r :: ab_TB) rm 0 0 r.2.2.2.2.1 := ⟨callB_of r.2.2.2.2.1 hts (ab_goodTB m1) rfl hR3 hR4 (hts _ m2) (hts _ hlink) m3 ⟨hR1, by omega⟩, hts _ m8, hts _ m9⟩
        have hbs : bs = as'.reverse ++ [vR pl] := by
          have := congrArg List.reverse hb2
          simpa using this.symm
        have hrec := va_recv hKK hP hc (ab_ws_get e1)
        rw [hq] at hrec
        refine ab_behind (S := S') (va_runV (As := as'.map (ab_c ad)) (b := ad pl) ⟨hx, hb, hml, hown, hts⟩ (hM H.size) hcb ⟨ab_Pc_blind, hrec, ab_pre hKK hinj hX hw⟩ rfl (by rw [List.length_map]; have := congrArg List.length hbs; simp at this; omega) hl.2.1.1 (by subst hbs; show List.map _ _ = _; simp [ab_c]) (lv_room (ab_few_of hfew)) hdg ⟨hcs.1, hcs.2⟩) hSS (fun r1 w1 H1 locs1 hpost hok1 hP1 hW1 hro1 hS1 => ?_)
        refine hK rfl _ _ _ hpost ls H1 locs1 hl (fun v hv => ?_) ⟨hP1, hS1, fun p hp => (hro1 p hp).trans (hro p hp), hW1⟩
        cases r1 with
        | none => exact hokS v hv
        | some v1 =>
          rcases List.mem_cons.mp hv with rfl | hv
          · exact hok1 _ rfl
          · exact hokS v hv
    · exact h.elim
  case invokestatic i =>
    have hd := hn.resolve_left (by intro z; cases z)
    subst hd
    rcases hck with ⟨rfl, hlink⟩ | ⟨rfl, hlink⟩ | ⟨rfl, hlink⟩ | ⟨k, n', ci, r, rfl, hmt, hst, rfl, hlink⟩
    · dsimp only [ab_wp] at h
      rw [if_pos rfl] at h
      unfold ab_copy at h
      split at h
      · rename_i n1 dp q sp p0 S'
        obtain ⟨hfew, hc0, ⟨kd, a, b, hkd, ha, hb', h1, h2, h3, h4, h5⟩, h⟩ := h
        obtain ⟨⟨hR1, hR2, hR3, hR4⟩, -⟩ := hC _ _ _ _ hc0
        have hnr : ab_r32 n1 := hS _ List.mem_cons_self
        have hdr : ab_r32 dp := hS _ (List.mem_cons_of_mem _ List.mem_cons_self)
        have hsr : ab_r32 sp := hS _ (List.mem_cons_of_mem _ (List.mem_cons_of_mem _ (List.mem_cons_of_mem _ List.mem_cons_self)))
        have hokS : ∀ v ∈ S', ab_ok v := ab_tail_ok (ab_tail_ok (ab_tail_ok (ab_tail_ok (ab_tail_ok hS))))
        have nn : ∀ {y : Int}, ab_r32 y → 0 ≤ y → ¬ Int32.ofInt y < 0 := fun hy h0 z => by
          rw [ab_z32, ab_lt32 hy ab_r0] at z; omega
        have hwd : ((S'.map (ab_c ad)).map fun v => v.category).sum + (nativeFrameWords "java/lang/System" "arraycopy" 5 + 11) ≤ R.locals := by
          have := ab_few_of (ad := ad) hfew
          have e7 : nativeFrameWords "java/lang/System" "arraycopy" 5 = 7 := by decide +kernel
          omega
        have hsz : c.maxLocals = ls.size := hml.trans hl.2.1.1.symm
        have c1 := ab_clamp hnr
        have c2 := ab_clamp hdr
        have c3 := ab_clamp hsr
        obtain ⟨ws1, ws2, ws3⟩ := ab_sys
        have hcpW : ab_okW (ab_cp w p0 q sp dp n1) := by
          intro r j
          unfold ab_cp
          by_cases hr : r = q
          · subst hr
            rw [if_pos rfl]
            by_cases hj : dp ≤ j ∧ j < dp + n1
            · rw [if_pos hj]
              refine ⟨(hok p0 _).1, fun z => ?_⟩
              refine (hok p0 _).2 ?_
              rcases hkd with rfl | rfl
              · obtain ⟨rs, e1⟩ := ab_arr_of ha
                unfold ab_arr; rw [e1]; rfl
              · rw [hb'] at z; cases z
            · rw [if_neg hj]; exact hok r j
          · rw [if_neg hr]; exact hok r j
        rcases hkd with rfl | rfl
        · obtain ⟨rs, e1⟩ := ab_arr_of ha
          obtain ⟨rs2, e2⟩ := ab_arr_of hb'
          refine va_copyi (ty := .int) hx hb hsz hown (hts _ hlink) (hts _ ws1) (hts _ ws2) (hts _ ws3) hKK hP hD hSS p0 q 0 0 (ab_ws_get e1) (ab_ws_get e2) rfl rfl rfl (nn hsr h1) (nn hdr h2) (nn hnr h3) (by rw [c1, c3]; omega) (by rw [c1, c2]; omega) (fun _ _ => rfl) (by omega) hwd hdg (fun H1 locs1 hP1 hD1 hS1 => ?_)
          have he : (ab_ws ad cA w).set q (ad q, .inl (cA 0, b, .inl (va_cpy (fun i => Int32.ofInt (w p0 (i : Int))) (fun i => Int32.ofInt (w q (i : Int))) (Int32.ofInt sp).toNatClampNeg (Int32.ofInt dp).toNatClampNeg (Int32.ofInt n1).toNatClampNeg))) = ab_ws ad cA (ab_cp w p0 q sp dp n1) := by
            refine ab_ws_set e2 ?_ (fun j hj => ab_cp_ne hj)
            rw [c1, c2, c3]
            dsimp only [ab_cell]
            congr 4
            funext j
            unfold va_cpy ab_cp
            rw [if_pos rfl]
            by_cases hj : dp.toNat ≤ j ∧ j < dp.toNat + n1.toNat
            · rw [if_pos hj, if_pos (by omega), ← show ((sp.toNat + (j - dp.toNat) : Nat) : Int) = sp + ((j : Int) - dp) by omega]
            · rw [if_neg hj, if_neg (by omega)]
          rw [he] at hP1
          exact hK rfl _ _ _ h ls H1 locs1 hl hokS ⟨hP1, hS1, fun p hp => by rw [ab_cp_ne (by have := ab_shp_69 e2; omega)]; exact hro p hp, hcpW⟩
        · obtain ⟨rs, e1⟩ := ab_arr_of ha
          obtain ⟨rs2, e2⟩ := ab_arr_of hb'
          refine va_copyl (ty := .long) hx hb hsz hown (hts _ hlink) (hts _ ws1) (hts _ ws2) (hts _ ws3) hKK hP hD hSS p0 q 1 1 (ab_ws_get e1) (ab_ws_get e2) rfl rfl rfl (nn hsr h1) (nn hdr h2) (nn hnr h3) (by rw [c1, c3]; omega) (by rw [c1, c2]; omega) (fun _ _ => rfl) (by omega) hwd hdg (fun H1 locs1 hP1 hD1 hS1 => ?_)
          have he : (ab_ws ad cA w).set q (ad q, .inl (cA 1, b, .inr (.inl (va_cpy (fun i => Int64.ofInt (w p0 (i : Int))) (fun i => Int64.ofInt (w q (i : Int))) (Int32.ofInt sp).toNatClampNeg (Int32.ofInt dp).toNatClampNeg (Int32.ofInt n1).toNatClampNeg)))) = ab_ws ad cA (ab_cp w p0 q sp dp n1) := by
            refine ab_ws_set e2 ?_ (fun j hj => ab_cp_ne hj)
            rw [c1, c2, c3]
            dsimp only [ab_cell]
            congr 5
            funext j
            unfold va_cpy ab_cp
            rw [if_pos rfl]
            by_cases hj : dp.toNat ≤ j ∧ j < dp.toNat + n1.toNat
            · rw [if_pos hj, if_pos (by omega), ← show ((sp.toNat + (j - dp.toNat) : Nat) : Int) = sp + ((j : Int) - dp) by omega]
            · rw [if_neg hj, if_neg (by omega)]
          rw [he] at hP1
          exact hK rfl _ _ _ h ls H1 locs1 hl hokS ⟨hP1, hS1, fun p hp => by rw [ab_cp_ne (by have := ab_shp_69 e2; omega)]; exact hro p hp, hcpW⟩
      · exact h.elim
    · dsimp only [ab_wp] at h
      rw [if_neg (by simp), if_pos rfl] at h
      unfold ab_mm at h
      split at h
      · rename_i y x S'
        obtain ⟨hfew, hc0, h⟩ := h
        obtain ⟨⟨hR1, hR2, hR3, hR4⟩, -⟩ := hC _ _ _ _ hc0
        have hyr : ab_r32 y := hS _ List.mem_cons_self
        have hxr : ab_r32 x := hS _ (List.mem_cons_of_mem _ List.mem_cons_self)
        obtain ⟨z1, z2, z3, z4, z5⟩ := ab_mth
        refine va_mmax hx hb (hml.trans hl.2.1.1.symm) hown (hts _ hlink) (hts _ z1) (hts _ z3) (hts _ z4) (by omega) (by have := ab_few_of (ad := ad) hfew; omega) hcs.1 hcs.2 hdg (ab_ti2 (ab_mx32 hxr hyr) ?_)
        exact hK rfl _ _ _ h ls H locs hl (ab_cons_ok (ab_mxr hxr hyr) (ab_tail_ok (ab_tail_ok hS))) hw
      · exact h.elim
    · dsimp only [ab_wp] at h
      rw [if_neg (by simp), if_neg (by simp), if_pos rfl] at h
      unfold ab_mm at h
      split at h
      · rename_i y x S'
        obtain ⟨hfew, hc0, h⟩ := h
        obtain ⟨⟨hR1, hR2, hR3, hR4⟩, -⟩ := hC _ _ _ _ hc0
        have hyr : ab_r32 y := hS _ List.mem_cons_self
        have hxr : ab_r32 x := hS _ (List.mem_cons_of_mem _ List.mem_cons_self)
        obtain ⟨z1, z2, z3, z4, z5⟩ := ab_mth
        refine va_mmin hx hb (hml.trans hl.2.1.1.symm) hown (hts _ hlink) (hts _ z2) (hts _ z3) (hts _ z5) (by omega) (by have := ab_few_of (ad := ad) hfew; omega) hcs.1 hcs.2 hdg (ab_ti2 (ab_mn32 hxr hyr) ?_)
        exact hK rfl _ _ _ h ls H locs hl (ab_cons_ok (ab_mnr hxr hyr) (ab_tail_ok (ab_tail_ok hS))) hw
      · exact h.elim
    · dsimp only [ab_wp] at h
      rw [if_neg (by simp), if_neg (by simp), if_neg (by simp)] at h
      unfold ab_call at h
      dsimp only at h
      split at h
      · rename_i as S' htk
        obtain ⟨-, hfew, h⟩ := h
        obtain ⟨bs, hb1, hb2, rfl⟩ := ab_tk_of _ _ _ _ _ htk
        rw [List.append_nil] at hb2
        have hokA : ∀ v ∈ as, ab_ok v := fun v hv => hS v (List.mem_append_left _ (by rw [hb2] at hv; exact List.mem_reverse.mp hv))
        have hokS : ∀ v ∈ S', ab_ok v := fun v hv => hS v (List.mem_append_right _ hv)
        obtain ⟨⟨hR1, hR2, hR3, hR4⟩, hM⟩ := hC _ _ _ _ h
        obtain ⟨⟨m1, m2, m3, m4, m5, m6, m7⟩, hM⟩ := hM hokA r hmt
        have hcb : CallB R s args own i r.1 r.2.1 r.2.2.1 r.2.2.2.1 (ab_cw r :: ab_TB) rm 0 0 r.2.2.2.2.1 ∧ (Cond.static r.1).before args s = true := ⟨callB_of r.2.2.2.2.1 hts (ab_goodTB m1) rfl hR3 hR4 (hts _ m2) (hts _ hlink) m3 ⟨hR1, by omega⟩, hts _ (m6 hst)⟩
        have hbs : bs = as.reverse := by
          have := congrArg List.reverse hb2
          simpa using this.symm
        refine ab_behind (S := S') (va_runS (As := as.map (ab_c ad)) ⟨hx, hb, hml, hown, hts⟩ (hM H.size) hcb ⟨ab_Pc_blind, ab_pre hKK hinj hX hw⟩ rfl (by rw [List.length_map]; have := congrArg List.length hbs; simp at this; omega) hl.2.1.1 (by subst hbs; show List.map _ _ = _; simp) (lv_room (ab_few_of hfew)) hdg ⟨hcs.1, hcs.2⟩) hSS (fun r1 w1 H1 locs1 hpost hok1 hP1 hW1 hro1 hS1 => ?_)
        refine hK rfl _ _ _ hpost ls H1 locs1 hl (fun v hv => ?_) ⟨hP1, hS1, fun p hp => (hro1 p hp).trans (hro p hp), hW1⟩
        cases r1 with
        | none => exact hokS v hv
        | some v1 =>
          rcases List.mem_cons.mp hv with rfl | hv
          · exact hok1 _ rfl
          · exact hokS v hv
      · exact h.elim
end Step9
