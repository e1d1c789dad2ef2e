/-! making objects: rows over any world (the machine's own, by the kit) -/
theorem mk_RA {s : State} {a b : ClassId} {ty : FieldType} (h1 : va_RA s a ty) (h2 : va_RA s b ty) : a = b := by
  cases ty with
  | object C =>
    obtain ⟨_, _, _, _, _, e1⟩ := h1
    obtain ⟨_, _, _, _, _, e2⟩ := h2
    exact Option.some.inj (e1.symm.trans e2)
  | _ => exact Option.some.inj (Eq.trans (Eq.symm h1) h2)
theorem mk_nd : ∀ (l : List Nat), l.Nodup → va_nd l = true
  | [], _ => rfl
  | a :: l, h => by
    obtain ⟨h1, h2⟩ := List.nodup_cons.mp h
    show (decide (a ∉ l) && va_nd l) = true
    rw [mk_nd l h2, decide_eq_true h1]; rfl
theorem mk_last {ws : va_W} {x : Nat × va_E} : [ws.length].map (fun i => (ws ++ [x])[i]?) = [x].map some := by simp
theorem mk_front {ws : va_W} {x : Nat × va_E} : (List.range ws.length).map (fun i => (ws ++ [x])[i]?) = ws.map some := by
  apply List.ext_getElem?
  intro i
  rw [List.getElem?_map, List.getElem?_map]
  by_cases h : i < ws.length
  · rw [List.getElem?_range h]
    show some ((ws ++ [x])[i]?) = _
    rw [List.getElem?_append_left h, List.getElem?_eq_getElem h]
    rfl
  · rw [List.getElem?_eq_none (by rw [List.length_range]; omega), List.getElem?_eq_none (by omega)]
    rfl
section Make70
variable {p : Program} {l : Launch} {e : Env} {R : Room} {s : State} {m : MethodId} {args : Array Value} {below : List Frame} {meth : Method} {c : Code} {Q : State → Prop} {cells slots : Nat} {cc : ByteArray} {own : String} {nL : Nat}
variable {D : va_G} {cA : Nat → ClassId} {ws : va_W} {H H0 : Heap} {locs : List Loc} {A : Nat → Prop} {pc : Nat} {ls : Array Slot} {rest : List Value}
def mk_cx (p : Program) (s : State) (m : MethodId) (args : Array Value) (c : Code) (cc : ByteArray) (nL : Nat) (own : String) (D : va_G) (cA : Nat → ClassId) : Prop :=
  p.tables.exec = Jvm.exec ∧ c.code = cc ∧ c.maxLocals = nL ∧ s.vm.findClass own = some m.cls ∧ (∀ w ∈ ab_TB, w.before args s = true) ∧ va_K D ab_cl (ab_tys cA) s
def mk_w (D : va_G) (ws : va_W) (H0 H : Heap) (A : Nat → Prop) (locs : List Loc) : Prop := va_P D ab_cl ws H ∧ va_D A ws ∧ va_S A H0 H locs
theorem mk_na (X : mk_cx p s m args c cc nL own D cA) {atype : ArrayType} (t0 : Nat) (ht : (ab_tys cA)[t0]? = some (cA t0, newarray.typeOf atype)) (harr : Cond.arrayClass (newarray.typeOf atype) ∈ ab_TB) (hW : mk_w D ws H0 H A locs) (hA : ∀ q, H0.size ≤ q → A q) {n : Int32} {N : Nat} {a0 : vp_A} (ha : ∀ c, vp_cell c a0 = arrV c N (fun _ => defaultValue (newarray.typeOf atype))) (hn : ¬ n < 0) (hN : n.toNatClampNeg = N) (hbytes : N * componentBytes (newarray.typeOf atype) ≤ 536870912) (hcells : cells + 1 ≤ R.cells) (hslots : slots + N ≤ R.slots) (hdg : decode cc pc = .ok (.newarray atype, 2))
    (kk : ∀ (q : Nat) (H1 : Heap), mk_w D (ws ++ [(q, .inl (cA t0, a0))]) H0 H1 A locs → W p l e R s m args below meth c H1 locs (cells + 1) (slots + N) Q (F0 m (pc + 2) ls (.ref q :: rest))) : W p l e R s m args below meth c H locs cells slots Q (F0 m pc ls (.int n :: rest)) := by
  obtain ⟨hx, hb, hml, hown, hts, hK⟩ := X
  refine va_newa hx hb (hts _ harr) rfl hK hW.1 hW.2.1 hW.2.2 hA ha hn hN hbytes hcells hslots hdg (fun q c' H1 hK1 hP hD hS => ?_)
  have e : c' = cA t0 := mk_RA (hK1.2 (ab_tys cA).length (c', _) (by simp)).2 (hK.2 t0 _ ht).2
  subst e
  exact kk q H1 ⟨hP, hD, hS⟩
theorem mk_pf (X : mk_cx p s m args c cc nL own D cA) (hinit : meth.name = "<init>") {ci index : Nat} {C : String} {T : u_T} {N : Nat} (hc : ab_cl[ci]? = some (C, T, N)) (k : Nat) (hk : k < N) (hlink : Cond.fieldLink own index (T k).1 (T k).2.1 (T k).2.2.1 ∈ ab_TB) (hfin : (T k).2.2.2 = true) (hdecl : (T k).1 = own) {ty : FieldType} (hd : parseFieldDescriptor (T k).2.2.1 = some ty) {v : Value} (hn : narrow ty v = v) (hfit : fits ty v = true) {a : Nat} {fs : List Value} (he : ws[0]? = some (a, .inr (ci, fs))) (hl : k < fs.length) (hW : mk_w D ws H0 H A locs) (hdg : decode cc pc = .ok (.putfield index, 3))
    (kk : ∀ (H1 : Heap) (locs1 : List Loc), mk_w D (ws.set 0 (a, .inr (ci, fs.set k v))) H0 H1 A locs1 → W p l e R s m args below meth c H1 locs1 cells slots Q (F0 m (pc + 3) ls rest)) : W p l e R s m args below meth c H locs cells slots Q (F0 m pc ls (v :: .ref a :: rest)) := by
  obtain ⟨hx, hb, hml, hown, hts, hK⟩ := X
  obtain ⟨ty0, hty, hnm⟩ := ab_typ ci C T N hc
  exact va_putF (ref := (T k).1) hx hb hts (ab_lay ci C T N hc) ty0 hty hnm hown hK hW.1 hW.2.1 hW.2.2 0 he hc k hk (hts _ hlink) (fun _ h => h) hfin hinit hdecl hd hn hfit hl hdg (fun H1 locs1 hP hD hS => kk H1 locs1 ⟨hP, hD, hS⟩)
theorem mk_pi (X : mk_cx p s m args c cc nL own D cA) {ci index : Nat} {C : String} {T : u_T} {N : Nat} (hc : ab_cl[ci]? = some (C, T, N)) (k : Nat) (hk : k < N) (hlink : Cond.fieldLink own index (T k).1 (T k).2.1 (T k).2.2.1 ∈ ab_TB) (hfin : (T k).2.2.2 = false) {ty : FieldType} (hd : parseFieldDescriptor (T k).2.2.1 = some ty) {v : Value} (hn : narrow ty v = v) (hfit : fits ty v = true) {a : Nat} {fs : List Value} (he : ws[0]? = some (a, .inr (ci, fs))) (hl : k < fs.length) (hW : mk_w D ws H0 H A locs) (hdg : decode cc pc = .ok (.putfield index, 3))
    (kk : ∀ (H1 : Heap) (locs1 : List Loc), mk_w D (ws.set 0 (a, .inr (ci, fs.set k v))) H0 H1 A locs1 → W p l e R s m args below meth c H1 locs1 cells slots Q (F0 m (pc + 3) ls rest)) : W p l e R s m args below meth c H locs cells slots Q (F0 m pc ls (v :: .ref a :: rest)) := by
  obtain ⟨hx, hb, hml, hown, hts, hK⟩ := X
  obtain ⟨ty0, hty, hnm⟩ := ab_typ ci C T N hc
  exact va_put (ref := (T k).1) hx hb hts (ab_lay ci C T N hc) ty0 hty hnm hown hK hW.1 hW.2.1 hW.2.2 0 he hc k hk (hts _ hlink) (fun _ h => h) hfin hd hn hfit hl hdg (fun H1 locs1 hP hD hS => kk H1 locs1 ⟨hP, hD, hS⟩)
/-- a constructor's contract: where it starts, what it leaves -/
def mk_Pc (D : va_G) (cA : Nat → ClassId) (Ex : State → Prop) (ci : Nat) (fs0 : List Value) (h0 sz : Nat) : Array Value → State → Prop := va_Pc [.ref h0] (fun U => U.heap.size = sz ∧ va_P D ab_cl [(h0, .inr (ci, fs0))] U.heap ∧ va_K D ab_cl (ab_tys cA) U ∧ Ex U)
def mk_Qc (D : va_G) (ci : Nat) (fs0 : List Value) (Lf : Nat → (Nat → Nat) → va_W) (h0 sz : Nat) : Array Value → State → Outcome → State → Prop := va_Qv (fun _ : Nat → Nat => True) (fun f t => va_P D ab_cl (Lf h0 f) t.heap ∧ va_D (va_A [(h0, .inr (ci, fs0))] sz) (Lf h0 f)) (va_A [(h0, .inr (ci, fs0))] sz)
theorem mk_good {y : MethodName} {cy : ByteArray} {mL : Nat} (h : Cond.code y cy mL none ∈ ab_TB) : GoodIn ab_TB (Cond.code y cy mL none :: ab_TB) := by
  intro w hw
  have hm : w ∈ ab_TB := by
    rcases List.mem_cons.mp hw with rfl | hw
    · exact h
    · exact hw
  exact ⟨hm, good_of_word (List.mem_filter.mp hm).2⟩
theorem mk_join {ci : Nat} {fs0 : List Value} {q : Nat} {H1 : Heap} {w1 : va_W} (hW : mk_w D (ws ++ [(q, .inr (ci, fs0))]) H0 H A locs) (hA : ∀ q, H0.size ≤ q → A q) (hk1 : ∀ x : Nat, x < H.size → ¬ va_A [(q, .inr (ci, fs0))] H.size x → H1[x]? = H[x]?) (hP1 : va_P D ab_cl w1 H1) (hD1 : va_D (va_A [(q, .inr (ci, fs0))] H.size) w1) : va_P D ab_cl (ws ++ w1) H1 ∧ va_D A (ws ++ w1) :=
  va_join hW.1 hW.2.1 [ws.length] (List.range ws.length) mk_last mk_front (mk_nd _ List.nodup_range) (fun i hi hj => by
    have h1 := List.mem_range.mp hi
    have h2 := List.mem_singleton.mp hj
    omega) hk1 (va_free hW.2.1 hW.2.2 hA [ws.length] mk_last) hP1 hD1
/-- new, dup, a private constructor of the nest -/
theorem mk_nwN (X : mk_cx p s m args c cc nL own D cA) (hls : ls.size = nL) {y : MethodName} {cy : ByteArray} {ci : Nat} {C : String} {T : u_T} {N index idx : Nat} {fs0 : List Value} {Lf : Nat → (Nat → Nat) → va_W} {rm : Room} {mc ms : Nat}
    (hM : ∀ h0 sz, Met l y (Cond.code y cy 1 none :: ab_TB) rm (mk_Pc D cA (fun _ => True) ci fs0 h0 sz) (mk_Qc D ci fs0 Lf h0 sz) mc ms (va_A [(h0, .inr (ci, fs0))] sz))
    (hc : ab_cl[ci]? = some (C, T, N)) (ty0 : Nat → FieldType) (hty : ∀ k, k < N → parseFieldDescriptor (T k).2.2.1 = some (ty0 k)) (hfs : ∀ j, j < N → defaultValue (ty0 j) = vp_V fs0 j)
    (hcl : Cond.classLink own index C ∈ ab_TB) (hinst : Cond.instantiable C N ∈ ab_TB) (hini : Cond.initialized C ∈ ab_TB) (hyc : y.cls = C) (hyn : y.name = "<init>") (hcode : Cond.code y cy 1 none ∈ ab_TB) (hyi : Cond.instanceMethod y ∈ ab_TB) (hnest : va_Nw (.methodLinkNest own idx y own) s)
    (hd : y.cls ≠ "java/lang/invoke/MethodHandle" ∧ y.cls ≠ "java/lang/invoke/VarHandle" ∧ (parseMethodDescriptor y.desc).map (fun d => d.parameters.length) = some 0) (hrc : rm.cells = mc) (hrs : rm.slots = ms) (hR : rm.frames + 1 ≤ R.frames ∧ 8 + (1 + 11) + rm.locals ≤ R.locals)
    (hW : mk_w D ws H0 H A locs) (hA : ∀ q, H0.size ≤ q → A q) (hcells : cells + 1 + mc ≤ R.cells) (hslots : slots + N + ms ≤ R.slots) (hr8 : ∀ q : Nat, ((Value.ref q :: rest).map fun v => v.category).sum ≤ 8) (hdg1 : decode cc pc = .ok (.new index, 3)) (hdg2 : decode cc (pc + 3) = .ok (.dup, 1)) (hdg3 : decode cc (pc + 3 + 1) = .ok (.invokespecial idx, 3))
    (kk : ∀ (q : Nat) (f : Nat → Nat) (H1 : Heap) (locs1 : List Loc), mk_w D (ws ++ Lf q f) H0 H1 A locs1 → W p l e R s m args below meth c H1 locs1 (cells + 1 + mc) (slots + N + ms) Q (F0 m (pc + 3 + 1 + 3) ls (.ref q :: rest))) : W p l e R s m args below meth c H locs cells slots Q (F0 m pc ls rest) := by
  obtain ⟨hx, hb, hml, hown, hts, hK⟩ := X
  refine va_new (ci := ci) (fs := fs0) (C := C) (T := T) (N := N) hx hb hts (ab_lay ci C T N hc) ty0 hty hown (hts _ hcl) (hts _ hinst) (hts _ hini) hK hW.1 hW.2.1 hW.2.2 hA hc hfs (by omega) (by omega) hdg1 (fun q H2 hP hD hS => ?_)
  have hW2 : mk_w D (ws ++ [(q, .inr (ci, fs0))]) H0 H2 A locs := ⟨hP, hD, hS⟩
  refine lv_dup hx hb hdg2 rfl ?_
  have hPc : va_P D ab_cl [(q, .inr (ci, fs0))] H2 := hP.sub [ws.length] (by simp)
  have hFc := va_free (wc := [(q, .inr (ci, fs0))]) hD hS hA [ws.length] mk_last
  subst hyc
  refine va_callv (va_runIN (As := []) (rest := .ref q :: rest) ⟨hx, hb, hml, hown, hts⟩ (hM q H2.size) ⟨va_cnB 0 hts (mk_good hcode) rfl hrc hrs hnest (hts _ hini) hd hR, hyn, hts _ hyi⟩ ⟨fun a U g mk q => by obtain ⟨q0, q1, qP, qK, qE⟩ := q; exact ⟨q0, q1, qP, va_K.moved (u := U) (U := U.calling g mk a) (Vm.Alike.refl U.vm) qK, trivial⟩, fun U hU hW => ⟨rfl, by rw [hU], by rw [hU]; exact hPc, va_K.moved hW.alike hK, trivial⟩⟩ rfl rfl hls rfl (lv_room (hr8 q)) hdg3 ⟨by omega, by omega⟩) hS (fun q _ h => hFc q h) hFc (fun f t H1 locs1 ht hvm hw hB hz1 hk1 hS1 => ?_)
  rw [ht] at hB
  obtain ⟨hP3, hD3⟩ := mk_join hW2 hA hk1 hB.1 hB.2
  exact kk q f H1 locs1 ⟨hP3, hD3, hS1⟩
/-- new, dup, a public constructor -/
theorem mk_nwP (X : mk_cx p s m args c cc nL own D cA) (hls : ls.size = nL) {y : MethodName} {cy : ByteArray} {ci mL : Nat} {C : String} {T : u_T} {N index idx : Nat} {fs0 : List Value} {Lf : Nat → (Nat → Nat) → va_W} {rm : Room} {mc ms : Nat} {Ex : State → Prop}
    (hM : ∀ h0 sz, Met l y (Cond.code y cy mL none :: ab_TB) rm (mk_Pc D cA Ex ci fs0 h0 sz) (mk_Qc D ci fs0 Lf h0 sz) mc ms (va_A [(h0, .inr (ci, fs0))] sz)) (hbl : ∀ (a : Array Value) (U : State) (g : JFrame) (mk : MethodId), Ex U → Ex (U.calling g mk a)) (hEx : ∀ U : State, s.WarmedH U.vm → Ex U)
    (hc : ab_cl[ci]? = some (C, T, N)) (ty0 : Nat → FieldType) (hty : ∀ k, k < N → parseFieldDescriptor (T k).2.2.1 = some (ty0 k)) (hfs : ∀ j, j < N → defaultValue (ty0 j) = vp_V fs0 j)
    (hcl : Cond.classLink own index C ∈ ab_TB) (hinst : Cond.instantiable C N ∈ ab_TB) (hini : Cond.initialized C ∈ ab_TB) (hyc : y.cls = C) (hyn : y.name = "<init>") (hcode : Cond.code y cy mL none ∈ ab_TB) (hyi : Cond.instanceMethod y ∈ ab_TB) (hlink : Cond.methodLink own idx y ∈ ab_TB)
    (hd : y.cls ≠ "java/lang/invoke/MethodHandle" ∧ y.cls ≠ "java/lang/invoke/VarHandle" ∧ (parseMethodDescriptor y.desc).map (fun d => d.parameters.length) = some 0) (hrc : rm.cells = mc) (hrs : rm.slots = ms) (hR : rm.frames + 1 ≤ R.frames ∧ 8 + (mL + 11) + rm.locals ≤ R.locals)
    (hW : mk_w D ws H0 H A locs) (hA : ∀ q, H0.size ≤ q → A q) (hcells : cells + 1 + mc ≤ R.cells) (hslots : slots + N + ms ≤ R.slots) (hr8 : ∀ q : Nat, ((Value.ref q :: rest).map fun v => v.category).sum ≤ 8) (hdg1 : decode cc pc = .ok (.new index, 3)) (hdg2 : decode cc (pc + 3) = .ok (.dup, 1)) (hdg3 : decode cc (pc + 3 + 1) = .ok (.invokespecial idx, 3))
    (kk : ∀ (q : Nat) (f : Nat → Nat) (H1 : Heap) (locs1 : List Loc), mk_w D (ws ++ Lf q f) H0 H1 A locs1 → W p l e R s m args below meth c H1 locs1 (cells + 1 + mc) (slots + N + ms) Q (F0 m (pc + 3 + 1 + 3) ls (.ref q :: rest))) : W p l e R s m args below meth c H locs cells slots Q (F0 m pc ls rest) := by
  obtain ⟨hx, hb, hml, hown, hts, hK⟩ := X
  refine va_new (ci := ci) (fs := fs0) (C := C) (T := T) (N := N) hx hb hts (ab_lay ci C T N hc) ty0 hty hown (hts _ hcl) (hts _ hinst) (hts _ hini) hK hW.1 hW.2.1 hW.2.2 hA hc hfs (by omega) (by omega) hdg1 (fun q H2 hP hD hS => ?_)
  have hW2 : mk_w D (ws ++ [(q, .inr (ci, fs0))]) H0 H2 A locs := ⟨hP, hD, hS⟩
  refine lv_dup hx hb hdg2 rfl ?_
  have hPc : va_P D ab_cl [(q, .inr (ci, fs0))] H2 := hP.sub [ws.length] (by simp)
  have hFc := va_free (wc := [(q, .inr (ci, fs0))]) hD hS hA [ws.length] mk_last
  subst hyc
  refine va_callv (va_runI (As := []) (rest := .ref q :: rest) ⟨hx, hb, hml, hown, hts⟩ (hM q H2.size) (cwI 0 hts (mk_good hcode) rfl hrc hrs (hts _ hini) (hts _ hlink) (hts _ hyi) hyn hd hR) ⟨fun a U g mk q => by obtain ⟨q0, q1, qP, qK, qE⟩ := q; exact ⟨q0, q1, qP, va_K.moved (u := U) (U := U.calling g mk a) (Vm.Alike.refl U.vm) qK, hbl a U g mk qE⟩, fun U hU hW => ⟨rfl, by rw [hU], by rw [hU]; exact hPc, va_K.moved hW.alike hK, hEx U hW⟩⟩ rfl rfl hls rfl (lv_room (hr8 q)) hdg3 ⟨by omega, by omega⟩) hS (fun q _ h => hFc q h) hFc (fun f t H1 locs1 ht hvm hw hB hz1 hk1 hS1 => ?_)
  rw [ht] at hB
  obtain ⟨hP3, hD3⟩ := mk_join hW2 hA hk1 hB.1 hB.2
  exact kk q f H1 locs1 ⟨hP3, hD3, hS1⟩
theorem mk_nq (X : mk_cx p s m args c cc nL own D cA) {C : String} {index : Nat} (t0 : Nat) (ht : (ab_tys cA)[t0]? = some (cA t0, .object C)) (hcl : Cond.classLink own index C ∈ ab_TB) (hover : va_AO C s) (hW : mk_w D ws H0 H A locs) (hA : ∀ q, H0.size ≤ q → A q) {n : Int32} {N : Nat} (hn : ¬ n < 0) (hN : n.toNatClampNeg = N) (hbytes : N * 4 ≤ 536870912) (hcells : cells + 1 ≤ R.cells) (hslots : slots + N ≤ R.slots) (hdg : decode cc pc = .ok (.anewarray index, 3))
    (kk : ∀ (q : Nat) (H1 : Heap), mk_w D (ws ++ [(q, .inl (cA t0, N, .inr (.inr (.inr (.inr (fun _ => none))))))]) H0 H1 A locs → W p l e R s m args below meth c H1 locs (cells + 1) (slots + N) Q (F0 m (pc + 3) ls (.ref q :: rest))) : W p l e R s m args below meth c H locs cells slots Q (F0 m pc ls (.int n :: rest)) := by
  obtain ⟨hx, hb, hml, hown, hts, hK⟩ := X
  refine va_newq hx hb hown (hts _ hcl) hover hK hW.1 hW.2.1 hW.2.2 hA hn hN hbytes hcells hslots hdg (fun q c' H1 hK1 hP hD hS => ?_)
  have e : c' = cA t0 := mk_RA (hK1.2 (ab_tys cA).length (c', _) (by simp)).2 (hK.2 t0 _ ht).2
  subst e
  exact kk q H1 ⟨hP, hD, hS⟩
theorem mk_one {x : Nat × va_E} {sz : Nat} : va_D (va_A [x] sz) [x] := ⟨fun i j p q hi hj _ => by
  have h1 : i < 1 := (List.getElem?_eq_some_iff.mp hi).1
  have h2 : j < 1 := (List.getElem?_eq_some_iff.mp hj).1
  omega, fun k q hk => va_A.in hk⟩
end Make70
