/-! what is asked of the printed bodies, and the contract of a method in the words of the abstract machine -/
abbrev ab_cl : List vw_C := [(RX0, TX0, 8), (RX1, TX1, 4), (RX2, TX2, 2), (RX3, TX3, 4), (RX4, TX4, 13), (RX5, TX5, 38)]
def ab_tys (cA : Nat → ClassId) : List (ClassId × FieldType) := [(cA 0, .int), (cA 1, .long), (cA 2, .boolean), (cA 3, .object RX1)]
def ab_TB : List Cond := lw_tbl.filter goodWord
/-- a method: its name, code, locals, answer, parameters, whether it is static -/
abbrev ab_M : Type := MethodName × ByteArray × Nat × Option FieldType × Nat × Bool
def ab_cw (r : ab_M) : Cond := Cond.code r.1 r.2.1 r.2.2.1 r.2.2.2.1
def ab_mok (r : ab_M) : Prop := ab_cw r ∈ ab_TB ∧ Cond.initialized r.1.cls ∈ ab_TB ∧ (r.1.cls ≠ "java/lang/invoke/MethodHandle" ∧ r.1.cls ≠ "java/lang/invoke/VarHandle" ∧ (parseMethodDescriptor r.1.desc).map (fun d => d.parameters.length) = some r.2.2.2.2.1) ∧ r.2.2.1 ≤ 23 ∧ plainName r.1.cls = true ∧
  (r.2.2.2.2.2 = true → Cond.static r.1 ∈ ab_TB) ∧ (r.2.2.2.2.2 = false → Cond.instanceMethod r.1 ∈ ab_TB ∧ Cond.selects r.1.cls r.1 r.1 ∈ ab_TB)
def ab_ln (op : Instr) : Nat := match op with
  | .tableswitch _ _ _ _ => 0
  | .lookupswitch _ _ => 0
  | .bipush _ => 2
  | .sipush _ => 3
  | .ldc _ => 2
  | .ldc_w _ => 3
  | .ldc2_w _ => 3
  | .iload _ => 2
  | .lload _ => 2
  | .aload _ => 2
  | .istore _ => 2
  | .lstore _ => 2
  | .astore _ => 2
  | .iinc _ _ => 3
  | .ifCond _ _ => 3
  | .if_icmp _ _ => 3
  | .goto _ => 3
  | .getfield _ => 3
  | .putfield _ => 3
  | .getstatic _ => 3
  | .invokevirtual _ => 3
  | .invokestatic _ => 3
  | _ => 1
def ab_stop (op : Instr) : Bool := match op with
  | .tableswitch _ _ _ _ => true
  | .lookupswitch _ _ => true
  | .goto _ => true
  | .ireturn => true
  | .lreturn => true
  | .return_ => true
  | .athrow => true
  | _ => false
def ab_ck (mt : Nat → Option ab_M) (own : String) (rt : Option FieldType) (nL : Nat) (pcs : List Nat) (pc : Nat) (op : Instr) (ex : List Nat) (z : Int) : Prop := match op with
  | .iconst n => ab_r32 n
  | .bipush n => -128 ≤ n ∧ n ≤ 127
  | .sipush n => -32768 ≤ n ∧ n ≤ 32767
  | .ldc i => ab_r32 z ∧ Cond.constant own i (Int32.ofInt z) ∈ ab_TB
  | .ldc_w i => ab_r32 z ∧ Cond.constant own i (Int32.ofInt z) ∈ ab_TB
  | .ldc2_w i => ab_r64 z ∧ Cond.constantLong own i (Int64.ofInt z) ∈ ab_TB
  | .istore n => n < nL
  | .istore_n n => n.val < nL
  | .astore n => n < nL
  | .astore_n n => n.val < nL
  | .lstore n => n + 1 < nL
  | .lstore_n n => n.val + 1 < nL
  | .iinc n c => n < nL ∧ ab_r32 c
  | .ifCond _ off => ∃ t : Nat, pcs[ex.headD 0]? = some t ∧ (pc : Int) + off = (t : Int)
  | .if_icmp _ off => ∃ t : Nat, pcs[ex.headD 0]? = some t ∧ (pc : Int) + off = (t : Int)
  | .goto off => ∃ t : Nat, pcs[ex.headD 0]? = some t ∧ (pc : Int) + off = (t : Int)
  | .tableswitch d lo hi offs => (∃ t : Nat, pcs[ex.headD 0]? = some t ∧ (pc : Int) + d = (t : Int)) ∧ hi = lo + offs.size - 1 ∧ ex.tail.length = offs.size ∧ ∀ (j b : Nat) (off : Int), ex.tail[j]? = some b → offs[j]? = some off → ∃ t : Nat, pcs[b]? = some t ∧ (pc : Int) + off = (t : Int)
  | .lookupswitch d ps => (∃ t : Nat, pcs[ex.headD 0]? = some t ∧ (pc : Int) + d = (t : Int)) ∧ (ps.toList.zip (ps.toList.drop 1)).all (fun (a, next) => a.1 < next.1) = true ∧ ex.tail.length = ps.toList.length ∧ ∀ (j b : Nat) (q : Int × Int), ex.tail[j]? = some b → ps.toList[j]? = some q → ∃ t : Nat, pcs[b]? = some t ∧ (pc : Int) + q.2 = (t : Int)
  | .ireturn => (rt = some .int ∧ ex = [0]) ∨ (rt = some .boolean ∧ ex = [1])
  | .lreturn => rt = some .long
  | .return_ => rt = none
  | .getfield i => ∃ (ci k : Nat) (C : String) (T : u_T) (N : Nat), ex = [ci, k] ∧ ab_cl[ci]? = some (C, T, N) ∧ k < N ∧ Cond.fieldLink own i (T k).1 (T k).2.1 (T k).2.2.1 ∈ ab_TB
  | .putfield i => ∃ (ci k b : Nat) (C : String) (T : u_T) (N : Nat), ex = [ci, k, b] ∧ ab_cl[ci]? = some (C, T, N) ∧ k < N ∧ Cond.fieldLink own i (T k).1 (T k).2.1 (T k).2.2.1 ∈ ab_TB ∧ (T k).2.2.2 = false ∧ ((b = 0 ∧ (T k).2.2.1 = "I") ∨ (b = 1 ∧ (T k).2.2.1 = "Z"))
  | .getstatic i => Cond.fieldLink own i "RelayRace" "DIGEST_MOMENTS" "[I" ∈ ab_TB
  | .invokevirtual i => ∃ (k n ci : Nat) (r : ab_M) (q : vw_C), ex = [k, n, ci] ∧ mt k = some r ∧ r.2.2.2.2.2 = false ∧ n = r.2.2.2.2.1 + 1 ∧ Cond.methodLink own i r.1 ∈ ab_TB ∧ ab_cl[ci]? = some q ∧ q.1 = r.1.cls
  | .invokestatic i => (ex = [] ∧ Cond.methodLink own i arraycopyName ∈ ab_TB) ∨ (ex = [1] ∧ Cond.methodLink own i Lib.Math.max.name ∈ ab_TB) ∨ (ex = [2] ∧ Cond.methodLink own i Lib.Math.min.name ∈ ab_TB) ∨ ∃ (k n ci : Nat) (r : ab_M), ex = [k, n, ci] ∧ mt k = some r ∧ r.2.2.2.2.2 = true ∧ n = r.2.2.2.2.1 ∧ Cond.methodLink own i r.1 ∈ ab_TB
  | _ => True
/-- a block from pc on; behind its last instruction, if that goes on, block nx -/
def ab_ckb (mt : Nat → Option ab_M) (own : String) (cc : ByteArray) (rt : Option FieldType) (nL : Nat) (pcs : List Nat) (nx : Nat) : Nat → List ab_I → Prop
  | pc, [] => pcs[nx]? = some pc
  | pc, i :: is => i.1 = .athrow ∨ ∃ n, decode cc pc = .ok (i.1, n) ∧ (ab_ln i.1 = 0 ∨ n = ab_ln i.1) ∧ ab_ck mt own rt nL pcs pc i.1 i.2.1 i.2.2 ∧ (ab_stop i.1 = true ∨ ab_ckb mt own cc rt nL pcs nx (pc + ab_ln i.1) is)
def ab_ckm (mt : Nat → Option ab_M) (own : String) (cc : ByteArray) (rt : Option FieldType) (nL : Nat) (pcs : List Nat) (bl : List (List ab_I)) : Prop :=
  pcs[0]? = some 0 ∧ ∀ (b : Nat) (is : List ab_I), bl[b]? = some is → ∃ pc, pcs[b]? = some pc ∧ ab_ckb mt own cc rt nL pcs (b + 1) pc is
def ab_okW (w : ab_W) : Prop := ∀ p i, ab_r64 (w p i) ∧ (ab_arr 1 p = none → ab_r32 (w p i))
def ab_okO (r : Option ab_V) : Prop := ∀ v, r = some v → ab_ok v
def ab_X (ad : Nat → Nat) (Ls : Nat) (w : ab_W) (A : Nat → Prop) (U : State) (H : Heap) : Prop :=
  va_X (ad 100) 5 (fun i => Int32.ofInt (w 100 (i : Int))) U H ∧ ad 100 < H.size ∧ ¬ A (ad 100) ∧ va_X (ad 101) Ls (fun i => Int32.ofInt (w 101 (i : Int))) U H ∧ ad 101 < H.size ∧ ¬ A (ad 101) ∧ va_Z "RelayRace" "DIGEST_MOMENTS" "[I" (.ref (ad 100)) A U H ∧ Ls ≤ 3072
theorem ab_X.moved {ad : Nat → Nat} {Ls : Nat} {w : ab_W} {A : Nat → Prop} {u U : State} {H : Heap} (hvm : u.vm.Alike U.vm) (h : ab_X ad Ls w A u H) : ab_X ad Ls w A U H :=
  ⟨h.1.moved hvm, h.2.1, h.2.2.1, h.2.2.2.1.moved hvm, h.2.2.2.2.1, h.2.2.2.2.2.1, h.2.2.2.2.2.2.1.moved hvm, h.2.2.2.2.2.2.2⟩
def ab_B (ad : Nat → Nat) (cA : Nat → ClassId) (D : va_G) (Ls : Nat) (w : ab_W) (sz : Nat) (U : State) : Prop :=
  U.heap.size = sz ∧ va_P D ab_cl (ab_ws ad cA w) U.heap ∧ va_K D ab_cl (ab_tys cA) U ∧ ab_inj ad ∧ ab_okW w ∧ ab_X ad Ls w (ab_A ad sz) U U.heap
def ab_Pc (ad : Nat → Nat) (cA : Nat → ClassId) (D : va_G) (Ls : Nat) (as : List ab_V) (w : ab_W) (sz : Nat) : Array Value → State → Prop := va_Pc (as.map (ab_c ad)) (ab_B ad cA D Ls w sz)
def ab_Qc (ad : Nat → Nat) (cA : Nat → ClassId) (D : va_G) (w : ab_W) (sz : Nat) (post : Option ab_V → ab_W → Prop) : Array Value → State → Outcome → State → Prop := fun _ st oc t =>
  (∃ (r : Option ab_V) (w' : ab_W), oc = .returned (r.map (ab_c ad)) ∧ post r w' ∧ ab_okO r ∧ va_P D ab_cl (ab_ws ad cA w') t.heap ∧ ab_okW w' ∧ ∀ p, 100 ≤ p → w' p = w p) ∧ va_F (ab_A ad sz) st t
theorem ab_Pc_blind {ad : Nat → Nat} {cA : Nat → ClassId} {D : va_G} {Ls : Nat} {as : List ab_V} {w : ab_W} {sz : Nat} : FrameBlind (ab_Pc ad cA D Ls as w sz) := by
  intro a U g mk q
  obtain ⟨q0, q1, qP, qK, qi, qo, qX⟩ := q
  exact ⟨q0, q1, qP, va_K.moved (u := U) (U := U.calling g mk a) (Vm.Alike.refl U.vm) qK, qi, qo, ab_X.moved (u := U) (U := U.calling g mk a) (Vm.Alike.refl U.vm) qX⟩
/-- what stands still while a body runs -/
def ab_ctx (p : Program) (s : State) (m : MethodId) (args : Array Value) (c : Code) (cc : ByteArray) (nL : Nat) (own : String) (ad : Nat → Nat) (cA : Nat → ClassId) (D : va_G) (Ls : Nat) (w0 : ab_W) : Prop :=
  p.tables.exec = Jvm.exec ∧ c.code = cc ∧ c.maxLocals = nL ∧ s.vm.findClass own = some m.cls ∧ (∀ w ∈ ab_TB, w.before args s = true) ∧ va_K D ab_cl (ab_tys cA) s ∧ ab_inj ad ∧ ab_X ad Ls w0 (ab_A ad s.heap.size) s s.heap
/-- the heap holds the world -/
def ab_rel (ad : Nat → Nat) (cA : Nat → ClassId) (D : va_G) (s : State) (w0 w : ab_W) (H : Heap) (locs : List Loc) : Prop :=
  va_P D ab_cl (ab_ws ad cA w) H ∧ va_S (ab_A ad s.heap.size) s.heap H locs ∧ (∀ p, 100 ≤ p → w p = w0 p) ∧ ab_okW w
/-- from here on, with these locals, this stack and this world, the machine comes to a state with Q -/
def ab_G (p : Program) (l : Launch) (e : Env) (R : Room) (s : State) (m : MethodId) (args : Array Value) (below : List Frame) (meth : Method) (c : Code) (Q : State → Prop) (cells slots : Nat) (ad : Nat → Nat) (cA : Nat → ClassId) (D : va_G) (w0 : ab_W) (nL pc : Nat) (L S : List ab_V) (w : ab_W) : Prop :=
  ∀ (ls : Array Slot) (H : Heap) (locs : List Loc), ab_lr ad nL L ls → (∀ v ∈ S, ab_ok v) → ab_rel ad cA D s w0 w H locs → W p l e R s m args below meth c H locs cells slots Q (F0 m pc ls (S.map (ab_c ad)))
theorem ab_lay : ∀ (ci : Nat) (C : String) (T : u_T) (N : Nat), ab_cl[ci]? = some (C, T, N) → ∀ w ∈ u_ws C T N, w ∈ ab_TB := by
  have h0 : ∀ w ∈ u_ws RX0 TX0 8, w ∈ ab_TB := by decide +kernel
  have h1 : ∀ w ∈ u_ws RX1 TX1 4, w ∈ ab_TB := by decide +kernel
  have h2 : ∀ w ∈ u_ws RX2 TX2 2, w ∈ ab_TB := by decide +kernel
  have h3 : ∀ w ∈ u_ws RX3 TX3 4, w ∈ ab_TB := by decide +kernel
  have h4 : ∀ w ∈ u_ws RX4 TX4 13, w ∈ ab_TB := by decide +kernel
  have h5 : ∀ w ∈ u_ws RX5 TX5 38, w ∈ ab_TB := by decide +kernel
  intro ci C T N h
  match ci, h with
  | 0, h => cases h; exact h0
  | 1, h => cases h; exact h1
  | 2, h => cases h; exact h2
  | 3, h => cases h; exact h3
  | 4, h => cases h; exact h4
  | 5, h => cases h; exact h5
  | k + 6, h => simp [ab_cl] at h
theorem ab_typ : ∀ (ci : Nat) (C : String) (T : u_T) (N : Nat), ab_cl[ci]? = some (C, T, N) → ∃ ty0 : Nat → FieldType, (∀ k, k < N → parseFieldDescriptor (T k).2.2.1 = some (ty0 k)) ∧ ∀ a, a < N → ∀ b, b < N → a ≠ b → (T a).2.1 ≠ (T b).2.1 := by
  intro ci C T N h
  match ci, h with
  | 0, h => cases h; exact ⟨_, tyX0_ok, nmX0⟩
  | 1, h => cases h; exact ⟨_, tyX1_ok, nmX1⟩
  | 2, h => cases h; exact ⟨_, tyX2_ok, nmX2⟩
  | 3, h => cases h; exact ⟨_, tyX3_ok, nmX3⟩
  | 4, h => cases h; exact ⟨_, tyX4_ok, nmX4⟩
  | 5, h => cases h; exact ⟨_, tyX5_ok, nmX5⟩
  | k + 6, h => simp [ab_cl] at h
theorem ab_mth : Cond.static Lib.Math.max.name ∈ ab_TB ∧ Cond.static Lib.Math.min.name ∈ ab_TB ∧ Cond.initialized "java/lang/Math" ∈ ab_TB ∧ Cond.code Lib.Math.max.name Lib.Math.max.code 2 (some .int) ∈ ab_TB ∧ Cond.code Lib.Math.min.name Lib.Math.min.code 2 (some .int) ∈ ab_TB := by decide +kernel
theorem ab_sys : Cond.native arraycopyName ∈ ab_TB ∧ Cond.static arraycopyName ∈ ab_TB ∧ Cond.initialized "java/lang/System" ∈ ab_TB := by decide +kernel
