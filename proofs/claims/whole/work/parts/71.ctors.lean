theorem kw_oi : Cond.instanceMethod objectInit ∈ ab_TB := ab_wd_ok (i := 93) (by decide +kernel)
theorem kw_oc : Cond.code objectInit ⟨#[0xb1]⟩ 1 none ∈ ab_TB := ab_wd_ok (i := 94) (by decide +kernel)
theorem kw_aI : Cond.arrayClass .int ∈ ab_TB := ab_wd_ok (i := 111) (by decide +kernel)
theorem kw_aJ : Cond.arrayClass .long ∈ ab_TB := ab_wd_ok (i := 174) (by decide +kernel)
theorem kw_aZ : Cond.arrayClass .boolean ∈ ab_TB := ab_wd_ok (i := 798) (by decide +kernel)
/-! the constructors of what a RelayRace is made of, and of the model (printed by wip/whole/emit5.py, walked over the kit's rows) -/
theorem dk_X2_0 : decode cX2_init 0 = .ok (.aload_n 0, 1) := by decide +kernel
theorem dk_X2_1 : decode cX2_init 1 = .ok (.invokespecial 3, 3) := by decide +kernel
theorem dk_X2_4 : decode cX2_init 4 = .ok (.aload_n 0, 1) := by decide +kernel
theorem dk_X2_5 : decode cX2_init 5 = .ok (.bipush 35, 2) := by decide +kernel
theorem dk_X2_7 : decode cX2_init 7 = .ok (.newarray .int, 2) := by decide +kernel
theorem dk_X2_9 : decode cX2_init 9 = .ok (.putfield 9, 3) := by decide +kernel
theorem dk_X2_12 : decode cX2_init 12 = .ok (.aload_n 0, 1) := by decide +kernel
theorem dk_X2_13 : decode cX2_init 13 = .ok (.iconst 0, 1) := by decide +kernel
theorem dk_X2_14 : decode cX2_init 14 = .ok (.putfield 15, 3) := by decide +kernel
theorem dk_X2_17 : decode cX2_init 17 = .ok (.return_, 1) := by decide +kernel
theorem kw_X2_code : Cond.code yX2_init cX2_init 1 none ∈ ab_TB := ab_wd_ok (i := 99) (by decide +kernel)
theorem kw_X2_inst : Cond.instanceMethod yX2_init ∈ ab_TB := ab_wd_ok (i := 98) (by decide +kernel)
theorem kw_X2_ini : Cond.initialized RX2 ∈ ab_TB := ab_wd_ok (i := 77) (by decide +kernel)
theorem kw_X2_able : Cond.instantiable RX2 2 ∈ ab_TB := ab_wd_ok (i := 96) (by decide +kernel)
def fsX2 : List Value := [.null, .int (Int32.ofInt 0)]
theorem kw_X2_o : Cond.methodLink RX2 3 objectInit ∈ ab_TB := ab_wd_ok (i := 100) (by decide +kernel)
theorem kw_X2_f0 : Cond.fieldLink RX2 9 (TX2 0).1 (TX2 0).2.1 (TX2 0).2.2.1 ∈ ab_TB := ab_wd_ok (i := 101) (by decide +kernel)
theorem kw_X2_f1 : Cond.fieldLink RX2 15 (TX2 1).1 (TX2 1).2.1 (TX2 1).2.2.1 ∈ ab_TB := ab_wd_ok (i := 103) (by decide +kernel)
def LfX2 (cA : Nat → ClassId) (q : Nat) (f : Nat → Nat) : va_W := [(q, .inr (2, [.ref (f 1), .int (Int32.ofInt 0)])), ((f 1), .inl (cA 0, 35, .inl (fun _ => Int32.ofInt 0)))]
set_option maxHeartbeats 4000000 in
set_option maxRecDepth 100000 in
theorem mk_X2 (l : Launch) (D : va_G) (cA : Nat → ClassId) (h0 sz : Nat) : Met l yX2_init (Cond.code yX2_init cX2_init 1 none :: ab_TB) { frames := 1, cells := 1, slots := 35, locals := 12 } (mk_Pc D cA (fun _ => True) 2 fsX2 h0 sz) (mk_Qc D 2 fsX2 (LfX2 cA) h0 sz) 1 35 (va_A [(h0, .inr (2, fsX2))] sz) := by
  refine Met.ofW (cc := cX2_init) (maxL := 1) (ret := none) (by decide) rfl ?_
  intro p e s m args below meth c s₁ B hml hv
  obtain ⟨rfl, hsz, hP, hK, hE⟩ := hv
  have hx := B.exec
  have hb := B.bytes
  have hr := B.returns
  have hts0 := atoms_spec (ws := Cond.code yX2_init cX2_init 1 none :: ab_TB) B.pre
  have hts : ∀ w ∈ ab_TB, w.before _ s = true := fun w hw => hts0 w (List.mem_cons_of_mem _ hw)
  have hown : s.vm.findClass RX2 = some m.cls := findClass_of_methodNamed B.named
  have hlocks := B.notSynchronized
  have hin : meth.name = "<init>" := (name_of_methodNamed B.named B.method).1
  subst hsz
  have hD : va_D (va_A [(h0, .inr (2, fsX2))] s.heap.size) [(h0, .inr (2, fsX2))] := mk_one
  generalize hAe : va_A [(h0, .inr (2, fsX2))] s.heap.size = A at hD ⊢
  have hA : ∀ q : Nat, s.heap.size ≤ q → A q := fun q h => by rw [← hAe]; exact Or.inr h
  unfold mk_Qc
  rw [hAe]
  have X : mk_cx p s m _ c cX2_init 1 RX2 D cA := ⟨hx, hb, hml, hown, hts, hK⟩
  have hW : mk_w D [(h0, .inr (2, fsX2))] s.heap s.heap A [] := ⟨hP, hD, va_S.rf⟩
  have hl := lv_entry ([.ref h0]) (n := 1) (Nat.le_of_ble_eq_true rfl)
  rw [lg_entry_eq]
  generalize (lg_sl ([.ref h0]) ++ List.replicate (1 - (lg_sl ([.ref h0])).length) Slot.unset).toArray = ls at hl ⊢
  have hl : lv_has ls 1 [(0, .ref h0)] := hl
  refine lv_aload_n hx hb dk_X2_0 rfl (lv_at hl 0 rfl) ?_
  refine W.objInit hx hb hown (hts _ kw_X2_o) (hts _ kw_oi) (hts _ kw_oc) rfl (by rw [hml]; exact hl.1) rfl dk_X2_1 (Nat.le_of_ble_eq_true rfl) (Nat.le_of_ble_eq_true rfl) ?_
  refine W.eq (g2 := F0 m 4 ls []) rfl ?_
  refine lv_aload_n hx hb dk_X2_4 rfl (lv_at hl 0 rfl) ?_
  refine lv_bipush (v := Int32.ofInt 35) hx hb dk_X2_5 (by decide +kernel) ?_
  refine mk_na (atype := .int) X 0 rfl kw_aI (N := 35) (a0 := (35, .inl (fun _ => Int32.ofInt 0))) hW hA (fun _ => rfl) (by decide +kernel) (by decide +kernel) (Nat.le_of_ble_eq_true rfl) (Nat.le_of_ble_eq_true rfl) (Nat.le_of_ble_eq_true rfl) dk_X2_7 (fun q1 H hW => ?_)
  refine W.widen (k := 1) (n := 35) (Nat.le_of_ble_eq_true rfl) (Nat.le_of_ble_eq_true rfl) ?_
  have hW : mk_w D [(h0, .inr (2, [.null, .int (Int32.ofInt 0)])), (q1, .inl (cA 0, 35, .inl (fun _ => Int32.ofInt 0)))] s.heap H A _ := hW
  refine mk_pf X hin (ci := 2) (C := RX2) (T := TX2) (N := 2) rfl 0 (by decide) kw_X2_f0 rfl rfl (ty := tyX2 0) (tyX2_ok 0 (by decide)) (v := .ref q1) rfl rfl rfl (Nat.le_of_ble_eq_true rfl) hW dk_X2_9 (fun H locs hW => ?_)
  have hW : mk_w D [(h0, .inr (2, [.ref q1, .int (Int32.ofInt 0)])), (q1, .inl (cA 0, 35, .inl (fun _ => Int32.ofInt 0)))] s.heap H A locs := hW
  refine lv_aload_n hx hb dk_X2_12 rfl (lv_at hl 0 rfl) ?_
  refine lv_iconst (v := Int32.ofInt 0) hx hb dk_X2_13 (by decide +kernel) ?_
  refine mk_pi X (ci := 2) (C := RX2) (T := TX2) (N := 2) rfl 1 (by decide) kw_X2_f1 rfl (ty := tyX2 1) (tyX2_ok 1 (by decide)) (v := .int (Int32.ofInt 0)) (by decide +kernel) rfl rfl (Nat.le_of_ble_eq_true rfl) hW dk_X2_14 (fun H locs hW => ?_)
  have hW : mk_w D [(h0, .inr (2, [.ref q1, .int (Int32.ofInt 0)])), (q1, .inl (cA 0, 35, .inl (fun _ => Int32.ofInt 0)))] s.heap H A locs := hW
  exact W.vret hx hb hr (fun t ht _ => ⟨⟨(fun k => match k with | 1 => q1 | _ => 0), rfl, trivial, by rw [ht]; exact hW.1, hW.2.1⟩, hW.2.2.F ht⟩) hW.2.2.2.2 dk_X2_17
theorem dk_X3_0 : decode cX3_init 0 = .ok (.aload_n 0, 1) := by decide +kernel
theorem dk_X3_1 : decode cX3_init 1 = .ok (.invokespecial 3, 3) := by decide +kernel
theorem dk_X3_4 : decode cX3_init 4 = .ok (.aload_n 0, 1) := by decide +kernel
theorem dk_X3_5 : decode cX3_init 5 = .ok (.bipush 8, 2) := by decide +kernel
theorem dk_X3_7 : decode cX3_init 7 = .ok (.newarray .int, 2) := by decide +kernel
theorem dk_X3_9 : decode cX3_init 9 = .ok (.putfield 9, 3) := by decide +kernel
theorem dk_X3_12 : decode cX3_init 12 = .ok (.aload_n 0, 1) := by decide +kernel
theorem dk_X3_13 : decode cX3_init 13 = .ok (.bipush 8, 2) := by decide +kernel
theorem dk_X3_15 : decode cX3_init 15 = .ok (.newarray .int, 2) := by decide +kernel
theorem dk_X3_17 : decode cX3_init 17 = .ok (.putfield 15, 3) := by decide +kernel
theorem dk_X3_20 : decode cX3_init 20 = .ok (.aload_n 0, 1) := by decide +kernel
theorem dk_X3_21 : decode cX3_init 21 = .ok (.bipush 8, 2) := by decide +kernel
theorem dk_X3_23 : decode cX3_init 23 = .ok (.newarray .int, 2) := by decide +kernel
theorem dk_X3_25 : decode cX3_init 25 = .ok (.putfield 18, 3) := by decide +kernel
theorem dk_X3_28 : decode cX3_init 28 = .ok (.aload_n 0, 1) := by decide +kernel
theorem dk_X3_29 : decode cX3_init 29 = .ok (.iconst 0, 1) := by decide +kernel
theorem dk_X3_30 : decode cX3_init 30 = .ok (.putfield 21, 3) := by decide +kernel
theorem dk_X3_33 : decode cX3_init 33 = .ok (.return_, 1) := by decide +kernel
theorem kw_X3_code : Cond.code yX3_init cX3_init 1 none ∈ ab_TB := ab_wd_ok (i := 116) (by decide +kernel)
theorem kw_X3_inst : Cond.instanceMethod yX3_init ∈ ab_TB := ab_wd_ok (i := 115) (by decide +kernel)
theorem kw_X3_ini : Cond.initialized RX3 ∈ ab_TB := ab_wd_ok (i := 78) (by decide +kernel)
theorem kw_X3_able : Cond.instantiable RX3 4 ∈ ab_TB := ab_wd_ok (i := 113) (by decide +kernel)
def fsX3 : List Value := [.null, .null, .null, .int (Int32.ofInt 0)]
theorem kw_X3_o : Cond.methodLink RX3 3 objectInit ∈ ab_TB := ab_wd_ok (i := 117) (by decide +kernel)
theorem kw_X3_f0 : Cond.fieldLink RX3 9 (TX3 0).1 (TX3 0).2.1 (TX3 0).2.2.1 ∈ ab_TB := ab_wd_ok (i := 118) (by decide +kernel)
theorem kw_X3_f1 : Cond.fieldLink RX3 15 (TX3 1).1 (TX3 1).2.1 (TX3 1).2.2.1 ∈ ab_TB := ab_wd_ok (i := 121) (by decide +kernel)
theorem kw_X3_f2 : Cond.fieldLink RX3 18 (TX3 2).1 (TX3 2).2.1 (TX3 2).2.2.1 ∈ ab_TB := ab_wd_ok (i := 123) (by decide +kernel)
theorem kw_X3_f3 : Cond.fieldLink RX3 21 (TX3 3).1 (TX3 3).2.1 (TX3 3).2.2.1 ∈ ab_TB := ab_wd_ok (i := 126) (by decide +kernel)
def LfX3 (cA : Nat → ClassId) (q : Nat) (f : Nat → Nat) : va_W := [(q, .inr (3, [.ref (f 1), .ref (f 2), .ref (f 3), .int (Int32.ofInt 0)])), ((f 1), .inl (cA 0, 8, .inl (fun _ => Int32.ofInt 0))), ((f 2), .inl (cA 0, 8, .inl (fun _ => Int32.ofInt 0))), ((f 3), .inl (cA 0, 8, .inl (fun _ => Int32.ofInt 0)))]
set_option maxHeartbeats 4000000 in
set_option maxRecDepth 100000 in
theorem mk_X3 (l : Launch) (D : va_G) (cA : Nat → ClassId) (h0 sz : Nat) : Met l yX3_init (Cond.code yX3_init cX3_init 1 none :: ab_TB) { frames := 1, cells := 3, slots := 24, locals := 12 } (mk_Pc D cA (fun _ => True) 3 fsX3 h0 sz) (mk_Qc D 3 fsX3 (LfX3 cA) h0 sz) 3 24 (va_A [(h0, .inr (3, fsX3))] sz) := by
  refine Met.ofW (cc := cX3_init) (maxL := 1) (ret := none) (by decide) rfl ?_
  intro p e s m args below meth c s₁ B hml hv
  obtain ⟨rfl, hsz, hP, hK, hE⟩ := hv
  have hx := B.exec
  have hb := B.bytes
  have hr := B.returns
  have hts0 := atoms_spec (ws := Cond.code yX3_init cX3_init 1 none :: ab_TB) B.pre
  have hts : ∀ w ∈ ab_TB, w.before _ s = true := fun w hw => hts0 w (List.mem_cons_of_mem _ hw)
  have hown : s.vm.findClass RX3 = some m.cls := findClass_of_methodNamed B.named
  have hlocks := B.notSynchronized
  have hin : meth.name = "<init>" := (name_of_methodNamed B.named B.method).1
  subst hsz
  have hD : va_D (va_A [(h0, .inr (3, fsX3))] s.heap.size) [(h0, .inr (3, fsX3))] := mk_one
  generalize hAe : va_A [(h0, .inr (3, fsX3))] s.heap.size = A at hD ⊢
  have hA : ∀ q : Nat, s.heap.size ≤ q → A q := fun q h => by rw [← hAe]; exact Or.inr h
  unfold mk_Qc
  rw [hAe]
  have X : mk_cx p s m _ c cX3_init 1 RX3 D cA := ⟨hx, hb, hml, hown, hts, hK⟩
  have hW : mk_w D [(h0, .inr (3, fsX3))] s.heap s.heap A [] := ⟨hP, hD, va_S.rf⟩
  have hl := lv_entry ([.ref h0]) (n := 1) (Nat.le_of_ble_eq_true rfl)
  rw [lg_entry_eq]
  generalize (lg_sl ([.ref h0]) ++ List.replicate (1 - (lg_sl ([.ref h0])).length) Slot.unset).toArray = ls at hl ⊢
  have hl : lv_has ls 1 [(0, .ref h0)] := hl
  refine lv_aload_n hx hb dk_X3_0 rfl (lv_at hl 0 rfl) ?_
  refine W.objInit hx hb hown (hts _ kw_X3_o) (hts _ kw_oi) (hts _ kw_oc) rfl (by rw [hml]; exact hl.1) rfl dk_X3_1 (Nat.le_of_ble_eq_true rfl) (Nat.le_of_ble_eq_true rfl) ?_
  refine W.eq (g2 := F0 m 4 ls []) rfl ?_
  refine lv_aload_n hx hb dk_X3_4 rfl (lv_at hl 0 rfl) ?_
  refine lv_bipush (v := Int32.ofInt 8) hx hb dk_X3_5 (by decide +kernel) ?_
  refine mk_na (atype := .int) X 0 rfl kw_aI (N := 8) (a0 := (8, .inl (fun _ => Int32.ofInt 0))) hW hA (fun _ => rfl) (by decide +kernel) (by decide +kernel) (Nat.le_of_ble_eq_true rfl) (Nat.le_of_ble_eq_true rfl) (Nat.le_of_ble_eq_true rfl) dk_X3_7 (fun q1 H hW => ?_)
  refine W.widen (k := 1) (n := 8) (Nat.le_of_ble_eq_true rfl) (Nat.le_of_ble_eq_true rfl) ?_
  have hW : mk_w D [(h0, .inr (3, [.null, .null, .null, .int (Int32.ofInt 0)])), (q1, .inl (cA 0, 8, .inl (fun _ => Int32.ofInt 0)))] s.heap H A _ := hW
  refine mk_pf X hin (ci := 3) (C := RX3) (T := TX3) (N := 4) rfl 0 (by decide) kw_X3_f0 rfl rfl (ty := tyX3 0) (tyX3_ok 0 (by decide)) (v := .ref q1) rfl rfl rfl (Nat.le_of_ble_eq_true rfl) hW dk_X3_9 (fun H locs hW => ?_)
  have hW : mk_w D [(h0, .inr (3, [.ref q1, .null, .null, .int (Int32.ofInt 0)])), (q1, .inl (cA 0, 8, .inl (fun _ => Int32.ofInt 0)))] s.heap H A locs := hW
  refine lv_aload_n hx hb dk_X3_12 rfl (lv_at hl 0 rfl) ?_
  refine lv_bipush (v := Int32.ofInt 8) hx hb dk_X3_13 (by decide +kernel) ?_
  refine mk_na (atype := .int) X 0 rfl kw_aI (N := 8) (a0 := (8, .inl (fun _ => Int32.ofInt 0))) hW hA (fun _ => rfl) (by decide +kernel) (by decide +kernel) (Nat.le_of_ble_eq_true rfl) (Nat.le_of_ble_eq_true rfl) (Nat.le_of_ble_eq_true rfl) dk_X3_15 (fun q2 H hW => ?_)
  refine W.widen (k := 2) (n := 16) (Nat.le_of_ble_eq_true rfl) (Nat.le_of_ble_eq_true rfl) ?_
  have hW : mk_w D [(h0, .inr (3, [.ref q1, .null, .null, .int (Int32.ofInt 0)])), (q1, .inl (cA 0, 8, .inl (fun _ => Int32.ofInt 0))), (q2, .inl (cA 0, 8, .inl (fun _ => Int32.ofInt 0)))] s.heap H A _ := hW
  refine mk_pf X hin (ci := 3) (C := RX3) (T := TX3) (N := 4) rfl 1 (by decide) kw_X3_f1 rfl rfl (ty := tyX3 1) (tyX3_ok 1 (by decide)) (v := .ref q2) rfl rfl rfl (Nat.le_of_ble_eq_true rfl) hW dk_X3_17 (fun H locs hW => ?_)
  have hW : mk_w D [(h0, .inr (3, [.ref q1, .ref q2, .null, .int (Int32.ofInt 0)])), (q1, .inl (cA 0, 8, .inl (fun _ => Int32.ofInt 0))), (q2, .inl (cA 0, 8, .inl (fun _ => Int32.ofInt 0)))] s.heap H A locs := hW
  refine lv_aload_n hx hb dk_X3_20 rfl (lv_at hl 0 rfl) ?_
  refine lv_bipush (v := Int32.ofInt 8) hx hb dk_X3_21 (by decide +kernel) ?_
  refine mk_na (atype := .int) X 0 rfl kw_aI (N := 8) (a0 := (8, .inl (fun _ => Int32.ofInt 0))) hW hA (fun _ => rfl) (by decide +kernel) (by decide +kernel) (Nat.le_of_ble_eq_true rfl) (Nat.le_of_ble_eq_true rfl) (Nat.le_of_ble_eq_true rfl) dk_X3_23 (fun q3 H hW => ?_)
  refine W.widen (k := 3) (n := 24) (Nat.le_of_ble_eq_true rfl) (Nat.le_of_ble_eq_true rfl) ?_
  have hW : mk_w D [(h0, .inr (3, [.ref q1, .ref q2, .null, .int (Int32.ofInt 0)])), (q1, .inl (cA 0, 8, .inl (fun _ => Int32.ofInt 0))), (q2, .inl (cA 0, 8, .inl (fun _ => Int32.ofInt 0))), (q3, .inl (cA 0, 8, .inl (fun _ => Int32.ofInt 0)))] s.heap H A _ := hW
  refine mk_pf X hin (ci := 3) (C := RX3) (T := TX3) (N := 4) rfl 2 (by decide) kw_X3_f2 rfl rfl (ty := tyX3 2) (tyX3_ok 2 (by decide)) (v := .ref q3) rfl rfl rfl (Nat.le_of_ble_eq_true rfl) hW dk_X3_25 (fun H locs hW => ?_)
  have hW : mk_w D [(h0, .inr (3, [.ref q1, .ref q2, .ref q3, .int (Int32.ofInt 0)])), (q1, .inl (cA 0, 8, .inl (fun _ => Int32.ofInt 0))), (q2, .inl (cA 0, 8, .inl (fun _ => Int32.ofInt 0))), (q3, .inl (cA 0, 8, .inl (fun _ => Int32.ofInt 0)))] s.heap H A locs := hW
  refine lv_aload_n hx hb dk_X3_28 rfl (lv_at hl 0 rfl) ?_
  refine lv_iconst (v := Int32.ofInt 0) hx hb dk_X3_29 (by decide +kernel) ?_
  refine mk_pi X (ci := 3) (C := RX3) (T := TX3) (N := 4) rfl 3 (by decide) kw_X3_f3 rfl (ty := tyX3 3) (tyX3_ok 3 (by decide)) (v := .int (Int32.ofInt 0)) (by decide +kernel) rfl rfl (Nat.le_of_ble_eq_true rfl) hW dk_X3_30 (fun H locs hW => ?_)
  have hW : mk_w D [(h0, .inr (3, [.ref q1, .ref q2, .ref q3, .int (Int32.ofInt 0)])), (q1, .inl (cA 0, 8, .inl (fun _ => Int32.ofInt 0))), (q2, .inl (cA 0, 8, .inl (fun _ => Int32.ofInt 0))), (q3, .inl (cA 0, 8, .inl (fun _ => Int32.ofInt 0)))] s.heap H A locs := hW
  exact W.vret hx hb hr (fun t ht _ => ⟨⟨(fun k => match k with | 1 => q1 | 2 => q2 | 3 => q3 | _ => 0), rfl, trivial, by rw [ht]; exact hW.1, hW.2.1⟩, hW.2.2.F ht⟩) hW.2.2.2.2 dk_X3_33
theorem dk_X0_0 : decode cX0_init 0 = .ok (.aload_n 0, 1) := by decide +kernel
theorem dk_X0_1 : decode cX0_init 1 = .ok (.invokespecial 3, 3) := by decide +kernel
theorem dk_X0_4 : decode cX0_init 4 = .ok (.aload_n 0, 1) := by decide +kernel
theorem dk_X0_5 : decode cX0_init 5 = .ok (.bipush 16, 2) := by decide +kernel
theorem dk_X0_7 : decode cX0_init 7 = .ok (.newarray .int, 2) := by decide +kernel
theorem dk_X0_9 : decode cX0_init 9 = .ok (.putfield 9, 3) := by decide +kernel
theorem dk_X0_12 : decode cX0_init 12 = .ok (.aload_n 0, 1) := by decide +kernel
theorem dk_X0_13 : decode cX0_init 13 = .ok (.bipush 16, 2) := by decide +kernel
theorem dk_X0_15 : decode cX0_init 15 = .ok (.newarray .int, 2) := by decide +kernel
theorem dk_X0_17 : decode cX0_init 17 = .ok (.putfield 15, 3) := by decide +kernel
theorem dk_X0_20 : decode cX0_init 20 = .ok (.aload_n 0, 1) := by decide +kernel
theorem dk_X0_21 : decode cX0_init 21 = .ok (.iconst 4, 1) := by decide +kernel
theorem dk_X0_22 : decode cX0_init 22 = .ok (.newarray .long, 2) := by decide +kernel
theorem dk_X0_24 : decode cX0_init 24 = .ok (.putfield 18, 3) := by decide +kernel
theorem dk_X0_27 : decode cX0_init 27 = .ok (.aload_n 0, 1) := by decide +kernel
theorem dk_X0_28 : decode cX0_init 28 = .ok (.sipush 192, 3) := by decide +kernel
theorem dk_X0_31 : decode cX0_init 31 = .ok (.newarray .int, 2) := by decide +kernel
theorem dk_X0_33 : decode cX0_init 33 = .ok (.putfield 22, 3) := by decide +kernel
theorem dk_X0_36 : decode cX0_init 36 = .ok (.aload_n 0, 1) := by decide +kernel
theorem dk_X0_37 : decode cX0_init 37 = .ok (.bipush 16, 2) := by decide +kernel
theorem dk_X0_39 : decode cX0_init 39 = .ok (.newarray .int, 2) := by decide +kernel
theorem dk_X0_41 : decode cX0_init 41 = .ok (.putfield 25, 3) := by decide +kernel
theorem dk_X0_44 : decode cX0_init 44 = .ok (.aload_n 0, 1) := by decide +kernel
theorem dk_X0_45 : decode cX0_init 45 = .ok (.iconst 0, 1) := by decide +kernel
theorem dk_X0_46 : decode cX0_init 46 = .ok (.putfield 28, 3) := by decide +kernel
theorem dk_X0_49 : decode cX0_init 49 = .ok (.aload_n 0, 1) := by decide +kernel
theorem dk_X0_50 : decode cX0_init 50 = .ok (.iconst 0, 1) := by decide +kernel
theorem dk_X0_51 : decode cX0_init 51 = .ok (.putfield 32, 3) := by decide +kernel
theorem dk_X0_54 : decode cX0_init 54 = .ok (.aload_n 0, 1) := by decide +kernel
theorem dk_X0_55 : decode cX0_init 55 = .ok (.bipush 48, 2) := by decide +kernel
theorem dk_X0_57 : decode cX0_init 57 = .ok (.putfield 35, 3) := by decide +kernel
theorem dk_X0_60 : decode cX0_init 60 = .ok (.return_, 1) := by decide +kernel
theorem kw_X0_code : Cond.code yX0_init cX0_init 1 none ∈ ab_TB := ab_wd_ok (i := 142) (by decide +kernel)
theorem kw_X0_inst : Cond.instanceMethod yX0_init ∈ ab_TB := ab_wd_ok (i := 141) (by decide +kernel)
theorem kw_X0_ini : Cond.initialized RX0 ∈ ab_TB := ab_wd_ok (i := 79) (by decide +kernel)
theorem kw_X0_able : Cond.instantiable RX0 8 ∈ ab_TB := ab_wd_ok (i := 139) (by decide +kernel)
def fsX0 : List Value := [.null, .null, .null, .null, .null, .int (Int32.ofInt 0), .int (Int32.ofInt 0), .int (Int32.ofInt 0)]
theorem kw_X0_o : Cond.methodLink RX0 3 objectInit ∈ ab_TB := ab_wd_ok (i := 143) (by decide +kernel)
theorem kw_X0_f0 : Cond.fieldLink RX0 9 (TX0 0).1 (TX0 0).2.1 (TX0 0).2.2.1 ∈ ab_TB := ab_wd_ok (i := 144) (by decide +kernel)
theorem kw_X0_f1 : Cond.fieldLink RX0 15 (TX0 1).1 (TX0 1).2.1 (TX0 1).2.2.1 ∈ ab_TB := ab_wd_ok (i := 146) (by decide +kernel)
theorem kw_X0_f2 : Cond.fieldLink RX0 18 (TX0 2).1 (TX0 2).2.1 (TX0 2).2.2.1 ∈ ab_TB := ab_wd_ok (i := 148) (by decide +kernel)
theorem kw_X0_f3 : Cond.fieldLink RX0 22 (TX0 3).1 (TX0 3).2.1 (TX0 3).2.2.1 ∈ ab_TB := ab_wd_ok (i := 149) (by decide +kernel)
theorem kw_X0_f4 : Cond.fieldLink RX0 25 (TX0 4).1 (TX0 4).2.1 (TX0 4).2.2.1 ∈ ab_TB := ab_wd_ok (i := 150) (by decide +kernel)
theorem kw_X0_f5 : Cond.fieldLink RX0 28 (TX0 5).1 (TX0 5).2.1 (TX0 5).2.2.1 ∈ ab_TB := ab_wd_ok (i := 152) (by decide +kernel)
theorem kw_X0_f6 : Cond.fieldLink RX0 32 (TX0 6).1 (TX0 6).2.1 (TX0 6).2.2.1 ∈ ab_TB := ab_wd_ok (i := 154) (by decide +kernel)
theorem kw_X0_f7 : Cond.fieldLink RX0 35 (TX0 7).1 (TX0 7).2.1 (TX0 7).2.2.1 ∈ ab_TB := ab_wd_ok (i := 156) (by decide +kernel)
def LfX0 (cA : Nat → ClassId) (q : Nat) (f : Nat → Nat) : va_W := [(q, .inr (0, [.ref (f 1), .ref (f 2), .ref (f 3), .ref (f 4), .ref (f 5), .int (Int32.ofInt 0), .int (Int32.ofInt 0), .int (Int32.ofInt 48)])), ((f 1), .inl (cA 0, 16, .inl (fun _ => Int32.ofInt 0))), ((f 2), .inl (cA 0, 16, .inl (fun _ => Int32.ofInt 0))), ((f 3), .inl (cA 1, 4, .inr (.inl (fun _ => Int64.ofInt 0)))), ((f 4), .inl (cA 0, 192, .inl (fun _ => Int32.ofInt 0))), ((f 5), .inl (cA 0, 16, .inl (fun _ => Int32.ofInt 0)))]
set_option maxHeartbeats 4000000 in
set_option maxRecDepth 100000 in
theorem mk_X0 (l : Launch) (D : va_G) (cA : Nat → ClassId) (h0 sz : Nat) : Met l yX0_init (Cond.code yX0_init cX0_init 1 none :: ab_TB) { frames := 1, cells := 5, slots := 244, locals := 12 } (mk_Pc D cA (fun _ => True) 0 fsX0 h0 sz) (mk_Qc D 0 fsX0 (LfX0 cA) h0 sz) 5 244 (va_A [(h0, .inr (0, fsX0))] sz) := by
  refine Met.ofW (cc := cX0_init) (maxL := 1) (ret := none) (by decide) rfl ?_
  intro p e s m args below meth c s₁ B hml hv
  obtain ⟨rfl, hsz, hP, hK, hE⟩ := hv
  have hx := B.exec
  have hb := B.bytes
  have hr := B.returns
  have hts0 := atoms_spec (ws := Cond.code yX0_init cX0_init 1 none :: ab_TB) B.pre
  have hts : ∀ w ∈ ab_TB, w.before _ s = true := fun w hw => hts0 w (List.mem_cons_of_mem _ hw)
  have hown : s.vm.findClass RX0 = some m.cls := findClass_of_methodNamed B.named
  have hlocks := B.notSynchronized
  have hin : meth.name = "<init>" := (name_of_methodNamed B.named B.method).1
  subst hsz
  have hD : va_D (va_A [(h0, .inr (0, fsX0))] s.heap.size) [(h0, .inr (0, fsX0))] := mk_one
  generalize hAe : va_A [(h0, .inr (0, fsX0))] s.heap.size = A at hD ⊢
  have hA : ∀ q : Nat, s.heap.size ≤ q → A q := fun q h => by rw [← hAe]; exact Or.inr h
  unfold mk_Qc
  rw [hAe]
  have X : mk_cx p s m _ c cX0_init 1 RX0 D cA := ⟨hx, hb, hml, hown, hts, hK⟩
  have hW : mk_w D [(h0, .inr (0, fsX0))] s.heap s.heap A [] := ⟨hP, hD, va_S.rf⟩
  have hl := lv_entry ([.ref h0]) (n := 1) (Nat.le_of_ble_eq_true rfl)
  rw [lg_entry_eq]
  generalize (lg_sl ([.ref h0]) ++ List.replicate (1 - (lg_sl ([.ref h0])).length) Slot.unset).toArray = ls at hl ⊢
  have hl : lv_has ls 1 [(0, .ref h0)] := hl
  refine lv_aload_n hx hb dk_X0_0 rfl (lv_at hl 0 rfl) ?_
  refine W.objInit hx hb hown (hts _ kw_X0_o) (hts _ kw_oi) (hts _ kw_oc) rfl (by rw [hml]; exact hl.1) rfl dk_X0_1 (Nat.le_of_ble_eq_true rfl) (Nat.le_of_ble_eq_true rfl) ?_
  refine W.eq (g2 := F0 m 4 ls []) rfl ?_
  refine lv_aload_n hx hb dk_X0_4 rfl (lv_at hl 0 rfl) ?_
  refine lv_bipush (v := Int32.ofInt 16) hx hb dk_X0_5 (by decide +kernel) ?_
  refine mk_na (atype := .int) X 0 rfl kw_aI (N := 16) (a0 := (16, .inl (fun _ => Int32.ofInt 0))) hW hA (fun _ => rfl) (by decide +kernel) (by decide +kernel) (Nat.le_of_ble_eq_true rfl) (Nat.le_of_ble_eq_true rfl) (Nat.le_of_ble_eq_true rfl) dk_X0_7 (fun q1 H hW => ?_)
  refine W.widen (k := 1) (n := 16) (Nat.le_of_ble_eq_true rfl) (Nat.le_of_ble_eq_true rfl) ?_
  have hW : mk_w D [(h0, .inr (0, [.null, .null, .null, .null, .null, .int (Int32.ofInt 0), .int (Int32.ofInt 0), .int (Int32.ofInt 0)])), (q1, .inl (cA 0, 16, .inl (fun _ => Int32.ofInt 0)))] s.heap H A _ := hW
  refine mk_pf X hin (ci := 0) (C := RX0) (T := TX0) (N := 8) rfl 0 (by decide) kw_X0_f0 rfl rfl (ty := tyX0 0) (tyX0_ok 0 (by decide)) (v := .ref q1) rfl rfl rfl (Nat.le_of_ble_eq_true rfl) hW dk_X0_9 (fun H locs hW => ?_)
  have hW : mk_w D [(h0, .inr (0, [.ref q1, .null, .null, .null, .null, .int (Int32.ofInt 0), .int (Int32.ofInt 0), .int (Int32.ofInt 0)])), (q1, .inl (cA 0, 16, .inl (fun _ => Int32.ofInt 0)))] s.heap H A locs := hW
  refine lv_aload_n hx hb dk_X0_12 rfl (lv_at hl 0 rfl) ?_
  refine lv_bipush (v := Int32.ofInt 16) hx hb dk_X0_13 (by decide +kernel) ?_
  refine mk_na (atype := .int) X 0 rfl kw_aI (N := 16) (a0 := (16, .inl (fun _ => Int32.ofInt 0))) hW hA (fun _ => rfl) (by decide +kernel) (by decide +kernel) (Nat.le_of_ble_eq_true rfl) (Nat.le_of_ble_eq_true rfl) (Nat.le_of_ble_eq_true rfl) dk_X0_15 (fun q2 H hW => ?_)
  refine W.widen (k := 2) (n := 32) (Nat.le_of_ble_eq_true rfl) (Nat.le_of_ble_eq_true rfl) ?_
  have hW : mk_w D [(h0, .inr (0, [.ref q1, .null, .null, .null, .null, .int (Int32.ofInt 0), .int (Int32.ofInt 0), .int (Int32.ofInt 0)])), (q1, .inl (cA 0, 16, .inl (fun _ => Int32.ofInt 0))), (q2, .inl (cA 0, 16, .inl (fun _ => Int32.ofInt 0)))] s.heap H A _ := hW
  refine mk_pf X hin (ci := 0) (C := RX0) (T := TX0) (N := 8) rfl 1 (by decide) kw_X0_f1 rfl rfl (ty := tyX0 1) (tyX0_ok 1 (by decide)) (v := .ref q2) rfl rfl rfl (Nat.le_of_ble_eq_true rfl) hW dk_X0_17 (fun H locs hW => ?_)
  have hW : mk_w D [(h0, .inr (0, [.ref q1, .ref q2, .null, .null, .null, .int (Int32.ofInt 0), .int (Int32.ofInt 0), .int (Int32.ofInt 0)])), (q1, .inl (cA 0, 16, .inl (fun _ => Int32.ofInt 0))), (q2, .inl (cA 0, 16, .inl (fun _ => Int32.ofInt 0)))] s.heap H A locs := hW
  refine lv_aload_n hx hb dk_X0_20 rfl (lv_at hl 0 rfl) ?_
  refine lv_iconst (v := Int32.ofInt 4) hx hb dk_X0_21 (by decide +kernel) ?_
  refine mk_na (atype := .long) X 1 rfl kw_aJ (N := 4) (a0 := (4, .inr (.inl (fun _ => Int64.ofInt 0)))) hW hA (fun _ => rfl) (by decide +kernel) (by decide +kernel) (Nat.le_of_ble_eq_true rfl) (Nat.le_of_ble_eq_true rfl) (Nat.le_of_ble_eq_true rfl) dk_X0_22 (fun q3 H hW => ?_)
  refine W.widen (k := 3) (n := 36) (Nat.le_of_ble_eq_true rfl) (Nat.le_of_ble_eq_true rfl) ?_
  have hW : mk_w D [(h0, .inr (0, [.ref q1, .ref q2, .null, .null, .null, .int (Int32.ofInt 0), .int (Int32.ofInt 0), .int (Int32.ofInt 0)])), (q1, .inl (cA 0, 16, .inl (fun _ => Int32.ofInt 0))), (q2, .inl (cA 0, 16, .inl (fun _ => Int32.ofInt 0))), (q3, .inl (cA 1, 4, .inr (.inl (fun _ => Int64.ofInt 0))))] s.heap H A _ := hW
  refine mk_pf X hin (ci := 0) (C := RX0) (T := TX0) (N := 8) rfl 2 (by decide) kw_X0_f2 rfl rfl (ty := tyX0 2) (tyX0_ok 2 (by decide)) (v := .ref q3) rfl rfl rfl (Nat.le_of_ble_eq_true rfl) hW dk_X0_24 (fun H locs hW => ?_)
  have hW : mk_w D [(h0, .inr (0, [.ref q1, .ref q2, .ref q3, .null, .null, .int (Int32.ofInt 0), .int (Int32.ofInt 0), .int (Int32.ofInt 0)])), (q1, .inl (cA 0, 16, .inl (fun _ => Int32.ofInt 0))), (q2, .inl (cA 0, 16, .inl (fun _ => Int32.ofInt 0))), (q3, .inl (cA 1, 4, .inr (.inl (fun _ => Int64.ofInt 0))))] s.heap H A locs := hW
  refine lv_aload_n hx hb dk_X0_27 rfl (lv_at hl 0 rfl) ?_
  refine lv_sipush (v := Int32.ofInt 192) hx hb dk_X0_28 (by decide +kernel) ?_
  refine mk_na (atype := .int) X 0 rfl kw_aI (N := 192) (a0 := (192, .inl (fun _ => Int32.ofInt 0))) hW hA (fun _ => rfl) (by decide +kernel) (by decide +kernel) (Nat.le_of_ble_eq_true rfl) (Nat.le_of_ble_eq_true rfl) (Nat.le_of_ble_eq_true rfl) dk_X0_31 (fun q4 H hW => ?_)
  refine W.widen (k := 4) (n := 228) (Nat.le_of_ble_eq_true rfl) (Nat.le_of_ble_eq_true rfl) ?_
  have hW : mk_w D [(h0, .inr (0, [.ref q1, .ref q2, .ref q3, .null, .null, .int (Int32.ofInt 0), .int (Int32.ofInt 0), .int (Int32.ofInt 0)])), (q1, .inl (cA 0, 16, .inl (fun _ => Int32.ofInt 0))), (q2, .inl (cA 0, 16, .inl (fun _ => Int32.ofInt 0))), (q3, .inl (cA 1, 4, .inr (.inl (fun _ => Int64.ofInt 0)))), (q4, .inl (cA 0, 192, .inl (fun _ => Int32.ofInt 0)))] s.heap H A _ := hW
  refine mk_pf X hin (ci := 0) (C := RX0) (T := TX0) (N := 8) rfl 3 (by decide) kw_X0_f3 rfl rfl (ty := tyX0 3) (tyX0_ok 3 (by decide)) (v := .ref q4) rfl rfl rfl (Nat.le_of_ble_eq_true rfl) hW dk_X0_33 (fun H locs hW => ?_)
  have hW : mk_w D [(h0, .inr (0, [.ref q1, .ref q2, .ref q3, .ref q4, .null, .int (Int32.ofInt 0), .int (Int32.ofInt 0), .int (Int32.ofInt 0)])), (q1, .inl (cA 0, 16, .inl (fun _ => Int32.ofInt 0))), (q2, .inl (cA 0, 16, .inl (fun _ => Int32.ofInt 0))), (q3, .inl (cA 1, 4, .inr (.inl (fun _ => Int64.ofInt 0)))), (q4, .inl (cA 0, 192, .inl (fun _ => Int32.ofInt 0)))] s.heap H A locs := hW
  refine lv_aload_n hx hb dk_X0_36 rfl (lv_at hl 0 rfl) ?_
  refine lv_bipush (v := Int32.ofInt 16) hx hb dk_X0_37 (by decide +kernel) ?_
  refine mk_na (atype := .int) X 0 rfl kw_aI (N := 16) (a0 := (16, .inl (fun _ => Int32.ofInt 0))) hW hA (fun _ => rfl) (by decide +kernel) (by decide +kernel) (Nat.le_of_ble_eq_true rfl) (Nat.le_of_ble_eq_true rfl) (Nat.le_of_ble_eq_true rfl) dk_X0_39 (fun q5 H hW => ?_)
  refine W.widen (k := 5) (n := 244) (Nat.le_of_ble_eq_true rfl) (Nat.le_of_ble_eq_true rfl) ?_
  have hW : mk_w D [(h0, .inr (0, [.ref q1, .ref q2, .ref q3, .ref q4, .null, .int (Int32.ofInt 0), .int (Int32.ofInt 0), .int (Int32.ofInt 0)])), (q1, .inl (cA 0, 16, .inl (fun _ => Int32.ofInt 0))), (q2, .inl (cA 0, 16, .inl (fun _ => Int32.ofInt 0))), (q3, .inl (cA 1, 4, .inr (.inl (fun _ => Int64.ofInt 0)))), (q4, .inl (cA 0, 192, .inl (fun _ => Int32.ofInt 0))), (q5, .inl (cA 0, 16, .inl (fun _ => Int32.ofInt 0)))] s.heap H A _ := hW
  refine mk_pf X hin (ci := 0) (C := RX0) (T := TX0) (N := 8) rfl 4 (by decide) kw_X0_f4 rfl rfl (ty := tyX0 4) (tyX0_ok 4 (by decide)) (v := .ref q5) rfl rfl rfl (Nat.le_of_ble_eq_true rfl) hW dk_X0_41 (fun H locs hW => ?_)
  have hW : mk_w D [(h0, .inr (0, [.ref q1, .ref q2, .ref q3, .ref q4, .ref q5, .int (Int32.ofInt 0), .int (Int32.ofInt 0), .int (Int32.ofInt 0)])), (q1, .inl (cA 0, 16, .inl (fun _ => Int32.ofInt 0))), (q2, .inl (cA 0, 16, .inl (fun _ => Int32.ofInt 0))), (q3, .inl (cA 1, 4, .inr (.inl (fun _ => Int64.ofInt 0)))), (q4, .inl (cA 0, 192, .inl (fun _ => Int32.ofInt 0))), (q5, .inl (cA 0, 16, .inl (fun _ => Int32.ofInt 0)))] s.heap H A locs := hW
  refine lv_aload_n hx hb dk_X0_44 rfl (lv_at hl 0 rfl) ?_
  refine lv_iconst (v := Int32.ofInt 0) hx hb dk_X0_45 (by decide +kernel) ?_
  refine mk_pi X (ci := 0) (C := RX0) (T := TX0) (N := 8) rfl 5 (by decide) kw_X0_f5 rfl (ty := tyX0 5) (tyX0_ok 5 (by decide)) (v := .int (Int32.ofInt 0)) (by decide +kernel) rfl rfl (Nat.le_of_ble_eq_true rfl) hW dk_X0_46 (fun H locs hW => ?_)
  have hW : mk_w D [(h0, .inr (0, [.ref q1, .ref q2, .ref q3, .ref q4, .ref q5, .int (Int32.ofInt 0), .int (Int32.ofInt 0), .int (Int32.ofInt 0)])), (q1, .inl (cA 0, 16, .inl (fun _ => Int32.ofInt 0))), (q2, .inl (cA 0, 16, .inl (fun _ => Int32.ofInt 0))), (q3, .inl (cA 1, 4, .inr (.inl (fun _ => Int64.ofInt 0)))), (q4, .inl (cA 0, 192, .inl (fun _ => Int32.ofInt 0))), (q5, .inl (cA 0, 16, .inl (fun _ => Int32.ofInt 0)))] s.heap H A locs := hW
  refine lv_aload_n hx hb dk_X0_49 rfl (lv_at hl 0 rfl) ?_
  refine lv_iconst (v := Int32.ofInt 0) hx hb dk_X0_50 (by decide +kernel) ?_
  refine mk_pi X (ci := 0) (C := RX0) (T := TX0) (N := 8) rfl 6 (by decide) kw_X0_f6 rfl (ty := tyX0 6) (tyX0_ok 6 (by decide)) (v := .int (Int32.ofInt 0)) (by decide +kernel) rfl rfl (Nat.le_of_ble_eq_true rfl) hW dk_X0_51 (fun H locs hW => ?_)
  have hW : mk_w D [(h0, .inr (0, [.ref q1, .ref q2, .ref q3, .ref q4, .ref q5, .int (Int32.ofInt 0), .int (Int32.ofInt 0), .int (Int32.ofInt 0)])), (q1, .inl (cA 0, 16, .inl (fun _ => Int32.ofInt 0))), (q2, .inl (cA 0, 16, .inl (fun _ => Int32.ofInt 0))), (q3, .inl (cA 1, 4, .inr (.inl (fun _ => Int64.ofInt 0)))), (q4, .inl (cA 0, 192, .inl (fun _ => Int32.ofInt 0))), (q5, .inl (cA 0, 16, .inl (fun _ => Int32.ofInt 0)))] s.heap H A locs := hW
  refine lv_aload_n hx hb dk_X0_54 rfl (lv_at hl 0 rfl) ?_
  refine lv_bipush (v := Int32.ofInt 48) hx hb dk_X0_55 (by decide +kernel) ?_
  refine mk_pi X (ci := 0) (C := RX0) (T := TX0) (N := 8) rfl 7 (by decide) kw_X0_f7 rfl (ty := tyX0 7) (tyX0_ok 7 (by decide)) (v := .int (Int32.ofInt 48)) (by decide +kernel) rfl rfl (Nat.le_of_ble_eq_true rfl) hW dk_X0_57 (fun H locs hW => ?_)
  have hW : mk_w D [(h0, .inr (0, [.ref q1, .ref q2, .ref q3, .ref q4, .ref q5, .int (Int32.ofInt 0), .int (Int32.ofInt 0), .int (Int32.ofInt 48)])), (q1, .inl (cA 0, 16, .inl (fun _ => Int32.ofInt 0))), (q2, .inl (cA 0, 16, .inl (fun _ => Int32.ofInt 0))), (q3, .inl (cA 1, 4, .inr (.inl (fun _ => Int64.ofInt 0)))), (q4, .inl (cA 0, 192, .inl (fun _ => Int32.ofInt 0))), (q5, .inl (cA 0, 16, .inl (fun _ => Int32.ofInt 0)))] s.heap H A locs := hW
  exact W.vret hx hb hr (fun t ht _ => ⟨⟨(fun k => match k with | 1 => q1 | 2 => q2 | 3 => q3 | 4 => q4 | 5 => q5 | _ => 0), rfl, trivial, by rw [ht]; exact hW.1, hW.2.1⟩, hW.2.2.F ht⟩) hW.2.2.2.2 dk_X0_60
theorem dk_X1_0 : decode cX1_init 0 = .ok (.aload_n 0, 1) := by decide +kernel
theorem dk_X1_1 : decode cX1_init 1 = .ok (.invokespecial 3, 3) := by decide +kernel
theorem dk_X1_4 : decode cX1_init 4 = .ok (.aload_n 0, 1) := by decide +kernel
theorem dk_X1_5 : decode cX1_init 5 = .ok (.bipush 60, 2) := by decide +kernel
theorem dk_X1_7 : decode cX1_init 7 = .ok (.newarray .int, 2) := by decide +kernel
theorem dk_X1_9 : decode cX1_init 9 = .ok (.putfield 9, 3) := by decide +kernel
theorem dk_X1_12 : decode cX1_init 12 = .ok (.aload_n 0, 1) := by decide +kernel
theorem dk_X1_13 : decode cX1_init 13 = .ok (.iconst 1, 1) := by decide +kernel
theorem dk_X1_14 : decode cX1_init 14 = .ok (.putfield 15, 3) := by decide +kernel
theorem dk_X1_17 : decode cX1_init 17 = .ok (.aload_n 0, 1) := by decide +kernel
theorem dk_X1_18 : decode cX1_init 18 = .ok (.iconst 0, 1) := by decide +kernel
theorem dk_X1_19 : decode cX1_init 19 = .ok (.putfield 19, 3) := by decide +kernel
theorem dk_X1_22 : decode cX1_init 22 = .ok (.aload_n 0, 1) := by decide +kernel
theorem dk_X1_23 : decode cX1_init 23 = .ok (.iconst 0, 1) := by decide +kernel
theorem dk_X1_24 : decode cX1_init 24 = .ok (.putfield 23, 3) := by decide +kernel
theorem dk_X1_27 : decode cX1_init 27 = .ok (.return_, 1) := by decide +kernel
theorem kw_X1_code : Cond.code yX1_init cX1_init 1 none ∈ ab_TB := ab_wd_ok (i := 180) (by decide +kernel)
theorem kw_X1_inst : Cond.instanceMethod yX1_init ∈ ab_TB := ab_wd_ok (i := 179) (by decide +kernel)
theorem kw_X1_ini : Cond.initialized RX1 ∈ ab_TB := ab_wd_ok (i := 80) (by decide +kernel)
theorem kw_X1_able : Cond.instantiable RX1 4 ∈ ab_TB := ab_wd_ok (i := 177) (by decide +kernel)
def fsX1 : List Value := [.null, .int (Int32.ofInt 0), .int (Int32.ofInt 0), .int (Int32.ofInt 0)]
theorem kw_X1_o : Cond.methodLink RX1 3 objectInit ∈ ab_TB := ab_wd_ok (i := 181) (by decide +kernel)
theorem kw_X1_f0 : Cond.fieldLink RX1 9 (TX1 0).1 (TX1 0).2.1 (TX1 0).2.2.1 ∈ ab_TB := ab_wd_ok (i := 182) (by decide +kernel)
theorem kw_X1_f1 : Cond.fieldLink RX1 15 (TX1 1).1 (TX1 1).2.1 (TX1 1).2.2.1 ∈ ab_TB := ab_wd_ok (i := 184) (by decide +kernel)
theorem kw_X1_f2 : Cond.fieldLink RX1 19 (TX1 2).1 (TX1 2).2.1 (TX1 2).2.2.1 ∈ ab_TB := ab_wd_ok (i := 186) (by decide +kernel)
theorem kw_X1_f3 : Cond.fieldLink RX1 23 (TX1 3).1 (TX1 3).2.1 (TX1 3).2.2.1 ∈ ab_TB := ab_wd_ok (i := 188) (by decide +kernel)
def LfX1 (cA : Nat → ClassId) (q : Nat) (f : Nat → Nat) : va_W := [(q, .inr (1, [.ref (f 1), .int (Int32.ofInt 1), .int (Int32.ofInt 0), .int (Int32.ofInt 0)])), ((f 1), .inl (cA 0, 60, .inl (fun _ => Int32.ofInt 0)))]
set_option maxHeartbeats 4000000 in
set_option maxRecDepth 100000 in
theorem mk_X1 (l : Launch) (D : va_G) (cA : Nat → ClassId) (h0 sz : Nat) : Met l yX1_init (Cond.code yX1_init cX1_init 1 none :: ab_TB) { frames := 1, cells := 1, slots := 60, locals := 12 } (mk_Pc D cA (fun _ => True) 1 fsX1 h0 sz) (mk_Qc D 1 fsX1 (LfX1 cA) h0 sz) 1 60 (va_A [(h0, .inr (1, fsX1))] sz) := by
  refine Met.ofW (cc := cX1_init) (maxL := 1) (ret := none) (by decide) rfl ?_
  intro p e s m args below meth c s₁ B hml hv
  obtain ⟨rfl, hsz, hP, hK, hE⟩ := hv
  have hx := B.exec
  have hb := B.bytes
  have hr := B.returns
  have hts0 := atoms_spec (ws := Cond.code yX1_init cX1_init 1 none :: ab_TB) B.pre
  have hts : ∀ w ∈ ab_TB, w.before _ s = true := fun w hw => hts0 w (List.mem_cons_of_mem _ hw)
  have hown : s.vm.findClass RX1 = some m.cls := findClass_of_methodNamed B.named
  have hlocks := B.notSynchronized
  have hin : meth.name = "<init>" := (name_of_methodNamed B.named B.method).1
  subst hsz
  have hD : va_D (va_A [(h0, .inr (1, fsX1))] s.heap.size) [(h0, .inr (1, fsX1))] := mk_one
  generalize hAe : va_A [(h0, .inr (1, fsX1))] s.heap.size = A at hD ⊢
  have hA : ∀ q : Nat, s.heap.size ≤ q → A q := fun q h => by rw [← hAe]; exact Or.inr h
  unfold mk_Qc
  rw [hAe]
  have X : mk_cx p s m _ c cX1_init 1 RX1 D cA := ⟨hx, hb, hml, hown, hts, hK⟩
  have hW : mk_w D [(h0, .inr (1, fsX1))] s.heap s.heap A [] := ⟨hP, hD, va_S.rf⟩
  have hl := lv_entry ([.ref h0]) (n := 1) (Nat.le_of_ble_eq_true rfl)
  rw [lg_entry_eq]
  generalize (lg_sl ([.ref h0]) ++ List.replicate (1 - (lg_sl ([.ref h0])).length) Slot.unset).toArray = ls at hl ⊢
  have hl : lv_has ls 1 [(0, .ref h0)] := hl
  refine lv_aload_n hx hb dk_X1_0 rfl (lv_at hl 0 rfl) ?_
  refine W.objInit hx hb hown (hts _ kw_X1_o) (hts _ kw_oi) (hts _ kw_oc) rfl (by rw [hml]; exact hl.1) rfl dk_X1_1 (Nat.le_of_ble_eq_true rfl) (Nat.le_of_ble_eq_true rfl) ?_
  refine W.eq (g2 := F0 m 4 ls []) rfl ?_
  refine lv_aload_n hx hb dk_X1_4 rfl (lv_at hl 0 rfl) ?_
  refine lv_bipush (v := Int32.ofInt 60) hx hb dk_X1_5 (by decide +kernel) ?_
  refine mk_na (atype := .int) X 0 rfl kw_aI (N := 60) (a0 := (60, .inl (fun _ => Int32.ofInt 0))) hW hA (fun _ => rfl) (by decide +kernel) (by decide +kernel) (Nat.le_of_ble_eq_true rfl) (Nat.le_of_ble_eq_true rfl) (Nat.le_of_ble_eq_true rfl) dk_X1_7 (fun q1 H hW => ?_)
  refine W.widen (k := 1) (n := 60) (Nat.le_of_ble_eq_true rfl) (Nat.le_of_ble_eq_true rfl) ?_
  have hW : mk_w D [(h0, .inr (1, [.null, .int (Int32.ofInt 0), .int (Int32.ofInt 0), .int (Int32.ofInt 0)])), (q1, .inl (cA 0, 60, .inl (fun _ => Int32.ofInt 0)))] s.heap H A _ := hW
  refine mk_pf X hin (ci := 1) (C := RX1) (T := TX1) (N := 4) rfl 0 (by decide) kw_X1_f0 rfl rfl (ty := tyX1 0) (tyX1_ok 0 (by decide)) (v := .ref q1) rfl rfl rfl (Nat.le_of_ble_eq_true rfl) hW dk_X1_9 (fun H locs hW => ?_)
  have hW : mk_w D [(h0, .inr (1, [.ref q1, .int (Int32.ofInt 0), .int (Int32.ofInt 0), .int (Int32.ofInt 0)])), (q1, .inl (cA 0, 60, .inl (fun _ => Int32.ofInt 0)))] s.heap H A locs := hW
  refine lv_aload_n hx hb dk_X1_12 rfl (lv_at hl 0 rfl) ?_
  refine lv_iconst (v := Int32.ofInt 1) hx hb dk_X1_13 (by decide +kernel) ?_
  refine mk_pi X (ci := 1) (C := RX1) (T := TX1) (N := 4) rfl 1 (by decide) kw_X1_f1 rfl (ty := tyX1 1) (tyX1_ok 1 (by decide)) (v := .int (Int32.ofInt 1)) (by decide +kernel) rfl rfl (Nat.le_of_ble_eq_true rfl) hW dk_X1_14 (fun H locs hW => ?_)
  have hW : mk_w D [(h0, .inr (1, [.ref q1, .int (Int32.ofInt 1), .int (Int32.ofInt 0), .int (Int32.ofInt 0)])), (q1, .inl (cA 0, 60, .inl (fun _ => Int32.ofInt 0)))] s.heap H A locs := hW
  refine lv_aload_n hx hb dk_X1_17 rfl (lv_at hl 0 rfl) ?_
  refine lv_iconst (v := Int32.ofInt 0) hx hb dk_X1_18 (by decide +kernel) ?_
  refine mk_pi X (ci := 1) (C := RX1) (T := TX1) (N := 4) rfl 2 (by decide) kw_X1_f2 rfl (ty := tyX1 2) (tyX1_ok 2 (by decide)) (v := .int (Int32.ofInt 0)) (by decide +kernel) rfl rfl (Nat.le_of_ble_eq_true rfl) hW dk_X1_19 (fun H locs hW => ?_)
  have hW : mk_w D [(h0, .inr (1, [.ref q1, .int (Int32.ofInt 1), .int (Int32.ofInt 0), .int (Int32.ofInt 0)])), (q1, .inl (cA 0, 60, .inl (fun _ => Int32.ofInt 0)))] s.heap H A locs := hW
  refine lv_aload_n hx hb dk_X1_22 rfl (lv_at hl 0 rfl) ?_
  refine lv_iconst (v := Int32.ofInt 0) hx hb dk_X1_23 (by decide +kernel) ?_
  refine mk_pi X (ci := 1) (C := RX1) (T := TX1) (N := 4) rfl 3 (by decide) kw_X1_f3 rfl (ty := tyX1 3) (tyX1_ok 3 (by decide)) (v := .int (Int32.ofInt 0)) (by decide +kernel) rfl rfl (Nat.le_of_ble_eq_true rfl) hW dk_X1_24 (fun H locs hW => ?_)
  have hW : mk_w D [(h0, .inr (1, [.ref q1, .int (Int32.ofInt 1), .int (Int32.ofInt 0), .int (Int32.ofInt 0)])), (q1, .inl (cA 0, 60, .inl (fun _ => Int32.ofInt 0)))] s.heap H A locs := hW
  exact W.vret hx hb hr (fun t ht _ => ⟨⟨(fun k => match k with | 1 => q1 | _ => 0), rfl, trivial, by rw [ht]; exact hW.1, hW.2.1⟩, hW.2.2.F ht⟩) hW.2.2.2.2 dk_X1_27
