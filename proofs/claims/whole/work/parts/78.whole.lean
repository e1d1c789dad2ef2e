/-! the law from its entry -/
theorem kw_L_c7 : Cond.classLink RL 7 RX4 ∈ ab_TB := ab_wd_ok (i := 87) (by decide +kernel)
theorem kw_L_c10 : Cond.classLink RL 10 RX5 ∈ ab_TB := ab_wd_ok (i := 677) (by decide +kernel)
theorem kw_L_m9 : Cond.methodLink RL 9 yX4_init ∈ ab_TB := ab_wd_ok (i := 89) (by decide +kernel)
theorem kw_L_m12 : Cond.methodLink RL 12 yX5_init ∈ ab_TB := ab_wd_ok (i := 679) (by decide +kernel)
theorem dk_L_0 : decode code 0 = .ok (.new 7, 3) := by decide +kernel
theorem dk_L_3 : decode code 3 = .ok (.dup, 1) := by decide +kernel
theorem dk_L_4 : decode code 4 = .ok (.invokespecial 9, 3) := by decide +kernel
theorem dk_L_7 : decode code 7 = .ok (.astore_n 1, 1) := by decide +kernel
theorem dk_L_8 : decode code 8 = .ok (.new 10, 3) := by decide +kernel
theorem dk_L_11 : decode code 11 = .ok (.dup, 1) := by decide +kernel
theorem dk_L_12 : decode code 12 = .ok (.invokespecial 12, 3) := by decide +kernel
theorem dk_L_15 : decode code 15 = .ok (.astore_n 2, 1) := by decide +kernel
theorem dk_L_16 : decode code 16 = .ok (.iconst 0, 1) := by decide +kernel
theorem dk_L_17 : decode code 17 = .ok (.istore_n 3, 1) := by decide +kernel
theorem bg_nest {args : Array Value} {s : State} (hts : ∀ w ∈ lw_tbl, w.before args s = true) : ExX4 s := by
  exact ⟨va_Nw.of rfl (hts (.methodLinkNest RX4 11 yX2_init RX4) (List.mem_of_getElem? (i := 97) (by decide +kernel))), va_Nw.of rfl (hts (.methodLinkNest RX4 18 yX3_init RX4) (List.mem_of_getElem? (i := 114) (by decide +kernel))), va_Nw.of rfl (hts (.methodLinkNest RX4 31 yX0_init RX4) (List.mem_of_getElem? (i := 140) (by decide +kernel))), va_Nw.of rfl (hts (.methodLinkNest RX4 66 yX1_init RX4) (List.mem_of_getElem? (i := 178) (by decide +kernel))), va_AO.of (hts (.arrayOver (.object RX1)) (List.mem_of_getElem? (i := 176) (by decide +kernel)))⟩
theorem kw_lays : Cond.laysStatic "RelayRace" "DIGEST_MOMENTS" "[I" ∈ lw_tbl := List.mem_of_getElem? (i := 653) (by decide +kernel)
set_option maxHeartbeats 4000000 in
set_option maxRecDepth 100000 in
theorem whole_start {p : Program} {e : Env} {s : State} {m : MethodId} {below : List Frame} {meth : Method} {c : Code} (l : Launch) (hflags : l.flags = flags0) {b L : Nat} {xs : Nat → Int32} (hL : L ≤ 3072) (C0 : lw_At p s m meth c b L xs) : W p l e room_1 s m #[Value.ref b] below meth c s.heap [] 0 0 (lw_Z below #[Value.ref b] s) (entryFrame m ([Value.ref b] : List Value).toArray 4) := by
  obtain ⟨hx, hb, hr, hml, hown, hts0, hX, hbl, hlocks, hgv⟩ := id C0
  have hts : ∀ w ∈ ab_TB, w.before #[Value.ref b] s = true := fun w hw => hts0 w (List.mem_filter.mp hw).1
  have hown : s.vm.findClass RL = some m.cls := hown
  have hE : ExX4 s := bg_nest hts0
  obtain ⟨D, cA, hK⟩ := bg_K hts hE.2.2.2.2
  obtain ⟨t, htv, htl, htX⟩ := bg_dm hgv
  have hA : ∀ q : Nat, s.heap.size ≤ q → (fun q : Nat => s.heap.size ≤ q) q := fun _ h => h
  generalize hAe : (fun q : Nat => s.heap.size ≤ q) = A at hA
  have hAr : ∀ q, A q → s.heap.size ≤ q := fun q h => by rw [← hAe] at h; exact h
  have X : mk_cx p s m #[Value.ref b] c code 4 RL D cA := ⟨hx, hb, hml, hown, hts, hK⟩
  have hW : mk_w D [] s.heap s.heap A [] := ⟨fun k q h => by simp at h, ⟨fun i j p q h => by simp at h, fun k q h => by simp at h⟩, va_S.rf⟩
  have hl := lv_entry ([.ref b]) (n := 4) (Nat.le_of_ble_eq_true rfl)
  rw [lg_entry_eq]
  generalize (lg_sl ([.ref b]) ++ List.replicate (4 - (lg_sl ([.ref b])).length) Slot.unset).toArray = ls at hl ⊢
  have hl : lv_has ls 4 [(0, .ref b)] := hl
  refine mk_nwP X hl.1 (mk_X4 l D cA) (fun a U g mk h => ⟨va_Nw.same rfl rfl h.1, va_Nw.same rfl rfl h.2.1, va_Nw.same rfl rfl h.2.2.1, va_Nw.same rfl rfl h.2.2.2.1, va_AO.moved (u := U) (U := U.calling g mk a) (Vm.Alike.refl U.vm) h.2.2.2.2⟩) (fun U hU => ⟨va_Nw.warmM hU hE.1, va_Nw.warmM hU hE.2.1, va_Nw.warmM hU hE.2.2.1, va_Nw.warmM hU hE.2.2.2.1, va_AO.moved hU.alike hE.2.2.2.2⟩) (C := RX4) (T := TX4) (N := 13) rfl tyX4 tyX4_ok fs_X4 kw_L_c7 kw_X4_able kw_X4_ini rfl rfl kw_X4_code kw_X4_inst kw_L_m9 (by decide +kernel) rfl rfl ⟨(Nat.le_of_ble_eq_true rfl), (Nat.le_of_ble_eq_true rfl)⟩ hW hA (Nat.le_of_ble_eq_true rfl) (Nat.le_of_ble_eq_true rfl) (fun _ => (Nat.le_of_ble_eq_true rfl)) dk_L_0 dk_L_3 dk_L_4 (fun q0 f0 H locs hW => ?_)
  refine W.widen (k := 39) (n := 2119) (Nat.le_of_ble_eq_true rfl) (Nat.le_of_ble_eq_true rfl) ?_
  have hW : mk_w D (LfX4 cA q0 f0) s.heap H A locs := hW
  refine lv_astore_n (lv' := [(1, .ref q0), (0, .ref b)]) hx hb dk_L_7 rfl hl (by decide) rfl (fun ls hl => ?_)
  refine mk_nwP X hl.1 (mk_X5 l D cA) (fun a U g mk h => trivial) (fun U hU => trivial) (C := RX5) (T := TX5) (N := 38) rfl tyX5 tyX5_ok fs_X5 kw_L_c10 kw_X5_able kw_X5_ini rfl rfl kw_X5_code kw_X5_inst kw_L_m12 (by decide +kernel) rfl rfl ⟨(Nat.le_of_ble_eq_true rfl), (Nat.le_of_ble_eq_true rfl)⟩ hW hA (Nat.le_of_ble_eq_true rfl) (Nat.le_of_ble_eq_true rfl) (fun _ => (Nat.le_of_ble_eq_true rfl)) dk_L_8 dk_L_11 dk_L_12 (fun q1 f1 H locs hW => ?_)
  refine W.widen (k := 69) (n := 3726) (Nat.le_of_ble_eq_true rfl) (Nat.le_of_ble_eq_true rfl) ?_
  refine lv_astore_n (lv' := [(2, .ref q1), (1, .ref q0), (0, .ref b)]) hx hb dk_L_15 rfl hl (by decide) rfl (fun ls hl => ?_)
  refine lv_iconst (v := Int32.ofInt 0) hx hb dk_L_16 (by decide +kernel) ?_
  refine lv_istore_n (lv' := [(3, .int (Int32.ofInt 0)), (2, .ref q1), (1, .ref q0), (0, .ref b)]) hx hb dk_L_17 rfl hl (by decide) rfl (fun ls hl => ?_)
  generalize hF : (fun j : Int => (xs j.toNat).toInt) = f
  have hf32 : ∀ j, ab_r32 (f j) := fun j => by
    rw [← hF]
    show ab_r32 (xs j.toNat).toInt
    have h1 := Int32.le_toInt (xs j.toNat)
    have h2 := Int32.toInt_lt (xs j.toNat)
    exact ⟨by omega, by omega⟩
  have hcell := bg_cell (cA := cA) (q0 := q0) (f0 := f0) (q1 := q1) (f1 := f1) (t := t) (b := b) (f := f)
  generalize hads : bg_ad q0 f0 q1 f1 t b = ad at hcell
  have had0 : ad 0 = q0 := by rw [← hads]; rfl
  have had39 : ad 39 = q1 := by rw [← hads]; rfl
  have had100 : ad 100 = t := by rw [← hads]; rfl
  have had101 : ad 101 = b := by rw [← hads]; rfl
  have hge : ∀ k, k < 69 → s.heap.size ≤ ad k := fun k hk => by
    obtain ⟨sh, hs⟩ := bg_shp hk
    exact hAr _ (hW.2.1.2 k _ (hcell k sh hs))
  have hinj : ab_inj ad := fun i j hi hj h => by
    obtain ⟨sh, hs⟩ := bg_shp hi
    obtain ⟨sh2, hs2⟩ := bg_shp hj
    exact hW.2.1.1 i j _ _ (hcell i sh hs) (hcell j sh2 hs2) h
  have hP : va_P D ab_cl (ab_ws ad cA (w_0 f)) H := fun k x hx => by
    obtain ⟨sh, hs, rfl⟩ := ab_ws_of hx
    exact hW.1 k _ (hcell k sh hs)
  have hnA : ∀ a : Nat, a < s.heap.size → ¬ ab_A ad s.heap.size a := fun a ha h => by
    rcases h with ⟨k, hk, h⟩ | h
    · have := hge k hk; omega
    · omega
  have hXX : ab_X ad L (w_0 f) (ab_A ad s.heap.size) s s.heap := by
    refine ⟨?_, ?_, ?_, ?_, ?_, ?_, ?_, hL⟩
    · rw [had100]; exact htX
    · rw [had100]; exact htl
    · rw [had100]; exact hnA t htl
    · rw [had101]
      have e : (fun i : Nat => Int32.ofInt (w_0 f 101 (i : Int))) = xs := by
        funext i
        show Int32.ofInt (f (i : Int)) = xs i
        rw [← hF]
        simp
      rw [e]; exact hX
    · rw [had101]; exact hbl
    · rw [had101]; exact hnA b hbl
    · rw [had100]; exact va_Zref (hts0 _ kw_lays) (hts _ kw_X4_ini) htv hnA
  have hctx : ab_ctx p s m #[Value.ref b] c code 4 RL ad cA D L (w_0 f) := ⟨hx, hb, hml, hown, hts, hK, hinj, hXX⟩
  have hC : ab_hC l room_1 (ab_rm 12) ad cA D L ab_mt (Sm L 13) := fun k as w post h => ⟨⟨(Nat.le_of_ble_eq_true rfl), (Nat.le_of_ble_eq_true rfl), rfl, rfl⟩, (ab_calls (l := l) (ad := ad) (cA := cA) (D := D) (Ls := L) 12 k as w post h).2⟩
  have hR : ab_hR p l e room_1 s m #[Value.ref b] below meth c (lw_Z below #[Value.ref b] s) 69 3726 code ret ad cA D (w_0 f) (fun r _ => r = some (vI 1)) := by
    intro pc w ls H locs hw
    refine ⟨fun ex x hdg hrt hpost hxr hbo => ?_, fun x hdg hrt => (by cases hrt), fun hdg hrt => (by cases hrt)⟩
    have hx1 : x = 1 := Sum.inl.inj (Option.some.inj hpost)
    subst hx1
    refine va_forget (fun q hq => ?_) ?_
    · rcases hw.2.1.2.2 q hq with ⟨k, hk, h⟩ | h
      · rw [h]; exact hge k hk
      · exact h
    refine W.widen (k := 600000) (n := 7302249) (Nat.le_of_ble_eq_true rfl) (Nat.le_of_ble_eq_true rfl) ?_
    exact lw_ret hx hb hr hlocks hdg
  have hEv : Ev L (Sm L 13) (fun r _ => r = some (vI 1)) bk_L 1 [vR 101, vR 0, vR 39, vI 0] [] (w_0 f) := lw_loop (f := f) hL (fun j => (hf32 j).2) (fun _ => rfl) L 0 (by omega) (by omega) (w_0 f) D_0 S_0 (fun _ => rfl) c_inv_0 m_inv_0
  have hlr : ab_lr ad 4 [vR 101, vR 0, vR 39, vI 0] ls := by
    refine ⟨rfl, ⟨hl.1, hl.2.1, fun q hq => ?_⟩, fun v hv => ?_⟩
    · obtain ⟨v, e1, e2, e3⟩ := ab_lp_mem.mp hq
      obtain ⟨i, y⟩ := q
      dsimp only at e1 e3
      subst e3
      match i, e1 with
      | 0, e1 => cases e1; show ls[0]? = some (.val (.ref (ad 101))); rw [had101]; exact hl.2.2 (0, .ref b) (by simp)
      | 1, e1 => cases e1; show ls[1]? = some (.val (.ref (ad 0))); rw [had0]; exact hl.2.2 (1, .ref q0) (by simp)
      | 2, e1 => cases e1; show ls[2]? = some (.val (.ref (ad 39))); rw [had39]; exact hl.2.2 (2, .ref q1) (by simp)
      | 3, e1 => cases e1; exact hl.2.2 (3, .int (Int32.ofInt 0)) (by simp)
      | i + 4, e1 => simp at e1
    · simp only [List.mem_cons, List.not_mem_nil, or_false] at hv
      rcases hv with rfl | rfl | rfl | rfl
      · trivial
      · trivial
      · trivial
      · exact ⟨by decide, by decide⟩
  have hS : va_S (ab_A ad s.heap.size) s.heap H locs := ⟨hW.2.2.1, fun q h1 h2 => hW.2.2.2.1 q h1 (fun z => by have := hAr q z; omega), fun q hq => Or.inr (hAr _ (hW.2.2.2.2 q hq))⟩
  exact ab_bdy (rm := ab_rm 12) (mt := ab_mt) (rt := ret) (pcs := pc_L) (bl := bk_L) (b := 1) (t := 18) hctx ⟨(Nat.le_of_ble_eq_true rfl), (Nat.le_of_ble_eq_true rfl)⟩ hC hR ck_L rfl hEv ls H locs hlr (fun v hv => by cases hv) ⟨hP, hS, fun _ _ => rfl, w_0_ok hf32⟩
