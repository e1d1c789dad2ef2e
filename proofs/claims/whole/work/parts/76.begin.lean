/-! the law's beginning: both objects are made; then its loop -/
theorem bg_len {args : Array Value} {first s : State} {o : Option Outcome} {idx : List Nat} {t : Term} {a : Addr} {cell : Cell} {v : Value} (ht : t.eval args first o idx s = some (.ref a)) (hc : s.arrayAt? a = some cell) (h : (Term.length t).eval args first o idx s = some v) : cell.slots.size < 2 ^ 31 := by
  simp only [Term.eval, ht, hc, Option.bind_eq_bind, Option.bind_some] at h
  by_cases hn : cell.slots.size < 2 ^ 31
  · exact hn
  · simp [hn] at h
abbrev bg_st : Term := .static "RelayRace" "DIGEST_MOMENTS" "[I"
/-- the moments of the digest, as the Statement gives them -/
theorem bg_dm {args : Array Value} {s : State} (hgv : (Jvm.Cond.and given_1 narrow_1).before args s = true) : ∃ t : Nat, bg_st.eval args s none [] s = some (.ref t) ∧ t < s.heap.size ∧ va_X t 5 (fun i => Int32.ofInt (if (i : Int) = 1 then 9 else if (i : Int) = 2 then 18 else if (i : Int) = 3 then 30 else if (i : Int) = 4 then 47 else 0)) s s.heap := by
  have hs := flat_of_before _ hgv
  have harr : (Cond.arrayOf bg_st .int).before args s = true := hs _ (by decide +kernel)
  have hle : (Cond.eq (.length bg_st) (.int 5)).before args s = true := hs _ (by decide +kernel)
  have h0 : (Cond.eq (.elem bg_st (.int 0)) (.int 0)).before args s = true := hs _ (by decide +kernel)
  have h1 : (Cond.eq (.elem bg_st (.int 1)) (.int 9)).before args s = true := hs _ (by decide +kernel)
  have h2 : (Cond.eq (.elem bg_st (.int 2)) (.int 18)).before args s = true := hs _ (by decide +kernel)
  have h3 : (Cond.eq (.elem bg_st (.int 3)) (.int 30)).before args s = true := hs _ (by decide +kernel)
  have h4 : (Cond.eq (.elem bg_st (.int 4)) (.int 47)).before args s = true := hs _ (by decide +kernel)
  have hlen := va_eqt hle
  obtain ⟨t, cell, ht, hat, hv⟩ := Term.length_spec hlen
  have h31 := bg_len ht hat hlen
  obtain ⟨hcell, hkn, -, -⟩ := State.arrayAt?_spec hat
  obtain ⟨hof, -⟩ := Cond.arrayOf_spec harr ht hcell
  have hsz : cell.slots.size = 5 := by
    have e := Value.int.inj hv
    have e2 := congrArg Int32.toInt e
    have e3 : (cell.slots.size.toInt32).toInt = (cell.slots.size : Int) := nI_T h31
    rw [e3] at e2
    have e4 : (5 : Int32).toInt = 5 := by decide
    rw [e4] at e2
    omega
  have key : ∀ (j : Nat) (z : Int32), j < 5 → (Term.elem bg_st (.int (Int32.ofNat j))).eval args s none [] s = some (.int z) → cell.slots[j]? = some (.int z) := by
    intro j z hj h
    obtain ⟨a, i, cell2, g1, g2, g3, g4, g5⟩ := Term.elem_spec h
    cases ht.symm.trans g1
    cases hat.symm.trans g3
    have hi : i = Int32.ofNat j := by
      have e : (Term.int (Int32.ofNat j)).eval args s none [] s = some (.int (Int32.ofNat j)) := rfl
      cases g2.symm.trans e
      rfl
    have hc : i.toNatClampNeg = j := by rw [hi]; exact Int32.toNatClampNeg_ofNat_of_lt (by omega)
    rw [hc] at g5
    exact g5
  refine ⟨t, ht, (Array.getElem?_eq_some_iff.mp hcell).1, cell, hcell, hof, hkn, hsz, fun j hj => ?_⟩
  rcases (show j = 0 ∨ j = 1 ∨ j = 2 ∨ j = 3 ∨ j = 4 by omega) with rfl | rfl | rfl | rfl | rfl
  · exact key 0 0 (by decide) (va_eqt h0)
  · exact key 1 9 (by decide) (va_eqt h1)
  · exact key 2 18 (by decide) (va_eqt h2)
  · exact key 3 30 (by decide) (va_eqt h3)
  · exact key 4 47 (by decide) (va_eqt h4)
theorem bg_arr {args : Array Value} {s : State} {ty : FieldType} (h : (Cond.arrayClass ty).before args s = true) (hty : ∀ C, ty ≠ .object C) : ∃ c : ClassId, ArrOfT s c ty ∧ va_RA s c ty := by
  obtain ⟨c, k, comp, h1, h2, h3⟩ := Cond.arrayClass_spec h
  refine ⟨c, fun n z => ⟨fun k h => (by cases h), k, h2, comp, h3⟩, ?_⟩
  cases ty with
  | object C => exact absurd rfl (hty C)
  | _ => exact h1
theorem bg_arq {args : Array Value} {s : State} {C : String} (h : (Cond.arrayOver (.object C)).before args s = true) : ∃ c : ClassId, ArrOfT s c (.object C) ∧ va_RA s c (.object C) := by
  obtain ⟨comp, c, k, h1, -, h2, h3, h4⟩ := Cond.arrayOver_spec h
  exact ⟨c, fun n z => ⟨fun k h => (by cases h), k, h2, comp, h3⟩, k, comp, h2, h3, h1, h4⟩
theorem bg_K {args : Array Value} {s : State} (hts : ∀ w ∈ ab_TB, w.before args s = true) (hAO : va_AO RX1 s) : ∃ (D : va_G) (cA : Nat → ClassId), va_K D ab_cl (ab_tys cA) s := by
  obtain ⟨c0, i0, k0⟩ := u_known (C := RX0) (T := TX0) (N := 8) (n := 8) hts (ab_lay 0 _ _ _ rfl) (hts _ kw_X0_able)
  obtain ⟨c1, i1, k1⟩ := u_known (C := RX1) (T := TX1) (N := 4) (n := 4) hts (ab_lay 1 _ _ _ rfl) (hts _ kw_X1_able)
  obtain ⟨c2, i2, k2⟩ := u_known (C := RX2) (T := TX2) (N := 2) (n := 2) hts (ab_lay 2 _ _ _ rfl) (hts _ kw_X2_able)
  obtain ⟨c3, i3, k3⟩ := u_known (C := RX3) (T := TX3) (N := 4) (n := 4) hts (ab_lay 3 _ _ _ rfl) (hts _ kw_X3_able)
  obtain ⟨c4, i4, k4⟩ := u_known (C := RX4) (T := TX4) (N := 13) (n := 13) hts (ab_lay 4 _ _ _ rfl) (hts _ kw_X4_able)
  obtain ⟨c5, i5, k5⟩ := u_known (C := RX5) (T := TX5) (N := 38) (n := 38) hts (ab_lay 5 _ _ _ rfl) (hts _ kw_X5_able)
  obtain ⟨a0, b0⟩ := bg_arr (hts _ kw_aI) (fun C h => by cases h)
  obtain ⟨a1, b1⟩ := bg_arr (hts _ kw_aJ) (fun C h => by cases h)
  obtain ⟨a2, b2⟩ := bg_arr (hts _ kw_aZ) (fun C h => by cases h)
  obtain ⟨a3, b3⟩ := bg_arq (args := args) (va_AO.use hAO)
  refine ⟨(fun k => if k = 0 then c0 else if k = 1 then c1 else if k = 2 then c2 else if k = 3 then c3 else if k = 4 then c4 else c5, fun k => if k = 0 then i0 else if k = 1 then i1 else if k = 2 then i2 else if k = 3 then i3 else if k = 4 then i4 else i5), fun k => if k = 0 then a0 else if k = 1 then a1 else if k = 2 then a2 else a3, fun k q hq => ?_, fun k q hq => ?_⟩
  · match k, hq with
    | 0, hq => cases hq; exact k0
    | 1, hq => cases hq; exact k1
    | 2, hq => cases hq; exact k2
    | 3, hq => cases hq; exact k3
    | 4, hq => cases hq; exact k4
    | 5, hq => cases hq; exact k5
    | k + 6, hq => simp [ab_cl] at hq
  · match k, hq with
    | 0, hq => cases hq; exact b0
    | 1, hq => cases hq; exact b1
    | 2, hq => cases hq; exact b2
    | 3, hq => cases hq; exact b3
    | k + 4, hq => simp [ab_tys] at hq
