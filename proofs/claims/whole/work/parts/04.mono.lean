theorem ab_gI_mono {L : List ab_V} {n : Nat} {f g : Int → Prop} (h : ∀ x, f x → g x) : ab_gI L n f → ab_gI L n g := by
  unfold ab_gI; split
  · exact h _
  · exact id
theorem ab_gL_mono {L : List ab_V} {n : Nat} {f g : Int → Prop} (h : ∀ x, f x → g x) : ab_gL L n f → ab_gL L n g := by
  unfold ab_gL; split
  · exact h _
  · exact id
theorem ab_gR_mono {L : List ab_V} {n : Nat} {f g : Nat → Prop} (h : ∀ x, f x → g x) : ab_gR L n f → ab_gR L n g := by
  unfold ab_gR; split
  · exact h _
  · exact id
theorem ab_pI_mono {S : List ab_V} {f g : Int → List ab_V → Prop} (h : ∀ x S, f x S → g x S) : ab_pI S f → ab_pI S g := by
  unfold ab_pI; split
  · exact h _ _
  · exact id
theorem ab_pL_mono {S : List ab_V} {f g : Int → List ab_V → Prop} (h : ∀ x S, f x S → g x S) : ab_pL S f → ab_pL S g := by
  unfold ab_pL; split
  · exact h _ _
  · exact id
theorem ab_pR_mono {S : List ab_V} {f g : Nat → List ab_V → Prop} (h : ∀ x S, f x S → g x S) : ab_pR S f → ab_pR S g := by
  unfold ab_pR; split
  · exact h _ _
  · exact id
theorem ab_pII_mono {S : List ab_V} {f g : Int → Int → List ab_V → Prop} (h : ∀ x y S, f x y S → g x y S) : ab_pII S f → ab_pII S g := by
  unfold ab_pII; split
  · exact h _ _ _
  · exact id
theorem ab_pLL_mono {S : List ab_V} {f g : Int → Int → List ab_V → Prop} (h : ∀ x y S, f x y S → g x y S) : ab_pLL S f → ab_pLL S g := by
  unfold ab_pLL; split
  · exact h _ _ _
  · exact id
theorem ab_pIL_mono {S : List ab_V} {f g : Int → Int → List ab_V → Prop} (h : ∀ x y S, f x y S → g x y S) : ab_pIL S f → ab_pIL S g := by
  unfold ab_pIL; split
  · exact h _ _ _
  · exact id
theorem ab_pIR_mono {S : List ab_V} {f g : Nat → Int → List ab_V → Prop} (h : ∀ x y S, f x y S → g x y S) : ab_pIR S f → ab_pIR S g := by
  unfold ab_pIR; split
  · exact h _ _ _
  · exact id
theorem ab_and_mono {A B B' : Prop} (h : B → B') : A ∧ B → A ∧ B' := fun q => ⟨q.1, h q.2⟩
theorem ab_br_mono {c A A' B B' : Prop} (h : A → A') (h2 : B → B') : (c → A) ∧ (¬ c → B) → (c → A') ∧ (¬ c → B') := fun q => ⟨fun x => h (q.1 x), fun x => h2 (q.2 x)⟩
section AbMono
variable {Ls : Nat} {C C' : Nat → List ab_V → ab_W → (Option ab_V → ab_W → Prop) → Prop} {J J' : Nat → List ab_V → List ab_V → ab_W → Prop} {Rt Rt' : Option ab_V → ab_W → Prop}
theorem ab_call_mono {ex : List Nat} {S : List ab_V} {w : ab_W} {virt : Bool} {K K' : List ab_V → ab_W → Prop} (hC : ∀ m as w (q q' : Option ab_V → ab_W → Prop), (∀ r w', q r w' → q' r w') → C m as w q → C' m as w q') (hK : ∀ S w, K S w → K' S w) : ab_call C ex S w virt K → ab_call C' ex S w virt K' := by
  unfold ab_call
  split
  · split
    · exact fun q => ⟨q.1, q.2.1, hC _ _ _ _ _ (fun r w' => hK _ _) q.2.2⟩
    · exact id
  · exact id
theorem ab_copy_mono {S : List ab_V} {w : ab_W} {K K' : List ab_V → ab_W → Prop} (hC : ∀ m as w (q q' : Option ab_V → ab_W → Prop), (∀ r w', q r w' → q' r w') → C m as w q → C' m as w q') (hK : ∀ S w, K S w → K' S w) : ab_copy C S w K → ab_copy C' S w K' := by
  unfold ab_copy
  split
  · exact fun q => ⟨q.1, hC _ _ _ _ _ (fun _ _ z => z) q.2.1, q.2.2.1, hK _ _ q.2.2.2⟩
  · exact id
theorem ab_mm_mono {f : Int → Int → Int} {S : List ab_V} {w : ab_W} {K K' : List ab_V → ab_W → Prop} (hC : ∀ m as w (q q' : Option ab_V → ab_W → Prop), (∀ r w', q r w' → q' r w') → C m as w q → C' m as w q') (hK : ∀ S w, K S w → K' S w) : ab_mm C f S w K → ab_mm C' f S w K' := by
  unfold ab_mm
  split
  · exact fun q => ⟨q.1, hC _ _ _ _ _ (fun _ _ z => z) q.2.1, hK _ _ q.2.2⟩
  · exact id
theorem ab_wp_mono {K K' : List ab_V → List ab_V → ab_W → Prop} (hC : ∀ m as w (q q' : Option ab_V → ab_W → Prop), (∀ r w', q r w' → q' r w') → C m as w q → C' m as w q') (hJ : ∀ b L S w, J b L S w → J' b L S w) (hR : ∀ r w, Rt r w → Rt' r w) (hK : ∀ L S w, K L S w → K' L S w)
    {op : Instr} {ex : List Nat} {z : Int} {L S : List ab_V} {w : ab_W} : ab_wp Ls C J Rt K op ex z L S w → ab_wp Ls C' J' Rt' K' op ex z L S w := by
  cases op <;> dsimp only [ab_wp] <;> first
    | exact id
    | exact hK _ _ _
    | exact ab_gI_mono fun _ => hK _ _ _
    | exact ab_gL_mono fun _ => hK _ _ _
    | exact ab_gR_mono fun _ => hK _ _ _
    | exact ab_pI_mono fun _ _ => hK _ _ _
    | exact ab_pL_mono fun _ _ => hK _ _ _
    | exact ab_pR_mono fun _ _ => hK _ _ _
    | exact ab_pII_mono fun _ _ _ => hK _ _ _
    | exact ab_pLL_mono fun _ _ _ => hK _ _ _
    | exact ab_pIL_mono fun _ _ _ => hK _ _ _
    | exact ab_pIR_mono fun _ _ _ => hK _ _ _
    | exact ab_pII_mono fun _ _ _ => ab_and_mono (hK _ _ _)
    | exact ab_pLL_mono fun _ _ _ => ab_and_mono (hK _ _ _)
    | exact ab_pI_mono fun _ _ => ab_br_mono (hJ _ _ _ _) (hK _ _ _)
    | exact ab_pII_mono fun _ _ _ => ab_br_mono (hJ _ _ _ _) (hK _ _ _)
    | exact hJ _ _ _ _
    | exact ab_pI_mono fun _ _ => hJ _ _ _ _
    | exact ab_call_mono hC (hK _)
    | (split
       · exact ab_copy_mono hC (hK _)
       · split
         · exact ab_mm_mono hC (hK _)
         · split
           · exact ab_mm_mono hC (hK _)
           · exact ab_call_mono hC (hK _))
    | (split
       · exact hK _ _ _
       · exact hK _ _ _
       · exact id)
    | (split
       · exact ab_and_mono (hR _ _)
       · exact id)
    | (split
       · exact hR _ _
       · exact id)
    | (refine ab_pR_mono fun _ _ => ?_
       split
       · exact hK _ _ _
       · exact hK _ _ _
       · exact id)
    | (refine ab_pR_mono fun _ _ => ?_
       split
       · exact hK _ _ _
       · exact id)
    | (refine ab_pIR_mono fun _ _ _ => ?_
       split
       · exact ab_and_mono (hK _ _ _)
       · exact id)
    | (refine ab_pIR_mono fun _ _ _ => ?_
       split
       · split
         · exact ab_and_mono (hK _ _ _)
         · exact id
       · exact id)
    | (split
       · exact ab_and_mono (ab_and_mono (hK _ _ _))
       · exact id)
    | (split
       · split
         · exact ab_and_mono (hK _ _ _)
         · exact id
       · exact id)
    | (split
       · split
         · exact ab_and_mono (ab_and_mono (hK _ _ _))
         · exact id
       · exact id)
theorem ab_wb_mono (hC : ∀ m as w (q q' : Option ab_V → ab_W → Prop), (∀ r w', q r w' → q' r w') → C m as w q → C' m as w q') (hJ : ∀ b L S w, J b L S w → J' b L S w) (hR : ∀ r w, Rt r w → Rt' r w) {nx : Nat} : ∀ (is : List ab_I) (L S : List ab_V) (w : ab_W), ab_wb Ls C J Rt nx is L S w → ab_wb Ls C' J' Rt' nx is L S w := by
  intro is
  induction is with
  | nil => exact fun L S w => hJ _ _ _ _
  | cons i is ih => exact fun L S w => ab_wp_mono hC hJ hR ih
theorem ab_at_mono {bl : List (List ab_I)} {b : Nat} {L S : List ab_V} {w : ab_W} (hC : ∀ m as w (q q' : Option ab_V → ab_W → Prop), (∀ r w', q r w' → q' r w') → C m as w q → C' m as w q') (hJ : ∀ b L S w, J b L S w → J' b L S w) (hR : ∀ r w, Rt r w → Rt' r w) : ab_at Ls C J Rt bl b L S w → ab_at Ls C' J' Rt' bl b L S w := by
  unfold ab_at
  split
  · exact ab_wb_mono hC hJ hR _ _ _ _
  · exact id
end AbMono
/-- the calls are read so that more may be asked of what comes out -/
def ab_Cm (C : Nat → List ab_V → ab_W → (Option ab_V → ab_W → Prop) → Prop) : Prop := ∀ m as w (q q' : Option ab_V → ab_W → Prop), (∀ r w', q r w' → q' r w') → C m as w q → C m as w q'
/-- from block b on the body comes to its end, and there Rt holds -/
def Ev (Ls : Nat) (C : Nat → List ab_V → ab_W → (Option ab_V → ab_W → Prop) → Prop) (Rt : Option ab_V → ab_W → Prop) (bl : List (List ab_I)) (b : Nat) (L S : List ab_V) (w : ab_W) : Prop :=
  ∀ P : Nat → List ab_V → List ab_V → ab_W → Prop, (∀ b L S w, ab_at Ls C P Rt bl b L S w → P b L S w) → P b L S w
section EvLaws
variable {Ls : Nat} {C C' : Nat → List ab_V → ab_W → (Option ab_V → ab_W → Prop) → Prop} {Rt Rt' : Option ab_V → ab_W → Prop} {bl : List (List ab_I)}
theorem Ev.fold (hC : ab_Cm C) {b : Nat} {L S : List ab_V} {w : ab_W} (h : ab_at Ls C (Ev Ls C Rt bl) Rt bl b L S w) : Ev Ls C Rt bl b L S w :=
  fun P hP => hP _ _ _ _ (ab_at_mono hC (fun _ _ _ _ q => q P hP) (fun _ _ q => q) h)
theorem Ev.unfold (hC : ab_Cm C) {b : Nat} {L S : List ab_V} {w : ab_W} (h : Ev Ls C Rt bl b L S w) : ab_at Ls C (Ev Ls C Rt bl) Rt bl b L S w :=
  h (fun b L S w => ab_at Ls C (Ev Ls C Rt bl) Rt bl b L S w) (fun _ _ _ _ q => ab_at_mono hC (fun _ _ _ _ q => Ev.fold hC q) (fun _ _ q => q) q)
theorem Ev.mono (hC : ∀ m as w (q q' : Option ab_V → ab_W → Prop), (∀ r w', q r w' → q' r w') → C m as w q → C' m as w q') (hR : ∀ r w, Rt r w → Rt' r w) {b : Nat} {L S : List ab_V} {w : ab_W} (h : Ev Ls C Rt bl b L S w) : Ev Ls C' Rt' bl b L S w :=
  fun P hP => h P (fun _ _ _ _ q => hP _ _ _ _ (ab_at_mono hC (fun _ _ _ _ z => z) hR q))
end EvLaws
