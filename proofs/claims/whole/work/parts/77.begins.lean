/-! the world behind both constructors is the abstract machine's (printed by wip/whole/emit6.py) -/
def bg_ad (q0 : Nat) (f0 : Nat → Nat) (q1 : Nat) (f1 : Nat → Nat) (t b : Nat) : Nat → Nat := fun k => if k = 100 then t else if k = 101 then b else if k = 0 then q0 else if k < 39 then f0 k else if k = 39 then q1 else f1 (k - 39)
section World77
variable {cA : Nat → ClassId} {q0 q1 t b : Nat} {f0 f1 : Nat → Nat} {f : Int → Int}
theorem bg_sh30 : (fun i => (([31, 33, 35, 37] : List Nat)[i]?).map (bg_ad q0 f0 q1 f1 t b)) = va_up (va_up (va_up (va_up (fun _ => none) (Int32.ofInt 0).toNatClampNeg (some (f0 31))) (Int32.ofInt 1).toNatClampNeg (some (f0 33))) (Int32.ofInt 2).toNatClampNeg (some (f0 35))) (Int32.ofInt 3).toNatClampNeg (some (f0 37)) := by
  have e0 : (Int32.ofInt 0).toNatClampNeg = 0 := by decide +kernel
  have e1 : (Int32.ofInt 1).toNatClampNeg = 1 := by decide +kernel
  have e2 : (Int32.ofInt 2).toNatClampNeg = 2 := by decide +kernel
  have e3 : (Int32.ofInt 3).toNatClampNeg = 3 := by decide +kernel
  rw [e0, e1, e2, e3]
  funext i
  unfold va_up
  match i with
  | 0 => rfl
  | 1 => rfl
  | 2 => rfl
  | 3 => rfl
  | i + 4 =>
    rw [if_neg (by omega), if_neg (by omega), if_neg (by omega), if_neg (by omega), List.getElem?_eq_none (by simp)]
    rfl
def mi {α β : Type} (g : Nat → α → β) : Nat → List α → List β
  | _, [] => []
  | n, a :: l => g n a :: mi g (n + 1) l
theorem mi_n {α β : Type} (g : Nat → α → β) : ∀ (l : List α) (n : Nat), l.mapIdx (fun i => g (i + n)) = mi g n l
  | [], _ => rfl
  | a :: l, n => by
    rw [List.mapIdx_cons]
    show g (0 + n) a :: _ = g n a :: mi g (n + 1) l
    rw [← mi_n g l (n + 1), Nat.zero_add]
    congr 2
    funext i
    rw [show i + 1 + n = i + (n + 1) by omega]
theorem mi_eq {α β : Type} (g : Nat → α → β) (l : List α) : l.mapIdx g = mi g 0 l := mi_n g l 0
theorem ab_cell_obj {ad : Nat → Nat} {w : ab_W} {k ci : Nat} {fs : List (Option Nat)} : ab_cell ad cA w k (.inl (ci, fs)) = .inr (ci, mi (ab_fv ad w k) 0 fs) := by
  show Sum.inr (ci, List.mapIdx (ab_fv ad w k) fs) = _
  rw [mi_eq]
set_option maxRecDepth 100000 in
set_option maxHeartbeats 1000000 in
theorem bg_c0 : ∀ sh : ab_Sh, ab_shp[0]? = some sh → (LfX4 cA q0 f0 ++ LfX5 cA q1 f1)[0]? = some (bg_ad q0 f0 q1 f1 t b 0, ab_cell (bg_ad q0 f0 q1 f1 t b) cA (w_0 f) 0 sh) := fun sh hs => by
  cases hs
  rw [ab_cell_obj]
  rfl
set_option maxRecDepth 100000 in
set_option maxHeartbeats 1000000 in
theorem bg_c1 : ∀ sh : ab_Sh, ab_shp[1]? = some sh → (LfX4 cA q0 f0 ++ LfX5 cA q1 f1)[1]? = some (bg_ad q0 f0 q1 f1 t b 1, ab_cell (bg_ad q0 f0 q1 f1 t b) cA (w_0 f) 1 sh) := fun sh hs => by
  cases hs
  rw [ab_cell_obj]
  rfl
set_option maxRecDepth 100000 in
set_option maxHeartbeats 1000000 in
theorem bg_c2 : ∀ sh : ab_Sh, ab_shp[2]? = some sh → (LfX4 cA q0 f0 ++ LfX5 cA q1 f1)[2]? = some (bg_ad q0 f0 q1 f1 t b 2, ab_cell (bg_ad q0 f0 q1 f1 t b) cA (w_0 f) 2 sh) := fun sh hs => by
  cases hs
  rfl
set_option maxRecDepth 100000 in
set_option maxHeartbeats 1000000 in
theorem bg_c3 : ∀ sh : ab_Sh, ab_shp[3]? = some sh → (LfX4 cA q0 f0 ++ LfX5 cA q1 f1)[3]? = some (bg_ad q0 f0 q1 f1 t b 3, ab_cell (bg_ad q0 f0 q1 f1 t b) cA (w_0 f) 3 sh) := fun sh hs => by
  cases hs
  rw [ab_cell_obj]
  rfl
set_option maxRecDepth 100000 in
set_option maxHeartbeats 1000000 in
theorem bg_c4 : ∀ sh : ab_Sh, ab_shp[4]? = some sh → (LfX4 cA q0 f0 ++ LfX5 cA q1 f1)[4]? = some (bg_ad q0 f0 q1 f1 t b 4, ab_cell (bg_ad q0 f0 q1 f1 t b) cA (w_0 f) 4 sh) := fun sh hs => by
  cases hs
  rfl
set_option maxRecDepth 100000 in
set_option maxHeartbeats 1000000 in
theorem bg_c5 : ∀ sh : ab_Sh, ab_shp[5]? = some sh → (LfX4 cA q0 f0 ++ LfX5 cA q1 f1)[5]? = some (bg_ad q0 f0 q1 f1 t b 5, ab_cell (bg_ad q0 f0 q1 f1 t b) cA (w_0 f) 5 sh) := fun sh hs => by
  cases hs
  rfl
set_option maxRecDepth 100000 in
set_option maxHeartbeats 1000000 in
theorem bg_c6 : ∀ sh : ab_Sh, ab_shp[6]? = some sh → (LfX4 cA q0 f0 ++ LfX5 cA q1 f1)[6]? = some (bg_ad q0 f0 q1 f1 t b 6, ab_cell (bg_ad q0 f0 q1 f1 t b) cA (w_0 f) 6 sh) := fun sh hs => by
  cases hs
  rfl
set_option maxRecDepth 100000 in
set_option maxHeartbeats 1000000 in
theorem bg_c7 : ∀ sh : ab_Sh, ab_shp[7]? = some sh → (LfX4 cA q0 f0 ++ LfX5 cA q1 f1)[7]? = some (bg_ad q0 f0 q1 f1 t b 7, ab_cell (bg_ad q0 f0 q1 f1 t b) cA (w_0 f) 7 sh) := fun sh hs => by
  cases hs
  rw [ab_cell_obj]
  rfl
set_option maxRecDepth 100000 in
set_option maxHeartbeats 1000000 in
theorem bg_c8 : ∀ sh : ab_Sh, ab_shp[8]? = some sh → (LfX4 cA q0 f0 ++ LfX5 cA q1 f1)[8]? = some (bg_ad q0 f0 q1 f1 t b 8, ab_cell (bg_ad q0 f0 q1 f1 t b) cA (w_0 f) 8 sh) := fun sh hs => by
  cases hs
  rfl
set_option maxRecDepth 100000 in
set_option maxHeartbeats 1000000 in
theorem bg_c9 : ∀ sh : ab_Sh, ab_shp[9]? = some sh → (LfX4 cA q0 f0 ++ LfX5 cA q1 f1)[9]? = some (bg_ad q0 f0 q1 f1 t b 9, ab_cell (bg_ad q0 f0 q1 f1 t b) cA (w_0 f) 9 sh) := fun sh hs => by
  cases hs
  rfl
set_option maxRecDepth 100000 in
set_option maxHeartbeats 1000000 in
theorem bg_c10 : ∀ sh : ab_Sh, ab_shp[10]? = some sh → (LfX4 cA q0 f0 ++ LfX5 cA q1 f1)[10]? = some (bg_ad q0 f0 q1 f1 t b 10, ab_cell (bg_ad q0 f0 q1 f1 t b) cA (w_0 f) 10 sh) := fun sh hs => by
  cases hs
  rfl
set_option maxRecDepth 100000 in
set_option maxHeartbeats 1000000 in
theorem bg_c11 : ∀ sh : ab_Sh, ab_shp[11]? = some sh → (LfX4 cA q0 f0 ++ LfX5 cA q1 f1)[11]? = some (bg_ad q0 f0 q1 f1 t b 11, ab_cell (bg_ad q0 f0 q1 f1 t b) cA (w_0 f) 11 sh) := fun sh hs => by
  cases hs
  rw [ab_cell_obj]
  rfl
set_option maxRecDepth 100000 in
set_option maxHeartbeats 1000000 in
theorem bg_c12 : ∀ sh : ab_Sh, ab_shp[12]? = some sh → (LfX4 cA q0 f0 ++ LfX5 cA q1 f1)[12]? = some (bg_ad q0 f0 q1 f1 t b 12, ab_cell (bg_ad q0 f0 q1 f1 t b) cA (w_0 f) 12 sh) := fun sh hs => by
  cases hs
  rfl
set_option maxRecDepth 100000 in
set_option maxHeartbeats 1000000 in
theorem bg_c13 : ∀ sh : ab_Sh, ab_shp[13]? = some sh → (LfX4 cA q0 f0 ++ LfX5 cA q1 f1)[13]? = some (bg_ad q0 f0 q1 f1 t b 13, ab_cell (bg_ad q0 f0 q1 f1 t b) cA (w_0 f) 13 sh) := fun sh hs => by
  cases hs
  rfl
set_option maxRecDepth 100000 in
set_option maxHeartbeats 1000000 in
theorem bg_c14 : ∀ sh : ab_Sh, ab_shp[14]? = some sh → (LfX4 cA q0 f0 ++ LfX5 cA q1 f1)[14]? = some (bg_ad q0 f0 q1 f1 t b 14, ab_cell (bg_ad q0 f0 q1 f1 t b) cA (w_0 f) 14 sh) := fun sh hs => by
  cases hs
  rfl
set_option maxRecDepth 100000 in
set_option maxHeartbeats 1000000 in
theorem bg_c15 : ∀ sh : ab_Sh, ab_shp[15]? = some sh → (LfX4 cA q0 f0 ++ LfX5 cA q1 f1)[15]? = some (bg_ad q0 f0 q1 f1 t b 15, ab_cell (bg_ad q0 f0 q1 f1 t b) cA (w_0 f) 15 sh) := fun sh hs => by
  cases hs
  rw [ab_cell_obj]
  rfl
set_option maxRecDepth 100000 in
set_option maxHeartbeats 1000000 in
theorem bg_c16 : ∀ sh : ab_Sh, ab_shp[16]? = some sh → (LfX4 cA q0 f0 ++ LfX5 cA q1 f1)[16]? = some (bg_ad q0 f0 q1 f1 t b 16, ab_cell (bg_ad q0 f0 q1 f1 t b) cA (w_0 f) 16 sh) := fun sh hs => by
  cases hs
  rfl
set_option maxRecDepth 100000 in
set_option maxHeartbeats 1000000 in
theorem bg_c17 : ∀ sh : ab_Sh, ab_shp[17]? = some sh → (LfX4 cA q0 f0 ++ LfX5 cA q1 f1)[17]? = some (bg_ad q0 f0 q1 f1 t b 17, ab_cell (bg_ad q0 f0 q1 f1 t b) cA (w_0 f) 17 sh) := fun sh hs => by
  cases hs
  rfl
set_option maxRecDepth 100000 in
set_option maxHeartbeats 1000000 in
theorem bg_c18 : ∀ sh : ab_Sh, ab_shp[18]? = some sh → (LfX4 cA q0 f0 ++ LfX5 cA q1 f1)[18]? = some (bg_ad q0 f0 q1 f1 t b 18, ab_cell (bg_ad q0 f0 q1 f1 t b) cA (w_0 f) 18 sh) := fun sh hs => by
  cases hs
  rfl
set_option maxRecDepth 100000 in
set_option maxHeartbeats 1000000 in
theorem bg_c19 : ∀ sh : ab_Sh, ab_shp[19]? = some sh → (LfX4 cA q0 f0 ++ LfX5 cA q1 f1)[19]? = some (bg_ad q0 f0 q1 f1 t b 19, ab_cell (bg_ad q0 f0 q1 f1 t b) cA (w_0 f) 19 sh) := fun sh hs => by
  cases hs
  rfl
set_option maxRecDepth 100000 in
set_option maxHeartbeats 1000000 in
theorem bg_c20 : ∀ sh : ab_Sh, ab_shp[20]? = some sh → (LfX4 cA q0 f0 ++ LfX5 cA q1 f1)[20]? = some (bg_ad q0 f0 q1 f1 t b 20, ab_cell (bg_ad q0 f0 q1 f1 t b) cA (w_0 f) 20 sh) := fun sh hs => by
  cases hs
  rfl
set_option maxRecDepth 100000 in
set_option maxHeartbeats 1000000 in
theorem bg_c21 : ∀ sh : ab_Sh, ab_shp[21]? = some sh → (LfX4 cA q0 f0 ++ LfX5 cA q1 f1)[21]? = some (bg_ad q0 f0 q1 f1 t b 21, ab_cell (bg_ad q0 f0 q1 f1 t b) cA (w_0 f) 21 sh) := fun sh hs => by
  cases hs
  rw [ab_cell_obj]
  rfl
set_option maxRecDepth 100000 in
set_option maxHeartbeats 1000000 in
theorem bg_c22 : ∀ sh : ab_Sh, ab_shp[22]? = some sh → (LfX4 cA q0 f0 ++ LfX5 cA q1 f1)[22]? = some (bg_ad q0 f0 q1 f1 t b 22, ab_cell (bg_ad q0 f0 q1 f1 t b) cA (w_0 f) 22 sh) := fun sh hs => by
  cases hs
  rfl
set_option maxRecDepth 100000 in
set_option maxHeartbeats 1000000 in
theorem bg_c23 : ∀ sh : ab_Sh, ab_shp[23]? = some sh → (LfX4 cA q0 f0 ++ LfX5 cA q1 f1)[23]? = some (bg_ad q0 f0 q1 f1 t b 23, ab_cell (bg_ad q0 f0 q1 f1 t b) cA (w_0 f) 23 sh) := fun sh hs => by
  cases hs
  rfl
set_option maxRecDepth 100000 in
set_option maxHeartbeats 1000000 in
theorem bg_c24 : ∀ sh : ab_Sh, ab_shp[24]? = some sh → (LfX4 cA q0 f0 ++ LfX5 cA q1 f1)[24]? = some (bg_ad q0 f0 q1 f1 t b 24, ab_cell (bg_ad q0 f0 q1 f1 t b) cA (w_0 f) 24 sh) := fun sh hs => by
  cases hs
  rfl
set_option maxRecDepth 100000 in
set_option maxHeartbeats 1000000 in
theorem bg_c25 : ∀ sh : ab_Sh, ab_shp[25]? = some sh → (LfX4 cA q0 f0 ++ LfX5 cA q1 f1)[25]? = some (bg_ad q0 f0 q1 f1 t b 25, ab_cell (bg_ad q0 f0 q1 f1 t b) cA (w_0 f) 25 sh) := fun sh hs => by
  cases hs
  rfl
set_option maxRecDepth 100000 in
set_option maxHeartbeats 1000000 in
theorem bg_c26 : ∀ sh : ab_Sh, ab_shp[26]? = some sh → (LfX4 cA q0 f0 ++ LfX5 cA q1 f1)[26]? = some (bg_ad q0 f0 q1 f1 t b 26, ab_cell (bg_ad q0 f0 q1 f1 t b) cA (w_0 f) 26 sh) := fun sh hs => by
  cases hs
  rfl
set_option maxRecDepth 100000 in
set_option maxHeartbeats 1000000 in
theorem bg_c27 : ∀ sh : ab_Sh, ab_shp[27]? = some sh → (LfX4 cA q0 f0 ++ LfX5 cA q1 f1)[27]? = some (bg_ad q0 f0 q1 f1 t b 27, ab_cell (bg_ad q0 f0 q1 f1 t b) cA (w_0 f) 27 sh) := fun sh hs => by
  cases hs
  rfl
set_option maxRecDepth 100000 in
set_option maxHeartbeats 1000000 in
theorem bg_c28 : ∀ sh : ab_Sh, ab_shp[28]? = some sh → (LfX4 cA q0 f0 ++ LfX5 cA q1 f1)[28]? = some (bg_ad q0 f0 q1 f1 t b 28, ab_cell (bg_ad q0 f0 q1 f1 t b) cA (w_0 f) 28 sh) := fun sh hs => by
  cases hs
  rfl
set_option maxRecDepth 100000 in
set_option maxHeartbeats 1000000 in
theorem bg_c29 : ∀ sh : ab_Sh, ab_shp[29]? = some sh → (LfX4 cA q0 f0 ++ LfX5 cA q1 f1)[29]? = some (bg_ad q0 f0 q1 f1 t b 29, ab_cell (bg_ad q0 f0 q1 f1 t b) cA (w_0 f) 29 sh) := fun sh hs => by
  cases hs
  rfl
set_option maxRecDepth 100000 in
set_option maxHeartbeats 1000000 in
theorem bg_c30 : ∀ sh : ab_Sh, ab_shp[30]? = some sh → (LfX4 cA q0 f0 ++ LfX5 cA q1 f1)[30]? = some (bg_ad q0 f0 q1 f1 t b 30, ab_cell (bg_ad q0 f0 q1 f1 t b) cA (w_0 f) 30 sh) := fun sh hs => by
  cases hs
  show some (f0 30, Sum.inl (cA 3, 4, Sum.inr (Sum.inr (Sum.inr (Sum.inr (va_up (va_up (va_up (va_up (fun _ => none) (Int32.ofInt 0).toNatClampNeg (some (f0 31))) (Int32.ofInt 1).toNatClampNeg (some (f0 33))) (Int32.ofInt 2).toNatClampNeg (some (f0 35))) (Int32.ofInt 3).toNatClampNeg (some (f0 37)))))))) = some (f0 30, Sum.inl (cA 3, 4, Sum.inr (Sum.inr (Sum.inr (Sum.inr (fun i => (([31, 33, 35, 37] : List Nat)[i]?).map (bg_ad q0 f0 q1 f1 t b)))))))
  rw [bg_sh30]
set_option maxRecDepth 100000 in
set_option maxHeartbeats 1000000 in
theorem bg_c31 : ∀ sh : ab_Sh, ab_shp[31]? = some sh → (LfX4 cA q0 f0 ++ LfX5 cA q1 f1)[31]? = some (bg_ad q0 f0 q1 f1 t b 31, ab_cell (bg_ad q0 f0 q1 f1 t b) cA (w_0 f) 31 sh) := fun sh hs => by
  cases hs
  rw [ab_cell_obj]
  rfl
set_option maxRecDepth 100000 in
set_option maxHeartbeats 1000000 in
theorem bg_c32 : ∀ sh : ab_Sh, ab_shp[32]? = some sh → (LfX4 cA q0 f0 ++ LfX5 cA q1 f1)[32]? = some (bg_ad q0 f0 q1 f1 t b 32, ab_cell (bg_ad q0 f0 q1 f1 t b) cA (w_0 f) 32 sh) := fun sh hs => by
  cases hs
  rfl
set_option maxRecDepth 100000 in
set_option maxHeartbeats 1000000 in
theorem bg_c33 : ∀ sh : ab_Sh, ab_shp[33]? = some sh → (LfX4 cA q0 f0 ++ LfX5 cA q1 f1)[33]? = some (bg_ad q0 f0 q1 f1 t b 33, ab_cell (bg_ad q0 f0 q1 f1 t b) cA (w_0 f) 33 sh) := fun sh hs => by
  cases hs
  rw [ab_cell_obj]
  rfl
set_option maxRecDepth 100000 in
set_option maxHeartbeats 1000000 in
theorem bg_c34 : ∀ sh : ab_Sh, ab_shp[34]? = some sh → (LfX4 cA q0 f0 ++ LfX5 cA q1 f1)[34]? = some (bg_ad q0 f0 q1 f1 t b 34, ab_cell (bg_ad q0 f0 q1 f1 t b) cA (w_0 f) 34 sh) := fun sh hs => by
  cases hs
  rfl
set_option maxRecDepth 100000 in
set_option maxHeartbeats 1000000 in
theorem bg_c35 : ∀ sh : ab_Sh, ab_shp[35]? = some sh → (LfX4 cA q0 f0 ++ LfX5 cA q1 f1)[35]? = some (bg_ad q0 f0 q1 f1 t b 35, ab_cell (bg_ad q0 f0 q1 f1 t b) cA (w_0 f) 35 sh) := fun sh hs => by
  cases hs
  rw [ab_cell_obj]
  rfl
set_option maxRecDepth 100000 in
set_option maxHeartbeats 1000000 in
theorem bg_c36 : ∀ sh : ab_Sh, ab_shp[36]? = some sh → (LfX4 cA q0 f0 ++ LfX5 cA q1 f1)[36]? = some (bg_ad q0 f0 q1 f1 t b 36, ab_cell (bg_ad q0 f0 q1 f1 t b) cA (w_0 f) 36 sh) := fun sh hs => by
  cases hs
  rfl
set_option maxRecDepth 100000 in
set_option maxHeartbeats 1000000 in
theorem bg_c37 : ∀ sh : ab_Sh, ab_shp[37]? = some sh → (LfX4 cA q0 f0 ++ LfX5 cA q1 f1)[37]? = some (bg_ad q0 f0 q1 f1 t b 37, ab_cell (bg_ad q0 f0 q1 f1 t b) cA (w_0 f) 37 sh) := fun sh hs => by
  cases hs
  rw [ab_cell_obj]
  rfl
set_option maxRecDepth 100000 in
set_option maxHeartbeats 1000000 in
theorem bg_c38 : ∀ sh : ab_Sh, ab_shp[38]? = some sh → (LfX4 cA q0 f0 ++ LfX5 cA q1 f1)[38]? = some (bg_ad q0 f0 q1 f1 t b 38, ab_cell (bg_ad q0 f0 q1 f1 t b) cA (w_0 f) 38 sh) := fun sh hs => by
  cases hs
  rfl
set_option maxRecDepth 100000 in
set_option maxHeartbeats 1000000 in
theorem bg_c39 : ∀ sh : ab_Sh, ab_shp[39]? = some sh → (LfX4 cA q0 f0 ++ LfX5 cA q1 f1)[39]? = some (bg_ad q0 f0 q1 f1 t b 39, ab_cell (bg_ad q0 f0 q1 f1 t b) cA (w_0 f) 39 sh) := fun sh hs => by
  cases hs
  rw [ab_cell_obj]
  rfl
set_option maxRecDepth 100000 in
set_option maxHeartbeats 1000000 in
theorem bg_c40 : ∀ sh : ab_Sh, ab_shp[40]? = some sh → (LfX4 cA q0 f0 ++ LfX5 cA q1 f1)[40]? = some (bg_ad q0 f0 q1 f1 t b 40, ab_cell (bg_ad q0 f0 q1 f1 t b) cA (w_0 f) 40 sh) := fun sh hs => by
  cases hs
  rfl
set_option maxRecDepth 100000 in
set_option maxHeartbeats 1000000 in
theorem bg_c41 : ∀ sh : ab_Sh, ab_shp[41]? = some sh → (LfX4 cA q0 f0 ++ LfX5 cA q1 f1)[41]? = some (bg_ad q0 f0 q1 f1 t b 41, ab_cell (bg_ad q0 f0 q1 f1 t b) cA (w_0 f) 41 sh) := fun sh hs => by
  cases hs
  rfl
set_option maxRecDepth 100000 in
set_option maxHeartbeats 1000000 in
theorem bg_c42 : ∀ sh : ab_Sh, ab_shp[42]? = some sh → (LfX4 cA q0 f0 ++ LfX5 cA q1 f1)[42]? = some (bg_ad q0 f0 q1 f1 t b 42, ab_cell (bg_ad q0 f0 q1 f1 t b) cA (w_0 f) 42 sh) := fun sh hs => by
  cases hs
  rfl
set_option maxRecDepth 100000 in
set_option maxHeartbeats 1000000 in
theorem bg_c43 : ∀ sh : ab_Sh, ab_shp[43]? = some sh → (LfX4 cA q0 f0 ++ LfX5 cA q1 f1)[43]? = some (bg_ad q0 f0 q1 f1 t b 43, ab_cell (bg_ad q0 f0 q1 f1 t b) cA (w_0 f) 43 sh) := fun sh hs => by
  cases hs
  rfl
set_option maxRecDepth 100000 in
set_option maxHeartbeats 1000000 in
theorem bg_c44 : ∀ sh : ab_Sh, ab_shp[44]? = some sh → (LfX4 cA q0 f0 ++ LfX5 cA q1 f1)[44]? = some (bg_ad q0 f0 q1 f1 t b 44, ab_cell (bg_ad q0 f0 q1 f1 t b) cA (w_0 f) 44 sh) := fun sh hs => by
  cases hs
  rfl
set_option maxRecDepth 100000 in
set_option maxHeartbeats 1000000 in
theorem bg_c45 : ∀ sh : ab_Sh, ab_shp[45]? = some sh → (LfX4 cA q0 f0 ++ LfX5 cA q1 f1)[45]? = some (bg_ad q0 f0 q1 f1 t b 45, ab_cell (bg_ad q0 f0 q1 f1 t b) cA (w_0 f) 45 sh) := fun sh hs => by
  cases hs
  rfl
set_option maxRecDepth 100000 in
set_option maxHeartbeats 1000000 in
theorem bg_c46 : ∀ sh : ab_Sh, ab_shp[46]? = some sh → (LfX4 cA q0 f0 ++ LfX5 cA q1 f1)[46]? = some (bg_ad q0 f0 q1 f1 t b 46, ab_cell (bg_ad q0 f0 q1 f1 t b) cA (w_0 f) 46 sh) := fun sh hs => by
  cases hs
  rfl
set_option maxRecDepth 100000 in
set_option maxHeartbeats 1000000 in
theorem bg_c47 : ∀ sh : ab_Sh, ab_shp[47]? = some sh → (LfX4 cA q0 f0 ++ LfX5 cA q1 f1)[47]? = some (bg_ad q0 f0 q1 f1 t b 47, ab_cell (bg_ad q0 f0 q1 f1 t b) cA (w_0 f) 47 sh) := fun sh hs => by
  cases hs
  rfl
set_option maxRecDepth 100000 in
set_option maxHeartbeats 1000000 in
theorem bg_c48 : ∀ sh : ab_Sh, ab_shp[48]? = some sh → (LfX4 cA q0 f0 ++ LfX5 cA q1 f1)[48]? = some (bg_ad q0 f0 q1 f1 t b 48, ab_cell (bg_ad q0 f0 q1 f1 t b) cA (w_0 f) 48 sh) := fun sh hs => by
  cases hs
  rfl
set_option maxRecDepth 100000 in
set_option maxHeartbeats 1000000 in
theorem bg_c49 : ∀ sh : ab_Sh, ab_shp[49]? = some sh → (LfX4 cA q0 f0 ++ LfX5 cA q1 f1)[49]? = some (bg_ad q0 f0 q1 f1 t b 49, ab_cell (bg_ad q0 f0 q1 f1 t b) cA (w_0 f) 49 sh) := fun sh hs => by
  cases hs
  rfl
set_option maxRecDepth 100000 in
set_option maxHeartbeats 1000000 in
theorem bg_c50 : ∀ sh : ab_Sh, ab_shp[50]? = some sh → (LfX4 cA q0 f0 ++ LfX5 cA q1 f1)[50]? = some (bg_ad q0 f0 q1 f1 t b 50, ab_cell (bg_ad q0 f0 q1 f1 t b) cA (w_0 f) 50 sh) := fun sh hs => by
  cases hs
  rfl
set_option maxRecDepth 100000 in
set_option maxHeartbeats 1000000 in
theorem bg_c51 : ∀ sh : ab_Sh, ab_shp[51]? = some sh → (LfX4 cA q0 f0 ++ LfX5 cA q1 f1)[51]? = some (bg_ad q0 f0 q1 f1 t b 51, ab_cell (bg_ad q0 f0 q1 f1 t b) cA (w_0 f) 51 sh) := fun sh hs => by
  cases hs
  rfl
set_option maxRecDepth 100000 in
set_option maxHeartbeats 1000000 in
theorem bg_c52 : ∀ sh : ab_Sh, ab_shp[52]? = some sh → (LfX4 cA q0 f0 ++ LfX5 cA q1 f1)[52]? = some (bg_ad q0 f0 q1 f1 t b 52, ab_cell (bg_ad q0 f0 q1 f1 t b) cA (w_0 f) 52 sh) := fun sh hs => by
  cases hs
  rfl
set_option maxRecDepth 100000 in
set_option maxHeartbeats 1000000 in
theorem bg_c53 : ∀ sh : ab_Sh, ab_shp[53]? = some sh → (LfX4 cA q0 f0 ++ LfX5 cA q1 f1)[53]? = some (bg_ad q0 f0 q1 f1 t b 53, ab_cell (bg_ad q0 f0 q1 f1 t b) cA (w_0 f) 53 sh) := fun sh hs => by
  cases hs
  rfl
set_option maxRecDepth 100000 in
set_option maxHeartbeats 1000000 in
theorem bg_c54 : ∀ sh : ab_Sh, ab_shp[54]? = some sh → (LfX4 cA q0 f0 ++ LfX5 cA q1 f1)[54]? = some (bg_ad q0 f0 q1 f1 t b 54, ab_cell (bg_ad q0 f0 q1 f1 t b) cA (w_0 f) 54 sh) := fun sh hs => by
  cases hs
  rfl
set_option maxRecDepth 100000 in
set_option maxHeartbeats 1000000 in
theorem bg_c55 : ∀ sh : ab_Sh, ab_shp[55]? = some sh → (LfX4 cA q0 f0 ++ LfX5 cA q1 f1)[55]? = some (bg_ad q0 f0 q1 f1 t b 55, ab_cell (bg_ad q0 f0 q1 f1 t b) cA (w_0 f) 55 sh) := fun sh hs => by
  cases hs
  rfl
set_option maxRecDepth 100000 in
set_option maxHeartbeats 1000000 in
theorem bg_c56 : ∀ sh : ab_Sh, ab_shp[56]? = some sh → (LfX4 cA q0 f0 ++ LfX5 cA q1 f1)[56]? = some (bg_ad q0 f0 q1 f1 t b 56, ab_cell (bg_ad q0 f0 q1 f1 t b) cA (w_0 f) 56 sh) := fun sh hs => by
  cases hs
  rfl
set_option maxRecDepth 100000 in
set_option maxHeartbeats 1000000 in
theorem bg_c57 : ∀ sh : ab_Sh, ab_shp[57]? = some sh → (LfX4 cA q0 f0 ++ LfX5 cA q1 f1)[57]? = some (bg_ad q0 f0 q1 f1 t b 57, ab_cell (bg_ad q0 f0 q1 f1 t b) cA (w_0 f) 57 sh) := fun sh hs => by
  cases hs
  rfl
set_option maxRecDepth 100000 in
set_option maxHeartbeats 1000000 in
theorem bg_c58 : ∀ sh : ab_Sh, ab_shp[58]? = some sh → (LfX4 cA q0 f0 ++ LfX5 cA q1 f1)[58]? = some (bg_ad q0 f0 q1 f1 t b 58, ab_cell (bg_ad q0 f0 q1 f1 t b) cA (w_0 f) 58 sh) := fun sh hs => by
  cases hs
  rfl
set_option maxRecDepth 100000 in
set_option maxHeartbeats 1000000 in
theorem bg_c59 : ∀ sh : ab_Sh, ab_shp[59]? = some sh → (LfX4 cA q0 f0 ++ LfX5 cA q1 f1)[59]? = some (bg_ad q0 f0 q1 f1 t b 59, ab_cell (bg_ad q0 f0 q1 f1 t b) cA (w_0 f) 59 sh) := fun sh hs => by
  cases hs
  rfl
set_option maxRecDepth 100000 in
set_option maxHeartbeats 1000000 in
theorem bg_c60 : ∀ sh : ab_Sh, ab_shp[60]? = some sh → (LfX4 cA q0 f0 ++ LfX5 cA q1 f1)[60]? = some (bg_ad q0 f0 q1 f1 t b 60, ab_cell (bg_ad q0 f0 q1 f1 t b) cA (w_0 f) 60 sh) := fun sh hs => by
  cases hs
  rfl
set_option maxRecDepth 100000 in
set_option maxHeartbeats 1000000 in
theorem bg_c61 : ∀ sh : ab_Sh, ab_shp[61]? = some sh → (LfX4 cA q0 f0 ++ LfX5 cA q1 f1)[61]? = some (bg_ad q0 f0 q1 f1 t b 61, ab_cell (bg_ad q0 f0 q1 f1 t b) cA (w_0 f) 61 sh) := fun sh hs => by
  cases hs
  rfl
set_option maxRecDepth 100000 in
set_option maxHeartbeats 1000000 in
theorem bg_c62 : ∀ sh : ab_Sh, ab_shp[62]? = some sh → (LfX4 cA q0 f0 ++ LfX5 cA q1 f1)[62]? = some (bg_ad q0 f0 q1 f1 t b 62, ab_cell (bg_ad q0 f0 q1 f1 t b) cA (w_0 f) 62 sh) := fun sh hs => by
  cases hs
  rfl
set_option maxRecDepth 100000 in
set_option maxHeartbeats 1000000 in
theorem bg_c63 : ∀ sh : ab_Sh, ab_shp[63]? = some sh → (LfX4 cA q0 f0 ++ LfX5 cA q1 f1)[63]? = some (bg_ad q0 f0 q1 f1 t b 63, ab_cell (bg_ad q0 f0 q1 f1 t b) cA (w_0 f) 63 sh) := fun sh hs => by
  cases hs
  rfl
set_option maxRecDepth 100000 in
set_option maxHeartbeats 1000000 in
theorem bg_c64 : ∀ sh : ab_Sh, ab_shp[64]? = some sh → (LfX4 cA q0 f0 ++ LfX5 cA q1 f1)[64]? = some (bg_ad q0 f0 q1 f1 t b 64, ab_cell (bg_ad q0 f0 q1 f1 t b) cA (w_0 f) 64 sh) := fun sh hs => by
  cases hs
  rfl
set_option maxRecDepth 100000 in
set_option maxHeartbeats 1000000 in
theorem bg_c65 : ∀ sh : ab_Sh, ab_shp[65]? = some sh → (LfX4 cA q0 f0 ++ LfX5 cA q1 f1)[65]? = some (bg_ad q0 f0 q1 f1 t b 65, ab_cell (bg_ad q0 f0 q1 f1 t b) cA (w_0 f) 65 sh) := fun sh hs => by
  cases hs
  rfl
set_option maxRecDepth 100000 in
set_option maxHeartbeats 1000000 in
theorem bg_c66 : ∀ sh : ab_Sh, ab_shp[66]? = some sh → (LfX4 cA q0 f0 ++ LfX5 cA q1 f1)[66]? = some (bg_ad q0 f0 q1 f1 t b 66, ab_cell (bg_ad q0 f0 q1 f1 t b) cA (w_0 f) 66 sh) := fun sh hs => by
  cases hs
  rfl
set_option maxRecDepth 100000 in
set_option maxHeartbeats 1000000 in
theorem bg_c67 : ∀ sh : ab_Sh, ab_shp[67]? = some sh → (LfX4 cA q0 f0 ++ LfX5 cA q1 f1)[67]? = some (bg_ad q0 f0 q1 f1 t b 67, ab_cell (bg_ad q0 f0 q1 f1 t b) cA (w_0 f) 67 sh) := fun sh hs => by
  cases hs
  rfl
set_option maxRecDepth 100000 in
set_option maxHeartbeats 1000000 in
theorem bg_c68 : ∀ sh : ab_Sh, ab_shp[68]? = some sh → (LfX4 cA q0 f0 ++ LfX5 cA q1 f1)[68]? = some (bg_ad q0 f0 q1 f1 t b 68, ab_cell (bg_ad q0 f0 q1 f1 t b) cA (w_0 f) 68 sh) := fun sh hs => by
  cases hs
  rfl
theorem bg_cell : ∀ (k : Nat) (sh : ab_Sh), ab_shp[k]? = some sh → (LfX4 cA q0 f0 ++ LfX5 cA q1 f1)[k]? = some (bg_ad q0 f0 q1 f1 t b k, ab_cell (bg_ad q0 f0 q1 f1 t b) cA (w_0 f) k sh) := by
  intro k sh hs
  match k, hs with
  | 0, hs => exact bg_c0 sh hs
  | 1, hs => exact bg_c1 sh hs
  | 2, hs => exact bg_c2 sh hs
  | 3, hs => exact bg_c3 sh hs
  | 4, hs => exact bg_c4 sh hs
  | 5, hs => exact bg_c5 sh hs
  | 6, hs => exact bg_c6 sh hs
  | 7, hs => exact bg_c7 sh hs
  | 8, hs => exact bg_c8 sh hs
  | 9, hs => exact bg_c9 sh hs
  | 10, hs => exact bg_c10 sh hs
  | 11, hs => exact bg_c11 sh hs
  | 12, hs => exact bg_c12 sh hs
  | 13, hs => exact bg_c13 sh hs
  | 14, hs => exact bg_c14 sh hs
  | 15, hs => exact bg_c15 sh hs
  | 16, hs => exact bg_c16 sh hs
  | 17, hs => exact bg_c17 sh hs
  | 18, hs => exact bg_c18 sh hs
  | 19, hs => exact bg_c19 sh hs
  | 20, hs => exact bg_c20 sh hs
  | 21, hs => exact bg_c21 sh hs
  | 22, hs => exact bg_c22 sh hs
  | 23, hs => exact bg_c23 sh hs
  | 24, hs => exact bg_c24 sh hs
  | 25, hs => exact bg_c25 sh hs
  | 26, hs => exact bg_c26 sh hs
  | 27, hs => exact bg_c27 sh hs
  | 28, hs => exact bg_c28 sh hs
  | 29, hs => exact bg_c29 sh hs
  | 30, hs => exact bg_c30 sh hs
  | 31, hs => exact bg_c31 sh hs
  | 32, hs => exact bg_c32 sh hs
  | 33, hs => exact bg_c33 sh hs
  | 34, hs => exact bg_c34 sh hs
  | 35, hs => exact bg_c35 sh hs
  | 36, hs => exact bg_c36 sh hs
  | 37, hs => exact bg_c37 sh hs
  | 38, hs => exact bg_c38 sh hs
  | 39, hs => exact bg_c39 sh hs
  | 40, hs => exact bg_c40 sh hs
  | 41, hs => exact bg_c41 sh hs
  | 42, hs => exact bg_c42 sh hs
  | 43, hs => exact bg_c43 sh hs
  | 44, hs => exact bg_c44 sh hs
  | 45, hs => exact bg_c45 sh hs
  | 46, hs => exact bg_c46 sh hs
  | 47, hs => exact bg_c47 sh hs
  | 48, hs => exact bg_c48 sh hs
  | 49, hs => exact bg_c49 sh hs
  | 50, hs => exact bg_c50 sh hs
  | 51, hs => exact bg_c51 sh hs
  | 52, hs => exact bg_c52 sh hs
  | 53, hs => exact bg_c53 sh hs
  | 54, hs => exact bg_c54 sh hs
  | 55, hs => exact bg_c55 sh hs
  | 56, hs => exact bg_c56 sh hs
  | 57, hs => exact bg_c57 sh hs
  | 58, hs => exact bg_c58 sh hs
  | 59, hs => exact bg_c59 sh hs
  | 60, hs => exact bg_c60 sh hs
  | 61, hs => exact bg_c61 sh hs
  | 62, hs => exact bg_c62 sh hs
  | 63, hs => exact bg_c63 sh hs
  | 64, hs => exact bg_c64 sh hs
  | 65, hs => exact bg_c65 sh hs
  | 66, hs => exact bg_c66 sh hs
  | 67, hs => exact bg_c67 sh hs
  | 68, hs => exact bg_c68 sh hs
  | k + 69, hs => exact absurd (ab_shp_69 hs) (by omega)
theorem bg_shp {k : Nat} (hk : k < 69) : ∃ sh, ab_shp[k]? = some sh := ⟨ab_shp[k], List.getElem?_eq_getElem hk⟩
end World77
