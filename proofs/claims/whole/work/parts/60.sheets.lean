/-! the sheets, as calls change them; the class's -/
def Sh.met (S : Sh) (f : Int) : Sh := ⟨S.th, S.fo, S.sz, S.it, f⟩
def Sh.itm (S : Sh) (s : Nat) (g : Nat → Int) : Sh := ⟨S.th, S.fo, S.sz, fun u => if u = s then g else S.it u, S.fi⟩
def Sh.beg (S : Sh) (s : Nat) (f : Int) (n : Nat) : Sh := ⟨fun u => if u = s then true else S.th u, fun u => if u = s then f else S.fo u, fun u => if u = s then n else S.sz u, fun u => if u = s then (fun _ => 0) else S.it u, S.fi⟩
def Sh.los (S : Sh) (s : Nat) : Sh := ⟨fun u => if u = s then false else S.th u, S.fo, S.sz, S.it, S.fi⟩
/-- what an item of a form holds -/
def kv (f v : Int) : Int := if f = 0 then i_2b v else if f = 1 then i_2s v else v
def p_lack (S : Sh) (s : Nat) (f i : Int) : Int := if S.th s = false then 1 else if S.fo s ≠ f then 3 else if 0 ≤ i ∧ i < S.sz s then 0 else 2
def p_sheet (S : Sh) (a f n : Int) : Int × Sh := if (0 ≤ a ∧ a < 4) ∧ (0 ≤ f ∧ f < 3) ∧ n ≤ 60 then (if n < 0 then (-15, S.met 5) else (n, S.beg a.toNat f n.toNat)) else (-2, S)
def p_lose (S : Sh) (a : Int) : Int × Sh := if 0 ≤ a ∧ a < 4 then (if S.th a.toNat = true then (S.sz a.toNat, S.los a.toNat) else (-11, S.met 1)) else (-2, S)
def p_put (S : Sh) (a f i v : Int) : Int × Sh := if (0 ≤ a ∧ a < 4) ∧ (0 ≤ f ∧ f < 3) then (if p_lack S a.toNat f i = 0 then (1, S.itm a.toNat (x_up (S.it a.toNat) i.toNat (kv (S.fo a.toNat) v))) else (-10 - p_lack S a.toNat f i, S.met (p_lack S a.toNat f i))) else (-2, S)
def p_get (S : Sh) (a f i : Int) : Int × Sh := if (0 ≤ a ∧ a < 4) ∧ (0 ≤ f ∧ f < 3) then (if p_lack S a.toNat f i = 0 then (S.it a.toNat i.toNat, S) else (-2147483648, S.met (p_lack S a.toNat f i))) else (-2147483648, S)
def cpi (S : Sh) (s i t j n : Nat) : Nat → Int := fun k => if j ≤ k ∧ k < j + n then S.it s (i + (k - j)) else S.it t k
def p_copy (S : Sh) (a i b j n : Int) : Int × Sh := if (0 ≤ a ∧ a < 4) ∧ (0 ≤ b ∧ b < 4) then (if S.th a.toNat = true ∧ S.th b.toNat = true then (if S.fo a.toNat = S.fo b.toNat then (if 0 ≤ i ∧ 0 ≤ j ∧ 0 ≤ n ∧ i + n ≤ S.sz a.toNat ∧ j + n ≤ S.sz b.toNat then (1, S.itm b.toNat (cpi S a.toNat i.toNat b.toNat j.toNat n.toNat)) else (-12, S.met 2)) else (-14, S.met 4)) else (-11, S.met 1)) else (-2, S)
def wri (f : Int) (F it : Nat → Int) (n : Nat) : Nat → Int := fun k => if k < n then kv f (F k) else it k
def wn (S : Sh) (s : Nat) : Nat := if 48 < S.sz s then 48 else S.sz s
noncomputable def p_write (D : Td) (S : Sh) (b a : Int) : Int × Sh := if (0 ≤ b ∧ b < D.T) ∧ (0 ≤ a ∧ a < 4) then (if S.th a.toNat = true then (wn S a.toNat, S.itm a.toNat (wri (S.fo a.toNat) ((D.cf 255).F b.toNat) (S.it a.toNat) (wn S a.toNat))) else (-11, S.met 1)) else (-2, S)
abbrev ev_ok (a b c : Int) : Prop := (0 ≤ a ∧ a ≤ 2) ∧ (0 ≤ b ∧ b < 48) ∧ (0 ≤ c ∧ c < 4)
noncomputable def rd (it : Nat → Int) (z : Nat) : Nat → Nat → Td → Td
  | 0, _, D => D
  | f + 1, n, D => if 3 * n + 2 < z ∧ D.k < 8 ∧ ev_ok (it (3 * n)) (it (3 * n + 1)) (it (3 * n + 2)) then rd it z f (n + 1) (D.ev (it (3 * n)) (it (3 * n + 1)) (it (3 * n + 2))) else D
noncomputable def p_read (D : Td) (S : Sh) (a : Int) : Int × Td × Sh := if 0 ≤ a ∧ a < 4 then (if S.th a.toNat = true then (((rd (S.it a.toNat) (S.sz a.toNat) 20 0 D).k : Int) - D.k, rd (S.it a.toNat) (S.sz a.toNat) 20 0 D, S) else (-11, D, S.met 1)) else (-2, D, S)
theorem Sh.ok_beg {S : Sh} (h : S.ok) {s : Nat} {f : Int} {n : Nat} (hf : 0 ≤ f ∧ f < 3) (hn : n ≤ 60) : (S.beg s f n).ok := fun u hu => by
  show (0 ≤ (if u = s then f else S.fo u) ∧ (if u = s then f else S.fo u) ≤ 2) ∧ (if u = s then n else S.sz u) ≤ 60
  have := h u hu
  split <;> omega
section Sheets60
variable {Ls d : Nat} {w : ab_W} {q : Option ab_V → ab_W → Prop} {D : Td} {S : Sh}
theorem s4 {s : Nat} (hs : s < 4) : s = 0 ∨ s = 1 ∨ s = 2 ∨ s = 3 := by omega
section St60
variable {C : Nat → List ab_V → ab_W → (Option ab_V → ab_W → Prop) → Prop} {J : Nat → List ab_V → List ab_V → ab_W → Prop} {Rt : Option ab_V → ab_W → Prop} {nx : Nat} {is : List ab_I} {ex : List Nat} {z : Int} {L S : List ab_V} {s : Nat}
theorem x30s (hs : s < 4) : ab_wb Ls C J Rt nx ((.aaload, ex, z) :: is) L (vI (s : Int) :: vR 30 :: S) w = ab_wb Ls C J Rt nx is L (vR (31 + 2 * s) :: S) w := by
  rcases s4 hs with rfl | rfl | rfl | rfl <;> exact propext ⟨fun h => h.2, fun h => ⟨by decide, h⟩⟩
theorem gs_0 (hs : s < 4) {i : Nat} : ab_wb Ls C J Rt nx ((.getfield i, [1, 0], z) :: is) L (vR (31 + 2 * s) :: S) w = ab_wb Ls C J Rt nx is L (vR (32 + 2 * s) :: S) w := by
  rcases s4 hs with rfl | rfl | rfl | rfl <;> exact propext Iff.rfl
theorem gs_1 (hs : s < 4) {i : Nat} : ab_wb Ls C J Rt nx ((.getfield i, [1, 1], z) :: is) L (vR (31 + 2 * s) :: S) w = ab_wb Ls C J Rt nx is L (vI (w (31 + 2 * s) 1) :: S) w := by
  rcases s4 hs with rfl | rfl | rfl | rfl <;> exact propext Iff.rfl
theorem gs_2 (hs : s < 4) {i : Nat} : ab_wb Ls C J Rt nx ((.getfield i, [1, 2], z) :: is) L (vR (31 + 2 * s) :: S) w = ab_wb Ls C J Rt nx is L (vI (w (31 + 2 * s) 2) :: S) w := by
  rcases s4 hs with rfl | rfl | rfl | rfl <;> exact propext Iff.rfl
theorem gs_3 (hs : s < 4) {i : Nat} : ab_wb Ls C J Rt nx ((.getfield i, [1, 3], z) :: is) L (vR (31 + 2 * s) :: S) w = ab_wb Ls C J Rt nx is L (vI (w (31 + 2 * s) 3) :: S) w := by
  rcases s4 hs with rfl | rfl | rfl | rfl <;> exact propext Iff.rfl
theorem ps_1 (hs : s < 4) {i : Nat} {x : Int} : ab_wb Ls C J Rt nx ((.putfield i, [1, 1, 1], z) :: is) L (vI x :: vR (31 + 2 * s) :: S) w = ((x = 0 ∨ x = 1) ∧ ab_wb Ls C J Rt nx is L S (ab_up w (31 + 2 * s) 1 x)) := by
  rcases s4 hs with rfl | rfl | rfl | rfl
  · exact p_31_1
  · exact p_33_1
  · exact p_35_1
  · exact p_37_1
theorem ps_2 (hs : s < 4) {i : Nat} {x : Int} : ab_wb Ls C J Rt nx ((.putfield i, [1, 2, 0], z) :: is) L (vI x :: vR (31 + 2 * s) :: S) w = ab_wb Ls C J Rt nx is L S (ab_up w (31 + 2 * s) 2 x) := by
  rcases s4 hs with rfl | rfl | rfl | rfl
  · exact p_31_2
  · exact p_33_2
  · exact p_35_2
  · exact p_37_2
theorem ps_3 (hs : s < 4) {i : Nat} {x : Int} : ab_wb Ls C J Rt nx ((.putfield i, [1, 3, 0], z) :: is) L (vI x :: vR (31 + 2 * s) :: S) w = ab_wb Ls C J Rt nx is L S (ab_up w (31 + 2 * s) 3 x) := by
  rcases s4 hs with rfl | rfl | rfl | rfl
  · exact p_31_3
  · exact p_33_3
  · exact p_35_3
  · exact p_37_3
theorem xs_ (hs : s < 4) {i : Int} : ab_wb Ls C J Rt nx ((.iaload, ex, z) :: is) L (vI i :: vR (32 + 2 * s) :: S) w = ((0 ≤ i ∧ i < 60) ∧ ab_wb Ls C J Rt nx is L (vI (w (32 + 2 * s) i) :: S) w) := by
  rcases s4 hs with rfl | rfl | rfl | rfl <;> exact propext Iff.rfl
theorem ys_ (hs : s < 4) {i x : Int} : ab_wb Ls C J Rt nx ((.iastore, ex, z) :: is) L (vI x :: vI i :: vR (32 + 2 * s) :: S) w = ((0 ≤ i ∧ i < 60) ∧ ab_wb Ls C J Rt nx is L S (ab_up w (32 + 2 * s) i x)) := by
  rcases s4 hs with rfl | rfl | rfl | rfl <;> exact propext Iff.rfl
theorem is_ (hs : s < 4) : (ab_ci (31 + 2 * s) = some 1) = True := by
  rcases s4 hs with rfl | rfl | rfl | rfl <;> exact propext ⟨fun _ => trivial, fun _ => rfl⟩
theorem as_ (hs : s < 4) : ab_arr 0 (32 + 2 * s) = some 60 := by
  rcases s4 hs with rfl | rfl | rfl | rfl <;> rfl
end St60
theorem c_told.up12 (h : c_told w D) {f : Int} : c_told (ab_up w 0 12 f) D := by
  obtain ⟨⟨a1, a2, a3⟩, b, c0, e, g, k⟩ := h
  refine ⟨⟨?_, a2, ?_⟩, ?_, ⟨?_, ?_⟩, ⟨?_, ?_⟩, g.kept (fun p h1 h2 => ab_up_ne (by omega)), k⟩
  · rw [ab_up_p (by decide)]; exact a1
  · rw [ab_up_ne (by decide)]; exact a3
  · rw [ab_up_nj (by decide)]; exact b
  · rw [ab_up_p (by decide)]; exact c0.1
  · rw [ab_up_ne (by decide), ab_up_ne (by decide), ab_up_ne (by decide)]; exact c0.2
  · rw [ab_up_p (by decide)]; exact e.1
  · rw [ab_up_ne (by decide), ab_up_ne (by decide), ab_up_ne (by decide)]; exact e.2
theorem c_inv.met (h : c_inv w D S) {f : Int} : c_inv (ab_up w 0 12 f) D (S.met f) := by
  obtain ⟨ht, hc, hs, hS, hd⟩ := h
  refine ⟨ht.up12, ?_, ⟨ab_up_at, fun s hs4 => ?_⟩, hS, hd.kept (ab_up_ne (by decide))⟩
  · unfold c_cache c_cv at hc ⊢
    rw [ab_up_nj (by decide), ab_up_ne (by decide)]; exact hc
  · rw [ab_up_ne (by omega), ab_up_ne (by omega)]; exact hs.2 s hs4
theorem c_fra.met {f : Int} : c_fra w (ab_up w 0 12 f) := fun p hp => ab_up_ne (by omega)
/-- one sheet anew -/
theorem c_inv.sht {v : ab_W} {S' : Sh} {s : Nat} (h : c_inv w D S) (hs : s < 4) (hv : ∀ p, p ≠ 31 + 2 * s → p ≠ 32 + 2 * s → v p = w p) (h1 : v (31 + 2 * s) 1 = (if S'.th s then 0 else 1) ∧ v (31 + 2 * s) 2 = S'.fo s ∧ v (31 + 2 * s) 3 = S'.sz s ∧ ∀ i : Nat, i < 60 → v (32 + 2 * s) i = S'.it s i) (h2 : ∀ u, u ≠ s → S'.th u = S.th u ∧ S'.fo u = S.fo u ∧ S'.sz u = S.sz u ∧ S'.it u = S.it u) (h3 : S'.fi = S.fi) (hok : S'.ok) : c_inv v D S' := by
  obtain ⟨ht, hc, hsh, hS, hd⟩ := h
  refine ⟨ht.oth (fun p hp => hv p (by omega) (by omega)), ?_, ⟨?_, fun u hu => ?_⟩, hok, hd.kept (hv 100 (by omega) (by omega))⟩
  · unfold c_cache c_cv at hc ⊢
    rw [hv 0 (by omega) (by omega), hv 27 (by omega) (by omega)]; exact hc
  · rw [h3, hv 0 (by omega) (by omega)]; exact hsh.1
  · by_cases hus : u = s
    · subst hus; exact h1
    · obtain ⟨e1, e2, e3, e4⟩ := h2 u hus
      rw [e1, e2, e3, e4, hv _ (by omega) (by omega), hv (32 + 2 * u) (by omega) (by omega)]
      exact hsh.2 u hu
theorem c_fra.sht {v : ab_W} {s : Nat} (hs : s < 4) (hv : ∀ p, p ≠ 31 + 2 * s → p ≠ 32 + 2 * s → v p = w p) : c_fra w v := fun p hp => hv p (by omega) (by omega)
theorem itm_u {s : Nat} {g : Nat → Int} : ∀ u, u ≠ s → (S.itm s g).th u = S.th u ∧ (S.itm s g).fo u = S.fo u ∧ (S.itm s g).sz u = S.sz u ∧ (S.itm s g).it u = S.it u := fun u hu => ⟨rfl, rfl, rfl, if_neg hu⟩
theorem itm_s {s : Nat} {g : Nat → Int} : (S.itm s g).it s = g := if_pos rfl
theorem c_inv.itm {v : ab_W} {s : Nat} {g : Nat → Int} (h : c_inv w D S) (hs : s < 4) (hv : ∀ p, p ≠ 32 + 2 * s → v p = w p) (hg : ∀ i : Nat, i < 60 → v (32 + 2 * s) i = g i) : c_inv v D (S.itm s g) := by
  have h2 := h.2.2.1.2 s hs
  refine h.sht hs (fun p _ h2 => hv p h2) ⟨?_, ?_, ?_, ?_⟩ itm_u rfl h.2.2.2.1
  · rw [hv _ (by omega)]; exact h2.1
  · rw [hv _ (by omega)]; exact h2.2.1
  · rw [hv _ (by omega)]; exact h2.2.2.1
  · rw [itm_s]; exact hg
theorem q_begin {s : Nat} (hs : s < 4) {f n : Int} {Q' : Option ab_V → ab_W → Prop} (h : Q' none (ab_fl (ab_up (ab_up (ab_up w (31 + 2 * s) 1 0) (31 + 2 * s) 2 f) (31 + 2 * s) 3 n) (32 + 2 * s) 0 ((60 : Nat) : Int) 0)) : Sm Ls (d + 2) 23 [vR (31 + 2 * s), vI f, vI n] w Q' := by
  rw [en_23]
  simp only [↓e_aload0, ↓e_iconst, ↓p_31_1, ↓p_33_1, ↓p_35_1, ↓p_37_1, ↓e_iload1, ↓p_31_2, ↓p_33_2, ↓p_35_2, ↓p_37_2, ↓e_iload2, ↓p_31_3, ↓p_33_3, ↓p_35_3, ↓p_37_3, ↓g_31_0, ↓g_33_0, ↓g_35_0, ↓g_37_0, e_rpn, e_rps, e_few0, e_few1, e_few2, e_few3, e_few4, ↓e_cs2, ↓e_vret, ↓e_nil, b_23_0, gs_0 hs, ps_1 hs, ps_2 hs, ps_3 hs, one0, eq_self, ne_eq, not_true_eq_false, not_false_eq_true, true_implies, false_implies, true_and, and_true, and_self]
  refine ⟨Or.inl trivial, q_fill1 (n := 60) (as_ hs) (by decide) ?_⟩
  simp only [↓e_aload0, ↓e_iconst, ↓p_31_1, ↓p_33_1, ↓p_35_1, ↓p_37_1, ↓e_iload1, ↓p_31_2, ↓p_33_2, ↓p_35_2, ↓p_37_2, ↓e_iload2, ↓p_31_3, ↓p_33_3, ↓p_35_3, ↓p_37_3, ↓g_31_0, ↓g_33_0, ↓g_35_0, ↓g_37_0, e_rpn, e_rps, e_few0, e_few1, e_few2, e_few3, e_few4, ↓e_cs2, ↓e_vret, ↓e_nil, b_23_0]
  exact h
theorem q_store {s : Nat} (hs : s < 4) {i v : Int} (hi : 0 ≤ i ∧ i < 60) {Q' : Option ab_V → ab_W → Prop} (h : Q' none (ab_up w (32 + 2 * s) i (kv (w (31 + 2 * s) 2) v))) : Sm Ls (d + 1) 24 [vR (31 + 2 * s), vI i, vI v] w Q' := by
  unfold kv at h
  rw [en_24]
  simp only [↓e_aload0, ↓g_31_2, ↓g_33_2, ↓g_35_2, ↓g_37_2, ↓e_if_ne, ↓g_31_0, ↓g_33_0, ↓g_35_0, ↓g_37_0, ↓e_iload1, ↓e_iload2, ↓e_i2b, ↓e_goto, ↓e_iconst, ↓e_cmp_ne, ↓e_i2s, ↓e_vret, ↓y_32, ↓y_34, ↓y_36, ↓y_38, ↓e_nil, b_24_0, b_24_1, b_24_2, b_24_3, ↓ev_24_1, ↓ev_24_2, ↓ev_24_3, gs_0 hs, gs_2 hs, ys_ hs, hi, one0, eq_self, ne_eq, not_true_eq_false, not_false_eq_true, true_implies, false_implies, true_and, and_true, and_self]
  refine ⟨fun g => ⟨fun g2 => ?_, fun g2 => ?_⟩, fun g => ?_⟩
  · rw [if_neg g, if_neg g2] at h; exact h
  · rw [if_neg g, if_pos (Classical.not_not.mp g2)] at h; exact h
  · rw [if_pos (Classical.not_not.mp g)] at h; exact h
theorem q_hasItems {s : Nat} (hs : s < 4) {z : Nat} (hz : w (31 + 2 * s) 3 = z) (hz6 : z ≤ 60) {i n : Int} {Q' : Option ab_V → ab_W → Prop} (h : ab_yn (0 ≤ i ∧ 0 ≤ n ∧ i + n ≤ z) Q' w) : Sm Ls (d + 1) 25 [vR (31 + 2 * s), vI i, vI n] w Q' := by
  have hy : (0 ≤ i ∧ 0 ≤ n ∧ i + n ≤ z) → Q' (some (vI 1)) w := h.1
  have hn : ¬ (0 ≤ i ∧ 0 ≤ n ∧ i + n ≤ z) → Q' (some (vI 0)) w := h.2
  rw [en_25]
  simp only [↓e_iload1, ↓e_if_lt, ↓e_iload2, ↓e_aload0, ↓g_31_3, ↓g_33_3, ↓g_35_3, ↓g_37_3, ↓e_cmp_gt, ↓e_isub, ↓e_iconst, ↓e_goto, ↓e_zret, ↓e_nil, b_25_0, b_25_1, b_25_2, ↓ev_25_1, ↓ev_25_2, gs_3 hs, hz, one0, eq_self, ne_eq, not_true_eq_false, not_false_eq_true, true_implies, false_implies, true_and, and_true, and_self]
  refine ⟨fun g1 => ⟨Or.inl trivial, hn (by omega)⟩, fun g1 => ⟨fun g2 => ⟨Or.inl trivial, hn (by omega)⟩, fun g2 => ⟨fun g3 => ⟨Or.inl trivial, hn (by omega)⟩, fun g3 => ?_⟩⟩⟩
  have w1 : iW ((z : Int) - i) = (z : Int) - i := iW_id (by omega) (by omega)
  rw [w1]
  clear w1
  exact ⟨fun g4 => ⟨Or.inl trivial, hn (by omega)⟩, fun g4 => ⟨Or.inr trivial, hy (by omega)⟩⟩
theorem q_findingAt {s : Nat} (hs : s < 4) (hi : c_inv w D S) {f i : Int} {Q' : Option ab_V → ab_W → Prop} (h : Q' (some (vI (p_lack S s f i))) w) : Sm Ls (d + 1) 82 [vR (31 + 2 * s), vI f, vI i] w Q' := by
  obtain ⟨e1, e2, e3, _⟩ := hi.2.2.1.2 s hs
  unfold p_lack at h
  rw [en_82]
  cases hb : S.th s
  · rw [hb] at e1 h
    have e1 : w (31 + 2 * s) 1 = 1 := e1
    rw [if_pos rfl] at h
    simp only [↓e_aload0, ↓g_31_1, ↓g_33_1, ↓g_35_1, ↓g_37_1, ↓e_if_eq, ↓e_iconst, ↓e_iret, ↓g_31_2, ↓g_33_2, ↓g_35_2, ↓g_37_2, ↓e_iload1, ↓e_cmp_eq, ↓e_iload2, ↓e_if_lt, ↓g_31_3, ↓g_33_3, ↓g_35_3, ↓g_37_3, ↓e_cmp_lt, ↓e_goto, ↓e_nil, b_82_0, b_82_1, b_82_2, b_82_3, b_82_4, b_82_5, gs_1 hs, e1, one0, eq_self, ne_eq, not_true_eq_false, not_false_eq_true, true_implies, false_implies, true_and, and_true, and_self]
    exact h
  · rw [hb] at e1 h
    have e1 : w (31 + 2 * s) 1 = 0 := e1
    rw [if_neg (by decide)] at h
    simp only [↓e_aload0, ↓g_31_1, ↓g_33_1, ↓g_35_1, ↓g_37_1, ↓e_if_eq, ↓e_iconst, ↓e_iret, ↓g_31_2, ↓g_33_2, ↓g_35_2, ↓g_37_2, ↓e_iload1, ↓e_cmp_eq, ↓e_iload2, ↓e_if_lt, ↓g_31_3, ↓g_33_3, ↓g_35_3, ↓g_37_3, ↓e_cmp_lt, ↓e_goto, ↓e_nil, b_82_0, b_82_1, b_82_2, b_82_3, b_82_4, b_82_5, ↓ev_82_1, ↓ev_82_2, ↓ev_82_3, ↓ev_82_4, ↓ev_82_5, gs_1 hs, gs_2 hs, gs_3 hs, e1, e2, e3, one0, eq_self, ne_eq, not_true_eq_false, not_false_eq_true, true_implies, false_implies, true_and, and_true, and_self]
    refine ⟨fun g => ⟨fun g2 => ?_, fun g2 => ⟨fun g3 => ?_, fun g3 => ?_⟩⟩, fun g => ?_⟩
    · rw [if_neg (by omega), if_neg (by omega)] at h; exact h
    · rw [if_neg (by omega), if_pos (by omega)] at h; exact h
    · rw [if_neg (by omega), if_neg (by omega)] at h; exact h
    · rw [if_pos (by omega)] at h; exact h
theorem q_sheetC (hi : c_inv w D S) {a f n : Int} (h : ∀ v, c_fra w v → c_inv v D (p_sheet S a f n).2 → q (some (vI (p_sheet S a f n).1)) v) : Sm Ls (d + 3) 78 [vR 0, vI a, vI f, vI n] w q := by
  unfold p_sheet at h
  have w15 : iW (-10 - 5) = -15 := by decide
  rw [en_78]
  simp only [↓e_iload1, e_rpn, e_rps, e_few0, e_few1, e_few2, e_few3, e_few4, ↓e_cs1, ↓e_if_eq, ↓e_iload2, ↓e_iload3, ↓e_bipush, ↓e_cmp_le, ↓e_iret, ↓e_if_ge, ↓e_aload0, ↓e_iconst, ↓e_cv2, i_0, ↓g_0_10, ↓e_cv3, i_31, i_33, i_35, i_37, ↓e_nil, b_78_0, b_78_1, b_78_2, b_78_3, ↓ev_78_1, ↓ev_78_2, q_isSheet, q_isForm, q_found, w15, ab_yn, one0, eq_self, ne_eq, not_true_eq_false, not_false_eq_true, true_implies, false_implies, true_and, and_true, and_self]
  refine ⟨fun g1 => ⟨fun g2 => ⟨fun g3 => ⟨fun g4 => ?_, fun g4 => ?_⟩, fun g3 => ?_⟩, fun g2 => ?_⟩, fun g1 => ?_⟩
  · obtain ⟨s, rfl⟩ : ∃ s : Nat, a = s := ⟨a.toNat, by omega⟩
    obtain ⟨z, rfl⟩ : ∃ z : Nat, n = z := ⟨n.toNat, by omega⟩
    have hs : s < 4 := by omega
    rw [if_pos ⟨g1, g2, g3⟩, if_neg (by omega), Int.toNat_natCast, Int.toNat_natCast] at h
    rw [ev_78_3]
    simp only [↓e_iload1, e_rpn, e_rps, e_few0, e_few1, e_few2, e_few3, e_few4, ↓e_cs1, ↓e_if_eq, ↓e_iload2, ↓e_iload3, ↓e_bipush, ↓e_cmp_le, ↓e_iret, ↓e_if_ge, ↓e_aload0, ↓e_iconst, ↓e_cv2, i_0, ↓g_0_10, ↓e_cv3, i_31, i_33, i_35, i_37, ↓e_nil, b_78_0, b_78_1, b_78_2, b_78_3, x30s hs, is_ hs, one0, eq_self, ne_eq, not_true_eq_false, not_false_eq_true, true_implies, false_implies, true_and, and_true, and_self]
    refine q_begin hs ?_
    simp only [↓e_iload1, e_rpn, e_rps, e_few0, e_few1, e_few2, e_few3, e_few4, ↓e_cs1, ↓e_if_eq, ↓e_iload2, ↓e_iload3, ↓e_bipush, ↓e_cmp_le, ↓e_iret, ↓e_if_ge, ↓e_aload0, ↓e_iconst, ↓e_cv2, i_0, ↓g_0_10, ↓e_cv3, i_31, i_33, i_35, i_37, ↓e_nil, b_78_0, b_78_1, b_78_2, b_78_3]
    have hv : ∀ p, p ≠ 31 + 2 * s → p ≠ 32 + 2 * s → ab_fl (ab_up (ab_up (ab_up w (31 + 2 * s) 1 0) (31 + 2 * s) 2 f) (31 + 2 * s) 3 z) (32 + 2 * s) 0 ((60 : Nat) : Int) 0 p = w p := fun p h1 h2 => by rw [ab_fl_pp h2, ab_up_ne h1, ab_up_ne h1, ab_up_ne h1]
    refine h _ (c_fra.sht hs hv) (hi.sht hs hv ⟨?_, ?_, ?_, fun i hi => ?_⟩ (fun u hu => ⟨if_neg hu, if_neg hu, if_neg hu, if_neg hu⟩) rfl (Sh.ok_beg hi.2.2.2.1 g2 (by omega)))
    · rw [ab_fl_p (by omega), ab_up_nj (by decide), ab_up_nj (by decide), ab_up_at]
      show (0 : Int) = if (if s = s then true else S.th s) = true then 0 else 1
      rw [if_pos rfl, if_pos rfl]
    · rw [ab_fl_p (by omega), ab_up_nj (by decide), ab_up_at]
      show f = if s = s then f else _
      rw [if_pos rfl]
    · rw [ab_fl_p (by omega), ab_up_at]
      show (z : Int) = ((if s = s then z else S.sz s : Nat) : Int)
      rw [if_pos rfl]
    · rw [ab_fl_in (by omega)]
      show (0 : Int) = (if s = s then (fun _ => 0) else S.it s) i
      rw [if_pos rfl]
  · rw [if_pos ⟨g1, g2, g3⟩, if_pos (by omega)] at h; exact h _ c_fra.met hi.met
  · rw [if_neg (by omega)] at h; exact h w (c_fra.refl w) hi
  · rw [if_neg (by omega)] at h; exact h w (c_fra.refl w) hi
  · rw [if_neg (by omega)] at h; exact h w (c_fra.refl w) hi
theorem q_loseC (hi : c_inv w D S) {a : Int} (h : ∀ v, c_fra w v → c_inv v D (p_lose S a).2 → q (some (vI (p_lose S a).1)) v) : Sm Ls (d + 3) 79 [vR 0, vI a] w q := by
  unfold p_lose at h
  have w15 : iW (-10 - 1) = -11 := by decide
  rw [en_79]
  simp only [↓e_iload1, e_rpn, e_rps, e_few0, e_few1, e_few2, e_few3, e_few4, ↓e_cs1, ↓e_if_ne, ↓e_bipush, ↓e_iret, ↓e_aload0, ↓g_0_10, ↓g_31_1, ↓g_33_1, ↓g_35_1, ↓g_37_1, ↓e_if_eq, ↓e_iconst, ↓e_cv2, i_0, ↓p_31_1, ↓p_33_1, ↓p_35_1, ↓p_37_1, ↓g_31_3, ↓g_33_3, ↓g_35_3, ↓g_37_3, ↓e_nil, b_79_0, b_79_1, b_79_2, q_isSheet, ab_yn, one0, eq_self, ne_eq, not_true_eq_false, not_false_eq_true, true_implies, false_implies, true_and, and_true, and_self]
  refine ⟨fun g1 => ?_, fun g1 => ?_⟩
  · obtain ⟨s, rfl⟩ : ∃ s : Nat, a = s := ⟨a.toNat, by omega⟩
    have hs : s < 4 := by omega
    obtain ⟨e1, e2, e3, e4⟩ := hi.2.2.1.2 s hs
    rw [if_pos g1, Int.toNat_natCast] at h
    rw [ev_79_1]
    cases hb : S.th s
    · rw [hb] at e1 h
      have e1 : w (31 + 2 * s) 1 = 1 := e1
      rw [if_neg (by decide)] at h
      simp only [↓e_iload1, e_rpn, e_rps, e_few0, e_few1, e_few2, e_few3, e_few4, ↓e_cs1, ↓e_if_ne, ↓e_bipush, ↓e_iret, ↓e_aload0, ↓g_0_10, ↓g_31_1, ↓g_33_1, ↓g_35_1, ↓g_37_1, ↓e_if_eq, ↓e_iconst, ↓e_cv2, i_0, ↓p_31_1, ↓p_33_1, ↓p_35_1, ↓p_37_1, ↓g_31_3, ↓g_33_3, ↓g_35_3, ↓g_37_3, ↓e_nil, b_79_0, b_79_1, b_79_2, x30s hs, gs_1 hs, e1, q_found, w15, one0, eq_self, ne_eq, not_true_eq_false, not_false_eq_true, true_implies, false_implies, true_and, and_true, and_self]
      exact h _ c_fra.met hi.met
    · rw [hb] at e1 h
      have e1 : w (31 + 2 * s) 1 = 0 := e1
      rw [if_pos rfl] at h
      have f1 : ab_up w (31 + 2 * s) 1 1 (31 + 2 * s) 3 = S.sz s := by rw [ab_up_nj (by decide)]; exact e3
      simp only [↓e_iload1, e_rpn, e_rps, e_few0, e_few1, e_few2, e_few3, e_few4, ↓e_cs1, ↓e_if_ne, ↓e_bipush, ↓e_iret, ↓e_aload0, ↓g_0_10, ↓g_31_1, ↓g_33_1, ↓g_35_1, ↓g_37_1, ↓e_if_eq, ↓e_iconst, ↓e_cv2, i_0, ↓p_31_1, ↓p_33_1, ↓p_35_1, ↓p_37_1, ↓g_31_3, ↓g_33_3, ↓g_35_3, ↓g_37_3, ↓e_nil, b_79_0, b_79_1, b_79_2, ↓ev_79_2, x30s hs, gs_1 hs, gs_3 hs, ps_1 hs, e1, f1, one0, eq_self, ne_eq, not_true_eq_false, not_false_eq_true, true_implies, false_implies, true_and, and_true, and_self]
      have hv : ∀ p, p ≠ 31 + 2 * s → p ≠ 32 + 2 * s → ab_up w (31 + 2 * s) 1 1 p = w p := fun p h1 h2 => ab_up_ne h1
      refine ⟨Or.inr trivial, h _ (c_fra.sht hs hv) (hi.sht hs hv ⟨?_, ?_, ?_, fun i hi => ?_⟩ (fun u hu => ⟨if_neg hu, rfl, rfl, rfl⟩) rfl hi.2.2.2.1)⟩
      · rw [ab_up_at]
        show (1 : Int) = if (if s = s then false else S.th s) = true then 0 else 1
        rw [if_pos rfl, if_neg (by decide)]
      · rw [ab_up_nj (by decide)]; exact e2
      · rw [ab_up_nj (by decide)]; exact e3
      · rw [ab_up_p (by omega)]; exact e4 i hi
  · rw [if_neg g1] at h; exact h w (c_fra.refl w) hi
theorem p_lack_in {s : Nat} {f i : Int} : 0 ≤ p_lack S s f i ∧ p_lack S s f i ≤ 3 := by
  unfold p_lack
  split
  · omega
  · split
    · omega
    · split <;> omega
theorem p_lack_0 {s : Nat} {f i : Int} (h : p_lack S s f i = 0) : 0 ≤ i ∧ i < S.sz s := by
  unfold p_lack at h
  by_cases h1 : S.th s = false
  · rw [if_pos h1] at h; omega
  · by_cases h2 : S.fo s ≠ f
    · rw [if_neg h1, if_pos h2] at h; omega
    · by_cases h3 : 0 ≤ i ∧ i < S.sz s
      · exact h3
      · rw [if_neg h1, if_neg h2, if_neg h3] at h; omega
theorem q_putC (hi : c_inv w D S) {a f i x : Int} (h : ∀ v, c_fra w v → c_inv v D (p_put S a f i x).2 → q (some (vI (p_put S a f i x).1)) v) : Sm Ls (d + 3) 80 [vR 0, vI a, vI f, vI i, vI x] w q := by
  unfold p_put at h
  rw [en_80]
  simp only [↓e_iload1, e_rpn, e_rps, e_few0, e_few1, e_few2, e_few3, e_few4, ↓e_cs1, ↓e_if_eq, ↓e_iload2, ↓e_if_ne, ↓e_bipush, ↓e_iret, ↓e_aload0, ↓g_0_10, ↓e_iload3, ↓e_cs3, ↓e_istore5, e_klI, e_klR, e_klX, e_klL, ↓e_iload5, ↓e_cv2, i_0, ↓e_iload4, ↓e_cv3, i_31, i_33, i_35, i_37, ↓e_iconst, ↓e_nil, b_80_0, b_80_1, b_80_2, b_80_3, ↓ev_80_1, q_isSheet, q_isForm, ab_yn, one0, eq_self, ne_eq, not_true_eq_false, not_false_eq_true, true_implies, false_implies, true_and, and_true, and_self]
  refine ⟨fun g1 => ⟨fun g2 => ?_, fun g2 => ?_⟩, fun g1 => ?_⟩
  · obtain ⟨s, rfl⟩ : ∃ s : Nat, a = s := ⟨a.toNat, by omega⟩
    have hs : s < 4 := by omega
    obtain ⟨e1, e2, e3, e4⟩ := hi.2.2.1.2 s hs
    have hz := (hi.2.2.2.1 s hs).2
    rw [if_pos ⟨g1, g2⟩, Int.toNat_natCast] at h
    rw [ev_80_2]
    simp only [↓e_iload1, e_rpn, e_rps, e_few0, e_few1, e_few2, e_few3, e_few4, ↓e_cs1, ↓e_if_eq, ↓e_iload2, ↓e_if_ne, ↓e_bipush, ↓e_iret, ↓e_aload0, ↓g_0_10, ↓e_iload3, ↓e_cs3, ↓e_istore5, e_klI, e_klR, e_klX, e_klL, ↓e_iload5, ↓e_cv2, i_0, ↓e_iload4, ↓e_cv3, i_31, i_33, i_35, i_37, ↓e_iconst, ↓e_nil, b_80_0, b_80_1, b_80_2, b_80_3, x30s hs, one0, eq_self, ne_eq, not_true_eq_false, not_false_eq_true, true_implies, false_implies, true_and, and_true, and_self]
    refine q_findingAt hs hi ?_
    have hl := p_lack_in (S := S) (s := s) (f := f) (i := i)
    by_cases hlz : p_lack S s f i = 0
    · rw [if_pos hlz] at h
      have hin := p_lack_0 hlz
      obtain ⟨j, rfl⟩ : ∃ j : Nat, i = j := ⟨i.toNat, by omega⟩
      rw [Int.toNat_natCast] at h
      simp only [↓e_iload1, e_rpn, e_rps, e_few0, e_few1, e_few2, e_few3, e_few4, ↓e_cs1, ↓e_if_eq, ↓e_iload2, ↓e_if_ne, ↓e_bipush, ↓e_iret, ↓e_aload0, ↓g_0_10, ↓e_iload3, ↓e_cs3, ↓e_istore5, e_klI, e_klR, e_klX, e_klL, ↓e_iload5, ↓e_cv2, i_0, ↓e_iload4, ↓e_cv3, i_31, i_33, i_35, i_37, ↓e_iconst, ↓e_nil, b_80_0, b_80_1, b_80_2, b_80_3, ↓ev_80_3, hlz, x30s hs, is_ hs, one0, eq_self, ne_eq, not_true_eq_false, not_false_eq_true, true_implies, false_implies, true_and, and_true, and_self]
      refine q_store hs (by omega) ?_
      simp only [↓e_iload1, e_rpn, e_rps, e_few0, e_few1, e_few2, e_few3, e_few4, ↓e_cs1, ↓e_if_eq, ↓e_iload2, ↓e_if_ne, ↓e_bipush, ↓e_iret, ↓e_aload0, ↓g_0_10, ↓e_iload3, ↓e_cs3, ↓e_istore5, e_klI, e_klR, e_klX, e_klL, ↓e_iload5, ↓e_cv2, i_0, ↓e_iload4, ↓e_cv3, i_31, i_33, i_35, i_37, ↓e_iconst, ↓e_nil, b_80_0, b_80_1, b_80_2, b_80_3, e2]
      have hv : ∀ p, p ≠ 32 + 2 * s → ab_up w (32 + 2 * s) j (kv (S.fo s) x) p = w p := fun p h1 => ab_up_ne h1
      refine h _ (c_fra.sht hs (fun p _ h2 => hv p h2)) (hi.itm hs hv (fun k hk => ?_))
      by_cases hkj : k = j
      · subst hkj; rw [ab_up_at, x_up_at]
      · rw [ab_up_nj (by omega), x_up_ne hkj]; exact e4 k hk
    · rw [if_neg hlz] at h
      have w1 : iW (-10 - p_lack S s f i) = -10 - p_lack S s f i := iW_id (by omega) (by omega)
      simp only [↓e_iload1, e_rpn, e_rps, e_few0, e_few1, e_few2, e_few3, e_few4, ↓e_cs1, ↓e_if_eq, ↓e_iload2, ↓e_if_ne, ↓e_bipush, ↓e_iret, ↓e_aload0, ↓g_0_10, ↓e_iload3, ↓e_cs3, ↓e_istore5, e_klI, e_klR, e_klX, e_klL, ↓e_iload5, ↓e_cv2, i_0, ↓e_iload4, ↓e_cv3, i_31, i_33, i_35, i_37, ↓e_iconst, ↓e_nil, b_80_0, b_80_1, b_80_2, b_80_3, hlz, q_found, w1, one0, eq_self, ne_eq, not_true_eq_false, not_false_eq_true, true_implies, false_implies, true_and, and_true, and_self]
      exact h _ c_fra.met hi.met
  · rw [if_neg (by omega)] at h; exact h w (c_fra.refl w) hi
  · rw [if_neg (by omega)] at h; exact h w (c_fra.refl w) hi
theorem q_getC (hi : c_inv w D S) {a f i : Int} (h : ∀ v, c_fra w v → c_inv v D (p_get S a f i).2 → q (some (vI (p_get S a f i).1)) v) : Sm Ls (d + 3) 81 [vR 0, vI a, vI f, vI i] w q := by
  unfold p_get at h
  rw [en_81]
  simp only [↓e_iload1, e_rpn, e_rps, e_few0, e_few1, e_few2, e_few3, e_few4, ↓e_cs1, ↓e_if_eq, ↓e_iload2, ↓e_if_ne, ↓e_ldc_w, ↓e_iret, ↓e_aload0, ↓g_0_10, ↓e_iload3, ↓e_cs3, ↓e_istore4, e_klI, e_klR, e_klX, e_klL, ↓e_iload4, ↓p_0_12, ↓g_31_0, ↓g_33_0, ↓g_35_0, ↓g_37_0, ↓x_32, ↓x_34, ↓x_36, ↓x_38, ↓e_nil, b_81_0, b_81_1, b_81_2, b_81_3, ↓ev_81_1, q_isSheet, q_isForm, ab_yn, one0, eq_self, ne_eq, not_true_eq_false, not_false_eq_true, true_implies, false_implies, true_and, and_true, and_self]
  refine ⟨fun g1 => ⟨fun g2 => ?_, fun g2 => ?_⟩, fun g1 => ?_⟩
  · obtain ⟨s, rfl⟩ : ∃ s : Nat, a = s := ⟨a.toNat, by omega⟩
    have hs : s < 4 := by omega
    obtain ⟨e1, e2, e3, e4⟩ := hi.2.2.1.2 s hs
    have hz := (hi.2.2.2.1 s hs).2
    rw [if_pos ⟨g1, g2⟩, Int.toNat_natCast] at h
    rw [ev_81_2]
    simp only [↓e_iload1, e_rpn, e_rps, e_few0, e_few1, e_few2, e_few3, e_few4, ↓e_cs1, ↓e_if_eq, ↓e_iload2, ↓e_if_ne, ↓e_ldc_w, ↓e_iret, ↓e_aload0, ↓g_0_10, ↓e_iload3, ↓e_cs3, ↓e_istore4, e_klI, e_klR, e_klX, e_klL, ↓e_iload4, ↓p_0_12, ↓g_31_0, ↓g_33_0, ↓g_35_0, ↓g_37_0, ↓x_32, ↓x_34, ↓x_36, ↓x_38, ↓e_nil, b_81_0, b_81_1, b_81_2, b_81_3, x30s hs, one0, eq_self, ne_eq, not_true_eq_false, not_false_eq_true, true_implies, false_implies, true_and, and_true, and_self]
    refine q_findingAt hs hi ?_
    by_cases hlz : p_lack S s f i = 0
    · rw [if_pos hlz] at h
      have hin := p_lack_0 hlz
      obtain ⟨j, rfl⟩ : ∃ j : Nat, i = j := ⟨i.toNat, by omega⟩
      rw [Int.toNat_natCast] at h
      have hj : 0 ≤ (j : Int) ∧ (j : Int) < 60 := by omega
      simp only [↓e_iload1, e_rpn, e_rps, e_few0, e_few1, e_few2, e_few3, e_few4, ↓e_cs1, ↓e_if_eq, ↓e_iload2, ↓e_if_ne, ↓e_ldc_w, ↓e_iret, ↓e_aload0, ↓g_0_10, ↓e_iload3, ↓e_cs3, ↓e_istore4, e_klI, e_klR, e_klX, e_klL, ↓e_iload4, ↓p_0_12, ↓g_31_0, ↓g_33_0, ↓g_35_0, ↓g_37_0, ↓x_32, ↓x_34, ↓x_36, ↓x_38, ↓e_nil, b_81_0, b_81_1, b_81_2, b_81_3, ↓ev_81_3, hlz, x30s hs, gs_0 hs, xs_ hs, hj, e4 j (by omega), one0, eq_self, ne_eq, not_true_eq_false, not_false_eq_true, true_implies, false_implies, true_and, and_true, and_self]
      exact h w (c_fra.refl w) hi
    · rw [if_neg hlz] at h
      simp only [↓e_iload1, e_rpn, e_rps, e_few0, e_few1, e_few2, e_few3, e_few4, ↓e_cs1, ↓e_if_eq, ↓e_iload2, ↓e_if_ne, ↓e_ldc_w, ↓e_iret, ↓e_aload0, ↓g_0_10, ↓e_iload3, ↓e_cs3, ↓e_istore4, e_klI, e_klR, e_klX, e_klL, ↓e_iload4, ↓p_0_12, ↓g_31_0, ↓g_33_0, ↓g_35_0, ↓g_37_0, ↓x_32, ↓x_34, ↓x_36, ↓x_38, ↓e_nil, b_81_0, b_81_1, b_81_2, b_81_3, hlz, one0, eq_self, ne_eq, not_true_eq_false, not_false_eq_true, true_implies, false_implies, true_and, and_true, and_self]
      exact h _ c_fra.met hi.met
  · rw [if_neg (by omega)] at h; exact h w (c_fra.refl w) hi
  · rw [if_neg (by omega)] at h; exact h w (c_fra.refl w) hi
end Sheets60
