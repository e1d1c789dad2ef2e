/-! the whole state: what has been told, the sheets; and how calls change it -/
/-- the sheets: which are there, their forms, sizes, items; the latest finding -/
abbrev Sh : Type := (Nat → Bool) × (Nat → Int) × (Nat → Nat) × (Nat → Nat → Int) × Int
def Sh.th (S : Sh) : Nat → Bool := S.1
def Sh.fo (S : Sh) : Nat → Int := S.2.1
def Sh.sz (S : Sh) : Nat → Nat := S.2.2.1
def Sh.it (S : Sh) : Nat → Nat → Int := S.2.2.2.1
def Sh.fi (S : Sh) : Int := S.2.2.2.2
def Sh.ok (S : Sh) : Prop := ∀ s, s < 4 → (0 ≤ S.fo s ∧ S.fo s ≤ 2) ∧ S.sz s ≤ 60
def c_sh (w : ab_W) (S : Sh) : Prop := w 0 12 = S.fi ∧ ∀ s : Nat, s < 4 → w (31 + 2 * s) 1 = (if S.th s then 0 else 1) ∧ w (31 + 2 * s) 2 = S.fo s ∧ w (31 + 2 * s) 3 = S.sz s ∧ ∀ i : Nat, i < 60 → w (32 + 2 * s) i = S.it s i
def m_sh (w : ab_W) (S : Sh) : Prop := w 39 37 = S.fi ∧ ∀ s : Nat, s < 4 → w 64 s = (if S.th s then 1 else 0) ∧ w 65 s = S.fo s ∧ w 66 s = S.sz s ∧ ∀ i : Nat, i < 60 → w 67 (60 * (s : Int) + i) = S.it s i
/-- the moments of the digest -/
def c_dm (w : ab_W) : Prop := w 100 0 = 0 ∧ w 100 1 = 9 ∧ w 100 2 = 18 ∧ w 100 3 = 30 ∧ w 100 4 = 47
def c_inv (w : ab_W) (D : Td) (S : Sh) : Prop := c_told w D ∧ c_cache w D ∧ c_sh w S ∧ S.ok ∧ c_dm w
def m_inv (w : ab_W) (D : Td) (S : Sh) : Prop := m_told w D ∧ m_sh w S ∧ S.ok
def c_fra (w v : ab_W) : Prop := ∀ p, 38 < p → v p = w p
def m_fra (w v : ab_W) : Prop := ∀ p, p < 39 ∨ 68 < p → v p = w p
theorem c_fra.refl (w : ab_W) : c_fra w w := fun _ _ => rfl
theorem m_fra.refl (w : ab_W) : m_fra w w := fun _ _ => rfl
theorem c_fra.trans {a b c : ab_W} (h : c_fra a b) (h2 : c_fra b c) : c_fra a c := fun p hp => (h2 p hp).trans (h p hp)
theorem m_fra.trans {a b c : ab_W} (h : m_fra a b) (h2 : m_fra b c) : m_fra a c := fun p hp => (h2 p hp).trans (h p hp)
theorem c_scr.fra {w v : ab_W} (h : c_scr w v) : c_fra w v := fun p hp => h.1 p (by omega)
theorem c_tr.fra {w v : ab_W} (h : c_tr w v) : c_fra w v := fun p hp => h p (by omega)
theorem m_scr.fra {w v : ab_W} (h : m_scr w v) : m_fra w v := fun p hp => h.1 p (by omega)
theorem c_sh.kept {w v : ab_W} {S : Sh} (h : c_sh w S) (h1 : v 0 12 = w 0 12) (h2 : ∀ p, 30 < p → p < 39 → v p = w p) : c_sh v S := by
  refine ⟨h1.trans h.1, fun s hs => ?_⟩
  rw [h2 (31 + 2 * s) (by omega) (by omega), h2 (32 + 2 * s) (by omega) (by omega)]
  exact h.2 s hs
theorem m_sh.kept {w v : ab_W} {S : Sh} (h : m_sh w S) (h1 : v 39 37 = w 39 37) (h2 : ∀ p, 63 < p → p < 68 → v p = w p) : m_sh v S := by
  refine ⟨h1.trans h.1, fun s hs => ?_⟩
  rw [h2 64 (by omega) (by omega), h2 65 (by omega) (by omega), h2 66 (by omega) (by omega), h2 67 (by omega) (by omega)]
  exact h.2 s hs
theorem c_dm.kept {w v : ab_W} (h : c_dm w) (h1 : v 100 = w 100) : c_dm v := by
  unfold c_dm; rw [h1]; exact h
theorem c_inv.scr {w v : ab_W} {D : Td} {S : Sh} (h : c_inv w D S) (hs : c_scr w v) (hc : c_cache v D) : c_inv v D S := ⟨h.1.scr hs, hc, h.2.2.1.kept (hs.2 12 (by omega)) (fun p h1 h2 => hs.1 p (by omega)), h.2.2.2.1, h.2.2.2.2.kept (hs.1 100 (by omega))⟩
theorem c_inv.tr {w v : ab_W} {D : Td} {S : Sh} (h : c_inv w D S) (hs : c_tr w v) : c_inv v D S := h.scr hs.scr (h.2.1.tr hs)
theorem m_inv.scr {w v : ab_W} {D : Td} {S : Sh} (h : m_inv w D S) (hs : m_scr w v) : m_inv v D S := ⟨h.1.scr hs, h.2.1.kept (hs.2 37 (by omega) (by omega) (by omega) (by omega)) (fun p h1 h2 => hs.1 p (by omega)), h.2.2⟩
theorem c_told.oth {w v : ab_W} {D : Td} (h : c_told w D) (hv : ∀ p, p < 21 → v p = w p) : c_told v D := by
  obtain ⟨⟨a1, a2, a3⟩, b, c0, e, f, g⟩ := h
  refine ⟨⟨?_, a2, ?_⟩, ?_, ⟨?_, ?_⟩, ⟨?_, ?_⟩, f.kept (fun p h1 h2 => hv p (by omega)), g⟩
  · rw [hv 1 (by omega)]; exact a1
  · rw [hv 2 (by omega)]; exact a3
  · rw [hv 0 (by omega)]; exact b
  · rw [hv 3 (by omega)]; exact c0.1
  · rw [hv (3 + 1) (by omega), hv (3 + 2) (by omega), hv (3 + 3) (by omega)]; exact c0.2
  · rw [hv 7 (by omega)]; exact e.1
  · rw [hv (7 + 1) (by omega), hv (7 + 2) (by omega), hv (7 + 3) (by omega)]; exact e.2
theorem m_told.oth {w v : ab_W} {D : Td} (h : m_told w D) (hv : ∀ p, 38 < p → v p = w p) : m_told v D := by
  unfold m_told m_text at h ⊢
  rw [hv 39 (by omega), hv 40 (by omega), hv 43 (by omega), hv 44 (by omega), hv 45 (by omega), hv 60 (by omega), hv 61 (by omega), hv 62 (by omega)]
  exact h
theorem c_inv.oth {w v : ab_W} {D : Td} {S : Sh} (h : c_inv w D S) (hm : m_fra w v) : c_inv v D S := by
  refine ⟨h.1.oth (fun p hp => hm p (by omega)), ?_, h.2.2.1.kept (by rw [hm 0 (by omega)]) (fun p h1 h2 => hm p (by omega)), h.2.2.2.1, h.2.2.2.2.kept (hm 100 (by omega))⟩
  have := h.2.1
  unfold c_cache c_cv at this ⊢
  rw [hm 0 (by omega), hm 27 (by omega)]
  exact this
theorem m_inv.oth {w v : ab_W} {D : Td} {S : Sh} (h : m_inv w D S) (hm : c_fra w v) : m_inv v D S := ⟨h.1.oth hm, h.2.1.kept (by rw [hm 39 (by omega)]) (fun p h1 h2 => hm p (by omega)), h.2.2⟩
/-- a row grows -/
def x_up (f : Nat → Int) (n : Nat) (v : Int) : Nat → Int := fun k => if k = n then v else f k
theorem x_up_at {f : Nat → Int} {n : Nat} {v : Int} : x_up f n v n = v := if_pos rfl
theorem x_up_ne {f : Nat → Int} {n k : Nat} {v : Int} (h : k ≠ n) : x_up f n v k = f k := if_neg h
def Td.ty (D : Td) (b : Int) : Td := ⟨D.n + 1, x_up D.by' D.n b, D.2.2⟩
def Td.len (D : Td) (n : Nat) : Td := ⟨n, D.by', D.2.2⟩
def Td.al (D : Td) (v : Int) : Td := ⟨D.n, D.by', v, D.2.2.2⟩
def Td.ev (D : Td) (a b c : Int) : Td := ⟨D.n, D.by', D.lg, D.k + 1, x_up D.ek D.k a, x_up D.ew D.k b, x_up D.en D.k c, D.2.2.2.2.2.2.2⟩
def Td.bk (D : Td) (k : Nat) : Td := ⟨D.n, D.by', D.lg, k, D.2.2.2.2⟩
def Td.se (D : Td) (a b c : Int) : Td := ⟨D.n, D.by', D.lg, D.k, D.ek, D.ew, D.en, D.sn + 1, x_up D.sm D.sn a, x_up D.st D.sn b, x_up D.sr D.sn c⟩
def Td.fg (D : Td) : Td := ⟨D.n, D.by', D.lg, D.k, D.ek, D.ew, D.en, 0, D.2.2.2.2.2.2.2.2⟩
theorem Td.ok_ty {D : Td} (h : D.ok) {b : Int} (hb : 0 ≤ b ∧ b ≤ 255) (hn : D.n < 35) : (D.ty b).ok := by
  refine ⟨hn, fun k hk => ?_, h.2.2⟩
  show 0 ≤ x_up D.by' D.n b k ∧ x_up D.by' D.n b k ≤ 255
  by_cases hkn : k = D.n
  · subst hkn; rw [x_up_at]; exact hb
  · rw [x_up_ne hkn]
    have hk : k < D.n + 1 := hk
    exact h.2.1 k (by omega)
theorem Td.ok_len {D : Td} (h : D.ok) {n : Nat} (hn : n ≤ D.n) : (D.len n).ok := ⟨Nat.le_trans hn h.1, fun k hk => h.2.1 k (Nat.lt_of_lt_of_le hk hn), h.2.2⟩
theorem Td.ok_al {D : Td} (h : D.ok) {v : Int} (hv : 10 ≤ v ∧ v ≤ 60) : (D.al v).ok := ⟨h.1, h.2.1, hv, h.2.2.2⟩
theorem Td.ok_ev {D : Td} (h : D.ok) {a b c : Int} (ha : 0 ≤ a ∧ a ≤ 2) (hb : 0 ≤ b ∧ b < 48) (hc : 0 ≤ c ∧ c < 4) (hk : D.k < 8) : (D.ev a b c).ok := by
  refine ⟨h.1, h.2.1, h.2.2.1, ⟨hk, fun e he => ?_⟩, h.2.2.2.2⟩
  show (0 ≤ x_up D.ek D.k a e ∧ x_up D.ek D.k a e ≤ 2) ∧ (0 ≤ x_up D.ew D.k b e ∧ x_up D.ew D.k b e ≤ 47) ∧ (0 ≤ x_up D.en D.k c e ∧ x_up D.en D.k c e ≤ 3)
  by_cases hek : e = D.k
  · subst hek; rw [x_up_at, x_up_at, x_up_at]; omega
  · rw [x_up_ne hek, x_up_ne hek, x_up_ne hek]
    have he : e < D.k + 1 := he
    exact h.2.2.2.1.2 e (by omega)
theorem Td.ok_bk {D : Td} (h : D.ok) {n : Nat} (hn : n ≤ D.k) : (D.bk n).ok := ⟨h.1, h.2.1, h.2.2.1, ⟨Nat.le_trans hn h.2.2.2.1.1, fun e he => h.2.2.2.1.2 e (Nat.lt_of_lt_of_le he hn)⟩, h.2.2.2.2⟩
theorem Td.ok_se {D : Td} (h : D.ok) {a b c : Int} (ha : 0 ≤ a ∧ a < 48) (hb : 0 ≤ b ∧ b < 4) (hc : 0 ≤ c ∧ c < 4) (hk : D.sn < 8) : (D.se a b c).ok := by
  refine ⟨h.1, h.2.1, h.2.2.1, h.2.2.2.1, hk, fun e he => ?_⟩
  show (0 ≤ x_up D.sm D.sn a e ∧ x_up D.sm D.sn a e ≤ 47) ∧ (0 ≤ x_up D.st D.sn b e ∧ x_up D.st D.sn b e ≤ 3) ∧ (0 ≤ x_up D.sr D.sn c e ∧ x_up D.sr D.sn c e ≤ 3)
  by_cases hek : e = D.sn
  · subst hek; rw [x_up_at, x_up_at, x_up_at]; omega
  · rw [x_up_ne hek, x_up_ne hek, x_up_ne hek]
    have he : e < D.sn + 1 := he
    exact h.2.2.2.2.2 e (by omega)
theorem Td.ok_fg {D : Td} (h : D.ok) : D.fg.ok := ⟨h.1, h.2.1, h.2.2.1, h.2.2.2.1, Nat.zero_le _, fun _ he => absurd he (Nat.not_lt_zero _)⟩
def p_type (D : Td) (b : Int) : Int × Td := if 0 ≤ b ∧ b ≤ 255 then (if D.n < 35 then ((D.n : Int) + 1, D.ty b) else (-4, D)) else (-2, D)
def p_wipe (D : Td) : Int × Td := (D.n, D.len 0)
def p_undo (D : Td) : Int × Td := if D.n = 0 then (-3, D) else ((D.n : Int) - 1, D.len (D.n - 1))
def p_along (D : Td) (v : Int) : Int × Td := if 10 ≤ v ∧ v ≤ 60 then (D.lg, D.al v) else (-2, D)
def p_event (D : Td) (a b c : Int) : Int × Td := if (0 ≤ a ∧ a ≤ 2) ∧ (0 ≤ b ∧ b < 48) ∧ (0 ≤ c ∧ c < 4) then (if D.k < 8 then ((D.k : Int) + 1, D.ev a b c) else (-4, D)) else (-2, D)
def p_back (D : Td) : Int × Td := if D.k = 0 then (-3, D) else ((D.k : Int) - 1, D.bk (D.k - 1))
def p_seen (D : Td) (a b c : Int) : Int × Td := if (0 ≤ a ∧ a < 48) ∧ (0 ≤ b ∧ b < 4) ∧ (0 ≤ c ∧ c < 4) then (if D.sn < 8 then ((D.sn : Int) + 1, D.se a b c) else (-4, D)) else (-2, D)
def p_forget (D : Td) : Int × Td := (D.sn, D.fg)
