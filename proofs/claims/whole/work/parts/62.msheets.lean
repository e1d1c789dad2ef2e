/-! the model's sheets -/
section MSheets62
variable {Ls d : Nat} {w : ab_W} {q : Option ab_V → ab_W → Prop} {D : Td} {S : Sh}
theorem m_inv.met (h : m_inv w D S) {f : Int} : m_inv (ab_up w 39 37 f) D (S.met f) := by
  obtain ⟨⟨⟨a1, a2, a3⟩, a4, a5, a6, a7, a8, a9⟩, hs, hS⟩ := h
  refine ⟨⟨⟨?_, a2, ?_⟩, ?_, ?_, ?_, ?_, ?_, a9⟩, ⟨ab_up_at, fun s hs4 => ?_⟩, hS⟩
  · rw [ab_up_nj (by decide)]; exact a1
  · rw [ab_up_ne (by decide)]; exact a3
  · rw [ab_up_nj (by decide)]; exact a4
  · rw [ab_up_nj (by decide)]; exact a5
  · rw [ab_up_ne (by decide), ab_up_ne (by decide), ab_up_ne (by decide)]; exact a6
  · rw [ab_up_nj (by decide)]; exact a7
  · rw [ab_up_ne (by decide), ab_up_ne (by decide), ab_up_ne (by decide)]; exact a8
  · rw [ab_up_ne (by decide), ab_up_ne (by decide), ab_up_ne (by decide), ab_up_ne (by decide)]; exact hs.2 s hs4
/-- one sheet anew -/
theorem m_inv.sht {v : ab_W} {S' : Sh} {s : Nat} (h : m_inv w D S) (hv : ∀ p, ¬ (64 ≤ p ∧ p ≤ 68) → v p = w p) (h1 : v 64 s = (if S'.th s then 1 else 0) ∧ v 65 s = S'.fo s ∧ v 66 s = S'.sz s ∧ ∀ i : Nat, i < 60 → v 67 (60 * (s : Int) + i) = S'.it s i) (h2 : ∀ u : Nat, u < 4 → u ≠ s → (v 64 u = w 64 u ∧ v 65 u = w 65 u ∧ v 66 u = w 66 u ∧ ∀ i : Nat, i < 60 → v 67 (60 * (u : Int) + i) = w 67 (60 * (u : Int) + i)) ∧ S'.th u = S.th u ∧ S'.fo u = S.fo u ∧ S'.sz u = S.sz u ∧ S'.it u = S.it u) (h3 : S'.fi = S.fi) (hok : S'.ok) : m_inv v D S' := by
  obtain ⟨ht, hsh, hS⟩ := h
  refine ⟨?_, ⟨?_, fun u hu => ?_⟩, hok⟩
  · unfold m_told m_text at ht ⊢
    rw [hv 39 (by omega), hv 40 (by omega), hv 43 (by omega), hv 44 (by omega), hv 45 (by omega), hv 60 (by omega), hv 61 (by omega), hv 62 (by omega)]
    exact ht
  · rw [h3, hv 39 (by omega)]; exact hsh.1
  · by_cases hus : u = s
    · subst hus; exact h1
    · obtain ⟨⟨b1, b2, b3, b4⟩, e1, e2, e3, e4⟩ := h2 u hu hus
      obtain ⟨c1, c2, c3, c4⟩ := hsh.2 u hu
      rw [e1, e2, e3, e4, b1, b2, b3]
      exact ⟨c1, c2, c3, fun i hi => (b4 i hi).trans (c4 i hi)⟩
theorem m_fra.sht {v : ab_W} (hv : ∀ p, ¬ (64 ≤ p ∧ p ≤ 68) → v p = w p) : m_fra w v := fun p hp => hv p (by omega)
theorem m_inv.itm {v : ab_W} {s : Nat} {g : Nat → Int} (h : m_inv w D S) (hs : s < 4) (hv : ∀ p, p ≠ 67 → p ≠ 68 → v p = w p) (hg : ∀ i : Nat, i < 60 → v 67 (60 * (s : Int) + i) = g i) (ho : ∀ u : Nat, u < 4 → u ≠ s → ∀ i : Nat, i < 60 → v 67 (60 * (u : Int) + i) = w 67 (60 * (u : Int) + i)) : m_inv v D (S.itm s g) := by
  obtain ⟨c1, c2, c3, _⟩ := h.2.1.2 s hs
  refine h.sht (fun p hp => hv p (by omega) (by omega)) ⟨?_, ?_, ?_, ?_⟩ (fun u hu hus => ⟨⟨by rw [hv 64 (by decide) (by decide)], by rw [hv 65 (by decide) (by decide)], by rw [hv 66 (by decide) (by decide)], ho u hu hus⟩, itm_u u hus⟩) rfl h.2.2
  · rw [hv 64 (by decide) (by decide)]; exact c1
  · rw [hv 65 (by decide) (by decide)]; exact c2
  · rw [hv 66 (by decide) (by decide)]; exact c3
  · rw [itm_s]; exact hg
theorem m_fra.met {f : Int} : m_fra w (ab_up w 39 37 f) := fun p hp => ab_up_ne (by omega)
theorem q_lacks {s : Nat} (hs : s < 4) (hi : m_inv w D S) {f i : Int} {Q' : Option ab_V → ab_W → Prop} (h : Q' (some (vI (p_lack S s f i))) w) : Sm Ls (d + 2) 181 [vR 39, vI s, vI f, vI i] w Q' := by
  obtain ⟨e1, e2, e3, _⟩ := hi.2.1.2 s hs
  have z1 := (hi.2.2 s hs).2
  have hin : 0 ≤ (s : Int) ∧ (s : Int) < 4 := by omega
  unfold p_lack at h
  rw [en_181]
  cases hb : S.th s
  · rw [hb] at e1 h
    have e1 : w 64 s = 0 := e1
    rw [if_pos rfl] at h
    simp only [↓e_aload0, ↓g_39_32, ↓e_iload1, ↓e_if_ne, ↓e_iconst, ↓e_goto, ↓g_39_33, ↓e_iload2, ↓e_cmp_eq, ↓e_iload3, ↓g_39_34, ↓e_isub, e_rpn, e_rps, e_few0, e_few1, e_few2, e_few3, e_few4, ↓e_cs3, ↓e_if_eq, ↓e_iret, ↓x_64, ↓x_65, ↓x_66, ↓e_nil, b_181_0, b_181_1, b_181_2, b_181_3, b_181_4, ↓ev_181_4, hin, e1, one0, eq_self, ne_eq, not_true_eq_false, not_false_eq_true, true_implies, false_implies, true_and, and_true, and_self]
    exact h
  · rw [hb] at e1 h
    have e1 : w 64 s = 1 := e1
    rw [if_neg (by decide)] at h
    have w1 : iW ((S.sz s : Int) - 1) = (S.sz s : Int) - 1 := iW_id (by omega) (by omega)
    simp only [↓e_aload0, ↓g_39_32, ↓e_iload1, ↓e_if_ne, ↓e_iconst, ↓e_goto, ↓g_39_33, ↓e_iload2, ↓e_cmp_eq, ↓e_iload3, ↓g_39_34, ↓e_isub, e_rpn, e_rps, e_few0, e_few1, e_few2, e_few3, e_few4, ↓e_cs3, ↓e_if_eq, ↓e_iret, ↓x_64, ↓x_65, ↓x_66, ↓e_nil, b_181_0, b_181_1, b_181_2, b_181_3, b_181_4, ↓ev_181_1, ↓ev_181_2, ↓ev_181_3, ↓ev_181_4, hin, e1, e2, e3, w1, q_in, ab_yn, one0, eq_self, ne_eq, not_true_eq_false, not_false_eq_true, true_implies, false_implies, true_and, and_true, and_self]
    clear w1
    refine ⟨fun g => ⟨fun g2 => ?_, fun g2 => ?_⟩, fun g => ?_⟩
    · rw [if_neg (by omega), if_pos (by omega)] at h; exact h
    · rw [if_neg (by omega), if_neg (by omega)] at h; exact h
    · rw [if_pos g] at h; exact h
theorem q_keep {s j : Nat} (hs : s < 4) (hj : j < 60) {v : Int} {Q' : Option ab_V → ab_W → Prop} (h : Q' none (ab_up w 67 (60 * (s : Int) + j) (kv (w 65 s) v))) : Sm Ls (d + 1) 182 [vR 39, vI s, vI j, vI v] w Q' := by
  have hin : 0 ≤ (s : Int) ∧ (s : Int) < 4 := by omega
  have hin2 : 0 ≤ 60 * (s : Int) + j ∧ 60 * (s : Int) + j < 240 := by omega
  obtain ⟨w1, w2⟩ : iW (60 * (s : Int)) = 60 * (s : Int) ∧ iW (60 * (s : Int) + j) = 60 * (s : Int) + j := ⟨iW_id (by omega) (by omega), iW_id (by omega) (by omega)⟩
  unfold kv at h
  rw [en_182]
  simp only [↓e_aload0, ↓g_39_35, ↓e_bipush, ↓e_iload1, ↓e_imul, ↓e_iload2, ↓e_iadd, ↓g_39_33, ↓e_if_ne, ↓e_iload3, ↓e_i2b, ↓e_goto, ↓e_iconst, ↓e_cmp_ne, ↓e_i2s, ↓e_vret, ↓x_65, ↓y_65, ↓x_67, ↓y_67, ↓e_nil, b_182_0, b_182_1, b_182_2, b_182_3, ↓ev_182_1, ↓ev_182_2, ↓ev_182_3, hin, hin2, w1, w2, one0, eq_self, ne_eq, not_true_eq_false, not_false_eq_true, true_implies, false_implies, true_and, and_true, and_self]
  refine ⟨fun g => ⟨fun g2 => ?_, fun g2 => ?_⟩, fun g => ?_⟩
  · rw [if_neg g, if_neg g2] at h; exact h
  · rw [if_neg g, if_pos (Classical.not_not.mp g2)] at h; exact h
  · rw [if_pos (Classical.not_not.mp g)] at h; exact h
theorem q_sheetM (hi : m_inv w D S) {a f n : Int} (h : ∀ v, m_fra w v → m_inv v D (p_sheet S a f n).2 → q (some (vI (p_sheet S a f n).1)) v) : Sm Ls (d + 3) 179 [vR 39, vI a, vI f, vI n] w q := by
  unfold p_sheet at h
  have w15 : iW (-10 - 5) = -15 := by decide
  rw [en_179]
  simp only [↓e_iload1, e_rpn, e_rps, e_few0, e_few1, e_few2, e_few3, e_few4, ↓e_cs1, ↓e_if_eq, ↓e_iload2, ↓e_iconst, ↓e_cs3, ↓e_iload3, ↓e_bipush, ↓e_cmp_le, ↓e_iret, ↓e_if_ge, ↓e_aload0, ↓e_cv2, i_39, ↓g_39_32, ↓g_39_33, ↓g_39_34, ↓e_istore4, e_klI, e_klR, e_klX, e_klL, ↓e_iload4, ↓e_cmp_ge, ↓g_39_35, ↓e_imul, ↓e_iadd, ↓e_iinc4, ↓e_goto, ↓y_64, ↓y_65, ↓y_66, ↓y_67, ↓e_nil, b_179_0, b_179_1, b_179_2, b_179_3, b_179_4, b_179_5, ↓ev_179_1, ↓ev_179_2, q_isSheetM, q_in, q_meets, w15, ab_yn, one0, eq_self, ne_eq, not_true_eq_false, not_false_eq_true, true_implies, false_implies, true_and, and_true, and_self]
  refine ⟨fun g1 => ⟨fun g2 => ⟨fun g3 => ⟨fun g4 => ?_, fun g4 => ?_⟩, fun g3 => ?_⟩, fun g2 => ?_⟩, fun g1 => ?_⟩
  · obtain ⟨s, rfl⟩ : ∃ s : Nat, a = s := ⟨a.toNat, by omega⟩
    obtain ⟨z, rfl⟩ : ∃ z : Nat, n = z := ⟨n.toNat, by omega⟩
    have hs : s < 4 := by omega
    have hin : 0 ≤ (s : Int) ∧ (s : Int) < 4 := by omega
    rw [if_pos (by omega), if_neg (by omega), Int.toNat_natCast, Int.toNat_natCast] at h
    have key : ∀ (k j : Nat), j + k = 60 → ∀ v : ab_W, (∀ p, ¬ (64 ≤ p ∧ p ≤ 68) → v p = w p) → (v 64 s = 1 ∧ v 65 s = f ∧ v 66 s = z ∧ ∀ i : Nat, i < j → v 67 (60 * (s : Int) + i) = 0) → (∀ u : Nat, u < 4 → u ≠ s → (v 64 u = w 64 u ∧ v 65 u = w 65 u ∧ v 66 u = w 66 u ∧ ∀ i : Nat, i < 60 → v 67 (60 * (u : Int) + i) = w 67 (60 * (u : Int) + i))) → Ev Ls (Sm Ls (d + 2)) q bk_179 4 [vR 39, vI s, vI f, vI z, vI j] [] v := by
      intro k
      induction k with
      | zero =>
        intro j hj v v0 v1 v2
        have : j = 60 := by omega
        subst this
        have hfin := h v (m_fra.sht v0) (hi.sht v0 (S' := S.beg s f z) ⟨?_, ?_, ?_, fun i hi => ?_⟩ (fun u hu hus => ⟨v2 u hu hus, if_neg hus, if_neg hus, if_neg hus, if_neg hus⟩) rfl (Sh.ok_beg hi.2.2 (by omega) (by omega)))
        · rw [ev_179_4]
          simp only [↓e_iload1, e_rpn, e_rps, e_few0, e_few1, e_few2, e_few3, e_few4, ↓e_cs1, ↓e_if_eq, ↓e_iload2, ↓e_iconst, ↓e_cs3, ↓e_iload3, ↓e_bipush, ↓e_cmp_le, ↓e_iret, ↓e_if_ge, ↓e_aload0, ↓e_cv2, i_39, ↓g_39_32, ↓g_39_33, ↓g_39_34, ↓e_istore4, e_klI, e_klR, e_klX, e_klL, ↓e_iload4, ↓e_cmp_ge, ↓g_39_35, ↓e_imul, ↓e_iadd, ↓e_iinc4, ↓e_goto, ↓y_64, ↓y_65, ↓y_66, ↓y_67, ↓e_nil, b_179_0, b_179_1, b_179_2, b_179_3, b_179_4, b_179_5, ↓ev_179_5]
          exact ⟨fun _ => hfin, fun z => absurd (by decide) z⟩
        · rw [v1.1]
          show (1 : Int) = if (if s = s then true else S.th s) = true then 1 else 0
          rw [if_pos rfl, if_pos rfl]
        · rw [v1.2.1]
          show f = if s = s then f else _
          rw [if_pos rfl]
        · rw [v1.2.2.1]
          show (z : Int) = ((if s = s then z else S.sz s : Nat) : Int)
          rw [if_pos rfl]
        · rw [v1.2.2.2 i hi]
          show (0 : Int) = (if s = s then (fun _ => 0) else S.it s) i
          rw [if_pos rfl]
      | succ k ih =>
        intro j hj v v0 v1 v2
        have hno : ¬ 60 ≤ (j : Int) := by omega
        have hin2 : 0 ≤ 60 * (s : Int) + j ∧ 60 * (s : Int) + j < 240 := by omega
        have hnext := ih (j + 1) (by omega) (ab_up v 67 (60 * (s : Int) + j) 0) (fun p hp => by rw [ab_up_ne (by omega)]; exact v0 p hp) ⟨by rw [ab_up_p (by decide)]; exact v1.1, by rw [ab_up_p (by decide)]; exact v1.2.1, by rw [ab_up_p (by decide)]; exact v1.2.2.1, fun i hi => by
          by_cases hij : i = j
          · subst hij; rw [ab_up_at]
          · rw [ab_up_nj (by omega)]; exact v1.2.2.2 i (by omega)⟩ (fun u hu hus => by
          obtain ⟨b1, b2, b3, b4⟩ := v2 u hu hus
          exact ⟨by rw [ab_up_p (by decide)]; exact b1, by rw [ab_up_p (by decide)]; exact b2, by rw [ab_up_p (by decide)]; exact b3, fun i hi => by rw [ab_up_nj (by omega)]; exact b4 i hi⟩)
        obtain ⟨w1, w2, w3⟩ : iW (60 * (s : Int)) = 60 * (s : Int) ∧ iW (60 * (s : Int) + j) = 60 * (s : Int) + j ∧ iW ((j : Int) + 1) = (j : Int) + 1 := ⟨iW_id (by omega) (by omega), iW_id (by omega) (by omega), iW_id (by omega) (by omega)⟩
        rw [ev_179_4]
        simp only [↓e_iload1, e_rpn, e_rps, e_few0, e_few1, e_few2, e_few3, e_few4, ↓e_cs1, ↓e_if_eq, ↓e_iload2, ↓e_iconst, ↓e_cs3, ↓e_iload3, ↓e_bipush, ↓e_cmp_le, ↓e_iret, ↓e_if_ge, ↓e_aload0, ↓e_cv2, i_39, ↓g_39_32, ↓g_39_33, ↓g_39_34, ↓e_istore4, e_klI, e_klR, e_klX, e_klL, ↓e_iload4, ↓e_cmp_ge, ↓g_39_35, ↓e_imul, ↓e_iadd, ↓e_iinc4, ↓e_goto, ↓y_64, ↓y_65, ↓y_66, ↓y_67, ↓e_nil, b_179_0, b_179_1, b_179_2, b_179_3, b_179_4, b_179_5, hno, hin2, w1, w2, w3, one0, eq_self, ne_eq, not_true_eq_false, not_false_eq_true, true_implies, false_implies, true_and, and_true, and_self]
        exact hnext
    have h0 := key 60 0 (by omega) (ab_up (ab_up (ab_up w 64 s 1) 65 s f) 66 s z) (fun p hp => by rw [ab_up_ne (by omega), ab_up_ne (by omega), ab_up_ne (by omega)]) ⟨by rw [ab_up_p (by decide), ab_up_p (by decide), ab_up_at], by rw [ab_up_p (by decide), ab_up_at], ab_up_at, fun i hi => by omega⟩ (fun u hu hus => ⟨by rw [ab_up_p (by decide), ab_up_p (by decide), ab_up_nj (by omega)], by rw [ab_up_p (by decide), ab_up_nj (by omega), ab_up_p (by decide)], by rw [ab_up_nj (by omega), ab_up_p (by decide), ab_up_p (by decide)], fun i hi => by rw [ab_up_p (by decide), ab_up_p (by decide), ab_up_p (by decide)]⟩)
    rw [ev_179_3]
    simp only [↓e_iload1, e_rpn, e_rps, e_few0, e_few1, e_few2, e_few3, e_few4, ↓e_cs1, ↓e_if_eq, ↓e_iload2, ↓e_iconst, ↓e_cs3, ↓e_iload3, ↓e_bipush, ↓e_cmp_le, ↓e_iret, ↓e_if_ge, ↓e_aload0, ↓e_cv2, i_39, ↓g_39_32, ↓g_39_33, ↓g_39_34, ↓e_istore4, e_klI, e_klR, e_klX, e_klL, ↓e_iload4, ↓e_cmp_ge, ↓g_39_35, ↓e_imul, ↓e_iadd, ↓e_iinc4, ↓e_goto, ↓y_64, ↓y_65, ↓y_66, ↓y_67, ↓e_nil, b_179_0, b_179_1, b_179_2, b_179_3, b_179_4, b_179_5, hin, one0, eq_self, ne_eq, not_true_eq_false, not_false_eq_true, true_implies, false_implies, true_and, and_true, and_self]
    exact ⟨Or.inr trivial, h0⟩
  · rw [if_pos (by omega), if_pos (by omega)] at h; exact h _ m_fra.met hi.met
  · rw [if_neg (by omega)] at h; exact h w (m_fra.refl w) hi
  · rw [if_neg (by omega)] at h; exact h w (m_fra.refl w) hi
  · rw [if_neg (by omega)] at h; exact h w (m_fra.refl w) hi
theorem q_loseM (hi : m_inv w D S) {a : Int} (h : ∀ v, m_fra w v → m_inv v D (p_lose S a).2 → q (some (vI (p_lose S a).1)) v) : Sm Ls (d + 3) 180 [vR 39, vI a] w q := by
  unfold p_lose at h
  have w15 : iW (-10 - 1) = -11 := by decide
  rw [en_180]
  simp only [↓e_iload1, e_rpn, e_rps, e_few0, e_few1, e_few2, e_few3, e_few4, ↓e_cs1, ↓e_if_ne, ↓e_bipush, ↓e_iret, ↓e_aload0, ↓g_39_32, ↓e_iconst, ↓e_cv2, i_39, ↓g_39_34, ↓x_64, ↓y_64, ↓x_66, ↓e_nil, b_180_0, b_180_1, b_180_2, q_isSheetM, ab_yn, one0, eq_self, ne_eq, not_true_eq_false, not_false_eq_true, true_implies, false_implies, true_and, and_true, and_self]
  refine ⟨fun g1 => ?_, fun g1 => ?_⟩
  · obtain ⟨s, rfl⟩ : ∃ s : Nat, a = s := ⟨a.toNat, by omega⟩
    have hs : s < 4 := by omega
    have hin : 0 ≤ (s : Int) ∧ (s : Int) < 4 := by omega
    obtain ⟨e1, e2, e3, e4⟩ := hi.2.1.2 s hs
    rw [if_pos (by omega), Int.toNat_natCast] at h
    rw [ev_180_1]
    cases hb : S.th s
    · rw [hb] at e1 h
      have e1 : w 64 s = 0 := e1
      rw [if_neg (by decide)] at h
      simp only [↓e_iload1, e_rpn, e_rps, e_few0, e_few1, e_few2, e_few3, e_few4, ↓e_cs1, ↓e_if_ne, ↓e_bipush, ↓e_iret, ↓e_aload0, ↓g_39_32, ↓e_iconst, ↓e_cv2, i_39, ↓g_39_34, ↓x_64, ↓y_64, ↓x_66, ↓e_nil, b_180_0, b_180_1, b_180_2, hin, e1, q_meets, w15, one0, eq_self, ne_eq, not_true_eq_false, not_false_eq_true, true_implies, false_implies, true_and, and_true, and_self]
      exact h _ m_fra.met hi.met
    · rw [hb] at e1 h
      have e1 : w 64 s = 1 := e1
      rw [if_pos rfl] at h
      have f1 : ab_up w 64 s 0 66 s = S.sz s := by rw [ab_up_p (by decide)]; exact e3
      simp only [↓e_iload1, e_rpn, e_rps, e_few0, e_few1, e_few2, e_few3, e_few4, ↓e_cs1, ↓e_if_ne, ↓e_bipush, ↓e_iret, ↓e_aload0, ↓g_39_32, ↓e_iconst, ↓e_cv2, i_39, ↓g_39_34, ↓x_64, ↓y_64, ↓x_66, ↓e_nil, b_180_0, b_180_1, b_180_2, ↓ev_180_2, hin, e1, f1, one0, eq_self, ne_eq, not_true_eq_false, not_false_eq_true, true_implies, false_implies, true_and, and_true, and_self]
      have hv : ∀ p, ¬ (64 ≤ p ∧ p ≤ 68) → ab_up w 64 s 0 p = w p := fun p h1 => ab_up_ne (by omega)
      refine ⟨Or.inl trivial, h _ (m_fra.sht hv) (hi.sht hv (s := s) ⟨?_, ?_, ?_, fun i hi => ?_⟩ (fun u hu hus => ⟨⟨?_, ?_, ?_, fun i hi => ?_⟩, if_neg hus, rfl, rfl, rfl⟩) rfl hi.2.2)⟩
      · rw [ab_up_at]
        show (0 : Int) = if (if s = s then false else S.th s) = true then 1 else 0
        rw [if_pos rfl, if_neg (by decide)]
      · rw [ab_up_p (by decide)]; exact e2
      · rw [ab_up_p (by decide)]; exact e3
      · rw [ab_up_p (by decide)]; exact e4 i hi
      · rw [ab_up_nj (by omega)]
      · rw [ab_up_p (by decide)]
      · rw [ab_up_p (by decide)]
      · rw [ab_up_p (by decide)]
  · rw [if_neg (by omega)] at h; exact h w (m_fra.refl w) hi
theorem q_putM (hi : m_inv w D S) {a f i x : Int} (h : ∀ v, m_fra w v → m_inv v D (p_put S a f i x).2 → q (some (vI (p_put S a f i x).1)) v) : Sm Ls (d + 3) 183 [vR 39, vI a, vI f, vI i, vI x] w q := by
  unfold p_put at h
  rw [en_183]
  simp only [↓e_iload1, e_rpn, e_rps, e_few0, e_few1, e_few2, e_few3, e_few4, ↓e_cs1, ↓e_if_eq, ↓e_iload2, ↓e_iconst, ↓e_cs3, ↓e_if_ne, ↓e_bipush, ↓e_iret, ↓e_aload0, ↓e_iload3, ↓e_cv4, i_39, ↓e_istore5, e_klI, e_klR, e_klX, e_klL, ↓e_iload5, ↓e_if_le, ↓e_cv2, ↓e_iload4, ↓e_nil, b_183_0, b_183_1, b_183_2, b_183_3, ↓ev_183_1, q_isSheetM, q_in, ab_yn, one0, eq_self, ne_eq, not_true_eq_false, not_false_eq_true, true_implies, false_implies, true_and, and_true, and_self]
  refine ⟨fun g1 => ⟨fun g2 => ?_, fun g2 => ?_⟩, fun g1 => ?_⟩
  · obtain ⟨s, rfl⟩ : ∃ s : Nat, a = s := ⟨a.toNat, by omega⟩
    have hs : s < 4 := by omega
    obtain ⟨e1, e2, e3, e4⟩ := hi.2.1.2 s hs
    have hz := (hi.2.2 s hs).2
    rw [if_pos (by omega), Int.toNat_natCast] at h
    rw [ev_183_2]
    simp only [↓e_iload1, e_rpn, e_rps, e_few0, e_few1, e_few2, e_few3, e_few4, ↓e_cs1, ↓e_if_eq, ↓e_iload2, ↓e_iconst, ↓e_cs3, ↓e_if_ne, ↓e_bipush, ↓e_iret, ↓e_aload0, ↓e_iload3, ↓e_cv4, i_39, ↓e_istore5, e_klI, e_klR, e_klX, e_klL, ↓e_iload5, ↓e_if_le, ↓e_cv2, ↓e_iload4, ↓e_nil, b_183_0, b_183_1, b_183_2, b_183_3, one0, eq_self, ne_eq, not_true_eq_false, not_false_eq_true, true_implies, false_implies, true_and, and_true, and_self]
    refine q_lacks hs hi ?_
    have hl := p_lack_in (S := S) (s := s) (f := f) (i := i)
    by_cases hlz : p_lack S s f i = 0
    · rw [if_pos hlz] at h
      have hin := p_lack_0 hlz
      obtain ⟨j, rfl⟩ : ∃ j : Nat, i = j := ⟨i.toNat, by omega⟩
      rw [Int.toNat_natCast] at h
      have h00 : ((0 : Int) ≤ 0) = True := by simp
      simp only [↓e_iload1, e_rpn, e_rps, e_few0, e_few1, e_few2, e_few3, e_few4, ↓e_cs1, ↓e_if_eq, ↓e_iload2, ↓e_iconst, ↓e_cs3, ↓e_if_ne, ↓e_bipush, ↓e_iret, ↓e_aload0, ↓e_iload3, ↓e_cv4, i_39, ↓e_istore5, e_klI, e_klR, e_klX, e_klL, ↓e_iload5, ↓e_if_le, ↓e_cv2, ↓e_iload4, ↓e_nil, b_183_0, b_183_1, b_183_2, b_183_3, ↓ev_183_3, hlz, h00, one0, eq_self, ne_eq, not_true_eq_false, not_false_eq_true, true_implies, false_implies, true_and, and_true, and_self]
      refine q_keep hs (by omega) ?_
      simp only [↓e_iload1, e_rpn, e_rps, e_few0, e_few1, e_few2, e_few3, e_few4, ↓e_cs1, ↓e_if_eq, ↓e_iload2, ↓e_iconst, ↓e_cs3, ↓e_if_ne, ↓e_bipush, ↓e_iret, ↓e_aload0, ↓e_iload3, ↓e_cv4, i_39, ↓e_istore5, e_klI, e_klR, e_klX, e_klL, ↓e_iload5, ↓e_if_le, ↓e_cv2, ↓e_iload4, ↓e_nil, b_183_0, b_183_1, b_183_2, b_183_3, e2]
      have hv : ∀ p, p ≠ 67 → p ≠ 68 → ab_up w 67 (60 * (s : Int) + j) (kv (S.fo s) x) p = w p := fun p h1 _ => ab_up_ne h1
      refine h _ (m_fra.sht (fun p hp => hv p (by omega) (by omega))) (hi.itm hs hv (fun k hk => ?_) (fun u hu hus k hk => by rw [ab_up_nj (by omega)]))
      by_cases hkj : k = j
      · subst hkj; rw [ab_up_at, x_up_at]
      · rw [ab_up_nj (by omega), x_up_ne hkj]; exact e4 k hk
    · rw [if_neg hlz] at h
      have hgt : ¬ p_lack S s f i ≤ 0 := by omega
      have w1 : iW (-10 - p_lack S s f i) = -10 - p_lack S s f i := iW_id (by omega) (by omega)
      simp only [↓e_iload1, e_rpn, e_rps, e_few0, e_few1, e_few2, e_few3, e_few4, ↓e_cs1, ↓e_if_eq, ↓e_iload2, ↓e_iconst, ↓e_cs3, ↓e_if_ne, ↓e_bipush, ↓e_iret, ↓e_aload0, ↓e_iload3, ↓e_cv4, i_39, ↓e_istore5, e_klI, e_klR, e_klX, e_klL, ↓e_iload5, ↓e_if_le, ↓e_cv2, ↓e_iload4, ↓e_nil, b_183_0, b_183_1, b_183_2, b_183_3, hgt, q_meets, w1, one0, eq_self, ne_eq, not_true_eq_false, not_false_eq_true, true_implies, false_implies, true_and, and_true, and_self]
      exact h _ m_fra.met hi.met
  · rw [if_neg (by omega)] at h; exact h w (m_fra.refl w) hi
  · rw [if_neg (by omega)] at h; exact h w (m_fra.refl w) hi
theorem q_getM (hi : m_inv w D S) {a f i : Int} (h : ∀ v, m_fra w v → m_inv v D (p_get S a f i).2 → q (some (vI (p_get S a f i).1)) v) : Sm Ls (d + 3) 184 [vR 39, vI a, vI f, vI i] w q := by
  unfold p_get at h
  rw [en_184]
  simp only [↓e_iload1, e_rpn, e_rps, e_few0, e_few1, e_few2, e_few3, e_few4, ↓e_cs1, ↓e_if_eq, ↓e_iload2, ↓e_iconst, ↓e_cs3, ↓e_if_ne, ↓e_ldc_w, ↓e_iret, ↓e_aload0, ↓e_iload3, ↓e_cv4, i_39, ↓e_istore4, e_klI, e_klR, e_klX, e_klL, ↓e_iload4, ↓e_if_le, ↓p_39_37, ↓g_39_35, ↓e_bipush, ↓e_imul, ↓e_iadd, ↓x_67, ↓e_nil, b_184_0, b_184_1, b_184_2, b_184_3, ↓ev_184_1, q_isSheetM, q_in, ab_yn, one0, eq_self, ne_eq, not_true_eq_false, not_false_eq_true, true_implies, false_implies, true_and, and_true, and_self]
  refine ⟨fun g1 => ⟨fun g2 => ?_, fun g2 => ?_⟩, fun g1 => ?_⟩
  · obtain ⟨s, rfl⟩ : ∃ s : Nat, a = s := ⟨a.toNat, by omega⟩
    have hs : s < 4 := by omega
    obtain ⟨e1, e2, e3, e4⟩ := hi.2.1.2 s hs
    have hz := (hi.2.2 s hs).2
    rw [if_pos (by omega), Int.toNat_natCast] at h
    rw [ev_184_2]
    simp only [↓e_iload1, e_rpn, e_rps, e_few0, e_few1, e_few2, e_few3, e_few4, ↓e_cs1, ↓e_if_eq, ↓e_iload2, ↓e_iconst, ↓e_cs3, ↓e_if_ne, ↓e_ldc_w, ↓e_iret, ↓e_aload0, ↓e_iload3, ↓e_cv4, i_39, ↓e_istore4, e_klI, e_klR, e_klX, e_klL, ↓e_iload4, ↓e_if_le, ↓p_39_37, ↓g_39_35, ↓e_bipush, ↓e_imul, ↓e_iadd, ↓x_67, ↓e_nil, b_184_0, b_184_1, b_184_2, b_184_3, one0, eq_self, ne_eq, not_true_eq_false, not_false_eq_true, true_implies, false_implies, true_and, and_true, and_self]
    refine q_lacks hs hi ?_
    have hl := p_lack_in (S := S) (s := s) (f := f) (i := i)
    by_cases hlz : p_lack S s f i = 0
    · rw [if_pos hlz] at h
      have hin := p_lack_0 hlz
      obtain ⟨j, rfl⟩ : ∃ j : Nat, i = j := ⟨i.toNat, by omega⟩
      rw [Int.toNat_natCast] at h
      have h00 : ((0 : Int) ≤ 0) = True := by simp
      have hj : 0 ≤ 60 * (s : Int) + j ∧ 60 * (s : Int) + j < 240 := by omega
      obtain ⟨w1, w2⟩ : iW (60 * (s : Int)) = 60 * (s : Int) ∧ iW (60 * (s : Int) + j) = 60 * (s : Int) + j := ⟨iW_id (by omega) (by omega), iW_id (by omega) (by omega)⟩
      simp only [↓e_iload1, e_rpn, e_rps, e_few0, e_few1, e_few2, e_few3, e_few4, ↓e_cs1, ↓e_if_eq, ↓e_iload2, ↓e_iconst, ↓e_cs3, ↓e_if_ne, ↓e_ldc_w, ↓e_iret, ↓e_aload0, ↓e_iload3, ↓e_cv4, i_39, ↓e_istore4, e_klI, e_klR, e_klX, e_klL, ↓e_iload4, ↓e_if_le, ↓p_39_37, ↓g_39_35, ↓e_bipush, ↓e_imul, ↓e_iadd, ↓x_67, ↓e_nil, b_184_0, b_184_1, b_184_2, b_184_3, ↓ev_184_3, hlz, h00, hj, w1, w2, e4 j (by clear w1 w2; omega), one0, eq_self, ne_eq, not_true_eq_false, not_false_eq_true, true_implies, false_implies, true_and, and_true, and_self]
      exact h w (m_fra.refl w) hi
    · rw [if_neg hlz] at h
      have hgt : ¬ p_lack S s f i ≤ 0 := by omega
      simp only [↓e_iload1, e_rpn, e_rps, e_few0, e_few1, e_few2, e_few3, e_few4, ↓e_cs1, ↓e_if_eq, ↓e_iload2, ↓e_iconst, ↓e_cs3, ↓e_if_ne, ↓e_ldc_w, ↓e_iret, ↓e_aload0, ↓e_iload3, ↓e_cv4, i_39, ↓e_istore4, e_klI, e_klR, e_klX, e_klL, ↓e_iload4, ↓e_if_le, ↓p_39_37, ↓g_39_35, ↓e_bipush, ↓e_imul, ↓e_iadd, ↓x_67, ↓e_nil, b_184_0, b_184_1, b_184_2, b_184_3, hgt, one0, eq_self, ne_eq, not_true_eq_false, not_false_eq_true, true_implies, false_implies, true_and, and_true, and_self]
      exact h _ m_fra.met hi.met
  · rw [if_neg (by omega)] at h; exact h w (m_fra.refl w) hi
  · rw [if_neg (by omega)] at h; exact h w (m_fra.refl w) hi
theorem q_readM (hi : m_inv w D S) {a : Int} (h : ∀ v, m_fra w v → m_inv v (p_read D S a).2.1 (p_read D S a).2.2 → q (some (vI (p_read D S a).1)) v) : Sm Ls (d + 4) 124 [vR 39, vI a] w q := by
  unfold p_read at h
  have w11 : iW (-10 - 1) = -11 := by decide
  rw [en_124]
  simp only [↓e_iload1, e_rpn, e_rps, e_few0, e_few1, e_few2, e_few3, e_few4, ↓e_cs1, ↓e_if_ne, ↓e_bipush, ↓e_iret, ↓e_aload0, ↓g_39_32, ↓e_iconst, ↓e_cv2, i_39, ↓e_istore2, e_klI, e_klR, e_klX, e_klL, ↓e_imul, ↓e_istore3, ↓e_iload2, ↓e_iadd, ↓g_39_34, ↓e_cmp_ge, ↓g_39_35, ↓e_iload3, ↓e_cv4, ↓e_if_le, ↓e_iinc2, ↓e_goto, ↓x_64, ↓x_66, ↓x_67, ↓e_nil, b_124_0, b_124_1, b_124_2, b_124_3, b_124_4, q_isSheetM, ab_yn, one0, eq_self, ne_eq, not_true_eq_false, not_false_eq_true, true_implies, false_implies, true_and, and_true, and_self]
  refine ⟨fun g1 => ?_, fun g1 => ?_⟩
  · obtain ⟨s, rfl⟩ : ∃ s : Nat, a = s := ⟨a.toNat, by omega⟩
    have hs : s < 4 := by omega
    have hin : 0 ≤ (s : Int) ∧ (s : Int) < 4 := by omega
    obtain ⟨e1, e2, e3, e4⟩ := hi.2.1.2 s hs
    have z1 := (hi.2.2 s hs).2
    rw [if_pos (by omega), Int.toNat_natCast] at h
    rw [ev_124_1]
    cases hb : S.th s
    · rw [hb] at e1 h
      have e1 : w 64 s = 0 := e1
      rw [if_neg (by decide)] at h
      simp only [↓e_iload1, e_rpn, e_rps, e_few0, e_few1, e_few2, e_few3, e_few4, ↓e_cs1, ↓e_if_ne, ↓e_bipush, ↓e_iret, ↓e_aload0, ↓g_39_32, ↓e_iconst, ↓e_cv2, i_39, ↓e_istore2, e_klI, e_klR, e_klX, e_klL, ↓e_imul, ↓e_istore3, ↓e_iload2, ↓e_iadd, ↓g_39_34, ↓e_cmp_ge, ↓g_39_35, ↓e_iload3, ↓e_cv4, ↓e_if_le, ↓e_iinc2, ↓e_goto, ↓x_64, ↓x_66, ↓x_67, ↓e_nil, b_124_0, b_124_1, b_124_2, b_124_3, b_124_4, hin, e1, q_meets, w11, one0, eq_self, ne_eq, not_true_eq_false, not_false_eq_true, true_implies, false_implies, true_and, and_true, and_self]
      exact h _ m_fra.met hi.met
    · rw [hb] at e1 h
      have e1 : w 64 s = 1 := e1
      rw [if_pos rfl] at h
      generalize hD' : rd (S.it s) (S.sz s) 20 0 D = D' at h
      have hexit : ∀ (v : ab_W) (n : Nat), m_fra w v → m_inv v D' S → D'.k = D.k + n → Ev Ls (Sm Ls (d + 3)) q bk_124 4 [vR 39, vI s, vI n, vI (60 * (s : Int))] [] v := fun v n v0 v1 hn => by
        have := h v v0 v1
        rw [hn, show ((D.k + n : Nat) : Int) - (D.k : Int) = n by omega] at this
        rw [ev_124_4]
        simp only [↓e_iload1, e_rpn, e_rps, e_few0, e_few1, e_few2, e_few3, e_few4, ↓e_cs1, ↓e_if_ne, ↓e_bipush, ↓e_iret, ↓e_aload0, ↓g_39_32, ↓e_iconst, ↓e_cv2, i_39, ↓e_istore2, e_klI, e_klR, e_klX, e_klL, ↓e_imul, ↓e_istore3, ↓e_iload2, ↓e_iadd, ↓g_39_34, ↓e_cmp_ge, ↓g_39_35, ↓e_iload3, ↓e_cv4, ↓e_if_le, ↓e_iinc2, ↓e_goto, ↓x_64, ↓x_66, ↓x_67, ↓e_nil, b_124_0, b_124_1, b_124_2, b_124_3, b_124_4]
        exact this
      have key : ∀ (f n : Nat), n + f = 20 → ∀ (E : Td) (v : ab_W), rd (S.it s) (S.sz s) f n E = D' → E.k = D.k + n → m_fra w v → m_inv v E S → Ev Ls (Sm Ls (d + 3)) q bk_124 3 [vR 39, vI s, vI n, vI (60 * (s : Int))] [] v := by
        intro f
        induction f with
        | zero =>
          intro n hn E v hE hk v0 v1
          have : n = 20 := by omega
          subst this
          have hE : E = D' := hE
          subst hE
          have hx := hexit v 20 v0 v1 hk
          have h3 : v 66 s = S.sz s := (v1.2.1.2 s hs).2.2.1
          have hge : (S.sz s : Int) ≤ iW (iW (3 * ((20 : Nat) : Int)) + 2) := by
            rw [show iW (iW (3 * ((20 : Nat) : Int)) + 2) = 62 by decide]; omega
          rw [ev_124_3]
          simp only [↓e_iload1, e_rpn, e_rps, e_few0, e_few1, e_few2, e_few3, e_few4, ↓e_cs1, ↓e_if_ne, ↓e_bipush, ↓e_iret, ↓e_aload0, ↓g_39_32, ↓e_iconst, ↓e_cv2, i_39, ↓e_istore2, e_klI, e_klR, e_klX, e_klL, ↓e_imul, ↓e_istore3, ↓e_iload2, ↓e_iadd, ↓g_39_34, ↓e_cmp_ge, ↓g_39_35, ↓e_iload3, ↓e_cv4, ↓e_if_le, ↓e_iinc2, ↓e_goto, ↓x_64, ↓x_66, ↓x_67, ↓e_nil, b_124_0, b_124_1, b_124_2, b_124_3, b_124_4, hin, h3, hge, one0, eq_self, ne_eq, not_true_eq_false, not_false_eq_true, true_implies, false_implies, true_and, and_true, and_self]
          exact hx
        | succ f ih =>
          intro n hn E v hE hk v0 v1
          rw [rd_s] at hE
          have hx := fun (v : ab_W) (v0 : m_fra w v) (v1 : m_inv v E S) (g : E = D') => hexit v n v0 (by rw [← g]; exact v1) (by rw [← g]; exact hk)
          obtain ⟨_, _, h3, h4⟩ := v1.2.1.2 s hs
          obtain ⟨w1, w2, w3, w4, w5, w6⟩ : iW (3 * (n : Int)) = 3 * (n : Int) ∧ iW (3 * (n : Int) + 2) = 3 * (n : Int) + 2 ∧ iW (60 * (s : Int) + 3 * (n : Int)) = 60 * (s : Int) + ((3 * n : Nat) : Int) ∧ iW (60 * (s : Int) + ((3 * n : Nat) : Int) + 1) = 60 * (s : Int) + ((3 * n + 1 : Nat) : Int) ∧ iW (60 * (s : Int) + ((3 * n : Nat) : Int) + 2) = 60 * (s : Int) + ((3 * n + 2 : Nat) : Int) ∧ iW ((n : Int) + 1) = (n : Int) + 1 := ⟨iW_id (by omega) (by omega), iW_id (by omega) (by omega), (iW_id (by omega) (by omega)).trans (by omega), (iW_id (by omega) (by omega)).trans (by omega), (iW_id (by omega) (by omega)).trans (by omega), iW_id (by omega) (by omega)⟩
          rw [ev_124_3]
          simp only [↓e_iload1, e_rpn, e_rps, e_few0, e_few1, e_few2, e_few3, e_few4, ↓e_cs1, ↓e_if_ne, ↓e_bipush, ↓e_iret, ↓e_aload0, ↓g_39_32, ↓e_iconst, ↓e_cv2, i_39, ↓e_istore2, e_klI, e_klR, e_klX, e_klL, ↓e_imul, ↓e_istore3, ↓e_iload2, ↓e_iadd, ↓g_39_34, ↓e_cmp_ge, ↓g_39_35, ↓e_iload3, ↓e_cv4, ↓e_if_le, ↓e_iinc2, ↓e_goto, ↓x_64, ↓x_66, ↓x_67, ↓e_nil, b_124_0, b_124_1, b_124_2, b_124_3, b_124_4, hin, h3, w1, w2, w3, w4, w5, one0, eq_self, ne_eq, not_true_eq_false, not_false_eq_true, true_implies, false_implies, true_and, and_true, and_self]
          refine ⟨fun g => hx v v0 v1 (by rw [if_neg (by clear w1 w2 w3 w4 w5 w6; omega)] at hE; exact hE), fun g => ?_⟩
          have n0 : 0 ≤ 60 * (s : Int) + ((3 * n : Nat) : Int) ∧ 60 * (s : Int) + ((3 * n : Nat) : Int) < 240 := by clear w1 w2 w3 w4 w5 w6; omega
          have n1 : 0 ≤ 60 * (s : Int) + ((3 * n + 1 : Nat) : Int) ∧ 60 * (s : Int) + ((3 * n + 1 : Nat) : Int) < 240 := by clear w1 w2 w3 w4 w5 w6; omega
          have n2 : 0 ≤ 60 * (s : Int) + ((3 * n + 2 : Nat) : Int) ∧ 60 * (s : Int) + ((3 * n + 2 : Nat) : Int) < 240 := by clear w1 w2 w3 w4 w5 w6; omega
          simp only [n0, n1, n2, h4 (3 * n) (by clear w1 w2 w3 w4 w5 w6; omega), h4 (3 * n + 1) (by clear w1 w2 w3 w4 w5 w6; omega), h4 (3 * n + 2) (by clear w1 w2 w3 w4 w5 w6; omega), one0, eq_self, ne_eq, not_true_eq_false, not_false_eq_true, true_implies, false_implies, true_and, and_true, and_self]
          refine q_eventM v1 (fun u u0 u1 => ?_)
          simp only [↓e_iload1, e_rpn, e_rps, e_few0, e_few1, e_few2, e_few3, e_few4, ↓e_cs1, ↓e_if_ne, ↓e_bipush, ↓e_iret, ↓e_aload0, ↓g_39_32, ↓e_iconst, ↓e_cv2, i_39, ↓e_istore2, e_klI, e_klR, e_klX, e_klL, ↓e_imul, ↓e_istore3, ↓e_iload2, ↓e_iadd, ↓g_39_34, ↓e_cmp_ge, ↓g_39_35, ↓e_iload3, ↓e_cv4, ↓e_if_le, ↓e_iinc2, ↓e_goto, ↓x_64, ↓x_66, ↓x_67, ↓e_nil, b_124_0, b_124_1, b_124_2, b_124_3, b_124_4, w6]
          clear w1 w2 w3 w4 w5 w6
          by_cases hg : E.k < 8 ∧ ev_ok (S.it s (3 * n)) (S.it s (3 * n + 1)) (S.it s (3 * n + 2))
          · rw [if_pos ⟨by omega, hg⟩] at hE
            have hp : p_event E (S.it s (3 * n)) (S.it s (3 * n + 1)) (S.it s (3 * n + 2)) = ((E.k : Int) + 1, E.ev (S.it s (3 * n)) (S.it s (3 * n + 1)) (S.it s (3 * n + 2))) := by
              unfold p_event; rw [if_pos hg.2, if_pos hg.1]
            rw [hp] at u1
            rw [hp]
            refine ⟨fun z => absurd z (by dsimp only; omega), fun _ => ih (n + 1) (by omega) _ u hE ?_ (v0.trans u0) u1⟩
            show E.k + 1 = D.k + (n + 1)
            omega
          · rw [if_neg (fun z => hg z.2)] at hE
            have hp : (p_event E (S.it s (3 * n)) (S.it s (3 * n + 1)) (S.it s (3 * n + 2))).1 ≤ 0 ∧ (p_event E (S.it s (3 * n)) (S.it s (3 * n + 1)) (S.it s (3 * n + 2))).2 = E := by
              unfold p_event
              by_cases hg2 : ev_ok (S.it s (3 * n)) (S.it s (3 * n + 1)) (S.it s (3 * n + 2))
              · rw [if_pos hg2, if_neg (fun z => hg ⟨z, hg2⟩)]; exact ⟨by show (-4 : Int) ≤ 0; decide, rfl⟩
              · rw [if_neg hg2]; exact ⟨by show (-2 : Int) ≤ 0; decide, rfl⟩
            rw [hp.2] at u1
            exact ⟨fun _ => hx u (v0.trans u0) u1 hE, fun z => absurd hp.1 z⟩
      have w1 : iW (60 * (s : Int)) = 60 * (s : Int) := iW_id (by omega) (by omega)
      simp only [↓e_iload1, e_rpn, e_rps, e_few0, e_few1, e_few2, e_few3, e_few4, ↓e_cs1, ↓e_if_ne, ↓e_bipush, ↓e_iret, ↓e_aload0, ↓g_39_32, ↓e_iconst, ↓e_cv2, i_39, ↓e_istore2, e_klI, e_klR, e_klX, e_klL, ↓e_imul, ↓e_istore3, ↓e_iload2, ↓e_iadd, ↓g_39_34, ↓e_cmp_ge, ↓g_39_35, ↓e_iload3, ↓e_cv4, ↓e_if_le, ↓e_iinc2, ↓e_goto, ↓x_64, ↓x_66, ↓x_67, ↓e_nil, b_124_0, b_124_1, b_124_2, b_124_3, b_124_4, ↓ev_124_2, hin, e1, w1, one0, eq_self, ne_eq, not_true_eq_false, not_false_eq_true, true_implies, false_implies, true_and, and_true, and_self]
      exact key 20 0 (by omega) D w hD' rfl (m_fra.refl w) hi
  · rw [if_neg (by omega)] at h; exact h w (m_fra.refl w) hi
end MSheets62
