/-! the model: rain, stops, strides -/
def bI (b : Bool) : Int := if b = true then 1 else 0
theorem bI_t : bI true = 1 := rfl
theorem bI_f : bI false = 0 := rfl
theorem bI_in (b : Bool) : bI b = 0 ∨ bI b = 1 := by cases b; exact Or.inl rfl; exact Or.inr rfl
/-- the model's events of now, of which those in s count; the length of now -/
def m_now (w : ab_W) (n : Nat) (ek ew en : Nat → Int) (s : Nat) (lg : Int) : Prop :=
  w 39 11 = n ∧ w 39 10 = lg ∧ (∃ mk : Nat, mk < 256 ∧ w 39 15 = mk ∧ ∀ e, e < 8 → s.testBit e = !mk.testBit e) ∧ ∀ e : Nat, e < n → w 46 e = ek e ∧ w 47 e = ew e ∧ w 48 e = en e
theorem e_rn_s {ek ew : Nat → Int} {s m n : Nat} : e_rn ek ew s m (n + 1) = (e_rn ek ew s m n || (s.testBit n && decide (ek n = 0 ∧ ew n ≤ m))) := rfl
theorem e_sd_s {ek ew en : Nat → Int} {s t m n : Nat} : e_sd ek ew en s t m (n + 1) = (e_sd ek ew en s t m n || (s.testBit n && decide (en n = t ∧ ((ek n = 1 ∧ ew n = m) ∨ (ek n = 2 ∧ ew n ≤ m ∧ m ≤ ew n + 2))))) := rfl
section MEv29
variable {Ls d : Nat} {w : ab_W} {q : Option ab_V → ab_W → Prop} {n s : Nat} {ek ew en : Nat → Int} {lg : Int}
theorem q_isRain (hn : m_now w n ek ew en s lg) (hok : e_ok n ek ew en) {m : Nat} (hm : m < 48) (h : q (some (vI (bI (e_rn ek ew s m n)))) w) : Sm Ls (d + 2) 126 [vR 39, vI m] w q := by
  obtain ⟨h1, h2, ⟨mk, k1, k2, k3⟩, h4⟩ := hn
  have hn8 := hok.1
  have key : ∀ (k e : Nat), e + k = n → Ev Ls (Sm Ls (d + 1)) q bk_126 1 [vR 39, vI m, vI (bI (e_rn ek ew s m e)), vI e] [] w := by
    intro k
    induction k with
    | zero =>
      intro e he
      have : e = n := by omega
      subst this
      rw [ev_126_1]
      simp only [↓e_iconst, ↓e_istore2, e_klI, e_klR, e_klX, e_klL, ↓e_istore3, ↓e_iload3, ↓e_aload0, ↓g_39_11, ↓e_cmp_ge, ↓e_iload2, ↓e_if_ne, ↓g_39_12, ↓g_39_13, ↓e_iload1, ↓e_cmp_gt, ↓g_39_15, e_rpn, e_rps, e_few0, e_few1, e_few2, e_few3, e_few4, ↓e_cs2, ↓e_goto, ↓e_iinc3, ↓e_zret, ↓x_46, ↓x_47, ↓e_nil, b_126_0, b_126_1, b_126_2, b_126_3, b_126_4, b_126_5, ↓ev_126_5, h1]
      exact ⟨fun _ => ⟨bI_in _, h⟩, fun z => absurd (Int.le_refl _) z⟩
    | succ k ih =>
      intro e he
      obtain ⟨a1, a2, a3⟩ := h4 e (by omega)
      have hno : ¬ (n : Int) ≤ (e : Int) := by omega
      have hin : 0 ≤ (e : Int) ∧ (e : Int) < 8 := by omega
      have hbit := b_ibit (a := mk) (k := e) (by omega) (by omega)
      have hs := k3 e (by omega)
      have hI : ∀ x : Int, x = bI (e_rn ek ew s m (e + 1)) → Ev Ls (Sm Ls (d + 1)) q bk_126 1 [vR 39, vI m, vI x, vI ((e : Int) + 1)] [] w := fun x hx => by rw [hx]; exact ih (e + 1) (by omega)
      rw [e_rn_s, hs] at hI
      have w1 : iW ((e : Int) + 1) = (e : Int) + 1 := iW_id (by omega) (by omega)
      rw [ev_126_1]
      simp only [↓e_iconst, ↓e_istore2, e_klI, e_klR, e_klX, e_klL, ↓e_istore3, ↓e_iload3, ↓e_aload0, ↓g_39_11, ↓e_cmp_ge, ↓e_iload2, ↓e_if_ne, ↓g_39_12, ↓g_39_13, ↓e_iload1, ↓e_cmp_gt, ↓g_39_15, e_rpn, e_rps, e_few0, e_few1, e_few2, e_few3, e_few4, ↓e_cs2, ↓e_goto, ↓e_iinc3, ↓e_zret, ↓x_46, ↓x_47, ↓e_nil, b_126_0, b_126_1, b_126_2, b_126_3, b_126_4, b_126_5, ↓ev_126_2, ↓ev_126_3, ↓ev_126_4, h1, hno, hin, a1, a2, k2, w1, hbit, false_implies, not_false_eq_true, true_implies, true_and, and_self, q_isIn, ab_yn]
      cases hr : e_rn ek ew s m e with
      | true =>
        rw [hr] at hI
        refine ⟨fun _ => hI 1 rfl, fun z => absurd (by decide) z⟩
      | false =>
        rw [hr] at hI
        refine ⟨fun z => absurd rfl z, fun _ => ⟨fun g1 => hI 0 ?_, fun g1 => ⟨fun g2 => hI 0 ?_, fun g2 => ⟨fun g3 => ⟨fun _ => hI 0 ?_, fun z => absurd (by decide) z⟩, fun g3 => ⟨fun z => absurd trivial z, fun _ => hI 1 ?_⟩⟩⟩⟩⟩
        · simp [bI, g1]
        · have : ¬ ew e ≤ (m : Int) := by clear w1; omega
          simp [bI, this]
        · cases hb : mk.testBit e with
          | true => simp [bI]
          | false => rw [hb] at g3; exact absurd g3 (by decide)
        · have g1' : ek e = 0 := by clear w1; omega
          have g2' : ew e ≤ (m : Int) := by clear w1; omega
          cases hb : mk.testBit e with
          | true => rw [hb] at g3; exact absurd rfl g3
          | false => simp [bI, g1', g2']
  have h0 := key n 0 (by omega)
  rw [en_126]
  simp only [↓e_iconst, ↓e_istore2, e_klI, e_klR, e_klX, e_klL, ↓e_istore3, ↓e_iload3, ↓e_aload0, ↓g_39_11, ↓e_cmp_ge, ↓e_iload2, ↓e_if_ne, ↓g_39_12, ↓g_39_13, ↓e_iload1, ↓e_cmp_gt, ↓g_39_15, e_rpn, e_rps, e_few0, e_few1, e_few2, e_few3, e_few4, ↓e_cs2, ↓e_goto, ↓e_iinc3, ↓e_zret, ↓x_46, ↓x_47, ↓e_nil, b_126_0, b_126_1, b_126_2, b_126_3, b_126_4, b_126_5]
  exact h0
theorem q_stands (hn : m_now w n ek ew en s lg) (hok : e_ok n ek ew en) {m t : Nat} (hm : m < 48) (ht : t < 4) (h : q (some (vI (bI (e_sd ek ew en s t m n)))) w) : Sm Ls (d + 2) 127 [vR 39, vI m, vI t] w q := by
  obtain ⟨h1, h2, ⟨mk, k1, k2, k3⟩, h4⟩ := hn
  have hn8 := hok.1
  have key : ∀ (k e : Nat), e + k = n → ∀ y z : ab_V, Ev Ls (Sm Ls (d + 1)) q bk_127 1 [vR 39, vI m, vI t, vI (bI (e_sd ek ew en s t m e)), vI e, y, z] [] w := by
    intro k
    induction k with
    | zero =>
      intro e he y z
      have : e = n := by omega
      subst this
      rw [ev_127_1]
      simp only [↓e_iconst, ↓e_istore3, e_klI, e_klR, e_klX, e_klL, ↓e_istore4, ↓e_iload4, ↓e_aload0, ↓g_39_11, ↓e_cmp_ge, ↓e_iload1, ↓g_39_13, ↓e_isub, ↓e_istore5, ↓g_39_14, ↓e_iload2, ↓e_cmp_ne, ↓g_39_15, e_rpn, e_rps, e_few0, e_few1, e_few2, e_few3, e_few4, ↓e_cs2, ↓e_if_ne, ↓e_goto, ↓e_istore6, ↓e_iload3, ↓e_iload6, ↓e_if_eq, ↓g_39_12, ↓e_iload5, ↓e_cs3, ↓e_iinc4, ↓e_zret, ↓x_46, ↓x_47, ↓x_48, ↓e_nil, b_127_0, b_127_1, b_127_2, b_127_3, b_127_4, b_127_5, b_127_6, b_127_7, b_127_8, ↓ev_127_8, h1]
      exact ⟨fun _ => ⟨bI_in _, h⟩, fun z => absurd (Int.le_refl _) z⟩
    | succ k ih =>
      intro e he y z
      obtain ⟨a1, a2, a3⟩ := h4 e (by omega)
      obtain ⟨o1, o2, o3⟩ := hok.2 e (by omega)
      have hno : ¬ (n : Int) ≤ (e : Int) := by omega
      have hin : 0 ≤ (e : Int) ∧ (e : Int) < 8 := by omega
      have hbit := b_ibit (a := mk) (k := e) (by omega) (by omega)
      have hs := k3 e (by omega)
      have hI : ∀ (x : Int) (y z : ab_V), x = bI (e_sd ek ew en s t m (e + 1)) → Ev Ls (Sm Ls (d + 1)) q bk_127 1 [vR 39, vI m, vI t, vI x, vI ((e : Int) + 1), y, z] [] w := fun x y z hx => by rw [hx]; exact ih (e + 1) (by omega) y z
      rw [e_sd_s, hs] at hI
      obtain ⟨w1, w2⟩ : iW ((e : Int) + 1) = (e : Int) + 1 ∧ iW ((m : Int) - ew e) = (m : Int) - ew e := ⟨iW_id (by omega) (by omega), iW_id (by omega) (by omega)⟩
      -- behind 'its'
      have h3 : ∀ b : Bool, (b = true ↔ (en e = t ∧ mk.testBit e = false)) → Ev Ls (Sm Ls (d + 1)) q bk_127 3 [vR 39, vI m, vI t, vI (bI (e_sd ek ew en s t m e)), vI e, vI ((m : Int) - ew e), z] [vI (bI b)] w := fun b hb => by
        rw [ev_127_3]
        simp only [↓e_iconst, ↓e_istore3, e_klI, e_klR, e_klX, e_klL, ↓e_istore4, ↓e_iload4, ↓e_aload0, ↓g_39_11, ↓e_cmp_ge, ↓e_iload1, ↓g_39_13, ↓e_isub, ↓e_istore5, ↓g_39_14, ↓e_iload2, ↓e_cmp_ne, ↓g_39_15, e_rpn, e_rps, e_few0, e_few1, e_few2, e_few3, e_few4, ↓e_cs2, ↓e_if_ne, ↓e_goto, ↓e_istore6, ↓e_iload3, ↓e_iload6, ↓e_if_eq, ↓g_39_12, ↓e_iload5, ↓e_cs3, ↓e_iinc4, ↓e_zret, ↓x_46, ↓x_47, ↓x_48, ↓e_nil, b_127_0, b_127_1, b_127_2, b_127_3, b_127_4, b_127_5, b_127_6, b_127_7, b_127_8, ↓ev_127_4, ↓ev_127_5, ↓ev_127_6, ↓ev_127_7, hin, a1, w1, false_implies, not_false_eq_true, true_implies, true_and, and_self, q_in, ab_yn]
        cases hr : e_sd ek ew en s t m e with
        | true =>
          rw [hr] at hI
          refine ⟨fun _ => hI 1 _ _ rfl, fun z => absurd (by decide) z⟩
        | false =>
          rw [hr] at hI
          cases b with
          | false =>
            have hno2 : ¬ (en e = t ∧ mk.testBit e = false) := fun z => by have := hb.mpr z; cases this
            have hI0 := fun y z => hI 0 y z (by
              cases hbb : mk.testBit e with
              | true => rfl
              | false =>
                have : ¬ en e = t := fun z => hno2 ⟨z, hbb⟩
                simp [bI, this])
            refine ⟨fun z => absurd rfl z, fun _ => ⟨fun _ => hI0 _ _, fun z => absurd rfl z⟩⟩
          | true =>
            obtain ⟨g1, g2⟩ := hb.mp rfl
            rw [g2] at hI
            have hI0 : ¬ ((ek e = 1 ∧ ew e = m) ∨ (ek e = 2 ∧ ew e ≤ m ∧ m ≤ ew e + 2)) → ∀ y z, Ev Ls (Sm Ls (d + 1)) q bk_127 1 [vR 39, vI m, vI t, vI 0, vI ((e : Int) + 1), y, z] [] w := fun hx y z => hI 0 y z (by simp [bI, g1, hx])
            have hI1 : ((ek e = 1 ∧ ew e = m) ∨ (ek e = 2 ∧ ew e ≤ m ∧ m ≤ ew e + 2)) → ∀ y z, Ev Ls (Sm Ls (d + 1)) q bk_127 1 [vR 39, vI m, vI t, vI 1, vI ((e : Int) + 1), y, z] [] w := fun hx y z => hI 1 y z (by simp [bI, g1, hx])
            clear hI w1 w2
            refine ⟨fun z => absurd rfl z, fun _ => ⟨fun z => absurd z (by decide), fun _ => ⟨fun c1 => ⟨fun c2 => hI0 (by omega) _ _, fun c2 => ⟨fun c3 => ⟨fun z => absurd z (by decide), fun _ => hI1 (by omega) _ _⟩, fun c3 => ⟨hI0 (by omega) _ _, fun z => absurd trivial z⟩⟩⟩, fun c1 => ⟨fun c2 => hI1 (by omega) _ _, fun c2 => ⟨fun c3 => hI0 (by omega) _ _, fun c3 => absurd c1 (by omega)⟩⟩⟩⟩⟩
      have h3t := h3 true
      have h3f := h3 false
      rw [ev_127_1]
      simp only [↓e_iconst, ↓e_istore3, e_klI, e_klR, e_klX, e_klL, ↓e_istore4, ↓e_iload4, ↓e_aload0, ↓g_39_11, ↓e_cmp_ge, ↓e_iload1, ↓g_39_13, ↓e_isub, ↓e_istore5, ↓g_39_14, ↓e_iload2, ↓e_cmp_ne, ↓g_39_15, e_rpn, e_rps, e_few0, e_few1, e_few2, e_few3, e_few4, ↓e_cs2, ↓e_if_ne, ↓e_goto, ↓e_istore6, ↓e_iload3, ↓e_iload6, ↓e_if_eq, ↓g_39_12, ↓e_iload5, ↓e_cs3, ↓e_iinc4, ↓e_zret, ↓x_46, ↓x_47, ↓x_48, ↓e_nil, b_127_0, b_127_1, b_127_2, b_127_3, b_127_4, b_127_5, b_127_6, b_127_7, b_127_8, ↓ev_127_2, h1, hno, hin, a2, a3, k2, w2, hbit, false_implies, not_false_eq_true, true_implies, true_and, and_self, q_isIn, ab_yn]
      refine ⟨fun g1 => h3f ⟨fun z => (by cases z), fun z => absurd z.1 g1⟩, fun g1 => ⟨fun g3 => ⟨fun _ => h3f ⟨fun z => (by cases z), fun z => ?_⟩, fun z => absurd (by decide) z⟩, fun g3 => ⟨fun z => absurd trivial z, fun _ => h3t ⟨fun _ => ⟨by clear w1 w2; omega, ?_⟩, fun _ => rfl⟩⟩⟩⟩
      · rw [z.2] at g3; exact absurd g3 (by decide)
      · cases hb : mk.testBit e with
        | true => rw [hb] at g3; exact absurd rfl g3
        | false => rfl
  have h0 := key n 0 (by omega) vX vX
  rw [en_127]
  simp only [↓e_iconst, ↓e_istore3, e_klI, e_klR, e_klX, e_klL, ↓e_istore4, ↓e_iload4, ↓e_aload0, ↓g_39_11, ↓e_cmp_ge, ↓e_iload1, ↓g_39_13, ↓e_isub, ↓e_istore5, ↓g_39_14, ↓e_iload2, ↓e_cmp_ne, ↓g_39_15, e_rpn, e_rps, e_few0, e_few1, e_few2, e_few3, e_few4, ↓e_cs2, ↓e_if_ne, ↓e_goto, ↓e_istore6, ↓e_iload3, ↓e_iload6, ↓e_if_eq, ↓g_39_12, ↓e_iload5, ↓e_cs3, ↓e_iinc4, ↓e_zret, ↓x_46, ↓x_47, ↓x_48, ↓e_nil, b_127_0, b_127_1, b_127_2, b_127_3, b_127_4, b_127_5, b_127_6, b_127_7, b_127_8]
  exact h0
theorem q_strideM {a b c : Int} {r : Bool} (ha : 0 ≤ a ∧ a < 20) (hp : 1 ≤ w 42 a ∧ w 42 a ≤ 9) (hc : c = bI r) (h : q (some (vI (t_str (w 41 a) (w 42 a) b r))) w) : Sm Ls (d + 1) 128 [vR 39, vI a, vI b, vI c] w q := by
  have h8 : ∀ x y : Int, y = bI r → (0 ≤ x ∧ x ≤ 10) → t_str (w 41 a) (w 42 a) b r = (if x - y < 1 then 1 else x - y) → Ev Ls (Sm Ls d) q bk_128 8 [vR 39, vI a, vI b, vI c, vI x] [vI y, vI x] w := fun x y hy hx he => by
    have hy2 := bI_in r
    have w1 : iW (x - y) = x - y := iW_id (by omega) (by omega)
    rw [ev_128_8]
    simp only [↓e_aload0, ↓g_39_4, ↓e_iload1, ↓e_istore4, e_klI, e_klR, e_klX, e_klL, ↓e_iload4, ↓g_39_3, ↓e_if_ne, ↓e_iload2, ↓e_iconst, ↓e_cmp_ge, ↓e_goto, ↓e_bipush, ↓e_iadd, ↓e_cmp_ne, ↓e_isub, ↓e_iload3, ↓e_if_eq, ↓e_iret, ↓x_41, ↓x_42, ↓e_nil, b_128_0, b_128_1, b_128_2, b_128_3, b_128_4, b_128_5, b_128_6, b_128_7, b_128_8, b_128_9, b_128_10, ↓ev_128_9, ↓ev_128_10, w1]
    rw [he] at h
    refine ⟨fun g => ?_, fun g => ?_⟩
    · rw [if_neg (by clear w1; omega)] at h; exact h
    · rw [if_pos (by clear w1; omega)] at h; exact h
  have h6 : ∀ x y : Int, (0 ≤ y ∧ y ≤ 1) → (0 ≤ x - y ∧ x - y ≤ 10 ∧ x ≤ 10) → t_str (w 41 a) (w 42 a) b r = (if x - y - bI r < 1 then 1 else x - y - bI r) → Ev Ls (Sm Ls d) q bk_128 6 [vR 39, vI a, vI b, vI c, vI x] [vI y, vI x] w := fun x y hy hx he => by
    have w1 : iW (x - y) = x - y := iW_id (by omega) (by omega)
    rw [ev_128_6]
    simp only [↓e_aload0, ↓g_39_4, ↓e_iload1, ↓e_istore4, e_klI, e_klR, e_klX, e_klL, ↓e_iload4, ↓g_39_3, ↓e_if_ne, ↓e_iload2, ↓e_iconst, ↓e_cmp_ge, ↓e_goto, ↓e_bipush, ↓e_iadd, ↓e_cmp_ne, ↓e_isub, ↓e_iload3, ↓e_if_eq, ↓e_iret, ↓x_41, ↓x_42, ↓e_nil, b_128_0, b_128_1, b_128_2, b_128_3, b_128_4, b_128_5, b_128_6, b_128_7, b_128_8, b_128_9, b_128_10, ↓ev_128_7, w1]
    rw [hc]
    cases r with
    | true => exact ⟨fun z => absurd z (by decide), fun _ => hc ▸ h8 (x - y) 1 rfl (by clear w1; omega) he⟩
    | false => exact ⟨fun _ => hc ▸ h8 (x - y) 0 rfl (by clear w1; omega) he, fun z => absurd rfl z⟩
  have h4 : ∀ y : Int, (y = if w 41 a = 0 then (if b < 3 then 1 else if b < 6 then 0 else -1) else 0) → Ev Ls (Sm Ls d) q bk_128 4 [vR 39, vI a, vI b, vI c, vI (w 42 a)] [vI y, vI (w 42 a)] w := fun y hy => by
    have hy2 : -1 ≤ y ∧ y ≤ 1 := by rw [hy]; repeat' split
                                    all_goals omega
    have hb2 := bI_in r
    have he1 : w 41 a = 2 → b = 0 → t_str (w 41 a) (w 42 a) b r = (if w 42 a + y - 1 - bI r < 1 then 1 else w 42 a + y - 1 - bI r) := fun g1 g2 => by
      rw [hy]; unfold t_str bI
      rw [if_pos (show w 41 a = 2 ∧ b = 0 from ⟨g1, g2⟩)]
    have he2 : ¬ (w 41 a = 2 ∧ b = 0) → t_str (w 41 a) (w 42 a) b r = (if w 42 a + y - 0 - bI r < 1 then 1 else w 42 a + y - 0 - bI r) := fun g1 => by
      rw [hy]; unfold t_str bI
      rw [if_neg g1]
    have h61 := h6 (w 42 a + y) 1 (by omega)
    have h60 := h6 (w 42 a + y) 0 (by omega)
    have hy3 : w 41 a = 2 → y = 0 := fun g => by rw [hy, if_neg (by omega)]
    have w1 : iW (w 42 a + y) = w 42 a + y := iW_id (by omega) (by omega)
    rw [ev_128_4]
    simp only [↓e_aload0, ↓g_39_4, ↓e_iload1, ↓e_istore4, e_klI, e_klR, e_klX, e_klL, ↓e_iload4, ↓g_39_3, ↓e_if_ne, ↓e_iload2, ↓e_iconst, ↓e_cmp_ge, ↓e_goto, ↓e_bipush, ↓e_iadd, ↓e_cmp_ne, ↓e_isub, ↓e_iload3, ↓e_if_eq, ↓e_iret, ↓x_41, ↓x_42, ↓e_nil, b_128_0, b_128_1, b_128_2, b_128_3, b_128_4, b_128_5, b_128_6, b_128_7, b_128_8, b_128_9, b_128_10, ↓ev_128_5, ha, w1, and_self, true_and]
    refine ⟨fun g1 => h60 (by clear w1; omega) (he2 (fun z => g1 z.1)), fun g1 => ⟨fun g2 => h60 (by clear w1; omega) (he2 (fun z => g2 z.2)), fun g2 => h61 (by have := hy3 (by clear w1; omega); clear w1; omega) (he1 (by clear w1; omega) (by clear w1; omega))⟩⟩
  rw [en_128]
  simp only [↓e_aload0, ↓g_39_4, ↓e_iload1, ↓e_istore4, e_klI, e_klR, e_klX, e_klL, ↓e_iload4, ↓g_39_3, ↓e_if_ne, ↓e_iload2, ↓e_iconst, ↓e_cmp_ge, ↓e_goto, ↓e_bipush, ↓e_iadd, ↓e_cmp_ne, ↓e_isub, ↓e_iload3, ↓e_if_eq, ↓e_iret, ↓x_41, ↓x_42, ↓e_nil, b_128_0, b_128_1, b_128_2, b_128_3, b_128_4, b_128_5, b_128_6, b_128_7, b_128_8, b_128_9, b_128_10, ↓ev_128_1, ↓ev_128_2, ↓ev_128_3, ha, and_self, true_and]
  refine ⟨fun g1 => h4 0 (by rw [if_neg g1]), fun g1 => ⟨fun g2 => ⟨fun g3 => h4 (-1) (by rw [if_pos (by omega), if_neg (by omega), if_neg (by omega)]), fun g3 => h4 0 (by rw [if_pos (by omega), if_neg (by omega), if_pos (by omega)])⟩, fun g2 => h4 1 (by rw [if_pos (by omega), if_pos (by omega)])⟩⟩
end MEv29
