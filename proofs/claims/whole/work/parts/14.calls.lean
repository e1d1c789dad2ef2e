/-! so all calls keep their contracts, at any depth -/
theorem ab_moq_ok {k : Nat} {r : ab_M} (h : ab_moq k = true) (hr : ab_mt k = some r) : ab_mok r ∧ ∃ q, ab_mps[k]? = some q ∧ ab_own q.1 = r.1.cls := by
  unfold ab_moq at h
  have hr : ab_MT[k]? = some r := hr
  rw [hr] at h
  split at h
  · rename_i r' q e1 e2
    cases e1
    simp only [Bool.and_eq_true, decide_eq_true_eq] at h
    obtain ⟨⟨⟨⟨⟨⟨h1, h2⟩, h3⟩, h4⟩, h5⟩, h6⟩, h7⟩ := h
    refine ⟨⟨ab_wd_ok h1, ab_wd_ok h2, h3, h4, h5, fun hs => ?_, fun hs => ?_⟩, q, e2, h6⟩
    · rw [if_pos hs] at h7; exact ab_wd_ok h7
    · rw [if_neg (by rw [hs]; decide)] at h7
      rw [Bool.and_eq_true] at h7
      exact ⟨ab_wd_ok h7.1, ab_wd_ok h7.2⟩
  · cases h
theorem ab_ckn {k oc : Nat} {r : ab_M} {pcs : List Nat} {bl : List (List ab_I)} (h : (ab_qm oc r.2.1 r.2.2.2.1 r.2.2.1 pcs bl && ab_moq k) = true) (hr : ab_mt k = some r) (ho : ab_own oc = r.1.cls) : ab_mok r ∧ ab_ckm ab_mt r.1.cls r.2.1 r.2.2.2.1 r.2.2.1 pcs bl := by
  rw [Bool.and_eq_true] at h
  exact ⟨(ab_moq_ok h.2 hr).1, ho ▸ ab_qm_ok h.1⟩
def ab_fine (k : Nat) : Prop := ∀ r b, ab_mt k = some r → ab_bd k = some b → ab_mok r ∧ ab_ckm ab_mt r.1.cls r.2.1 r.2.2.2.1 r.2.2.1 b.1 b.2
theorem fi_0 : ab_fine 0 := fun r b h1 h2 => by
  cases h1; cases h2
  exact ab_ckn ck_0 rfl rfl
theorem fi_1 : ab_fine 1 := fun r b h1 h2 => by
  cases h1; cases h2
  exact ab_ckn ck_1 rfl rfl
theorem fi_2 : ab_fine 2 := fun r b h1 h2 => by
  cases h1; cases h2
  exact ab_ckn ck_2 rfl rfl
theorem fi_3 : ab_fine 3 := fun r b h1 h2 => by
  cases h1; cases h2
  exact ab_ckn ck_3 rfl rfl
theorem fi_4 : ab_fine 4 := fun r b h1 h2 => by
  cases h1; cases h2
  exact ab_ckn ck_4 rfl rfl
theorem fi_5 : ab_fine 5 := fun r b h1 h2 => by
  cases h1; cases h2
  exact ab_ckn ck_5 rfl rfl
theorem fi_6 : ab_fine 6 := fun r b h1 h2 => by
  cases h1; cases h2
  exact ab_ckn ck_6 rfl rfl
theorem fi_7 : ab_fine 7 := fun r b h1 h2 => by
  cases h1; cases h2
  exact ab_ckn ck_7 rfl rfl
theorem fi_8 : ab_fine 8 := fun r b h1 h2 => by
  cases h1; cases h2
  exact ab_ckn ck_8 rfl rfl
theorem fi_9 : ab_fine 9 := fun r b h1 h2 => by
  cases h1; cases h2
  exact ab_ckn ck_9 rfl rfl
theorem fi_10 : ab_fine 10 := fun r b h1 h2 => by
  cases h1; cases h2
  exact ab_ckn ck_10 rfl rfl
theorem fi_11 : ab_fine 11 := fun r b h1 h2 => by
  cases h1; cases h2
  exact ab_ckn ck_11 rfl rfl
theorem fi_12 : ab_fine 12 := fun r b h1 h2 => by
  cases h1; cases h2
  exact ab_ckn ck_12 rfl rfl
theorem fi_13 : ab_fine 13 := fun r b h1 h2 => by
  cases h1; cases h2
  exact ab_ckn ck_13 rfl rfl
theorem fi_14 : ab_fine 14 := fun r b h1 h2 => by
  cases h1; cases h2
  exact ab_ckn ck_14 rfl rfl
theorem fi_15 : ab_fine 15 := fun r b h1 h2 => by
  cases h1; cases h2
  exact ab_ckn ck_15 rfl rfl
theorem fi_16 : ab_fine 16 := fun r b h1 h2 => by
  cases h1; cases h2
  exact ab_ckn ck_16 rfl rfl
theorem fi_17 : ab_fine 17 := fun r b h1 h2 => by
  cases h1; cases h2
  exact ab_ckn ck_17 rfl rfl
theorem fi_18 : ab_fine 18 := fun r b h1 h2 => by
  cases h1; cases h2
  exact ab_ckn ck_18 rfl rfl
theorem fi_19 : ab_fine 19 := fun r b h1 h2 => by
  cases h1; cases h2
  exact ab_ckn ck_19 rfl rfl
theorem fi_20 : ab_fine 20 := fun r b h1 h2 => by
  cases h1; cases h2
  exact ab_ckn ck_20 rfl rfl
theorem fi_21 : ab_fine 21 := fun r b h1 h2 => by
  cases h1; cases h2
  exact ab_ckn ck_21 rfl rfl
theorem fi_22 : ab_fine 22 := fun r b h1 h2 => by
  cases h1; cases h2
  exact ab_ckn ck_22 rfl rfl
theorem fi_23 : ab_fine 23 := fun r b h1 h2 => by
  cases h1; cases h2
  exact ab_ckn ck_23 rfl rfl
theorem fi_24 : ab_fine 24 := fun r b h1 h2 => by
  cases h1; cases h2
  exact ab_ckn ck_24 rfl rfl
theorem fi_25 : ab_fine 25 := fun r b h1 h2 => by
  cases h1; cases h2
  exact ab_ckn ck_25 rfl rfl
theorem fi_26 : ab_fine 26 := fun r b h1 h2 => by
  cases h1; cases h2
  exact ab_ckn ck_26 rfl rfl
theorem fi_27 : ab_fine 27 := fun r b h1 h2 => by
  cases h1; cases h2
  exact ab_ckn ck_27 rfl rfl
theorem fi_28 : ab_fine 28 := fun r b h1 h2 => by
  cases h1; cases h2
  exact ab_ckn ck_28 rfl rfl
theorem fi_29 : ab_fine 29 := fun r b h1 h2 => by
  cases h1; cases h2
  exact ab_ckn ck_29 rfl rfl
theorem fi_30 : ab_fine 30 := fun r b h1 h2 => by
  cases h1; cases h2
  exact ab_ckn ck_30 rfl rfl
theorem fi_31 : ab_fine 31 := fun r b h1 h2 => by
  cases h1; cases h2
  exact ab_ckn ck_31 rfl rfl
theorem fi_32 : ab_fine 32 := fun r b h1 h2 => by
  cases h1; cases h2
  exact ab_ckn ck_32 rfl rfl
theorem fi_33 : ab_fine 33 := fun r b h1 h2 => by
  cases h1; cases h2
  exact ab_ckn ck_33 rfl rfl
theorem fi_34 : ab_fine 34 := fun r b h1 h2 => by
  cases h1; cases h2
  exact ab_ckn ck_34 rfl rfl
theorem fi_35 : ab_fine 35 := fun r b h1 h2 => by
  cases h1; cases h2
  exact ab_ckn ck_35 rfl rfl
theorem fi_36 : ab_fine 36 := fun r b h1 h2 => by
  cases h1; cases h2
  exact ab_ckn ck_36 rfl rfl
theorem fi_37 : ab_fine 37 := fun r b h1 h2 => by
  cases h1; cases h2
  exact ab_ckn ck_37 rfl rfl
theorem fi_38 : ab_fine 38 := fun r b h1 h2 => by
  cases h1; cases h2
  exact ab_ckn ck_38 rfl rfl
theorem fi_39 : ab_fine 39 := fun r b h1 h2 => by
  cases h1; cases h2
  exact ab_ckn ck_39 rfl rfl
theorem fi_40 : ab_fine 40 := fun r b h1 h2 => by
  cases h1; cases h2
  exact ab_ckn ck_40 rfl rfl
theorem fi_41 : ab_fine 41 := fun r b h1 h2 => by
  cases h1; cases h2
  exact ab_ckn ck_41 rfl rfl
theorem fi_42 : ab_fine 42 := fun r b h1 h2 => by
  cases h1; cases h2
  exact ab_ckn ck_42 rfl rfl
theorem fi_43 : ab_fine 43 := fun r b h1 h2 => by
  cases h1; cases h2
  exact ab_ckn ck_43 rfl rfl
theorem fi_44 : ab_fine 44 := fun r b h1 h2 => by
  cases h1; cases h2
  exact ab_ckn ck_44 rfl rfl
theorem fi_45 : ab_fine 45 := fun r b h1 h2 => by
  cases h1; cases h2
  exact ab_ckn ck_45 rfl rfl
theorem fi_46 : ab_fine 46 := fun r b h1 h2 => by
  cases h1; cases h2
  exact ab_ckn ck_46 rfl rfl
theorem fi_47 : ab_fine 47 := fun r b h1 h2 => by
  cases h1; cases h2
  exact ab_ckn ck_47 rfl rfl
theorem fi_48 : ab_fine 48 := fun r b h1 h2 => by
  cases h1; cases h2
  exact ab_ckn ck_48 rfl rfl
theorem fi_49 : ab_fine 49 := fun r b h1 h2 => by
  cases h1; cases h2
  exact ab_ckn ck_49 rfl rfl
theorem fi_50 : ab_fine 50 := fun r b h1 h2 => by
  cases h1; cases h2
  exact ab_ckn ck_50 rfl rfl
theorem fi_51 : ab_fine 51 := fun r b h1 h2 => by
  cases h1; cases h2
  exact ab_ckn ck_51 rfl rfl
theorem fi_52 : ab_fine 52 := fun r b h1 h2 => by
  cases h1; cases h2
  exact ab_ckn ck_52 rfl rfl
theorem fi_53 : ab_fine 53 := fun r b h1 h2 => by
  cases h1; cases h2
  exact ab_ckn ck_53 rfl rfl
theorem fi_54 : ab_fine 54 := fun r b h1 h2 => by
  cases h1; cases h2
  exact ab_ckn ck_54 rfl rfl
theorem fi_55 : ab_fine 55 := fun r b h1 h2 => by
  cases h1; cases h2
  exact ab_ckn ck_55 rfl rfl
theorem fi_56 : ab_fine 56 := fun r b h1 h2 => by
  cases h1; cases h2
  exact ab_ckn ck_56 rfl rfl
theorem fi_57 : ab_fine 57 := fun r b h1 h2 => by
  cases h1; cases h2
  exact ab_ckn ck_57 rfl rfl
theorem fi_58 : ab_fine 58 := fun r b h1 h2 => by
  cases h1; cases h2
  exact ab_ckn ck_58 rfl rfl
theorem fi_59 : ab_fine 59 := fun r b h1 h2 => by
  cases h1; cases h2
  exact ab_ckn ck_59 rfl rfl
theorem fi_60 : ab_fine 60 := fun r b h1 h2 => by
  cases h1; cases h2
  exact ab_ckn ck_60 rfl rfl
theorem fi_61 : ab_fine 61 := fun r b h1 h2 => by
  cases h1; cases h2
  exact ab_ckn ck_61 rfl rfl
theorem fi_62 : ab_fine 62 := fun r b h1 h2 => by
  cases h1; cases h2
  exact ab_ckn ck_62 rfl rfl
theorem fi_63 : ab_fine 63 := fun r b h1 h2 => by
  cases h1; cases h2
  exact ab_ckn ck_63 rfl rfl
theorem fi_64 : ab_fine 64 := fun r b h1 h2 => by
  cases h1; cases h2
  exact ab_ckn ck_64 rfl rfl
theorem fi_65 : ab_fine 65 := fun r b h1 h2 => by
  cases h1; cases h2
  exact ab_ckn ck_65 rfl rfl
theorem fi_66 : ab_fine 66 := fun r b h1 h2 => by
  cases h1; cases h2
  exact ab_ckn ck_66 rfl rfl
theorem fi_67 : ab_fine 67 := fun r b h1 h2 => by
  cases h1; cases h2
  exact ab_ckn ck_67 rfl rfl
theorem fi_68 : ab_fine 68 := fun r b h1 h2 => by
  cases h1; cases h2
  exact ab_ckn ck_68 rfl rfl
theorem fi_69 : ab_fine 69 := fun r b h1 h2 => by
  cases h1; cases h2
  exact ab_ckn ck_69 rfl rfl
theorem fi_70 : ab_fine 70 := fun r b h1 h2 => by
  cases h1; cases h2
  exact ab_ckn ck_70 rfl rfl
theorem fi_71 : ab_fine 71 := fun r b h1 h2 => by
  cases h1; cases h2
  exact ab_ckn ck_71 rfl rfl
theorem fi_72 : ab_fine 72 := fun r b h1 h2 => by
  cases h1; cases h2
  exact ab_ckn ck_72 rfl rfl
theorem fi_73 : ab_fine 73 := fun r b h1 h2 => by
  cases h1; cases h2
  exact ab_ckn ck_73 rfl rfl
theorem fi_74 : ab_fine 74 := fun r b h1 h2 => by
  cases h1; cases h2
  exact ab_ckn ck_74 rfl rfl
theorem fi_75 : ab_fine 75 := fun r b h1 h2 => by
  cases h1; cases h2
  exact ab_ckn ck_75 rfl rfl
theorem fi_76 : ab_fine 76 := fun r b h1 h2 => by
  cases h1; cases h2
  exact ab_ckn ck_76 rfl rfl
theorem fi_77 : ab_fine 77 := fun r b h1 h2 => by
  cases h1; cases h2
  exact ab_ckn ck_77 rfl rfl
theorem fi_78 : ab_fine 78 := fun r b h1 h2 => by
  cases h1; cases h2
  exact ab_ckn ck_78 rfl rfl
theorem fi_79 : ab_fine 79 := fun r b h1 h2 => by
  cases h1; cases h2
  exact ab_ckn ck_79 rfl rfl
theorem fi_80 : ab_fine 80 := fun r b h1 h2 => by
  cases h1; cases h2
  exact ab_ckn ck_80 rfl rfl
theorem fi_81 : ab_fine 81 := fun r b h1 h2 => by
  cases h1; cases h2
  exact ab_ckn ck_81 rfl rfl
theorem fi_82 : ab_fine 82 := fun r b h1 h2 => by
  cases h1; cases h2
  exact ab_ckn ck_82 rfl rfl
theorem fi_83 : ab_fine 83 := fun r b h1 h2 => by
  cases h1; cases h2
  exact ab_ckn ck_83 rfl rfl
theorem fi_84 : ab_fine 84 := fun r b h1 h2 => by
  cases h1; cases h2
  exact ab_ckn ck_84 rfl rfl
theorem fi_85 : ab_fine 85 := fun r b h1 h2 => by
  cases h1; cases h2
  exact ab_ckn ck_85 rfl rfl
theorem fi_86 : ab_fine 86 := fun r b h1 h2 => by
  cases h1; cases h2
  exact ab_ckn ck_86 rfl rfl
theorem fi_87 : ab_fine 87 := fun r b h1 h2 => by
  cases h1; cases h2
  exact ab_ckn ck_87 rfl rfl
theorem fi_88 : ab_fine 88 := fun r b h1 h2 => by
  cases h1; cases h2
  exact ab_ckn ck_88 rfl rfl
theorem fi_89 : ab_fine 89 := fun r b h1 h2 => by
  cases h1; cases h2
  exact ab_ckn ck_89 rfl rfl
theorem fi_90 : ab_fine 90 := fun r b h1 h2 => by
  cases h1; cases h2
  exact ab_ckn ck_90 rfl rfl
theorem fi_91 : ab_fine 91 := fun r b h1 h2 => by
  cases h1; cases h2
  exact ab_ckn ck_91 rfl rfl
theorem fi_92 : ab_fine 92 := fun r b h1 h2 => by
  cases h1; cases h2
  exact ab_ckn ck_92 rfl rfl
theorem fi_93 : ab_fine 93 := fun r b h1 h2 => by
  cases h1; cases h2
  exact ab_ckn ck_93 rfl rfl
theorem fi_94 : ab_fine 94 := fun r b h1 h2 => by
  cases h1; cases h2
  exact ab_ckn ck_94 rfl rfl
theorem fi_95 : ab_fine 95 := fun r b h1 h2 => by
  cases h1; cases h2
  exact ab_ckn ck_95 rfl rfl
theorem fi_96 : ab_fine 96 := fun r b h1 h2 => by
  cases h1; cases h2
  exact ab_ckn ck_96 rfl rfl
theorem fi_97 : ab_fine 97 := fun r b h1 h2 => by
  cases h1; cases h2
  exact ab_ckn ck_97 rfl rfl
theorem fi_98 : ab_fine 98 := fun r b h1 h2 => by
  cases h1; cases h2
  exact ab_ckn ck_98 rfl rfl
theorem fi_99 : ab_fine 99 := fun r b h1 h2 => by
  cases h1; cases h2
  exact ab_ckn ck_99 rfl rfl
theorem fi_100 : ab_fine 100 := fun r b h1 h2 => by
  cases h1; cases h2
  exact ab_ckn ck_100 rfl rfl
theorem fi_101 : ab_fine 101 := fun r b h1 h2 => by
  cases h1; cases h2
  exact ab_ckn ck_101 rfl rfl
theorem fi_102 : ab_fine 102 := fun r b h1 h2 => by
  cases h1; cases h2
  exact ab_ckn ck_102 rfl rfl
theorem fi_103 : ab_fine 103 := fun r b h1 h2 => by
  cases h1; cases h2
  exact ab_ckn ck_103 rfl rfl
theorem fi_104 : ab_fine 104 := fun r b h1 h2 => by
  cases h1; cases h2
  exact ab_ckn ck_104 rfl rfl
theorem fi_105 : ab_fine 105 := fun r b h1 h2 => by
  cases h1; cases h2
  exact ab_ckn ck_105 rfl rfl
theorem fi_106 : ab_fine 106 := fun r b h1 h2 => by
  cases h1; cases h2
  exact ab_ckn ck_106 rfl rfl
theorem fi_107 : ab_fine 107 := fun r b h1 h2 => by
  cases h1; cases h2
  exact ab_ckn ck_107 rfl rfl
theorem fi_108 : ab_fine 108 := fun r b h1 h2 => by
  cases h1; cases h2
  exact ab_ckn ck_108 rfl rfl
theorem fi_109 : ab_fine 109 := fun r b h1 h2 => by
  cases h1; cases h2
  exact ab_ckn ck_109 rfl rfl
theorem fi_110 : ab_fine 110 := fun r b h1 h2 => by
  cases h1; cases h2
  exact ab_ckn ck_110 rfl rfl
theorem fi_111 : ab_fine 111 := fun r b h1 h2 => by
  cases h1; cases h2
  exact ab_ckn ck_111 rfl rfl
theorem fi_112 : ab_fine 112 := fun r b h1 h2 => by
  cases h1; cases h2
  exact ab_ckn ck_112 rfl rfl
theorem fi_113 : ab_fine 113 := fun r b h1 h2 => by
  cases h1; cases h2
  exact ab_ckn ck_113 rfl rfl
theorem fi_114 : ab_fine 114 := fun r b h1 h2 => by
  cases h1; cases h2
  exact ab_ckn ck_114 rfl rfl
theorem fi_115 : ab_fine 115 := fun r b h1 h2 => by
  cases h1; cases h2
  exact ab_ckn ck_115 rfl rfl
theorem fi_116 : ab_fine 116 := fun r b h1 h2 => by
  cases h1; cases h2
  exact ab_ckn ck_116 rfl rfl
theorem fi_117 : ab_fine 117 := fun r b h1 h2 => by
  cases h1; cases h2
  exact ab_ckn ck_117 rfl rfl
theorem fi_118 : ab_fine 118 := fun r b h1 h2 => by
  cases h1; cases h2
  exact ab_ckn ck_118 rfl rfl
theorem fi_119 : ab_fine 119 := fun r b h1 h2 => by
  cases h1; cases h2
  exact ab_ckn ck_119 rfl rfl
theorem fi_120 : ab_fine 120 := fun r b h1 h2 => by
  cases h1; cases h2
  exact ab_ckn ck_120 rfl rfl
theorem fi_121 : ab_fine 121 := fun r b h1 h2 => by
  cases h1; cases h2
  exact ab_ckn ck_121 rfl rfl
theorem fi_122 : ab_fine 122 := fun r b h1 h2 => by
  cases h1; cases h2
  exact ab_ckn ck_122 rfl rfl
theorem fi_123 : ab_fine 123 := fun r b h1 h2 => by
  cases h1; cases h2
  exact ab_ckn ck_123 rfl rfl
theorem fi_124 : ab_fine 124 := fun r b h1 h2 => by
  cases h1; cases h2
  exact ab_ckn ck_124 rfl rfl
theorem fi_125 : ab_fine 125 := fun r b h1 h2 => by
  cases h1; cases h2
  exact ab_ckn ck_125 rfl rfl
theorem fi_126 : ab_fine 126 := fun r b h1 h2 => by
  cases h1; cases h2
  exact ab_ckn ck_126 rfl rfl
theorem fi_127 : ab_fine 127 := fun r b h1 h2 => by
  cases h1; cases h2
  exact ab_ckn ck_127 rfl rfl
theorem fi_128 : ab_fine 128 := fun r b h1 h2 => by
  cases h1; cases h2
  exact ab_ckn ck_128 rfl rfl
theorem fi_129 : ab_fine 129 := fun r b h1 h2 => by
  cases h1; cases h2
  exact ab_ckn ck_129 rfl rfl
theorem fi_130 : ab_fine 130 := fun r b h1 h2 => by
  cases h1; cases h2
  exact ab_ckn ck_130 rfl rfl
theorem fi_131 : ab_fine 131 := fun r b h1 h2 => by
  cases h1; cases h2
  exact ab_ckn ck_131 rfl rfl
theorem fi_132 : ab_fine 132 := fun r b h1 h2 => by
  cases h1; cases h2
  exact ab_ckn ck_132 rfl rfl
theorem fi_133 : ab_fine 133 := fun r b h1 h2 => by
  cases h1; cases h2
  exact ab_ckn ck_133 rfl rfl
theorem fi_134 : ab_fine 134 := fun r b h1 h2 => by
  cases h1; cases h2
  exact ab_ckn ck_134 rfl rfl
theorem fi_135 : ab_fine 135 := fun r b h1 h2 => by
  cases h1; cases h2
  exact ab_ckn ck_135 rfl rfl
theorem fi_136 : ab_fine 136 := fun r b h1 h2 => by
  cases h1; cases h2
  exact ab_ckn ck_136 rfl rfl
theorem fi_137 : ab_fine 137 := fun r b h1 h2 => by
  cases h1; cases h2
  exact ab_ckn ck_137 rfl rfl
theorem fi_138 : ab_fine 138 := fun r b h1 h2 => by
  cases h1; cases h2
  exact ab_ckn ck_138 rfl rfl
theorem fi_139 : ab_fine 139 := fun r b h1 h2 => by
  cases h1; cases h2
  exact ab_ckn ck_139 rfl rfl
theorem fi_140 : ab_fine 140 := fun r b h1 h2 => by
  cases h1; cases h2
  exact ab_ckn ck_140 rfl rfl
theorem fi_141 : ab_fine 141 := fun r b h1 h2 => by
  cases h1; cases h2
  exact ab_ckn ck_141 rfl rfl
theorem fi_142 : ab_fine 142 := fun r b h1 h2 => by
  cases h1; cases h2
  exact ab_ckn ck_142 rfl rfl
theorem fi_143 : ab_fine 143 := fun r b h1 h2 => by
  cases h1; cases h2
  exact ab_ckn ck_143 rfl rfl
theorem fi_144 : ab_fine 144 := fun r b h1 h2 => by
  cases h1; cases h2
  exact ab_ckn ck_144 rfl rfl
theorem fi_145 : ab_fine 145 := fun r b h1 h2 => by
  cases h1; cases h2
  exact ab_ckn ck_145 rfl rfl
theorem fi_146 : ab_fine 146 := fun r b h1 h2 => by
  cases h1; cases h2
  exact ab_ckn ck_146 rfl rfl
theorem fi_147 : ab_fine 147 := fun r b h1 h2 => by
  cases h1; cases h2
  exact ab_ckn ck_147 rfl rfl
theorem fi_148 : ab_fine 148 := fun r b h1 h2 => by
  cases h1; cases h2
  exact ab_ckn ck_148 rfl rfl
theorem fi_149 : ab_fine 149 := fun r b h1 h2 => by
  cases h1; cases h2
  exact ab_ckn ck_149 rfl rfl
theorem fi_150 : ab_fine 150 := fun r b h1 h2 => by
  cases h1; cases h2
  exact ab_ckn ck_150 rfl rfl
theorem fi_151 : ab_fine 151 := fun r b h1 h2 => by
  cases h1; cases h2
  exact ab_ckn ck_151 rfl rfl
theorem fi_152 : ab_fine 152 := fun r b h1 h2 => by
  cases h1; cases h2
  exact ab_ckn ck_152 rfl rfl
theorem fi_153 : ab_fine 153 := fun r b h1 h2 => by
  cases h1; cases h2
  exact ab_ckn ck_153 rfl rfl
theorem fi_154 : ab_fine 154 := fun r b h1 h2 => by
  cases h1; cases h2
  exact ab_ckn ck_154 rfl rfl
theorem fi_155 : ab_fine 155 := fun r b h1 h2 => by
  cases h1; cases h2
  exact ab_ckn ck_155 rfl rfl
theorem fi_156 : ab_fine 156 := fun r b h1 h2 => by
  cases h1; cases h2
  exact ab_ckn ck_156 rfl rfl
theorem fi_157 : ab_fine 157 := fun r b h1 h2 => by
  cases h1; cases h2
  exact ab_ckn ck_157 rfl rfl
theorem fi_158 : ab_fine 158 := fun r b h1 h2 => by
  cases h1; cases h2
  exact ab_ckn ck_158 rfl rfl
theorem fi_159 : ab_fine 159 := fun r b h1 h2 => by
  cases h1; cases h2
  exact ab_ckn ck_159 rfl rfl
theorem fi_160 : ab_fine 160 := fun r b h1 h2 => by
  cases h1; cases h2
  exact ab_ckn ck_160 rfl rfl
theorem fi_161 : ab_fine 161 := fun r b h1 h2 => by
  cases h1; cases h2
  exact ab_ckn ck_161 rfl rfl
theorem fi_162 : ab_fine 162 := fun r b h1 h2 => by
  cases h1; cases h2
  exact ab_ckn ck_162 rfl rfl
theorem fi_163 : ab_fine 163 := fun r b h1 h2 => by
  cases h1; cases h2
  exact ab_ckn ck_163 rfl rfl
theorem fi_164 : ab_fine 164 := fun r b h1 h2 => by
  cases h1; cases h2
  exact ab_ckn ck_164 rfl rfl
theorem fi_165 : ab_fine 165 := fun r b h1 h2 => by
  cases h1; cases h2
  exact ab_ckn ck_165 rfl rfl
theorem fi_166 : ab_fine 166 := fun r b h1 h2 => by
  cases h1; cases h2
  exact ab_ckn ck_166 rfl rfl
theorem fi_167 : ab_fine 167 := fun r b h1 h2 => by
  cases h1; cases h2
  exact ab_ckn ck_167 rfl rfl
theorem fi_168 : ab_fine 168 := fun r b h1 h2 => by
  cases h1; cases h2
  exact ab_ckn ck_168 rfl rfl
theorem fi_169 : ab_fine 169 := fun r b h1 h2 => by
  cases h1; cases h2
  exact ab_ckn ck_169 rfl rfl
theorem fi_170 : ab_fine 170 := fun r b h1 h2 => by
  cases h1; cases h2
  exact ab_ckn ck_170 rfl rfl
theorem fi_171 : ab_fine 171 := fun r b h1 h2 => by
  cases h1; cases h2
  exact ab_ckn ck_171 rfl rfl
theorem fi_172 : ab_fine 172 := fun r b h1 h2 => by
  cases h1; cases h2
  exact ab_ckn ck_172 rfl rfl
theorem fi_173 : ab_fine 173 := fun r b h1 h2 => by
  cases h1; cases h2
  exact ab_ckn ck_173 rfl rfl
theorem fi_174 : ab_fine 174 := fun r b h1 h2 => by
  cases h1; cases h2
  exact ab_ckn ck_174 rfl rfl
theorem fi_175 : ab_fine 175 := fun r b h1 h2 => by
  cases h1; cases h2
  exact ab_ckn ck_175 rfl rfl
theorem fi_176 : ab_fine 176 := fun r b h1 h2 => by
  cases h1; cases h2
  exact ab_ckn ck_176 rfl rfl
theorem fi_177 : ab_fine 177 := fun r b h1 h2 => by
  cases h1; cases h2
  exact ab_ckn ck_177 rfl rfl
theorem fi_178 : ab_fine 178 := fun r b h1 h2 => by
  cases h1; cases h2
  exact ab_ckn ck_178 rfl rfl
theorem fi_179 : ab_fine 179 := fun r b h1 h2 => by
  cases h1; cases h2
  exact ab_ckn ck_179 rfl rfl
theorem fi_180 : ab_fine 180 := fun r b h1 h2 => by
  cases h1; cases h2
  exact ab_ckn ck_180 rfl rfl
theorem fi_181 : ab_fine 181 := fun r b h1 h2 => by
  cases h1; cases h2
  exact ab_ckn ck_181 rfl rfl
theorem fi_182 : ab_fine 182 := fun r b h1 h2 => by
  cases h1; cases h2
  exact ab_ckn ck_182 rfl rfl
theorem fi_183 : ab_fine 183 := fun r b h1 h2 => by
  cases h1; cases h2
  exact ab_ckn ck_183 rfl rfl
theorem fi_184 : ab_fine 184 := fun r b h1 h2 => by
  cases h1; cases h2
  exact ab_ckn ck_184 rfl rfl
theorem fi_185 : ab_fine 185 := fun r b h1 h2 => by
  cases h1; cases h2
  exact ab_ckn ck_185 rfl rfl
theorem fi_186 : ab_fine 186 := fun r b h1 h2 => by
  cases h1; cases h2
  exact ab_ckn ck_186 rfl rfl
theorem fi_187 : ab_fine 187 := fun r b h1 h2 => by
  cases h1; cases h2
  exact ab_ckn ck_187 rfl rfl
theorem fi_188 : ab_fine 188 := fun r b h1 h2 => by
  cases h1; cases h2
  exact ab_ckn ck_188 rfl rfl
theorem fi_189 : ab_fine 189 := fun r b h1 h2 => by
  cases h1; cases h2
  exact ab_ckn ck_189 rfl rfl
theorem fi_190 : ab_fine 190 := fun r b h1 h2 => by
  cases h1; cases h2
  exact ab_ckn ck_190 rfl rfl
theorem fi_191 : ab_fine 191 := fun r b h1 h2 => by
  cases h1; cases h2
  exact ab_ckn ck_191 rfl rfl
theorem fi_192 : ab_fine 192 := fun r b h1 h2 => by
  cases h1; cases h2
  exact ab_ckn ck_192 rfl rfl
theorem fi_193 : ab_fine 193 := fun r b h1 h2 => by
  cases h1; cases h2
  exact ab_ckn ck_193 rfl rfl
theorem fi_194 : ab_fine 194 := fun r b h1 h2 => by
  cases h1; cases h2
  exact ab_ckn ck_194 rfl rfl
theorem ab_fine_all : ∀ k, ab_fine k := by
  intro k
  match k with
  | 0 => exact fi_0
  | 1 => exact fi_1
  | 2 => exact fi_2
  | 3 => exact fi_3
  | 4 => exact fi_4
  | 5 => exact fi_5
  | 6 => exact fi_6
  | 7 => exact fi_7
  | 8 => exact fi_8
  | 9 => exact fi_9
  | 10 => exact fi_10
  | 11 => exact fi_11
  | 12 => exact fi_12
  | 13 => exact fi_13
  | 14 => exact fi_14
  | 15 => exact fi_15
  | 16 => exact fi_16
  | 17 => exact fi_17
  | 18 => exact fi_18
  | 19 => exact fi_19
  | 20 => exact fi_20
  | 21 => exact fi_21
  | 22 => exact fi_22
  | 23 => exact fi_23
  | 24 => exact fi_24
  | 25 => exact fi_25
  | 26 => exact fi_26
  | 27 => exact fi_27
  | 28 => exact fi_28
  | 29 => exact fi_29
  | 30 => exact fi_30
  | 31 => exact fi_31
  | 32 => exact fi_32
  | 33 => exact fi_33
  | 34 => exact fi_34
  | 35 => exact fi_35
  | 36 => exact fi_36
  | 37 => exact fi_37
  | 38 => exact fi_38
  | 39 => exact fi_39
  | 40 => exact fi_40
  | 41 => exact fi_41
  | 42 => exact fi_42
  | 43 => exact fi_43
  | 44 => exact fi_44
  | 45 => exact fi_45
  | 46 => exact fi_46
  | 47 => exact fi_47
  | 48 => exact fi_48
  | 49 => exact fi_49
  | 50 => exact fi_50
  | 51 => exact fi_51
  | 52 => exact fi_52
  | 53 => exact fi_53
  | 54 => exact fi_54
  | 55 => exact fi_55
  | 56 => exact fi_56
  | 57 => exact fi_57
  | 58 => exact fi_58
  | 59 => exact fi_59
  | 60 => exact fi_60
  | 61 => exact fi_61
  | 62 => exact fi_62
  | 63 => exact fi_63
  | 64 => exact fi_64
  | 65 => exact fi_65
  | 66 => exact fi_66
  | 67 => exact fi_67
  | 68 => exact fi_68
  | 69 => exact fi_69
  | 70 => exact fi_70
  | 71 => exact fi_71
  | 72 => exact fi_72
  | 73 => exact fi_73
  | 74 => exact fi_74
  | 75 => exact fi_75
  | 76 => exact fi_76
  | 77 => exact fi_77
  | 78 => exact fi_78
  | 79 => exact fi_79
  | 80 => exact fi_80
  | 81 => exact fi_81
  | 82 => exact fi_82
  | 83 => exact fi_83
  | 84 => exact fi_84
  | 85 => exact fi_85
  | 86 => exact fi_86
  | 87 => exact fi_87
  | 88 => exact fi_88
  | 89 => exact fi_89
  | 90 => exact fi_90
  | 91 => exact fi_91
  | 92 => exact fi_92
  | 93 => exact fi_93
  | 94 => exact fi_94
  | 95 => exact fi_95
  | 96 => exact fi_96
  | 97 => exact fi_97
  | 98 => exact fi_98
  | 99 => exact fi_99
  | 100 => exact fi_100
  | 101 => exact fi_101
  | 102 => exact fi_102
  | 103 => exact fi_103
  | 104 => exact fi_104
  | 105 => exact fi_105
  | 106 => exact fi_106
  | 107 => exact fi_107
  | 108 => exact fi_108
  | 109 => exact fi_109
  | 110 => exact fi_110
  | 111 => exact fi_111
  | 112 => exact fi_112
  | 113 => exact fi_113
  | 114 => exact fi_114
  | 115 => exact fi_115
  | 116 => exact fi_116
  | 117 => exact fi_117
  | 118 => exact fi_118
  | 119 => exact fi_119
  | 120 => exact fi_120
  | 121 => exact fi_121
  | 122 => exact fi_122
  | 123 => exact fi_123
  | 124 => exact fi_124
  | 125 => exact fi_125
  | 126 => exact fi_126
  | 127 => exact fi_127
  | 128 => exact fi_128
  | 129 => exact fi_129
  | 130 => exact fi_130
  | 131 => exact fi_131
  | 132 => exact fi_132
  | 133 => exact fi_133
  | 134 => exact fi_134
  | 135 => exact fi_135
  | 136 => exact fi_136
  | 137 => exact fi_137
  | 138 => exact fi_138
  | 139 => exact fi_139
  | 140 => exact fi_140
  | 141 => exact fi_141
  | 142 => exact fi_142
  | 143 => exact fi_143
  | 144 => exact fi_144
  | 145 => exact fi_145
  | 146 => exact fi_146
  | 147 => exact fi_147
  | 148 => exact fi_148
  | 149 => exact fi_149
  | 150 => exact fi_150
  | 151 => exact fi_151
  | 152 => exact fi_152
  | 153 => exact fi_153
  | 154 => exact fi_154
  | 155 => exact fi_155
  | 156 => exact fi_156
  | 157 => exact fi_157
  | 158 => exact fi_158
  | 159 => exact fi_159
  | 160 => exact fi_160
  | 161 => exact fi_161
  | 162 => exact fi_162
  | 163 => exact fi_163
  | 164 => exact fi_164
  | 165 => exact fi_165
  | 166 => exact fi_166
  | 167 => exact fi_167
  | 168 => exact fi_168
  | 169 => exact fi_169
  | 170 => exact fi_170
  | 171 => exact fi_171
  | 172 => exact fi_172
  | 173 => exact fi_173
  | 174 => exact fi_174
  | 175 => exact fi_175
  | 176 => exact fi_176
  | 177 => exact fi_177
  | 178 => exact fi_178
  | 179 => exact fi_179
  | 180 => exact fi_180
  | 181 => exact fi_181
  | 182 => exact fi_182
  | 183 => exact fi_183
  | 184 => exact fi_184
  | 185 => exact fi_185
  | 186 => exact fi_186
  | 187 => exact fi_187
  | 188 => exact fi_188
  | 189 => exact fi_189
  | 190 => exact fi_190
  | 191 => exact fi_191
  | 192 => exact fi_192
  | 193 => exact fi_193
  | 194 => exact fi_194
  | k + 195 =>
    intro r b h1
    have h : ab_MT[k + 195]? = some r := h1
    rw [List.getElem?_eq_none (by show ab_MT.length ≤ _; rw [show ab_MT.length = 195 from rfl]; omega)] at h
    cases h
theorem ab_bd_all : ∀ k r, ab_mt k = some r → ∃ b, ab_bd k = some b := by
  intro k r h
  have hl : k < ab_MT.length := (List.getElem?_eq_some_iff.mp h).1
  have hl2 : k < ab_BD.length := hl
  exact ⟨ab_BD[k], List.getElem?_eq_getElem hl2⟩
/-- every method of the program keeps its contract -/
theorem ab_calls {l : Launch} {ad : Nat → Nat} {cA : Nat → ClassId} {D : va_G} {Ls : Nat} (d : Nat) : ab_hC l (ab_rm (d + 1)) (ab_rm d) ad cA D Ls ab_mt (Sm Ls (d + 1)) := (ab_snd (fun k r b h1 h2 => ab_fine_all k r b h1 h2) ab_bd_all d).1
