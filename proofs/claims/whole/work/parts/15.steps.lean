/-! one step each, as equations (all by rfl) -/
section Steps15
variable {Ls : Nat} {C : Nat → List ab_V → ab_W → (Option ab_V → ab_W → Prop) → Prop} {J : Nat → List ab_V → List ab_V → ab_W → Prop} {Rt : Option ab_V → ab_W → Prop} {nx : Nat} {is : List ab_I} {ex : List Nat} {z : Int} {L S : List ab_V} {w : ab_W}
theorem e_nil : ab_wb Ls C J Rt nx [] L S w = J nx L S w := propext Iff.rfl
theorem e_iconst {n : Int} : ab_wb Ls C J Rt nx ((.iconst n, ex, z) :: is) L S w = ab_wb Ls C J Rt nx is L (vI n :: S) w := propext Iff.rfl
theorem e_bipush {n : Int} : ab_wb Ls C J Rt nx ((.bipush n, ex, z) :: is) L S w = ab_wb Ls C J Rt nx is L (vI n :: S) w := propext Iff.rfl
theorem e_sipush {n : Int} : ab_wb Ls C J Rt nx ((.sipush n, ex, z) :: is) L S w = ab_wb Ls C J Rt nx is L (vI n :: S) w := propext Iff.rfl
theorem e_lconst0  : ab_wb Ls C J Rt nx ((.lconst 0, ex, z) :: is) L S w = ab_wb Ls C J Rt nx is L (vL 0 :: S) w := propext Iff.rfl
theorem e_lconst1  : ab_wb Ls C J Rt nx ((.lconst 1, ex, z) :: is) L S w = ab_wb Ls C J Rt nx is L (vL 1 :: S) w := propext Iff.rfl
theorem e_ldc {n : Nat} : ab_wb Ls C J Rt nx ((.ldc n, ex, z) :: is) L S w = ab_wb Ls C J Rt nx is L (vI z :: S) w := propext Iff.rfl
theorem e_ldc_w {n : Nat} : ab_wb Ls C J Rt nx ((.ldc_w n, ex, z) :: is) L S w = ab_wb Ls C J Rt nx is L (vI z :: S) w := propext Iff.rfl
theorem e_ldc2_w {n : Nat} : ab_wb Ls C J Rt nx ((.ldc2_w n, ex, z) :: is) L S w = ab_wb Ls C J Rt nx is L (vL z :: S) w := propext Iff.rfl
theorem e_iload0 {a : Int} : ab_wb Ls C J Rt nx ((.iload_n 0, ex, z) :: is) (vI a :: L) S w = ab_wb Ls C J Rt nx is (vI a :: L) (vI a :: S) w := propext Iff.rfl
theorem e_istore0 {lk : ab_V} {a : Int} : ab_wb Ls C J Rt nx ((.istore_n 0, ex, z) :: is) (lk :: L) (vI a :: S) w = ab_wb Ls C J Rt nx is (vI a :: L) S w := propext Iff.rfl
theorem e_lload0 {a : Int} : ab_wb Ls C J Rt nx ((.lload_n 0, ex, z) :: is) (vL a :: L) S w = ab_wb Ls C J Rt nx is (vL a :: L) (vL a :: S) w := propext Iff.rfl
theorem e_lstore0 {lk lm : ab_V} {a : Int} : ab_wb Ls C J Rt nx ((.lstore_n 0, ex, z) :: is) (lk :: lm :: L) (vL a :: S) w = ab_wb Ls C J Rt nx is (vL a :: vX :: L) S w := propext Iff.rfl
theorem e_aload0 {a : Nat} : ab_wb Ls C J Rt nx ((.aload_n 0, ex, z) :: is) (vR a :: L) S w = ab_wb Ls C J Rt nx is (vR a :: L) (vR a :: S) w := propext Iff.rfl
theorem e_astore0 {lk : ab_V} {a : Nat} : ab_wb Ls C J Rt nx ((.astore_n 0, ex, z) :: is) (lk :: L) (vR a :: S) w = ab_wb Ls C J Rt nx is (vR a :: L) S w := propext Iff.rfl
theorem e_iinc0 {a c : Int} : ab_wb Ls C J Rt nx ((.iinc 0 c, ex, z) :: is) (vI a :: L) S w = ab_wb Ls C J Rt nx is (vI (iW (a + c)) :: L) S w := propext Iff.rfl
theorem e_iload1 {l0 : ab_V} {a : Int} : ab_wb Ls C J Rt nx ((.iload_n 1, ex, z) :: is) (l0 :: vI a :: L) S w = ab_wb Ls C J Rt nx is (l0 :: vI a :: L) (vI a :: S) w := propext Iff.rfl
theorem e_istore1 {l0 : ab_V} {lk : ab_V} {a : Int} : ab_wb Ls C J Rt nx ((.istore_n 1, ex, z) :: is) (l0 :: lk :: L) (vI a :: S) w = ab_wb Ls C J Rt nx is (ab_kl l0 0 :: vI a :: L) S w := propext Iff.rfl
theorem e_lload1 {l0 : ab_V} {a : Int} : ab_wb Ls C J Rt nx ((.lload_n 1, ex, z) :: is) (l0 :: vL a :: L) S w = ab_wb Ls C J Rt nx is (l0 :: vL a :: L) (vL a :: S) w := propext Iff.rfl
theorem e_lstore1 {l0 : ab_V} {lk lm : ab_V} {a : Int} : ab_wb Ls C J Rt nx ((.lstore_n 1, ex, z) :: is) (l0 :: lk :: lm :: L) (vL a :: S) w = ab_wb Ls C J Rt nx is (ab_kl l0 0 :: vL a :: vX :: L) S w := propext Iff.rfl
theorem e_aload1 {l0 : ab_V} {a : Nat} : ab_wb Ls C J Rt nx ((.aload_n 1, ex, z) :: is) (l0 :: vR a :: L) S w = ab_wb Ls C J Rt nx is (l0 :: vR a :: L) (vR a :: S) w := propext Iff.rfl
theorem e_astore1 {l0 : ab_V} {lk : ab_V} {a : Nat} : ab_wb Ls C J Rt nx ((.astore_n 1, ex, z) :: is) (l0 :: lk :: L) (vR a :: S) w = ab_wb Ls C J Rt nx is (ab_kl l0 0 :: vR a :: L) S w := propext Iff.rfl
theorem e_iinc1 {l0 : ab_V} {a c : Int} : ab_wb Ls C J Rt nx ((.iinc 1 c, ex, z) :: is) (l0 :: vI a :: L) S w = ab_wb Ls C J Rt nx is (ab_kl l0 0 :: vI (iW (a + c)) :: L) S w := propext Iff.rfl
theorem e_iload2 {l0 l1 : ab_V} {a : Int} : ab_wb Ls C J Rt nx ((.iload_n 2, ex, z) :: is) (l0 :: l1 :: vI a :: L) S w = ab_wb Ls C J Rt nx is (l0 :: l1 :: vI a :: L) (vI a :: S) w := propext Iff.rfl
theorem e_istore2 {l0 l1 : ab_V} {lk : ab_V} {a : Int} : ab_wb Ls C J Rt nx ((.istore_n 2, ex, z) :: is) (l0 :: l1 :: lk :: L) (vI a :: S) w = ab_wb Ls C J Rt nx is (l0 :: ab_kl l1 0 :: vI a :: L) S w := propext Iff.rfl
theorem e_lload2 {l0 l1 : ab_V} {a : Int} : ab_wb Ls C J Rt nx ((.lload_n 2, ex, z) :: is) (l0 :: l1 :: vL a :: L) S w = ab_wb Ls C J Rt nx is (l0 :: l1 :: vL a :: L) (vL a :: S) w := propext Iff.rfl
theorem e_lstore2 {l0 l1 : ab_V} {lk lm : ab_V} {a : Int} : ab_wb Ls C J Rt nx ((.lstore_n 2, ex, z) :: is) (l0 :: l1 :: lk :: lm :: L) (vL a :: S) w = ab_wb Ls C J Rt nx is (l0 :: ab_kl l1 0 :: vL a :: vX :: L) S w := propext Iff.rfl
theorem e_aload2 {l0 l1 : ab_V} {a : Nat} : ab_wb Ls C J Rt nx ((.aload_n 2, ex, z) :: is) (l0 :: l1 :: vR a :: L) S w = ab_wb Ls C J Rt nx is (l0 :: l1 :: vR a :: L) (vR a :: S) w := propext Iff.rfl
theorem e_astore2 {l0 l1 : ab_V} {lk : ab_V} {a : Nat} : ab_wb Ls C J Rt nx ((.astore_n 2, ex, z) :: is) (l0 :: l1 :: lk :: L) (vR a :: S) w = ab_wb Ls C J Rt nx is (l0 :: ab_kl l1 0 :: vR a :: L) S w := propext Iff.rfl
theorem e_iinc2 {l0 l1 : ab_V} {a c : Int} : ab_wb Ls C J Rt nx ((.iinc 2 c, ex, z) :: is) (l0 :: l1 :: vI a :: L) S w = ab_wb Ls C J Rt nx is (l0 :: ab_kl l1 0 :: vI (iW (a + c)) :: L) S w := propext Iff.rfl
theorem e_iload3 {l0 l1 l2 : ab_V} {a : Int} : ab_wb Ls C J Rt nx ((.iload_n 3, ex, z) :: is) (l0 :: l1 :: l2 :: vI a :: L) S w = ab_wb Ls C J Rt nx is (l0 :: l1 :: l2 :: vI a :: L) (vI a :: S) w := propext Iff.rfl
theorem e_istore3 {l0 l1 l2 : ab_V} {lk : ab_V} {a : Int} : ab_wb Ls C J Rt nx ((.istore_n 3, ex, z) :: is) (l0 :: l1 :: l2 :: lk :: L) (vI a :: S) w = ab_wb Ls C J Rt nx is (l0 :: l1 :: ab_kl l2 0 :: vI a :: L) S w := propext Iff.rfl
theorem e_lload3 {l0 l1 l2 : ab_V} {a : Int} : ab_wb Ls C J Rt nx ((.lload_n 3, ex, z) :: is) (l0 :: l1 :: l2 :: vL a :: L) S w = ab_wb Ls C J Rt nx is (l0 :: l1 :: l2 :: vL a :: L) (vL a :: S) w := propext Iff.rfl
theorem e_lstore3 {l0 l1 l2 : ab_V} {lk lm : ab_V} {a : Int} : ab_wb Ls C J Rt nx ((.lstore_n 3, ex, z) :: is) (l0 :: l1 :: l2 :: lk :: lm :: L) (vL a :: S) w = ab_wb Ls C J Rt nx is (l0 :: l1 :: ab_kl l2 0 :: vL a :: vX :: L) S w := propext Iff.rfl
theorem e_aload3 {l0 l1 l2 : ab_V} {a : Nat} : ab_wb Ls C J Rt nx ((.aload_n 3, ex, z) :: is) (l0 :: l1 :: l2 :: vR a :: L) S w = ab_wb Ls C J Rt nx is (l0 :: l1 :: l2 :: vR a :: L) (vR a :: S) w := propext Iff.rfl
theorem e_astore3 {l0 l1 l2 : ab_V} {lk : ab_V} {a : Nat} : ab_wb Ls C J Rt nx ((.astore_n 3, ex, z) :: is) (l0 :: l1 :: l2 :: lk :: L) (vR a :: S) w = ab_wb Ls C J Rt nx is (l0 :: l1 :: ab_kl l2 0 :: vR a :: L) S w := propext Iff.rfl
theorem e_iinc3 {l0 l1 l2 : ab_V} {a c : Int} : ab_wb Ls C J Rt nx ((.iinc 3 c, ex, z) :: is) (l0 :: l1 :: l2 :: vI a :: L) S w = ab_wb Ls C J Rt nx is (l0 :: l1 :: ab_kl l2 0 :: vI (iW (a + c)) :: L) S w := propext Iff.rfl
theorem e_iload4 {l0 l1 l2 l3 : ab_V} {a : Int} : ab_wb Ls C J Rt nx ((.iload 4, ex, z) :: is) (l0 :: l1 :: l2 :: l3 :: vI a :: L) S w = ab_wb Ls C J Rt nx is (l0 :: l1 :: l2 :: l3 :: vI a :: L) (vI a :: S) w := propext Iff.rfl
theorem e_istore4 {l0 l1 l2 l3 : ab_V} {lk : ab_V} {a : Int} : ab_wb Ls C J Rt nx ((.istore 4, ex, z) :: is) (l0 :: l1 :: l2 :: l3 :: lk :: L) (vI a :: S) w = ab_wb Ls C J Rt nx is (l0 :: l1 :: l2 :: ab_kl l3 0 :: vI a :: L) S w := propext Iff.rfl
theorem e_lload4 {l0 l1 l2 l3 : ab_V} {a : Int} : ab_wb Ls C J Rt nx ((.lload 4, ex, z) :: is) (l0 :: l1 :: l2 :: l3 :: vL a :: L) S w = ab_wb Ls C J Rt nx is (l0 :: l1 :: l2 :: l3 :: vL a :: L) (vL a :: S) w := propext Iff.rfl
theorem e_lstore4 {l0 l1 l2 l3 : ab_V} {lk lm : ab_V} {a : Int} : ab_wb Ls C J Rt nx ((.lstore 4, ex, z) :: is) (l0 :: l1 :: l2 :: l3 :: lk :: lm :: L) (vL a :: S) w = ab_wb Ls C J Rt nx is (l0 :: l1 :: l2 :: ab_kl l3 0 :: vL a :: vX :: L) S w := propext Iff.rfl
theorem e_aload4 {l0 l1 l2 l3 : ab_V} {a : Nat} : ab_wb Ls C J Rt nx ((.aload 4, ex, z) :: is) (l0 :: l1 :: l2 :: l3 :: vR a :: L) S w = ab_wb Ls C J Rt nx is (l0 :: l1 :: l2 :: l3 :: vR a :: L) (vR a :: S) w := propext Iff.rfl
theorem e_astore4 {l0 l1 l2 l3 : ab_V} {lk : ab_V} {a : Nat} : ab_wb Ls C J Rt nx ((.astore 4, ex, z) :: is) (l0 :: l1 :: l2 :: l3 :: lk :: L) (vR a :: S) w = ab_wb Ls C J Rt nx is (l0 :: l1 :: l2 :: ab_kl l3 0 :: vR a :: L) S w := propext Iff.rfl
theorem e_iinc4 {l0 l1 l2 l3 : ab_V} {a c : Int} : ab_wb Ls C J Rt nx ((.iinc 4 c, ex, z) :: is) (l0 :: l1 :: l2 :: l3 :: vI a :: L) S w = ab_wb Ls C J Rt nx is (l0 :: l1 :: l2 :: ab_kl l3 0 :: vI (iW (a + c)) :: L) S w := propext Iff.rfl
theorem e_iload5 {l0 l1 l2 l3 l4 : ab_V} {a : Int} : ab_wb Ls C J Rt nx ((.iload 5, ex, z) :: is) (l0 :: l1 :: l2 :: l3 :: l4 :: vI a :: L) S w = ab_wb Ls C J Rt nx is (l0 :: l1 :: l2 :: l3 :: l4 :: vI a :: L) (vI a :: S) w := propext Iff.rfl
theorem e_istore5 {l0 l1 l2 l3 l4 : ab_V} {lk : ab_V} {a : Int} : ab_wb Ls C J Rt nx ((.istore 5, ex, z) :: is) (l0 :: l1 :: l2 :: l3 :: l4 :: lk :: L) (vI a :: S) w = ab_wb Ls C J Rt nx is (l0 :: l1 :: l2 :: l3 :: ab_kl l4 0 :: vI a :: L) S w := propext Iff.rfl
theorem e_lload5 {l0 l1 l2 l3 l4 : ab_V} {a : Int} : ab_wb Ls C J Rt nx ((.lload 5, ex, z) :: is) (l0 :: l1 :: l2 :: l3 :: l4 :: vL a :: L) S w = ab_wb Ls C J Rt nx is (l0 :: l1 :: l2 :: l3 :: l4 :: vL a :: L) (vL a :: S) w := propext Iff.rfl
theorem e_lstore5 {l0 l1 l2 l3 l4 : ab_V} {lk lm : ab_V} {a : Int} : ab_wb Ls C J Rt nx ((.lstore 5, ex, z) :: is) (l0 :: l1 :: l2 :: l3 :: l4 :: lk :: lm :: L) (vL a :: S) w = ab_wb Ls C J Rt nx is (l0 :: l1 :: l2 :: l3 :: ab_kl l4 0 :: vL a :: vX :: L) S w := propext Iff.rfl
theorem e_aload5 {l0 l1 l2 l3 l4 : ab_V} {a : Nat} : ab_wb Ls C J Rt nx ((.aload 5, ex, z) :: is) (l0 :: l1 :: l2 :: l3 :: l4 :: vR a :: L) S w = ab_wb Ls C J Rt nx is (l0 :: l1 :: l2 :: l3 :: l4 :: vR a :: L) (vR a :: S) w := propext Iff.rfl
theorem e_astore5 {l0 l1 l2 l3 l4 : ab_V} {lk : ab_V} {a : Nat} : ab_wb Ls C J Rt nx ((.astore 5, ex, z) :: is) (l0 :: l1 :: l2 :: l3 :: l4 :: lk :: L) (vR a :: S) w = ab_wb Ls C J Rt nx is (l0 :: l1 :: l2 :: l3 :: ab_kl l4 0 :: vR a :: L) S w := propext Iff.rfl
theorem e_iinc5 {l0 l1 l2 l3 l4 : ab_V} {a c : Int} : ab_wb Ls C J Rt nx ((.iinc 5 c, ex, z) :: is) (l0 :: l1 :: l2 :: l3 :: l4 :: vI a :: L) S w = ab_wb Ls C J Rt nx is (l0 :: l1 :: l2 :: l3 :: ab_kl l4 0 :: vI (iW (a + c)) :: L) S w := propext Iff.rfl
theorem e_iload6 {l0 l1 l2 l3 l4 l5 : ab_V} {a : Int} : ab_wb Ls C J Rt nx ((.iload 6, ex, z) :: is) (l0 :: l1 :: l2 :: l3 :: l4 :: l5 :: vI a :: L) S w = ab_wb Ls C J Rt nx is (l0 :: l1 :: l2 :: l3 :: l4 :: l5 :: vI a :: L) (vI a :: S) w := propext Iff.rfl
theorem e_istore6 {l0 l1 l2 l3 l4 l5 : ab_V} {lk : ab_V} {a : Int} : ab_wb Ls C J Rt nx ((.istore 6, ex, z) :: is) (l0 :: l1 :: l2 :: l3 :: l4 :: l5 :: lk :: L) (vI a :: S) w = ab_wb Ls C J Rt nx is (l0 :: l1 :: l2 :: l3 :: l4 :: ab_kl l5 0 :: vI a :: L) S w := propext Iff.rfl
theorem e_lload6 {l0 l1 l2 l3 l4 l5 : ab_V} {a : Int} : ab_wb Ls C J Rt nx ((.lload 6, ex, z) :: is) (l0 :: l1 :: l2 :: l3 :: l4 :: l5 :: vL a :: L) S w = ab_wb Ls C J Rt nx is (l0 :: l1 :: l2 :: l3 :: l4 :: l5 :: vL a :: L) (vL a :: S) w := propext Iff.rfl
theorem e_lstore6 {l0 l1 l2 l3 l4 l5 : ab_V} {lk lm : ab_V} {a : Int} : ab_wb Ls C J Rt nx ((.lstore 6, ex, z) :: is) (l0 :: l1 :: l2 :: l3 :: l4 :: l5 :: lk :: lm :: L) (vL a :: S) w = ab_wb Ls C J Rt nx is (l0 :: l1 :: l2 :: l3 :: l4 :: ab_kl l5 0 :: vL a :: vX :: L) S w := propext Iff.rfl
theorem e_aload6 {l0 l1 l2 l3 l4 l5 : ab_V} {a : Nat} : ab_wb Ls C J Rt nx ((.aload 6, ex, z) :: is) (l0 :: l1 :: l2 :: l3 :: l4 :: l5 :: vR a :: L) S w = ab_wb Ls C J Rt nx is (l0 :: l1 :: l2 :: l3 :: l4 :: l5 :: vR a :: L) (vR a :: S) w := propext Iff.rfl
theorem e_astore6 {l0 l1 l2 l3 l4 l5 : ab_V} {lk : ab_V} {a : Nat} : ab_wb Ls C J Rt nx ((.astore 6, ex, z) :: is) (l0 :: l1 :: l2 :: l3 :: l4 :: l5 :: lk :: L) (vR a :: S) w = ab_wb Ls C J Rt nx is (l0 :: l1 :: l2 :: l3 :: l4 :: ab_kl l5 0 :: vR a :: L) S w := propext Iff.rfl
theorem e_iinc6 {l0 l1 l2 l3 l4 l5 : ab_V} {a c : Int} : ab_wb Ls C J Rt nx ((.iinc 6 c, ex, z) :: is) (l0 :: l1 :: l2 :: l3 :: l4 :: l5 :: vI a :: L) S w = ab_wb Ls C J Rt nx is (l0 :: l1 :: l2 :: l3 :: l4 :: ab_kl l5 0 :: vI (iW (a + c)) :: L) S w := propext Iff.rfl
theorem e_iload7 {l0 l1 l2 l3 l4 l5 l6 : ab_V} {a : Int} : ab_wb Ls C J Rt nx ((.iload 7, ex, z) :: is) (l0 :: l1 :: l2 :: l3 :: l4 :: l5 :: l6 :: vI a :: L) S w = ab_wb Ls C J Rt nx is (l0 :: l1 :: l2 :: l3 :: l4 :: l5 :: l6 :: vI a :: L) (vI a :: S) w := propext Iff.rfl
theorem e_istore7 {l0 l1 l2 l3 l4 l5 l6 : ab_V} {lk : ab_V} {a : Int} : ab_wb Ls C J Rt nx ((.istore 7, ex, z) :: is) (l0 :: l1 :: l2 :: l3 :: l4 :: l5 :: l6 :: lk :: L) (vI a :: S) w = ab_wb Ls C J Rt nx is (l0 :: l1 :: l2 :: l3 :: l4 :: l5 :: ab_kl l6 0 :: vI a :: L) S w := propext Iff.rfl
theorem e_lload7 {l0 l1 l2 l3 l4 l5 l6 : ab_V} {a : Int} : ab_wb Ls C J Rt nx ((.lload 7, ex, z) :: is) (l0 :: l1 :: l2 :: l3 :: l4 :: l5 :: l6 :: vL a :: L) S w = ab_wb Ls C J Rt nx is (l0 :: l1 :: l2 :: l3 :: l4 :: l5 :: l6 :: vL a :: L) (vL a :: S) w := propext Iff.rfl
theorem e_lstore7 {l0 l1 l2 l3 l4 l5 l6 : ab_V} {lk lm : ab_V} {a : Int} : ab_wb Ls C J Rt nx ((.lstore 7, ex, z) :: is) (l0 :: l1 :: l2 :: l3 :: l4 :: l5 :: l6 :: lk :: lm :: L) (vL a :: S) w = ab_wb Ls C J Rt nx is (l0 :: l1 :: l2 :: l3 :: l4 :: l5 :: ab_kl l6 0 :: vL a :: vX :: L) S w := propext Iff.rfl
theorem e_aload7 {l0 l1 l2 l3 l4 l5 l6 : ab_V} {a : Nat} : ab_wb Ls C J Rt nx ((.aload 7, ex, z) :: is) (l0 :: l1 :: l2 :: l3 :: l4 :: l5 :: l6 :: vR a :: L) S w = ab_wb Ls C J Rt nx is (l0 :: l1 :: l2 :: l3 :: l4 :: l5 :: l6 :: vR a :: L) (vR a :: S) w := propext Iff.rfl
theorem e_astore7 {l0 l1 l2 l3 l4 l5 l6 : ab_V} {lk : ab_V} {a : Nat} : ab_wb Ls C J Rt nx ((.astore 7, ex, z) :: is) (l0 :: l1 :: l2 :: l3 :: l4 :: l5 :: l6 :: lk :: L) (vR a :: S) w = ab_wb Ls C J Rt nx is (l0 :: l1 :: l2 :: l3 :: l4 :: l5 :: ab_kl l6 0 :: vR a :: L) S w := propext Iff.rfl
theorem e_iinc7 {l0 l1 l2 l3 l4 l5 l6 : ab_V} {a c : Int} : ab_wb Ls C J Rt nx ((.iinc 7 c, ex, z) :: is) (l0 :: l1 :: l2 :: l3 :: l4 :: l5 :: l6 :: vI a :: L) S w = ab_wb Ls C J Rt nx is (l0 :: l1 :: l2 :: l3 :: l4 :: l5 :: ab_kl l6 0 :: vI (iW (a + c)) :: L) S w := propext Iff.rfl
theorem e_iload8 {l0 l1 l2 l3 l4 l5 l6 l7 : ab_V} {a : Int} : ab_wb Ls C J Rt nx ((.iload 8, ex, z) :: is) (l0 :: l1 :: l2 :: l3 :: l4 :: l5 :: l6 :: l7 :: vI a :: L) S w = ab_wb Ls C J Rt nx is (l0 :: l1 :: l2 :: l3 :: l4 :: l5 :: l6 :: l7 :: vI a :: L) (vI a :: S) w := propext Iff.rfl
theorem e_istore8 {l0 l1 l2 l3 l4 l5 l6 l7 : ab_V} {lk : ab_V} {a : Int} : ab_wb Ls C J Rt nx ((.istore 8, ex, z) :: is) (l0 :: l1 :: l2 :: l3 :: l4 :: l5 :: l6 :: l7 :: lk :: L) (vI a :: S) w = ab_wb Ls C J Rt nx is (l0 :: l1 :: l2 :: l3 :: l4 :: l5 :: l6 :: ab_kl l7 0 :: vI a :: L) S w := propext Iff.rfl
theorem e_lload8 {l0 l1 l2 l3 l4 l5 l6 l7 : ab_V} {a : Int} : ab_wb Ls C J Rt nx ((.lload 8, ex, z) :: is) (l0 :: l1 :: l2 :: l3 :: l4 :: l5 :: l6 :: l7 :: vL a :: L) S w = ab_wb Ls C J Rt nx is (l0 :: l1 :: l2 :: l3 :: l4 :: l5 :: l6 :: l7 :: vL a :: L) (vL a :: S) w := propext Iff.rfl
theorem e_lstore8 {l0 l1 l2 l3 l4 l5 l6 l7 : ab_V} {lk lm : ab_V} {a : Int} : ab_wb Ls C J Rt nx ((.lstore 8, ex, z) :: is) (l0 :: l1 :: l2 :: l3 :: l4 :: l5 :: l6 :: l7 :: lk :: lm :: L) (vL a :: S) w = ab_wb Ls C J Rt nx is (l0 :: l1 :: l2 :: l3 :: l4 :: l5 :: l6 :: ab_kl l7 0 :: vL a :: vX :: L) S w := propext Iff.rfl
theorem e_aload8 {l0 l1 l2 l3 l4 l5 l6 l7 : ab_V} {a : Nat} : ab_wb Ls C J Rt nx ((.aload 8, ex, z) :: is) (l0 :: l1 :: l2 :: l3 :: l4 :: l5 :: l6 :: l7 :: vR a :: L) S w = ab_wb Ls C J Rt nx is (l0 :: l1 :: l2 :: l3 :: l4 :: l5 :: l6 :: l7 :: vR a :: L) (vR a :: S) w := propext Iff.rfl
theorem e_astore8 {l0 l1 l2 l3 l4 l5 l6 l7 : ab_V} {lk : ab_V} {a : Nat} : ab_wb Ls C J Rt nx ((.astore 8, ex, z) :: is) (l0 :: l1 :: l2 :: l3 :: l4 :: l5 :: l6 :: l7 :: lk :: L) (vR a :: S) w = ab_wb Ls C J Rt nx is (l0 :: l1 :: l2 :: l3 :: l4 :: l5 :: l6 :: ab_kl l7 0 :: vR a :: L) S w := propext Iff.rfl
theorem e_iinc8 {l0 l1 l2 l3 l4 l5 l6 l7 : ab_V} {a c : Int} : ab_wb Ls C J Rt nx ((.iinc 8 c, ex, z) :: is) (l0 :: l1 :: l2 :: l3 :: l4 :: l5 :: l6 :: l7 :: vI a :: L) S w = ab_wb Ls C J Rt nx is (l0 :: l1 :: l2 :: l3 :: l4 :: l5 :: l6 :: ab_kl l7 0 :: vI (iW (a + c)) :: L) S w := propext Iff.rfl
theorem e_iload9 {l0 l1 l2 l3 l4 l5 l6 l7 l8 : ab_V} {a : Int} : ab_wb Ls C J Rt nx ((.iload 9, ex, z) :: is) (l0 :: l1 :: l2 :: l3 :: l4 :: l5 :: l6 :: l7 :: l8 :: vI a :: L) S w = ab_wb Ls C J Rt nx is (l0 :: l1 :: l2 :: l3 :: l4 :: l5 :: l6 :: l7 :: l8 :: vI a :: L) (vI a :: S) w := propext Iff.rfl
theorem e_istore9 {l0 l1 l2 l3 l4 l5 l6 l7 l8 : ab_V} {lk : ab_V} {a : Int} : ab_wb Ls C J Rt nx ((.istore 9, ex, z) :: is) (l0 :: l1 :: l2 :: l3 :: l4 :: l5 :: l6 :: l7 :: l8 :: lk :: L) (vI a :: S) w = ab_wb Ls C J Rt nx is (l0 :: l1 :: l2 :: l3 :: l4 :: l5 :: l6 :: l7 :: ab_kl l8 0 :: vI a :: L) S w := propext Iff.rfl
theorem e_lload9 {l0 l1 l2 l3 l4 l5 l6 l7 l8 : ab_V} {a : Int} : ab_wb Ls C J Rt nx ((.lload 9, ex, z) :: is) (l0 :: l1 :: l2 :: l3 :: l4 :: l5 :: l6 :: l7 :: l8 :: vL a :: L) S w = ab_wb Ls C J Rt nx is (l0 :: l1 :: l2 :: l3 :: l4 :: l5 :: l6 :: l7 :: l8 :: vL a :: L) (vL a :: S) w := propext Iff.rfl
theorem e_lstore9 {l0 l1 l2 l3 l4 l5 l6 l7 l8 : ab_V} {lk lm : ab_V} {a : Int} : ab_wb Ls C J Rt nx ((.lstore 9, ex, z) :: is) (l0 :: l1 :: l2 :: l3 :: l4 :: l5 :: l6 :: l7 :: l8 :: lk :: lm :: L) (vL a :: S) w = ab_wb Ls C J Rt nx is (l0 :: l1 :: l2 :: l3 :: l4 :: l5 :: l6 :: l7 :: ab_kl l8 0 :: vL a :: vX :: L) S w := propext Iff.rfl
theorem e_aload9 {l0 l1 l2 l3 l4 l5 l6 l7 l8 : ab_V} {a : Nat} : ab_wb Ls C J Rt nx ((.aload 9, ex, z) :: is) (l0 :: l1 :: l2 :: l3 :: l4 :: l5 :: l6 :: l7 :: l8 :: vR a :: L) S w = ab_wb Ls C J Rt nx is (l0 :: l1 :: l2 :: l3 :: l4 :: l5 :: l6 :: l7 :: l8 :: vR a :: L) (vR a :: S) w := propext Iff.rfl
theorem e_astore9 {l0 l1 l2 l3 l4 l5 l6 l7 l8 : ab_V} {lk : ab_V} {a : Nat} : ab_wb Ls C J Rt nx ((.astore 9, ex, z) :: is) (l0 :: l1 :: l2 :: l3 :: l4 :: l5 :: l6 :: l7 :: l8 :: lk :: L) (vR a :: S) w = ab_wb Ls C J Rt nx is (l0 :: l1 :: l2 :: l3 :: l4 :: l5 :: l6 :: l7 :: ab_kl l8 0 :: vR a :: L) S w := propext Iff.rfl
theorem e_iinc9 {l0 l1 l2 l3 l4 l5 l6 l7 l8 : ab_V} {a c : Int} : ab_wb Ls C J Rt nx ((.iinc 9 c, ex, z) :: is) (l0 :: l1 :: l2 :: l3 :: l4 :: l5 :: l6 :: l7 :: l8 :: vI a :: L) S w = ab_wb Ls C J Rt nx is (l0 :: l1 :: l2 :: l3 :: l4 :: l5 :: l6 :: l7 :: ab_kl l8 0 :: vI (iW (a + c)) :: L) S w := propext Iff.rfl
theorem e_iload10 {l0 l1 l2 l3 l4 l5 l6 l7 l8 l9 : ab_V} {a : Int} : ab_wb Ls C J Rt nx ((.iload 10, ex, z) :: is) (l0 :: l1 :: l2 :: l3 :: l4 :: l5 :: l6 :: l7 :: l8 :: l9 :: vI a :: L) S w = ab_wb Ls C J Rt nx is (l0 :: l1 :: l2 :: l3 :: l4 :: l5 :: l6 :: l7 :: l8 :: l9 :: vI a :: L) (vI a :: S) w := propext Iff.rfl
theorem e_istore10 {l0 l1 l2 l3 l4 l5 l6 l7 l8 l9 : ab_V} {lk : ab_V} {a : Int} : ab_wb Ls C J Rt nx ((.istore 10, ex, z) :: is) (l0 :: l1 :: l2 :: l3 :: l4 :: l5 :: l6 :: l7 :: l8 :: l9 :: lk :: L) (vI a :: S) w = ab_wb Ls C J Rt nx is (l0 :: l1 :: l2 :: l3 :: l4 :: l5 :: l6 :: l7 :: l8 :: ab_kl l9 0 :: vI a :: L) S w := propext Iff.rfl
theorem e_lload10 {l0 l1 l2 l3 l4 l5 l6 l7 l8 l9 : ab_V} {a : Int} : ab_wb Ls C J Rt nx ((.lload 10, ex, z) :: is) (l0 :: l1 :: l2 :: l3 :: l4 :: l5 :: l6 :: l7 :: l8 :: l9 :: vL a :: L) S w = ab_wb Ls C J Rt nx is (l0 :: l1 :: l2 :: l3 :: l4 :: l5 :: l6 :: l7 :: l8 :: l9 :: vL a :: L) (vL a :: S) w := propext Iff.rfl
theorem e_lstore10 {l0 l1 l2 l3 l4 l5 l6 l7 l8 l9 : ab_V} {lk lm : ab_V} {a : Int} : ab_wb Ls C J Rt nx ((.lstore 10, ex, z) :: is) (l0 :: l1 :: l2 :: l3 :: l4 :: l5 :: l6 :: l7 :: l8 :: l9 :: lk :: lm :: L) (vL a :: S) w = ab_wb Ls C J Rt nx is (l0 :: l1 :: l2 :: l3 :: l4 :: l5 :: l6 :: l7 :: l8 :: ab_kl l9 0 :: vL a :: vX :: L) S w := propext Iff.rfl
theorem e_aload10 {l0 l1 l2 l3 l4 l5 l6 l7 l8 l9 : ab_V} {a : Nat} : ab_wb Ls C J Rt nx ((.aload 10, ex, z) :: is) (l0 :: l1 :: l2 :: l3 :: l4 :: l5 :: l6 :: l7 :: l8 :: l9 :: vR a :: L) S w = ab_wb Ls C J Rt nx is (l0 :: l1 :: l2 :: l3 :: l4 :: l5 :: l6 :: l7 :: l8 :: l9 :: vR a :: L) (vR a :: S) w := propext Iff.rfl
theorem e_astore10 {l0 l1 l2 l3 l4 l5 l6 l7 l8 l9 : ab_V} {lk : ab_V} {a : Nat} : ab_wb Ls C J Rt nx ((.astore 10, ex, z) :: is) (l0 :: l1 :: l2 :: l3 :: l4 :: l5 :: l6 :: l7 :: l8 :: l9 :: lk :: L) (vR a :: S) w = ab_wb Ls C J Rt nx is (l0 :: l1 :: l2 :: l3 :: l4 :: l5 :: l6 :: l7 :: l8 :: ab_kl l9 0 :: vR a :: L) S w := propext Iff.rfl
theorem e_iinc10 {l0 l1 l2 l3 l4 l5 l6 l7 l8 l9 : ab_V} {a c : Int} : ab_wb Ls C J Rt nx ((.iinc 10 c, ex, z) :: is) (l0 :: l1 :: l2 :: l3 :: l4 :: l5 :: l6 :: l7 :: l8 :: l9 :: vI a :: L) S w = ab_wb Ls C J Rt nx is (l0 :: l1 :: l2 :: l3 :: l4 :: l5 :: l6 :: l7 :: l8 :: ab_kl l9 0 :: vI (iW (a + c)) :: L) S w := propext Iff.rfl
theorem e_klI {a : Int} : ab_kl (vI a) 0 = vI a := congrArg (fun x => x) (Eq.refl (vI a))
theorem e_klR {a : Nat} : ab_kl (vR a) 0 = vR a := congrArg (fun x => x) (Eq.refl (vR a))
theorem e_klX : ab_kl vX 0 = vX := congrArg (fun x => x) (Eq.refl vX)
theorem e_klL {a : Int} : ab_kl (vL a) 0 = vX := congrArg (fun x => x) (Eq.refl vX)
theorem e_iadd {x y : Int} : ab_wb Ls C J Rt nx ((.iadd, ex, z) :: is) L (vI y :: vI x :: S) w = ab_wb Ls C J Rt nx is L (vI (iW (x + y)) :: S) w := propext Iff.rfl
theorem e_isub {x y : Int} : ab_wb Ls C J Rt nx ((.isub, ex, z) :: is) L (vI y :: vI x :: S) w = ab_wb Ls C J Rt nx is L (vI (iW (x - y)) :: S) w := propext Iff.rfl
theorem e_imul {x y : Int} : ab_wb Ls C J Rt nx ((.imul, ex, z) :: is) L (vI y :: vI x :: S) w = ab_wb Ls C J Rt nx is L (vI (iW (x * y)) :: S) w := propext Iff.rfl
theorem e_iand {x y : Int} : ab_wb Ls C J Rt nx ((.iand, ex, z) :: is) L (vI y :: vI x :: S) w = ab_wb Ls C J Rt nx is L (vI (i_and x y) :: S) w := propext Iff.rfl
theorem e_ior {x y : Int} : ab_wb Ls C J Rt nx ((.ior, ex, z) :: is) L (vI y :: vI x :: S) w = ab_wb Ls C J Rt nx is L (vI (i_or x y) :: S) w := propext Iff.rfl
theorem e_ixor {x y : Int} : ab_wb Ls C J Rt nx ((.ixor, ex, z) :: is) L (vI y :: vI x :: S) w = ab_wb Ls C J Rt nx is L (vI (i_xor x y) :: S) w := propext Iff.rfl
theorem e_ishl {x y : Int} : ab_wb Ls C J Rt nx ((.ishl, ex, z) :: is) L (vI y :: vI x :: S) w = ab_wb Ls C J Rt nx is L (vI (i_shl x y) :: S) w := propext Iff.rfl
theorem e_ishr {x y : Int} : ab_wb Ls C J Rt nx ((.ishr, ex, z) :: is) L (vI y :: vI x :: S) w = ab_wb Ls C J Rt nx is L (vI (i_shr x y) :: S) w := propext Iff.rfl
theorem e_iushr {x y : Int} : ab_wb Ls C J Rt nx ((.iushr, ex, z) :: is) L (vI y :: vI x :: S) w = ab_wb Ls C J Rt nx is L (vI (i_ushr x y) :: S) w := propext Iff.rfl
theorem e_idiv {x y : Int} : ab_wb Ls C J Rt nx ((.idiv, ex, z) :: is) L (vI y :: vI x :: S) w = (y ≠ 0 ∧ ab_wb Ls C J Rt nx is L (vI (i_div x y) :: S) w) := propext Iff.rfl
theorem e_irem {x y : Int} : ab_wb Ls C J Rt nx ((.irem, ex, z) :: is) L (vI y :: vI x :: S) w = (y ≠ 0 ∧ ab_wb Ls C J Rt nx is L (vI (i_rem x y) :: S) w) := propext Iff.rfl
theorem e_ladd {x y : Int} : ab_wb Ls C J Rt nx ((.ladd, ex, z) :: is) L (vL y :: vL x :: S) w = ab_wb Ls C J Rt nx is L (vL (lW (x + y)) :: S) w := propext Iff.rfl
theorem e_lsub {x y : Int} : ab_wb Ls C J Rt nx ((.lsub, ex, z) :: is) L (vL y :: vL x :: S) w = ab_wb Ls C J Rt nx is L (vL (lW (x - y)) :: S) w := propext Iff.rfl
theorem e_lmul {x y : Int} : ab_wb Ls C J Rt nx ((.lmul, ex, z) :: is) L (vL y :: vL x :: S) w = ab_wb Ls C J Rt nx is L (vL (lW (x * y)) :: S) w := propext Iff.rfl
theorem e_land {x y : Int} : ab_wb Ls C J Rt nx ((.land, ex, z) :: is) L (vL y :: vL x :: S) w = ab_wb Ls C J Rt nx is L (vL (l_and x y) :: S) w := propext Iff.rfl
theorem e_lor {x y : Int} : ab_wb Ls C J Rt nx ((.lor, ex, z) :: is) L (vL y :: vL x :: S) w = ab_wb Ls C J Rt nx is L (vL (l_or x y) :: S) w := propext Iff.rfl
theorem e_ldiv {x y : Int} : ab_wb Ls C J Rt nx ((.ldiv, ex, z) :: is) L (vL y :: vL x :: S) w = (y ≠ 0 ∧ ab_wb Ls C J Rt nx is L (vL (l_div x y) :: S) w) := propext Iff.rfl
theorem e_lrem {x y : Int} : ab_wb Ls C J Rt nx ((.lrem, ex, z) :: is) L (vL y :: vL x :: S) w = (y ≠ 0 ∧ ab_wb Ls C J Rt nx is L (vL (l_rem x y) :: S) w) := propext Iff.rfl
theorem e_lshl {x y : Int} : ab_wb Ls C J Rt nx ((.lshl, ex, z) :: is) L (vI y :: vL x :: S) w = ab_wb Ls C J Rt nx is L (vL (l_shl x y) :: S) w := propext Iff.rfl
theorem e_lshr {x y : Int} : ab_wb Ls C J Rt nx ((.lshr, ex, z) :: is) L (vI y :: vL x :: S) w = ab_wb Ls C J Rt nx is L (vL (l_shr x y) :: S) w := propext Iff.rfl
theorem e_lushr {x y : Int} : ab_wb Ls C J Rt nx ((.lushr, ex, z) :: is) L (vI y :: vL x :: S) w = ab_wb Ls C J Rt nx is L (vL (l_ushr x y) :: S) w := propext Iff.rfl
theorem e_i2l {x : Int} : ab_wb Ls C J Rt nx ((.i2l, ex, z) :: is) L (vI x :: S) w = ab_wb Ls C J Rt nx is L (vL x :: S) w := propext Iff.rfl
theorem e_l2i {x : Int} : ab_wb Ls C J Rt nx ((.l2i, ex, z) :: is) L (vL x :: S) w = ab_wb Ls C J Rt nx is L (vI (iW x) :: S) w := propext Iff.rfl
theorem e_i2b {x : Int} : ab_wb Ls C J Rt nx ((.i2b, ex, z) :: is) L (vI x :: S) w = ab_wb Ls C J Rt nx is L (vI (i_2b x) :: S) w := propext Iff.rfl
theorem e_i2s {x : Int} : ab_wb Ls C J Rt nx ((.i2s, ex, z) :: is) L (vI x :: S) w = ab_wb Ls C J Rt nx is L (vI (i_2s x) :: S) w := propext Iff.rfl
theorem e_lcmp {x y : Int} : ab_wb Ls C J Rt nx ((.lcmp, ex, z) :: is) L (vL y :: vL x :: S) w = ab_wb Ls C J Rt nx is L (vI (l_cmp x y) :: S) w := propext Iff.rfl
theorem e_dupI {x : Int} : ab_wb Ls C J Rt nx ((.dup, ex, z) :: is) L (vI x :: S) w = ab_wb Ls C J Rt nx is L (vI x :: vI x :: S) w := propext Iff.rfl
theorem e_dupR {x : Nat} : ab_wb Ls C J Rt nx ((.dup, ex, z) :: is) L (vR x :: S) w = ab_wb Ls C J Rt nx is L (vR x :: vR x :: S) w := propext Iff.rfl
theorem e_dup2 {i : Int} {p : Nat} : ab_wb Ls C J Rt nx ((.dup2, ex, z) :: is) L (vI i :: vR p :: S) w = ab_wb Ls C J Rt nx is L (vI i :: vR p :: vI i :: vR p :: S) w := propext Iff.rfl
theorem e_if_eq {x o : Int} {b : Nat} : ab_wb Ls C J Rt nx ((.ifCond .eq o, [b], z) :: is) L (vI x :: S) w = ((x = 0 → J b L S w) ∧ (¬ (x = 0) → ab_wb Ls C J Rt nx is L S w)) := propext Iff.rfl
theorem e_cmp_eq {x y o : Int} {b : Nat} : ab_wb Ls C J Rt nx ((.if_icmp .eq o, [b], z) :: is) L (vI y :: vI x :: S) w = ((x = y → J b L S w) ∧ (¬ (x = y) → ab_wb Ls C J Rt nx is L S w)) := propext Iff.rfl
theorem e_if_ne {x o : Int} {b : Nat} : ab_wb Ls C J Rt nx ((.ifCond .ne o, [b], z) :: is) L (vI x :: S) w = ((¬ x = 0 → J b L S w) ∧ (¬ (¬ x = 0) → ab_wb Ls C J Rt nx is L S w)) := propext Iff.rfl
theorem e_cmp_ne {x y o : Int} {b : Nat} : ab_wb Ls C J Rt nx ((.if_icmp .ne o, [b], z) :: is) L (vI y :: vI x :: S) w = ((¬ x = y → J b L S w) ∧ (¬ (¬ x = y) → ab_wb Ls C J Rt nx is L S w)) := propext Iff.rfl
theorem e_if_lt {x o : Int} {b : Nat} : ab_wb Ls C J Rt nx ((.ifCond .lt o, [b], z) :: is) L (vI x :: S) w = ((x < 0 → J b L S w) ∧ (¬ (x < 0) → ab_wb Ls C J Rt nx is L S w)) := propext Iff.rfl
theorem e_cmp_lt {x y o : Int} {b : Nat} : ab_wb Ls C J Rt nx ((.if_icmp .lt o, [b], z) :: is) L (vI y :: vI x :: S) w = ((x < y → J b L S w) ∧ (¬ (x < y) → ab_wb Ls C J Rt nx is L S w)) := propext Iff.rfl
theorem e_if_ge {x o : Int} {b : Nat} : ab_wb Ls C J Rt nx ((.ifCond .ge o, [b], z) :: is) L (vI x :: S) w = ((0 ≤ x → J b L S w) ∧ (¬ (0 ≤ x) → ab_wb Ls C J Rt nx is L S w)) := propext Iff.rfl
theorem e_cmp_ge {x y o : Int} {b : Nat} : ab_wb Ls C J Rt nx ((.if_icmp .ge o, [b], z) :: is) L (vI y :: vI x :: S) w = ((y ≤ x → J b L S w) ∧ (¬ (y ≤ x) → ab_wb Ls C J Rt nx is L S w)) := propext Iff.rfl
theorem e_if_gt {x o : Int} {b : Nat} : ab_wb Ls C J Rt nx ((.ifCond .gt o, [b], z) :: is) L (vI x :: S) w = ((0 < x → J b L S w) ∧ (¬ (0 < x) → ab_wb Ls C J Rt nx is L S w)) := propext Iff.rfl
theorem e_cmp_gt {x y o : Int} {b : Nat} : ab_wb Ls C J Rt nx ((.if_icmp .gt o, [b], z) :: is) L (vI y :: vI x :: S) w = ((y < x → J b L S w) ∧ (¬ (y < x) → ab_wb Ls C J Rt nx is L S w)) := propext Iff.rfl
theorem e_if_le {x o : Int} {b : Nat} : ab_wb Ls C J Rt nx ((.ifCond .le o, [b], z) :: is) L (vI x :: S) w = ((x ≤ 0 → J b L S w) ∧ (¬ (x ≤ 0) → ab_wb Ls C J Rt nx is L S w)) := propext Iff.rfl
theorem e_cmp_le {x y o : Int} {b : Nat} : ab_wb Ls C J Rt nx ((.if_icmp .le o, [b], z) :: is) L (vI y :: vI x :: S) w = ((x ≤ y → J b L S w) ∧ (¬ (x ≤ y) → ab_wb Ls C J Rt nx is L S w)) := propext Iff.rfl
theorem e_goto {o : Int} {b : Nat} : ab_wb Ls C J Rt nx ((.goto o, [b], z) :: is) L S w = J b L S w := propext Iff.rfl
theorem e_tsw {x d lo hi : Int} {o : Array Int} {b : Nat} {bs : List Nat} : ab_wb Ls C J Rt nx ((.tableswitch d lo hi o, b :: bs, z) :: is) L (vI x :: S) w = J (ab_sw lo bs b x) L S w := propext Iff.rfl
theorem e_lsw {x d : Int} {o : Array (Int × Int)} {b : Nat} {bs : List Nat} : ab_wb Ls C J Rt nx ((.lookupswitch d o, b :: bs, z) :: is) L (vI x :: S) w = J (ab_lsw o.toList bs b x) L S w := propext Iff.rfl
theorem e_iret {x : Int} : ab_wb Ls C J Rt nx ((.ireturn, [0], z) :: is) L [vI x] w = Rt (some (vI x)) w := propext ⟨fun h => h.2, fun h => ⟨fun q => (by cases q), h⟩⟩
theorem e_zret {x : Int} : ab_wb Ls C J Rt nx ((.ireturn, [1], z) :: is) L [vI x] w = ((x = 0 ∨ x = 1) ∧ Rt (some (vI x)) w) := propext ⟨fun h => ⟨h.1 rfl, h.2⟩, fun h => ⟨fun _ => h.1, h.2⟩⟩
theorem e_lret {x : Int} : ab_wb Ls C J Rt nx ((.lreturn, ex, z) :: is) L [vL x] w = Rt (some (vL x)) w := propext Iff.rfl
theorem e_vret : ab_wb Ls C J Rt nx ((.return_, ex, z) :: is) L [] w = Rt none w := propext Iff.rfl
theorem e_gets {i : Nat} : ab_wb Ls C J Rt nx ((.getstatic i, ex, z) :: is) L S w = ab_wb Ls C J Rt nx is L (vR 100 :: S) w := propext Iff.rfl
theorem g_0_0 {i : Nat} : ab_wb Ls C J Rt nx ((.getfield i, [4, 0], z) :: is) L (vR 0 :: S) w = ab_wb Ls C J Rt nx is L (vR 1 :: S) w := propext Iff.rfl
theorem g_0_1 {i : Nat} : ab_wb Ls C J Rt nx ((.getfield i, [4, 1], z) :: is) L (vR 0 :: S) w = ab_wb Ls C J Rt nx is L (vR 3 :: S) w := propext Iff.rfl
theorem g_0_2 {i : Nat} : ab_wb Ls C J Rt nx ((.getfield i, [4, 2], z) :: is) L (vR 0 :: S) w = ab_wb Ls C J Rt nx is L (vR 7 :: S) w := propext Iff.rfl
theorem g_0_3 {i : Nat} : ab_wb Ls C J Rt nx ((.getfield i, [4, 3], z) :: is) L (vR 0 :: S) w = ab_wb Ls C J Rt nx is L (vR 11 :: S) w := propext Iff.rfl
theorem g_0_4 {i : Nat} : ab_wb Ls C J Rt nx ((.getfield i, [4, 4], z) :: is) L (vR 0 :: S) w = ab_wb Ls C J Rt nx is L (vR 15 :: S) w := propext Iff.rfl
theorem g_0_5 {i : Nat} : ab_wb Ls C J Rt nx ((.getfield i, [4, 5], z) :: is) L (vR 0 :: S) w = ab_wb Ls C J Rt nx is L (vR 21 :: S) w := propext Iff.rfl
theorem g_0_6 {i : Nat} : ab_wb Ls C J Rt nx ((.getfield i, [4, 6], z) :: is) L (vR 0 :: S) w = ab_wb Ls C J Rt nx is L (vR 27 :: S) w := propext Iff.rfl
theorem g_0_7 {i : Nat} : ab_wb Ls C J Rt nx ((.getfield i, [4, 7], z) :: is) L (vR 0 :: S) w = ab_wb Ls C J Rt nx is L (vI (w 0 7) :: S) w := propext Iff.rfl
theorem p_0_7 {i : Nat} {x : Int} : ab_wb Ls C J Rt nx ((.putfield i, [4, 7, 1], z) :: is) L (vI x :: vR 0 :: S) w = ((x = 0 ∨ x = 1) ∧ ab_wb Ls C J Rt nx is L S (ab_up w 0 7 x)) := propext ⟨fun h => ⟨h.2.1 rfl, h.2.2⟩, fun h => ⟨rfl, fun _ => h.1, h.2⟩⟩
theorem g_0_8 {i : Nat} : ab_wb Ls C J Rt nx ((.getfield i, [4, 8], z) :: is) L (vR 0 :: S) w = ab_wb Ls C J Rt nx is L (vR 28 :: S) w := propext Iff.rfl
theorem g_0_9 {i : Nat} : ab_wb Ls C J Rt nx ((.getfield i, [4, 9], z) :: is) L (vR 0 :: S) w = ab_wb Ls C J Rt nx is L (vR 29 :: S) w := propext Iff.rfl
theorem g_0_10 {i : Nat} : ab_wb Ls C J Rt nx ((.getfield i, [4, 10], z) :: is) L (vR 0 :: S) w = ab_wb Ls C J Rt nx is L (vR 30 :: S) w := propext Iff.rfl
theorem g_0_11 {i : Nat} : ab_wb Ls C J Rt nx ((.getfield i, [4, 11], z) :: is) L (vR 0 :: S) w = ab_wb Ls C J Rt nx is L (vI (w 0 11) :: S) w := propext Iff.rfl
theorem p_0_11 {i : Nat} {x : Int} : ab_wb Ls C J Rt nx ((.putfield i, [4, 11, 0], z) :: is) L (vI x :: vR 0 :: S) w = ab_wb Ls C J Rt nx is L S (ab_up w 0 11 x) := propext ⟨fun h => h.2.2, fun h => ⟨rfl, fun q => (by cases q), h⟩⟩
theorem g_0_12 {i : Nat} : ab_wb Ls C J Rt nx ((.getfield i, [4, 12], z) :: is) L (vR 0 :: S) w = ab_wb Ls C J Rt nx is L (vI (w 0 12) :: S) w := propext Iff.rfl
theorem p_0_12 {i : Nat} {x : Int} : ab_wb Ls C J Rt nx ((.putfield i, [4, 12, 0], z) :: is) L (vI x :: vR 0 :: S) w = ab_wb Ls C J Rt nx is L S (ab_up w 0 12 x) := propext ⟨fun h => h.2.2, fun h => ⟨rfl, fun q => (by cases q), h⟩⟩
theorem g_1_0 {i : Nat} : ab_wb Ls C J Rt nx ((.getfield i, [2, 0], z) :: is) L (vR 1 :: S) w = ab_wb Ls C J Rt nx is L (vR 2 :: S) w := propext Iff.rfl
theorem g_1_1 {i : Nat} : ab_wb Ls C J Rt nx ((.getfield i, [2, 1], z) :: is) L (vR 1 :: S) w = ab_wb Ls C J Rt nx is L (vI (w 1 1) :: S) w := propext Iff.rfl
theorem p_1_1 {i : Nat} {x : Int} : ab_wb Ls C J Rt nx ((.putfield i, [2, 1, 0], z) :: is) L (vI x :: vR 1 :: S) w = ab_wb Ls C J Rt nx is L S (ab_up w 1 1 x) := propext ⟨fun h => h.2.2, fun h => ⟨rfl, fun q => (by cases q), h⟩⟩
theorem x_2 {i : Int} : ab_wb Ls C J Rt nx ((.iaload, ex, z) :: is) L (vI i :: vR 2 :: S) w = ((0 ≤ i ∧ i < 35) ∧ ab_wb Ls C J Rt nx is L (vI (w 2 i) :: S) w) := propext Iff.rfl
theorem y_2 {i x : Int} : ab_wb Ls C J Rt nx ((.iastore, ex, z) :: is) L (vI x :: vI i :: vR 2 :: S) w = ((0 ≤ i ∧ i < 35) ∧ ab_wb Ls C J Rt nx is L S (ab_up w 2 i x)) := propext Iff.rfl
theorem n_2  : ab_wb Ls C J Rt nx ((.arraylength, ex, z) :: is) L (vR 2 :: S) w = ab_wb Ls C J Rt nx is L (vI 35 :: S) w := propext Iff.rfl
theorem g_3_0 {i : Nat} : ab_wb Ls C J Rt nx ((.getfield i, [3, 0], z) :: is) L (vR 3 :: S) w = ab_wb Ls C J Rt nx is L (vR 4 :: S) w := propext Iff.rfl
theorem g_3_1 {i : Nat} : ab_wb Ls C J Rt nx ((.getfield i, [3, 1], z) :: is) L (vR 3 :: S) w = ab_wb Ls C J Rt nx is L (vR 5 :: S) w := propext Iff.rfl
theorem g_3_2 {i : Nat} : ab_wb Ls C J Rt nx ((.getfield i, [3, 2], z) :: is) L (vR 3 :: S) w = ab_wb Ls C J Rt nx is L (vR 6 :: S) w := propext Iff.rfl
theorem g_3_3 {i : Nat} : ab_wb Ls C J Rt nx ((.getfield i, [3, 3], z) :: is) L (vR 3 :: S) w = ab_wb Ls C J Rt nx is L (vI (w 3 3) :: S) w := propext Iff.rfl
theorem p_3_3 {i : Nat} {x : Int} : ab_wb Ls C J Rt nx ((.putfield i, [3, 3, 0], z) :: is) L (vI x :: vR 3 :: S) w = ab_wb Ls C J Rt nx is L S (ab_up w 3 3 x) := propext ⟨fun h => h.2.2, fun h => ⟨rfl, fun q => (by cases q), h⟩⟩
theorem x_4 {i : Int} : ab_wb Ls C J Rt nx ((.iaload, ex, z) :: is) L (vI i :: vR 4 :: S) w = ((0 ≤ i ∧ i < 8) ∧ ab_wb Ls C J Rt nx is L (vI (w 4 i) :: S) w) := propext Iff.rfl
theorem y_4 {i x : Int} : ab_wb Ls C J Rt nx ((.iastore, ex, z) :: is) L (vI x :: vI i :: vR 4 :: S) w = ((0 ≤ i ∧ i < 8) ∧ ab_wb Ls C J Rt nx is L S (ab_up w 4 i x)) := propext Iff.rfl
theorem n_4  : ab_wb Ls C J Rt nx ((.arraylength, ex, z) :: is) L (vR 4 :: S) w = ab_wb Ls C J Rt nx is L (vI 8 :: S) w := propext Iff.rfl
theorem x_5 {i : Int} : ab_wb Ls C J Rt nx ((.iaload, ex, z) :: is) L (vI i :: vR 5 :: S) w = ((0 ≤ i ∧ i < 8) ∧ ab_wb Ls C J Rt nx is L (vI (w 5 i) :: S) w) := propext Iff.rfl
theorem y_5 {i x : Int} : ab_wb Ls C J Rt nx ((.iastore, ex, z) :: is) L (vI x :: vI i :: vR 5 :: S) w = ((0 ≤ i ∧ i < 8) ∧ ab_wb Ls C J Rt nx is L S (ab_up w 5 i x)) := propext Iff.rfl
theorem n_5  : ab_wb Ls C J Rt nx ((.arraylength, ex, z) :: is) L (vR 5 :: S) w = ab_wb Ls C J Rt nx is L (vI 8 :: S) w := propext Iff.rfl
theorem x_6 {i : Int} : ab_wb Ls C J Rt nx ((.iaload, ex, z) :: is) L (vI i :: vR 6 :: S) w = ((0 ≤ i ∧ i < 8) ∧ ab_wb Ls C J Rt nx is L (vI (w 6 i) :: S) w) := propext Iff.rfl
theorem y_6 {i x : Int} : ab_wb Ls C J Rt nx ((.iastore, ex, z) :: is) L (vI x :: vI i :: vR 6 :: S) w = ((0 ≤ i ∧ i < 8) ∧ ab_wb Ls C J Rt nx is L S (ab_up w 6 i x)) := propext Iff.rfl
theorem n_6  : ab_wb Ls C J Rt nx ((.arraylength, ex, z) :: is) L (vR 6 :: S) w = ab_wb Ls C J Rt nx is L (vI 8 :: S) w := propext Iff.rfl
theorem g_7_0 {i : Nat} : ab_wb Ls C J Rt nx ((.getfield i, [3, 0], z) :: is) L (vR 7 :: S) w = ab_wb Ls C J Rt nx is L (vR 8 :: S) w := propext Iff.rfl
theorem g_7_1 {i : Nat} : ab_wb Ls C J Rt nx ((.getfield i, [3, 1], z) :: is) L (vR 7 :: S) w = ab_wb Ls C J Rt nx is L (vR 9 :: S) w := propext Iff.rfl
theorem g_7_2 {i : Nat} : ab_wb Ls C J Rt nx ((.getfield i, [3, 2], z) :: is) L (vR 7 :: S) w = ab_wb Ls C J Rt nx is L (vR 10 :: S) w := propext Iff.rfl
theorem g_7_3 {i : Nat} : ab_wb Ls C J Rt nx ((.getfield i, [3, 3], z) :: is) L (vR 7 :: S) w = ab_wb Ls C J Rt nx is L (vI (w 7 3) :: S) w := propext Iff.rfl
theorem p_7_3 {i : Nat} {x : Int} : ab_wb Ls C J Rt nx ((.putfield i, [3, 3, 0], z) :: is) L (vI x :: vR 7 :: S) w = ab_wb Ls C J Rt nx is L S (ab_up w 7 3 x) := propext ⟨fun h => h.2.2, fun h => ⟨rfl, fun q => (by cases q), h⟩⟩
theorem x_8 {i : Int} : ab_wb Ls C J Rt nx ((.iaload, ex, z) :: is) L (vI i :: vR 8 :: S) w = ((0 ≤ i ∧ i < 8) ∧ ab_wb Ls C J Rt nx is L (vI (w 8 i) :: S) w) := propext Iff.rfl
theorem y_8 {i x : Int} : ab_wb Ls C J Rt nx ((.iastore, ex, z) :: is) L (vI x :: vI i :: vR 8 :: S) w = ((0 ≤ i ∧ i < 8) ∧ ab_wb Ls C J Rt nx is L S (ab_up w 8 i x)) := propext Iff.rfl
theorem n_8  : ab_wb Ls C J Rt nx ((.arraylength, ex, z) :: is) L (vR 8 :: S) w = ab_wb Ls C J Rt nx is L (vI 8 :: S) w := propext Iff.rfl
theorem x_9 {i : Int} : ab_wb Ls C J Rt nx ((.iaload, ex, z) :: is) L (vI i :: vR 9 :: S) w = ((0 ≤ i ∧ i < 8) ∧ ab_wb Ls C J Rt nx is L (vI (w 9 i) :: S) w) := propext Iff.rfl
theorem y_9 {i x : Int} : ab_wb Ls C J Rt nx ((.iastore, ex, z) :: is) L (vI x :: vI i :: vR 9 :: S) w = ((0 ≤ i ∧ i < 8) ∧ ab_wb Ls C J Rt nx is L S (ab_up w 9 i x)) := propext Iff.rfl
theorem n_9  : ab_wb Ls C J Rt nx ((.arraylength, ex, z) :: is) L (vR 9 :: S) w = ab_wb Ls C J Rt nx is L (vI 8 :: S) w := propext Iff.rfl
theorem x_10 {i : Int} : ab_wb Ls C J Rt nx ((.iaload, ex, z) :: is) L (vI i :: vR 10 :: S) w = ((0 ≤ i ∧ i < 8) ∧ ab_wb Ls C J Rt nx is L (vI (w 10 i) :: S) w) := propext Iff.rfl
theorem y_10 {i x : Int} : ab_wb Ls C J Rt nx ((.iastore, ex, z) :: is) L (vI x :: vI i :: vR 10 :: S) w = ((0 ≤ i ∧ i < 8) ∧ ab_wb Ls C J Rt nx is L S (ab_up w 10 i x)) := propext Iff.rfl
theorem n_10  : ab_wb Ls C J Rt nx ((.arraylength, ex, z) :: is) L (vR 10 :: S) w = ab_wb Ls C J Rt nx is L (vI 8 :: S) w := propext Iff.rfl
theorem g_11_0 {i : Nat} : ab_wb Ls C J Rt nx ((.getfield i, [3, 0], z) :: is) L (vR 11 :: S) w = ab_wb Ls C J Rt nx is L (vR 12 :: S) w := propext Iff.rfl
theorem g_11_1 {i : Nat} : ab_wb Ls C J Rt nx ((.getfield i, [3, 1], z) :: is) L (vR 11 :: S) w = ab_wb Ls C J Rt nx is L (vR 13 :: S) w := propext Iff.rfl
theorem g_11_2 {i : Nat} : ab_wb Ls C J Rt nx ((.getfield i, [3, 2], z) :: is) L (vR 11 :: S) w = ab_wb Ls C J Rt nx is L (vR 14 :: S) w := propext Iff.rfl
theorem g_11_3 {i : Nat} : ab_wb Ls C J Rt nx ((.getfield i, [3, 3], z) :: is) L (vR 11 :: S) w = ab_wb Ls C J Rt nx is L (vI (w 11 3) :: S) w := propext Iff.rfl
theorem p_11_3 {i : Nat} {x : Int} : ab_wb Ls C J Rt nx ((.putfield i, [3, 3, 0], z) :: is) L (vI x :: vR 11 :: S) w = ab_wb Ls C J Rt nx is L S (ab_up w 11 3 x) := propext ⟨fun h => h.2.2, fun h => ⟨rfl, fun q => (by cases q), h⟩⟩
theorem x_12 {i : Int} : ab_wb Ls C J Rt nx ((.iaload, ex, z) :: is) L (vI i :: vR 12 :: S) w = ((0 ≤ i ∧ i < 8) ∧ ab_wb Ls C J Rt nx is L (vI (w 12 i) :: S) w) := propext Iff.rfl
theorem y_12 {i x : Int} : ab_wb Ls C J Rt nx ((.iastore, ex, z) :: is) L (vI x :: vI i :: vR 12 :: S) w = ((0 ≤ i ∧ i < 8) ∧ ab_wb Ls C J Rt nx is L S (ab_up w 12 i x)) := propext Iff.rfl
theorem n_12  : ab_wb Ls C J Rt nx ((.arraylength, ex, z) :: is) L (vR 12 :: S) w = ab_wb Ls C J Rt nx is L (vI 8 :: S) w := propext Iff.rfl
theorem x_13 {i : Int} : ab_wb Ls C J Rt nx ((.iaload, ex, z) :: is) L (vI i :: vR 13 :: S) w = ((0 ≤ i ∧ i < 8) ∧ ab_wb Ls C J Rt nx is L (vI (w 13 i) :: S) w) := propext Iff.rfl
theorem y_13 {i x : Int} : ab_wb Ls C J Rt nx ((.iastore, ex, z) :: is) L (vI x :: vI i :: vR 13 :: S) w = ((0 ≤ i ∧ i < 8) ∧ ab_wb Ls C J Rt nx is L S (ab_up w 13 i x)) := propext Iff.rfl
theorem n_13  : ab_wb Ls C J Rt nx ((.arraylength, ex, z) :: is) L (vR 13 :: S) w = ab_wb Ls C J Rt nx is L (vI 8 :: S) w := propext Iff.rfl
theorem x_14 {i : Int} : ab_wb Ls C J Rt nx ((.iaload, ex, z) :: is) L (vI i :: vR 14 :: S) w = ((0 ≤ i ∧ i < 8) ∧ ab_wb Ls C J Rt nx is L (vI (w 14 i) :: S) w) := propext Iff.rfl
theorem y_14 {i x : Int} : ab_wb Ls C J Rt nx ((.iastore, ex, z) :: is) L (vI x :: vI i :: vR 14 :: S) w = ((0 ≤ i ∧ i < 8) ∧ ab_wb Ls C J Rt nx is L S (ab_up w 14 i x)) := propext Iff.rfl
theorem n_14  : ab_wb Ls C J Rt nx ((.arraylength, ex, z) :: is) L (vR 14 :: S) w = ab_wb Ls C J Rt nx is L (vI 8 :: S) w := propext Iff.rfl
theorem g_15_0 {i : Nat} : ab_wb Ls C J Rt nx ((.getfield i, [0, 0], z) :: is) L (vR 15 :: S) w = ab_wb Ls C J Rt nx is L (vR 16 :: S) w := propext Iff.rfl
theorem g_15_1 {i : Nat} : ab_wb Ls C J Rt nx ((.getfield i, [0, 1], z) :: is) L (vR 15 :: S) w = ab_wb Ls C J Rt nx is L (vR 17 :: S) w := propext Iff.rfl
theorem g_15_2 {i : Nat} : ab_wb Ls C J Rt nx ((.getfield i, [0, 2], z) :: is) L (vR 15 :: S) w = ab_wb Ls C J Rt nx is L (vR 18 :: S) w := propext Iff.rfl
theorem g_15_3 {i : Nat} : ab_wb Ls C J Rt nx ((.getfield i, [0, 3], z) :: is) L (vR 15 :: S) w = ab_wb Ls C J Rt nx is L (vR 19 :: S) w := propext Iff.rfl
theorem g_15_4 {i : Nat} : ab_wb Ls C J Rt nx ((.getfield i, [0, 4], z) :: is) L (vR 15 :: S) w = ab_wb Ls C J Rt nx is L (vR 20 :: S) w := propext Iff.rfl
theorem g_15_5 {i : Nat} : ab_wb Ls C J Rt nx ((.getfield i, [0, 5], z) :: is) L (vR 15 :: S) w = ab_wb Ls C J Rt nx is L (vI (w 15 5) :: S) w := propext Iff.rfl
theorem p_15_5 {i : Nat} {x : Int} : ab_wb Ls C J Rt nx ((.putfield i, [0, 5, 0], z) :: is) L (vI x :: vR 15 :: S) w = ab_wb Ls C J Rt nx is L S (ab_up w 15 5 x) := propext ⟨fun h => h.2.2, fun h => ⟨rfl, fun q => (by cases q), h⟩⟩
theorem g_15_6 {i : Nat} : ab_wb Ls C J Rt nx ((.getfield i, [0, 6], z) :: is) L (vR 15 :: S) w = ab_wb Ls C J Rt nx is L (vI (w 15 6) :: S) w := propext Iff.rfl
theorem p_15_6 {i : Nat} {x : Int} : ab_wb Ls C J Rt nx ((.putfield i, [0, 6, 0], z) :: is) L (vI x :: vR 15 :: S) w = ab_wb Ls C J Rt nx is L S (ab_up w 15 6 x) := propext ⟨fun h => h.2.2, fun h => ⟨rfl, fun q => (by cases q), h⟩⟩
theorem g_15_7 {i : Nat} : ab_wb Ls C J Rt nx ((.getfield i, [0, 7], z) :: is) L (vR 15 :: S) w = ab_wb Ls C J Rt nx is L (vI (w 15 7) :: S) w := propext Iff.rfl
theorem p_15_7 {i : Nat} {x : Int} : ab_wb Ls C J Rt nx ((.putfield i, [0, 7, 0], z) :: is) L (vI x :: vR 15 :: S) w = ab_wb Ls C J Rt nx is L S (ab_up w 15 7 x) := propext ⟨fun h => h.2.2, fun h => ⟨rfl, fun q => (by cases q), h⟩⟩
theorem x_16 {i : Int} : ab_wb Ls C J Rt nx ((.iaload, ex, z) :: is) L (vI i :: vR 16 :: S) w = ((0 ≤ i ∧ i < 16) ∧ ab_wb Ls C J Rt nx is L (vI (w 16 i) :: S) w) := propext Iff.rfl
theorem y_16 {i x : Int} : ab_wb Ls C J Rt nx ((.iastore, ex, z) :: is) L (vI x :: vI i :: vR 16 :: S) w = ((0 ≤ i ∧ i < 16) ∧ ab_wb Ls C J Rt nx is L S (ab_up w 16 i x)) := propext Iff.rfl
theorem n_16  : ab_wb Ls C J Rt nx ((.arraylength, ex, z) :: is) L (vR 16 :: S) w = ab_wb Ls C J Rt nx is L (vI 16 :: S) w := propext Iff.rfl
theorem x_17 {i : Int} : ab_wb Ls C J Rt nx ((.iaload, ex, z) :: is) L (vI i :: vR 17 :: S) w = ((0 ≤ i ∧ i < 16) ∧ ab_wb Ls C J Rt nx is L (vI (w 17 i) :: S) w) := propext Iff.rfl
theorem y_17 {i x : Int} : ab_wb Ls C J Rt nx ((.iastore, ex, z) :: is) L (vI x :: vI i :: vR 17 :: S) w = ((0 ≤ i ∧ i < 16) ∧ ab_wb Ls C J Rt nx is L S (ab_up w 17 i x)) := propext Iff.rfl
theorem n_17  : ab_wb Ls C J Rt nx ((.arraylength, ex, z) :: is) L (vR 17 :: S) w = ab_wb Ls C J Rt nx is L (vI 16 :: S) w := propext Iff.rfl
theorem x_18 {i : Int} : ab_wb Ls C J Rt nx ((.laload, ex, z) :: is) L (vI i :: vR 18 :: S) w = ((0 ≤ i ∧ i < 4) ∧ ab_wb Ls C J Rt nx is L (vL (w 18 i) :: S) w) := propext Iff.rfl
theorem y_18 {i x : Int} : ab_wb Ls C J Rt nx ((.lastore, ex, z) :: is) L (vL x :: vI i :: vR 18 :: S) w = ((0 ≤ i ∧ i < 4) ∧ ab_wb Ls C J Rt nx is L S (ab_up w 18 i x)) := propext Iff.rfl
theorem n_18  : ab_wb Ls C J Rt nx ((.arraylength, ex, z) :: is) L (vR 18 :: S) w = ab_wb Ls C J Rt nx is L (vI 4 :: S) w := propext Iff.rfl
theorem x_19 {i : Int} : ab_wb Ls C J Rt nx ((.iaload, ex, z) :: is) L (vI i :: vR 19 :: S) w = ((0 ≤ i ∧ i < 192) ∧ ab_wb Ls C J Rt nx is L (vI (w 19 i) :: S) w) := propext Iff.rfl
theorem y_19 {i x : Int} : ab_wb Ls C J Rt nx ((.iastore, ex, z) :: is) L (vI x :: vI i :: vR 19 :: S) w = ((0 ≤ i ∧ i < 192) ∧ ab_wb Ls C J Rt nx is L S (ab_up w 19 i x)) := propext Iff.rfl
theorem n_19  : ab_wb Ls C J Rt nx ((.arraylength, ex, z) :: is) L (vR 19 :: S) w = ab_wb Ls C J Rt nx is L (vI 192 :: S) w := propext Iff.rfl
theorem x_20 {i : Int} : ab_wb Ls C J Rt nx ((.iaload, ex, z) :: is) L (vI i :: vR 20 :: S) w = ((0 ≤ i ∧ i < 16) ∧ ab_wb Ls C J Rt nx is L (vI (w 20 i) :: S) w) := propext Iff.rfl
theorem y_20 {i x : Int} : ab_wb Ls C J Rt nx ((.iastore, ex, z) :: is) L (vI x :: vI i :: vR 20 :: S) w = ((0 ≤ i ∧ i < 16) ∧ ab_wb Ls C J Rt nx is L S (ab_up w 20 i x)) := propext Iff.rfl
theorem n_20  : ab_wb Ls C J Rt nx ((.arraylength, ex, z) :: is) L (vR 20 :: S) w = ab_wb Ls C J Rt nx is L (vI 16 :: S) w := propext Iff.rfl
theorem g_21_0 {i : Nat} : ab_wb Ls C J Rt nx ((.getfield i, [0, 0], z) :: is) L (vR 21 :: S) w = ab_wb Ls C J Rt nx is L (vR 22 :: S) w := propext Iff.rfl
theorem g_21_1 {i : Nat} : ab_wb Ls C J Rt nx ((.getfield i, [0, 1], z) :: is) L (vR 21 :: S) w = ab_wb Ls C J Rt nx is L (vR 23 :: S) w := propext Iff.rfl
theorem g_21_2 {i : Nat} : ab_wb Ls C J Rt nx ((.getfield i, [0, 2], z) :: is) L (vR 21 :: S) w = ab_wb Ls C J Rt nx is L (vR 24 :: S) w := propext Iff.rfl
theorem g_21_3 {i : Nat} : ab_wb Ls C J Rt nx ((.getfield i, [0, 3], z) :: is) L (vR 21 :: S) w = ab_wb Ls C J Rt nx is L (vR 25 :: S) w := propext Iff.rfl
theorem g_21_4 {i : Nat} : ab_wb Ls C J Rt nx ((.getfield i, [0, 4], z) :: is) L (vR 21 :: S) w = ab_wb Ls C J Rt nx is L (vR 26 :: S) w := propext Iff.rfl
theorem g_21_5 {i : Nat} : ab_wb Ls C J Rt nx ((.getfield i, [0, 5], z) :: is) L (vR 21 :: S) w = ab_wb Ls C J Rt nx is L (vI (w 21 5) :: S) w := propext Iff.rfl
theorem p_21_5 {i : Nat} {x : Int} : ab_wb Ls C J Rt nx ((.putfield i, [0, 5, 0], z) :: is) L (vI x :: vR 21 :: S) w = ab_wb Ls C J Rt nx is L S (ab_up w 21 5 x) := propext ⟨fun h => h.2.2, fun h => ⟨rfl, fun q => (by cases q), h⟩⟩
theorem g_21_6 {i : Nat} : ab_wb Ls C J Rt nx ((.getfield i, [0, 6], z) :: is) L (vR 21 :: S) w = ab_wb Ls C J Rt nx is L (vI (w 21 6) :: S) w := propext Iff.rfl
theorem p_21_6 {i : Nat} {x : Int} : ab_wb Ls C J Rt nx ((.putfield i, [0, 6, 0], z) :: is) L (vI x :: vR 21 :: S) w = ab_wb Ls C J Rt nx is L S (ab_up w 21 6 x) := propext ⟨fun h => h.2.2, fun h => ⟨rfl, fun q => (by cases q), h⟩⟩
theorem g_21_7 {i : Nat} : ab_wb Ls C J Rt nx ((.getfield i, [0, 7], z) :: is) L (vR 21 :: S) w = ab_wb Ls C J Rt nx is L (vI (w 21 7) :: S) w := propext Iff.rfl
theorem p_21_7 {i : Nat} {x : Int} : ab_wb Ls C J Rt nx ((.putfield i, [0, 7, 0], z) :: is) L (vI x :: vR 21 :: S) w = ab_wb Ls C J Rt nx is L S (ab_up w 21 7 x) := propext ⟨fun h => h.2.2, fun h => ⟨rfl, fun q => (by cases q), h⟩⟩
theorem x_22 {i : Int} : ab_wb Ls C J Rt nx ((.iaload, ex, z) :: is) L (vI i :: vR 22 :: S) w = ((0 ≤ i ∧ i < 16) ∧ ab_wb Ls C J Rt nx is L (vI (w 22 i) :: S) w) := propext Iff.rfl
theorem y_22 {i x : Int} : ab_wb Ls C J Rt nx ((.iastore, ex, z) :: is) L (vI x :: vI i :: vR 22 :: S) w = ((0 ≤ i ∧ i < 16) ∧ ab_wb Ls C J Rt nx is L S (ab_up w 22 i x)) := propext Iff.rfl
theorem n_22  : ab_wb Ls C J Rt nx ((.arraylength, ex, z) :: is) L (vR 22 :: S) w = ab_wb Ls C J Rt nx is L (vI 16 :: S) w := propext Iff.rfl
theorem x_23 {i : Int} : ab_wb Ls C J Rt nx ((.iaload, ex, z) :: is) L (vI i :: vR 23 :: S) w = ((0 ≤ i ∧ i < 16) ∧ ab_wb Ls C J Rt nx is L (vI (w 23 i) :: S) w) := propext Iff.rfl
theorem y_23 {i x : Int} : ab_wb Ls C J Rt nx ((.iastore, ex, z) :: is) L (vI x :: vI i :: vR 23 :: S) w = ((0 ≤ i ∧ i < 16) ∧ ab_wb Ls C J Rt nx is L S (ab_up w 23 i x)) := propext Iff.rfl
theorem n_23  : ab_wb Ls C J Rt nx ((.arraylength, ex, z) :: is) L (vR 23 :: S) w = ab_wb Ls C J Rt nx is L (vI 16 :: S) w := propext Iff.rfl
theorem x_24 {i : Int} : ab_wb Ls C J Rt nx ((.laload, ex, z) :: is) L (vI i :: vR 24 :: S) w = ((0 ≤ i ∧ i < 4) ∧ ab_wb Ls C J Rt nx is L (vL (w 24 i) :: S) w) := propext Iff.rfl
theorem y_24 {i x : Int} : ab_wb Ls C J Rt nx ((.lastore, ex, z) :: is) L (vL x :: vI i :: vR 24 :: S) w = ((0 ≤ i ∧ i < 4) ∧ ab_wb Ls C J Rt nx is L S (ab_up w 24 i x)) := propext Iff.rfl
theorem n_24  : ab_wb Ls C J Rt nx ((.arraylength, ex, z) :: is) L (vR 24 :: S) w = ab_wb Ls C J Rt nx is L (vI 4 :: S) w := propext Iff.rfl
theorem x_25 {i : Int} : ab_wb Ls C J Rt nx ((.iaload, ex, z) :: is) L (vI i :: vR 25 :: S) w = ((0 ≤ i ∧ i < 192) ∧ ab_wb Ls C J Rt nx is L (vI (w 25 i) :: S) w) := propext Iff.rfl
theorem y_25 {i x : Int} : ab_wb Ls C J Rt nx ((.iastore, ex, z) :: is) L (vI x :: vI i :: vR 25 :: S) w = ((0 ≤ i ∧ i < 192) ∧ ab_wb Ls C J Rt nx is L S (ab_up w 25 i x)) := propext Iff.rfl
theorem n_25  : ab_wb Ls C J Rt nx ((.arraylength, ex, z) :: is) L (vR 25 :: S) w = ab_wb Ls C J Rt nx is L (vI 192 :: S) w := propext Iff.rfl
theorem x_26 {i : Int} : ab_wb Ls C J Rt nx ((.iaload, ex, z) :: is) L (vI i :: vR 26 :: S) w = ((0 ≤ i ∧ i < 16) ∧ ab_wb Ls C J Rt nx is L (vI (w 26 i) :: S) w) := propext Iff.rfl
theorem y_26 {i x : Int} : ab_wb Ls C J Rt nx ((.iastore, ex, z) :: is) L (vI x :: vI i :: vR 26 :: S) w = ((0 ≤ i ∧ i < 16) ∧ ab_wb Ls C J Rt nx is L S (ab_up w 26 i x)) := propext Iff.rfl
theorem n_26  : ab_wb Ls C J Rt nx ((.arraylength, ex, z) :: is) L (vR 26 :: S) w = ab_wb Ls C J Rt nx is L (vI 16 :: S) w := propext Iff.rfl
theorem x_27 {i : Int} : ab_wb Ls C J Rt nx ((.iaload, ex, z) :: is) L (vI i :: vR 27 :: S) w = ((0 ≤ i ∧ i < 1024) ∧ ab_wb Ls C J Rt nx is L (vI (w 27 i) :: S) w) := propext Iff.rfl
theorem y_27 {i x : Int} : ab_wb Ls C J Rt nx ((.iastore, ex, z) :: is) L (vI x :: vI i :: vR 27 :: S) w = ((0 ≤ i ∧ i < 1024) ∧ ab_wb Ls C J Rt nx is L S (ab_up w 27 i x)) := propext Iff.rfl
theorem n_27  : ab_wb Ls C J Rt nx ((.arraylength, ex, z) :: is) L (vR 27 :: S) w = ab_wb Ls C J Rt nx is L (vI 1024 :: S) w := propext Iff.rfl
theorem x_28 {i : Int} : ab_wb Ls C J Rt nx ((.iaload, ex, z) :: is) L (vI i :: vR 28 :: S) w = ((0 ≤ i ∧ i < 5) ∧ ab_wb Ls C J Rt nx is L (vI (w 28 i) :: S) w) := propext Iff.rfl
theorem y_28 {i x : Int} : ab_wb Ls C J Rt nx ((.iastore, ex, z) :: is) L (vI x :: vI i :: vR 28 :: S) w = ((0 ≤ i ∧ i < 5) ∧ ab_wb Ls C J Rt nx is L S (ab_up w 28 i x)) := propext Iff.rfl
theorem n_28  : ab_wb Ls C J Rt nx ((.arraylength, ex, z) :: is) L (vR 28 :: S) w = ab_wb Ls C J Rt nx is L (vI 5 :: S) w := propext Iff.rfl
theorem x_29 {i : Int} : ab_wb Ls C J Rt nx ((.iaload, ex, z) :: is) L (vI i :: vR 29 :: S) w = ((0 ≤ i ∧ i < 192) ∧ ab_wb Ls C J Rt nx is L (vI (w 29 i) :: S) w) := propext Iff.rfl
theorem y_29 {i x : Int} : ab_wb Ls C J Rt nx ((.iastore, ex, z) :: is) L (vI x :: vI i :: vR 29 :: S) w = ((0 ≤ i ∧ i < 192) ∧ ab_wb Ls C J Rt nx is L S (ab_up w 29 i x)) := propext Iff.rfl
theorem n_29  : ab_wb Ls C J Rt nx ((.arraylength, ex, z) :: is) L (vR 29 :: S) w = ab_wb Ls C J Rt nx is L (vI 192 :: S) w := propext Iff.rfl
theorem x_30 {i : Int} : ab_wb Ls C J Rt nx ((.aaload, ex, z) :: is) L (vI i :: vR 30 :: S) w = (match ([31, 33, 35, 37] : List Nat)[i.toNat]? with | some q => 0 ≤ i ∧ ab_wb Ls C J Rt nx is L (vR q :: S) w | none => False) := propext Iff.rfl
theorem g_31_0 {i : Nat} : ab_wb Ls C J Rt nx ((.getfield i, [1, 0], z) :: is) L (vR 31 :: S) w = ab_wb Ls C J Rt nx is L (vR 32 :: S) w := propext Iff.rfl
theorem g_31_1 {i : Nat} : ab_wb Ls C J Rt nx ((.getfield i, [1, 1], z) :: is) L (vR 31 :: S) w = ab_wb Ls C J Rt nx is L (vI (w 31 1) :: S) w := propext Iff.rfl
theorem p_31_1 {i : Nat} {x : Int} : ab_wb Ls C J Rt nx ((.putfield i, [1, 1, 1], z) :: is) L (vI x :: vR 31 :: S) w = ((x = 0 ∨ x = 1) ∧ ab_wb Ls C J Rt nx is L S (ab_up w 31 1 x)) := propext ⟨fun h => ⟨h.2.1 rfl, h.2.2⟩, fun h => ⟨rfl, fun _ => h.1, h.2⟩⟩
theorem g_31_2 {i : Nat} : ab_wb Ls C J Rt nx ((.getfield i, [1, 2], z) :: is) L (vR 31 :: S) w = ab_wb Ls C J Rt nx is L (vI (w 31 2) :: S) w := propext Iff.rfl
theorem p_31_2 {i : Nat} {x : Int} : ab_wb Ls C J Rt nx ((.putfield i, [1, 2, 0], z) :: is) L (vI x :: vR 31 :: S) w = ab_wb Ls C J Rt nx is L S (ab_up w 31 2 x) := propext ⟨fun h => h.2.2, fun h => ⟨rfl, fun q => (by cases q), h⟩⟩
theorem g_31_3 {i : Nat} : ab_wb Ls C J Rt nx ((.getfield i, [1, 3], z) :: is) L (vR 31 :: S) w = ab_wb Ls C J Rt nx is L (vI (w 31 3) :: S) w := propext Iff.rfl
theorem p_31_3 {i : Nat} {x : Int} : ab_wb Ls C J Rt nx ((.putfield i, [1, 3, 0], z) :: is) L (vI x :: vR 31 :: S) w = ab_wb Ls C J Rt nx is L S (ab_up w 31 3 x) := propext ⟨fun h => h.2.2, fun h => ⟨rfl, fun q => (by cases q), h⟩⟩
theorem x_32 {i : Int} : ab_wb Ls C J Rt nx ((.iaload, ex, z) :: is) L (vI i :: vR 32 :: S) w = ((0 ≤ i ∧ i < 60) ∧ ab_wb Ls C J Rt nx is L (vI (w 32 i) :: S) w) := propext Iff.rfl
theorem y_32 {i x : Int} : ab_wb Ls C J Rt nx ((.iastore, ex, z) :: is) L (vI x :: vI i :: vR 32 :: S) w = ((0 ≤ i ∧ i < 60) ∧ ab_wb Ls C J Rt nx is L S (ab_up w 32 i x)) := propext Iff.rfl
theorem n_32  : ab_wb Ls C J Rt nx ((.arraylength, ex, z) :: is) L (vR 32 :: S) w = ab_wb Ls C J Rt nx is L (vI 60 :: S) w := propext Iff.rfl
theorem g_33_0 {i : Nat} : ab_wb Ls C J Rt nx ((.getfield i, [1, 0], z) :: is) L (vR 33 :: S) w = ab_wb Ls C J Rt nx is L (vR 34 :: S) w := propext Iff.rfl
theorem g_33_1 {i : Nat} : ab_wb Ls C J Rt nx ((.getfield i, [1, 1], z) :: is) L (vR 33 :: S) w = ab_wb Ls C J Rt nx is L (vI (w 33 1) :: S) w := propext Iff.rfl
theorem p_33_1 {i : Nat} {x : Int} : ab_wb Ls C J Rt nx ((.putfield i, [1, 1, 1], z) :: is) L (vI x :: vR 33 :: S) w = ((x = 0 ∨ x = 1) ∧ ab_wb Ls C J Rt nx is L S (ab_up w 33 1 x)) := propext ⟨fun h => ⟨h.2.1 rfl, h.2.2⟩, fun h => ⟨rfl, fun _ => h.1, h.2⟩⟩
theorem g_33_2 {i : Nat} : ab_wb Ls C J Rt nx ((.getfield i, [1, 2], z) :: is) L (vR 33 :: S) w = ab_wb Ls C J Rt nx is L (vI (w 33 2) :: S) w := propext Iff.rfl
theorem p_33_2 {i : Nat} {x : Int} : ab_wb Ls C J Rt nx ((.putfield i, [1, 2, 0], z) :: is) L (vI x :: vR 33 :: S) w = ab_wb Ls C J Rt nx is L S (ab_up w 33 2 x) := propext ⟨fun h => h.2.2, fun h => ⟨rfl, fun q => (by cases q), h⟩⟩
theorem g_33_3 {i : Nat} : ab_wb Ls C J Rt nx ((.getfield i, [1, 3], z) :: is) L (vR 33 :: S) w = ab_wb Ls C J Rt nx is L (vI (w 33 3) :: S) w := propext Iff.rfl
theorem p_33_3 {i : Nat} {x : Int} : ab_wb Ls C J Rt nx ((.putfield i, [1, 3, 0], z) :: is) L (vI x :: vR 33 :: S) w = ab_wb Ls C J Rt nx is L S (ab_up w 33 3 x) := propext ⟨fun h => h.2.2, fun h => ⟨rfl, fun q => (by cases q), h⟩⟩
theorem x_34 {i : Int} : ab_wb Ls C J Rt nx ((.iaload, ex, z) :: is) L (vI i :: vR 34 :: S) w = ((0 ≤ i ∧ i < 60) ∧ ab_wb Ls C J Rt nx is L (vI (w 34 i) :: S) w) := propext Iff.rfl
theorem y_34 {i x : Int} : ab_wb Ls C J Rt nx ((.iastore, ex, z) :: is) L (vI x :: vI i :: vR 34 :: S) w = ((0 ≤ i ∧ i < 60) ∧ ab_wb Ls C J Rt nx is L S (ab_up w 34 i x)) := propext Iff.rfl
theorem n_34  : ab_wb Ls C J Rt nx ((.arraylength, ex, z) :: is) L (vR 34 :: S) w = ab_wb Ls C J Rt nx is L (vI 60 :: S) w := propext Iff.rfl
theorem g_35_0 {i : Nat} : ab_wb Ls C J Rt nx ((.getfield i, [1, 0], z) :: is) L (vR 35 :: S) w = ab_wb Ls C J Rt nx is L (vR 36 :: S) w := propext Iff.rfl
theorem g_35_1 {i : Nat} : ab_wb Ls C J Rt nx ((.getfield i, [1, 1], z) :: is) L (vR 35 :: S) w = ab_wb Ls C J Rt nx is L (vI (w 35 1) :: S) w := propext Iff.rfl
theorem p_35_1 {i : Nat} {x : Int} : ab_wb Ls C J Rt nx ((.putfield i, [1, 1, 1], z) :: is) L (vI x :: vR 35 :: S) w = ((x = 0 ∨ x = 1) ∧ ab_wb Ls C J Rt nx is L S (ab_up w 35 1 x)) := propext ⟨fun h => ⟨h.2.1 rfl, h.2.2⟩, fun h => ⟨rfl, fun _ => h.1, h.2⟩⟩
theorem g_35_2 {i : Nat} : ab_wb Ls C J Rt nx ((.getfield i, [1, 2], z) :: is) L (vR 35 :: S) w = ab_wb Ls C J Rt nx is L (vI (w 35 2) :: S) w := propext Iff.rfl
theorem p_35_2 {i : Nat} {x : Int} : ab_wb Ls C J Rt nx ((.putfield i, [1, 2, 0], z) :: is) L (vI x :: vR 35 :: S) w = ab_wb Ls C J Rt nx is L S (ab_up w 35 2 x) := propext ⟨fun h => h.2.2, fun h => ⟨rfl, fun q => (by cases q), h⟩⟩
theorem g_35_3 {i : Nat} : ab_wb Ls C J Rt nx ((.getfield i, [1, 3], z) :: is) L (vR 35 :: S) w = ab_wb Ls C J Rt nx is L (vI (w 35 3) :: S) w := propext Iff.rfl
theorem p_35_3 {i : Nat} {x : Int} : ab_wb Ls C J Rt nx ((.putfield i, [1, 3, 0], z) :: is) L (vI x :: vR 35 :: S) w = ab_wb Ls C J Rt nx is L S (ab_up w 35 3 x) := propext ⟨fun h => h.2.2, fun h => ⟨rfl, fun q => (by cases q), h⟩⟩
theorem x_36 {i : Int} : ab_wb Ls C J Rt nx ((.iaload, ex, z) :: is) L (vI i :: vR 36 :: S) w = ((0 ≤ i ∧ i < 60) ∧ ab_wb Ls C J Rt nx is L (vI (w 36 i) :: S) w) := propext Iff.rfl
theorem y_36 {i x : Int} : ab_wb Ls C J Rt nx ((.iastore, ex, z) :: is) L (vI x :: vI i :: vR 36 :: S) w = ((0 ≤ i ∧ i < 60) ∧ ab_wb Ls C J Rt nx is L S (ab_up w 36 i x)) := propext Iff.rfl
theorem n_36  : ab_wb Ls C J Rt nx ((.arraylength, ex, z) :: is) L (vR 36 :: S) w = ab_wb Ls C J Rt nx is L (vI 60 :: S) w := propext Iff.rfl
theorem g_37_0 {i : Nat} : ab_wb Ls C J Rt nx ((.getfield i, [1, 0], z) :: is) L (vR 37 :: S) w = ab_wb Ls C J Rt nx is L (vR 38 :: S) w := propext Iff.rfl
theorem g_37_1 {i : Nat} : ab_wb Ls C J Rt nx ((.getfield i, [1, 1], z) :: is) L (vR 37 :: S) w = ab_wb Ls C J Rt nx is L (vI (w 37 1) :: S) w := propext Iff.rfl
theorem p_37_1 {i : Nat} {x : Int} : ab_wb Ls C J Rt nx ((.putfield i, [1, 1, 1], z) :: is) L (vI x :: vR 37 :: S) w = ((x = 0 ∨ x = 1) ∧ ab_wb Ls C J Rt nx is L S (ab_up w 37 1 x)) := propext ⟨fun h => ⟨h.2.1 rfl, h.2.2⟩, fun h => ⟨rfl, fun _ => h.1, h.2⟩⟩
theorem g_37_2 {i : Nat} : ab_wb Ls C J Rt nx ((.getfield i, [1, 2], z) :: is) L (vR 37 :: S) w = ab_wb Ls C J Rt nx is L (vI (w 37 2) :: S) w := propext Iff.rfl
theorem p_37_2 {i : Nat} {x : Int} : ab_wb Ls C J Rt nx ((.putfield i, [1, 2, 0], z) :: is) L (vI x :: vR 37 :: S) w = ab_wb Ls C J Rt nx is L S (ab_up w 37 2 x) := propext ⟨fun h => h.2.2, fun h => ⟨rfl, fun q => (by cases q), h⟩⟩
theorem g_37_3 {i : Nat} : ab_wb Ls C J Rt nx ((.getfield i, [1, 3], z) :: is) L (vR 37 :: S) w = ab_wb Ls C J Rt nx is L (vI (w 37 3) :: S) w := propext Iff.rfl
theorem p_37_3 {i : Nat} {x : Int} : ab_wb Ls C J Rt nx ((.putfield i, [1, 3, 0], z) :: is) L (vI x :: vR 37 :: S) w = ab_wb Ls C J Rt nx is L S (ab_up w 37 3 x) := propext ⟨fun h => h.2.2, fun h => ⟨rfl, fun q => (by cases q), h⟩⟩
theorem x_38 {i : Int} : ab_wb Ls C J Rt nx ((.iaload, ex, z) :: is) L (vI i :: vR 38 :: S) w = ((0 ≤ i ∧ i < 60) ∧ ab_wb Ls C J Rt nx is L (vI (w 38 i) :: S) w) := propext Iff.rfl
theorem y_38 {i x : Int} : ab_wb Ls C J Rt nx ((.iastore, ex, z) :: is) L (vI x :: vI i :: vR 38 :: S) w = ((0 ≤ i ∧ i < 60) ∧ ab_wb Ls C J Rt nx is L S (ab_up w 38 i x)) := propext Iff.rfl
theorem n_38  : ab_wb Ls C J Rt nx ((.arraylength, ex, z) :: is) L (vR 38 :: S) w = ab_wb Ls C J Rt nx is L (vI 60 :: S) w := propext Iff.rfl
theorem g_39_0 {i : Nat} : ab_wb Ls C J Rt nx ((.getfield i, [5, 0], z) :: is) L (vR 39 :: S) w = ab_wb Ls C J Rt nx is L (vI (w 39 0) :: S) w := propext Iff.rfl
theorem p_39_0 {i : Nat} {x : Int} : ab_wb Ls C J Rt nx ((.putfield i, [5, 0, 0], z) :: is) L (vI x :: vR 39 :: S) w = ab_wb Ls C J Rt nx is L S (ab_up w 39 0 x) := propext ⟨fun h => h.2.2, fun h => ⟨rfl, fun q => (by cases q), h⟩⟩
theorem g_39_1 {i : Nat} : ab_wb Ls C J Rt nx ((.getfield i, [5, 1], z) :: is) L (vR 39 :: S) w = ab_wb Ls C J Rt nx is L (vR 40 :: S) w := propext Iff.rfl
theorem g_39_2 {i : Nat} : ab_wb Ls C J Rt nx ((.getfield i, [5, 2], z) :: is) L (vR 39 :: S) w = ab_wb Ls C J Rt nx is L (vI (w 39 2) :: S) w := propext Iff.rfl
theorem p_39_2 {i : Nat} {x : Int} : ab_wb Ls C J Rt nx ((.putfield i, [5, 2, 0], z) :: is) L (vI x :: vR 39 :: S) w = ab_wb Ls C J Rt nx is L S (ab_up w 39 2 x) := propext ⟨fun h => h.2.2, fun h => ⟨rfl, fun q => (by cases q), h⟩⟩
theorem g_39_3 {i : Nat} : ab_wb Ls C J Rt nx ((.getfield i, [5, 3], z) :: is) L (vR 39 :: S) w = ab_wb Ls C J Rt nx is L (vR 41 :: S) w := propext Iff.rfl
theorem g_39_4 {i : Nat} : ab_wb Ls C J Rt nx ((.getfield i, [5, 4], z) :: is) L (vR 39 :: S) w = ab_wb Ls C J Rt nx is L (vR 42 :: S) w := propext Iff.rfl
theorem g_39_5 {i : Nat} : ab_wb Ls C J Rt nx ((.getfield i, [5, 5], z) :: is) L (vR 39 :: S) w = ab_wb Ls C J Rt nx is L (vI (w 39 5) :: S) w := propext Iff.rfl
theorem p_39_5 {i : Nat} {x : Int} : ab_wb Ls C J Rt nx ((.putfield i, [5, 5, 0], z) :: is) L (vI x :: vR 39 :: S) w = ab_wb Ls C J Rt nx is L S (ab_up w 39 5 x) := propext ⟨fun h => h.2.2, fun h => ⟨rfl, fun q => (by cases q), h⟩⟩
theorem g_39_6 {i : Nat} : ab_wb Ls C J Rt nx ((.getfield i, [5, 6], z) :: is) L (vR 39 :: S) w = ab_wb Ls C J Rt nx is L (vI (w 39 6) :: S) w := propext Iff.rfl
theorem p_39_6 {i : Nat} {x : Int} : ab_wb Ls C J Rt nx ((.putfield i, [5, 6, 0], z) :: is) L (vI x :: vR 39 :: S) w = ab_wb Ls C J Rt nx is L S (ab_up w 39 6 x) := propext ⟨fun h => h.2.2, fun h => ⟨rfl, fun q => (by cases q), h⟩⟩
theorem g_39_7 {i : Nat} : ab_wb Ls C J Rt nx ((.getfield i, [5, 7], z) :: is) L (vR 39 :: S) w = ab_wb Ls C J Rt nx is L (vR 43 :: S) w := propext Iff.rfl
theorem g_39_8 {i : Nat} : ab_wb Ls C J Rt nx ((.getfield i, [5, 8], z) :: is) L (vR 39 :: S) w = ab_wb Ls C J Rt nx is L (vR 44 :: S) w := propext Iff.rfl
theorem g_39_9 {i : Nat} : ab_wb Ls C J Rt nx ((.getfield i, [5, 9], z) :: is) L (vR 39 :: S) w = ab_wb Ls C J Rt nx is L (vR 45 :: S) w := propext Iff.rfl
theorem g_39_10 {i : Nat} : ab_wb Ls C J Rt nx ((.getfield i, [5, 10], z) :: is) L (vR 39 :: S) w = ab_wb Ls C J Rt nx is L (vI (w 39 10) :: S) w := propext Iff.rfl
theorem p_39_10 {i : Nat} {x : Int} : ab_wb Ls C J Rt nx ((.putfield i, [5, 10, 0], z) :: is) L (vI x :: vR 39 :: S) w = ab_wb Ls C J Rt nx is L S (ab_up w 39 10 x) := propext ⟨fun h => h.2.2, fun h => ⟨rfl, fun q => (by cases q), h⟩⟩
theorem g_39_11 {i : Nat} : ab_wb Ls C J Rt nx ((.getfield i, [5, 11], z) :: is) L (vR 39 :: S) w = ab_wb Ls C J Rt nx is L (vI (w 39 11) :: S) w := propext Iff.rfl
theorem p_39_11 {i : Nat} {x : Int} : ab_wb Ls C J Rt nx ((.putfield i, [5, 11, 0], z) :: is) L (vI x :: vR 39 :: S) w = ab_wb Ls C J Rt nx is L S (ab_up w 39 11 x) := propext ⟨fun h => h.2.2, fun h => ⟨rfl, fun q => (by cases q), h⟩⟩
theorem g_39_12 {i : Nat} : ab_wb Ls C J Rt nx ((.getfield i, [5, 12], z) :: is) L (vR 39 :: S) w = ab_wb Ls C J Rt nx is L (vR 46 :: S) w := propext Iff.rfl
theorem g_39_13 {i : Nat} : ab_wb Ls C J Rt nx ((.getfield i, [5, 13], z) :: is) L (vR 39 :: S) w = ab_wb Ls C J Rt nx is L (vR 47 :: S) w := propext Iff.rfl
theorem g_39_14 {i : Nat} : ab_wb Ls C J Rt nx ((.getfield i, [5, 14], z) :: is) L (vR 39 :: S) w = ab_wb Ls C J Rt nx is L (vR 48 :: S) w := propext Iff.rfl
theorem g_39_15 {i : Nat} : ab_wb Ls C J Rt nx ((.getfield i, [5, 15], z) :: is) L (vR 39 :: S) w = ab_wb Ls C J Rt nx is L (vI (w 39 15) :: S) w := propext Iff.rfl
theorem p_39_15 {i : Nat} {x : Int} : ab_wb Ls C J Rt nx ((.putfield i, [5, 15, 0], z) :: is) L (vI x :: vR 39 :: S) w = ab_wb Ls C J Rt nx is L S (ab_up w 39 15 x) := propext ⟨fun h => h.2.2, fun h => ⟨rfl, fun q => (by cases q), h⟩⟩
theorem g_39_16 {i : Nat} : ab_wb Ls C J Rt nx ((.getfield i, [5, 16], z) :: is) L (vR 39 :: S) w = ab_wb Ls C J Rt nx is L (vR 49 :: S) w := propext Iff.rfl
theorem g_39_17 {i : Nat} : ab_wb Ls C J Rt nx ((.getfield i, [5, 17], z) :: is) L (vR 39 :: S) w = ab_wb Ls C J Rt nx is L (vR 50 :: S) w := propext Iff.rfl
theorem g_39_18 {i : Nat} : ab_wb Ls C J Rt nx ((.getfield i, [5, 18], z) :: is) L (vR 39 :: S) w = ab_wb Ls C J Rt nx is L (vR 51 :: S) w := propext Iff.rfl
theorem g_39_19 {i : Nat} : ab_wb Ls C J Rt nx ((.getfield i, [5, 19], z) :: is) L (vR 39 :: S) w = ab_wb Ls C J Rt nx is L (vR 52 :: S) w := propext Iff.rfl
theorem g_39_20 {i : Nat} : ab_wb Ls C J Rt nx ((.getfield i, [5, 20], z) :: is) L (vR 39 :: S) w = ab_wb Ls C J Rt nx is L (vR 53 :: S) w := propext Iff.rfl
theorem g_39_21 {i : Nat} : ab_wb Ls C J Rt nx ((.getfield i, [5, 21], z) :: is) L (vR 39 :: S) w = ab_wb Ls C J Rt nx is L (vR 54 :: S) w := propext Iff.rfl
theorem g_39_22 {i : Nat} : ab_wb Ls C J Rt nx ((.getfield i, [5, 22], z) :: is) L (vR 39 :: S) w = ab_wb Ls C J Rt nx is L (vR 55 :: S) w := propext Iff.rfl
theorem g_39_23 {i : Nat} : ab_wb Ls C J Rt nx ((.getfield i, [5, 23], z) :: is) L (vR 39 :: S) w = ab_wb Ls C J Rt nx is L (vR 56 :: S) w := propext Iff.rfl
theorem g_39_24 {i : Nat} : ab_wb Ls C J Rt nx ((.getfield i, [5, 24], z) :: is) L (vR 39 :: S) w = ab_wb Ls C J Rt nx is L (vR 57 :: S) w := propext Iff.rfl
theorem g_39_25 {i : Nat} : ab_wb Ls C J Rt nx ((.getfield i, [5, 25], z) :: is) L (vR 39 :: S) w = ab_wb Ls C J Rt nx is L (vR 58 :: S) w := propext Iff.rfl
theorem g_39_26 {i : Nat} : ab_wb Ls C J Rt nx ((.getfield i, [5, 26], z) :: is) L (vR 39 :: S) w = ab_wb Ls C J Rt nx is L (vR 59 :: S) w := propext Iff.rfl
theorem g_39_27 {i : Nat} : ab_wb Ls C J Rt nx ((.getfield i, [5, 27], z) :: is) L (vR 39 :: S) w = ab_wb Ls C J Rt nx is L (vI (w 39 27) :: S) w := propext Iff.rfl
theorem p_39_27 {i : Nat} {x : Int} : ab_wb Ls C J Rt nx ((.putfield i, [5, 27, 0], z) :: is) L (vI x :: vR 39 :: S) w = ab_wb Ls C J Rt nx is L S (ab_up w 39 27 x) := propext ⟨fun h => h.2.2, fun h => ⟨rfl, fun q => (by cases q), h⟩⟩
theorem g_39_28 {i : Nat} : ab_wb Ls C J Rt nx ((.getfield i, [5, 28], z) :: is) L (vR 39 :: S) w = ab_wb Ls C J Rt nx is L (vR 60 :: S) w := propext Iff.rfl
theorem g_39_29 {i : Nat} : ab_wb Ls C J Rt nx ((.getfield i, [5, 29], z) :: is) L (vR 39 :: S) w = ab_wb Ls C J Rt nx is L (vR 61 :: S) w := propext Iff.rfl
theorem g_39_30 {i : Nat} : ab_wb Ls C J Rt nx ((.getfield i, [5, 30], z) :: is) L (vR 39 :: S) w = ab_wb Ls C J Rt nx is L (vR 62 :: S) w := propext Iff.rfl
theorem g_39_31 {i : Nat} : ab_wb Ls C J Rt nx ((.getfield i, [5, 31], z) :: is) L (vR 39 :: S) w = ab_wb Ls C J Rt nx is L (vR 63 :: S) w := propext Iff.rfl
theorem g_39_32 {i : Nat} : ab_wb Ls C J Rt nx ((.getfield i, [5, 32], z) :: is) L (vR 39 :: S) w = ab_wb Ls C J Rt nx is L (vR 64 :: S) w := propext Iff.rfl
theorem g_39_33 {i : Nat} : ab_wb Ls C J Rt nx ((.getfield i, [5, 33], z) :: is) L (vR 39 :: S) w = ab_wb Ls C J Rt nx is L (vR 65 :: S) w := propext Iff.rfl
theorem g_39_34 {i : Nat} : ab_wb Ls C J Rt nx ((.getfield i, [5, 34], z) :: is) L (vR 39 :: S) w = ab_wb Ls C J Rt nx is L (vR 66 :: S) w := propext Iff.rfl
theorem g_39_35 {i : Nat} : ab_wb Ls C J Rt nx ((.getfield i, [5, 35], z) :: is) L (vR 39 :: S) w = ab_wb Ls C J Rt nx is L (vR 67 :: S) w := propext Iff.rfl
theorem g_39_36 {i : Nat} : ab_wb Ls C J Rt nx ((.getfield i, [5, 36], z) :: is) L (vR 39 :: S) w = ab_wb Ls C J Rt nx is L (vR 68 :: S) w := propext Iff.rfl
theorem g_39_37 {i : Nat} : ab_wb Ls C J Rt nx ((.getfield i, [5, 37], z) :: is) L (vR 39 :: S) w = ab_wb Ls C J Rt nx is L (vI (w 39 37) :: S) w := propext Iff.rfl
theorem p_39_37 {i : Nat} {x : Int} : ab_wb Ls C J Rt nx ((.putfield i, [5, 37, 0], z) :: is) L (vI x :: vR 39 :: S) w = ab_wb Ls C J Rt nx is L S (ab_up w 39 37 x) := propext ⟨fun h => h.2.2, fun h => ⟨rfl, fun q => (by cases q), h⟩⟩
theorem x_40 {i : Int} : ab_wb Ls C J Rt nx ((.iaload, ex, z) :: is) L (vI i :: vR 40 :: S) w = ((0 ≤ i ∧ i < 35) ∧ ab_wb Ls C J Rt nx is L (vI (w 40 i) :: S) w) := propext Iff.rfl
theorem y_40 {i x : Int} : ab_wb Ls C J Rt nx ((.iastore, ex, z) :: is) L (vI x :: vI i :: vR 40 :: S) w = ((0 ≤ i ∧ i < 35) ∧ ab_wb Ls C J Rt nx is L S (ab_up w 40 i x)) := propext Iff.rfl
theorem n_40  : ab_wb Ls C J Rt nx ((.arraylength, ex, z) :: is) L (vR 40 :: S) w = ab_wb Ls C J Rt nx is L (vI 35 :: S) w := propext Iff.rfl
theorem x_41 {i : Int} : ab_wb Ls C J Rt nx ((.iaload, ex, z) :: is) L (vI i :: vR 41 :: S) w = ((0 ≤ i ∧ i < 20) ∧ ab_wb Ls C J Rt nx is L (vI (w 41 i) :: S) w) := propext Iff.rfl
theorem y_41 {i x : Int} : ab_wb Ls C J Rt nx ((.iastore, ex, z) :: is) L (vI x :: vI i :: vR 41 :: S) w = ((0 ≤ i ∧ i < 20) ∧ ab_wb Ls C J Rt nx is L S (ab_up w 41 i x)) := propext Iff.rfl
theorem n_41  : ab_wb Ls C J Rt nx ((.arraylength, ex, z) :: is) L (vR 41 :: S) w = ab_wb Ls C J Rt nx is L (vI 20 :: S) w := propext Iff.rfl
theorem x_42 {i : Int} : ab_wb Ls C J Rt nx ((.iaload, ex, z) :: is) L (vI i :: vR 42 :: S) w = ((0 ≤ i ∧ i < 20) ∧ ab_wb Ls C J Rt nx is L (vI (w 42 i) :: S) w) := propext Iff.rfl
theorem y_42 {i x : Int} : ab_wb Ls C J Rt nx ((.iastore, ex, z) :: is) L (vI x :: vI i :: vR 42 :: S) w = ((0 ≤ i ∧ i < 20) ∧ ab_wb Ls C J Rt nx is L S (ab_up w 42 i x)) := propext Iff.rfl
theorem n_42  : ab_wb Ls C J Rt nx ((.arraylength, ex, z) :: is) L (vR 42 :: S) w = ab_wb Ls C J Rt nx is L (vI 20 :: S) w := propext Iff.rfl
theorem x_43 {i : Int} : ab_wb Ls C J Rt nx ((.iaload, ex, z) :: is) L (vI i :: vR 43 :: S) w = ((0 ≤ i ∧ i < 8) ∧ ab_wb Ls C J Rt nx is L (vI (w 43 i) :: S) w) := propext Iff.rfl
theorem y_43 {i x : Int} : ab_wb Ls C J Rt nx ((.iastore, ex, z) :: is) L (vI x :: vI i :: vR 43 :: S) w = ((0 ≤ i ∧ i < 8) ∧ ab_wb Ls C J Rt nx is L S (ab_up w 43 i x)) := propext Iff.rfl
theorem n_43  : ab_wb Ls C J Rt nx ((.arraylength, ex, z) :: is) L (vR 43 :: S) w = ab_wb Ls C J Rt nx is L (vI 8 :: S) w := propext Iff.rfl
theorem x_44 {i : Int} : ab_wb Ls C J Rt nx ((.iaload, ex, z) :: is) L (vI i :: vR 44 :: S) w = ((0 ≤ i ∧ i < 8) ∧ ab_wb Ls C J Rt nx is L (vI (w 44 i) :: S) w) := propext Iff.rfl
theorem y_44 {i x : Int} : ab_wb Ls C J Rt nx ((.iastore, ex, z) :: is) L (vI x :: vI i :: vR 44 :: S) w = ((0 ≤ i ∧ i < 8) ∧ ab_wb Ls C J Rt nx is L S (ab_up w 44 i x)) := propext Iff.rfl
theorem n_44  : ab_wb Ls C J Rt nx ((.arraylength, ex, z) :: is) L (vR 44 :: S) w = ab_wb Ls C J Rt nx is L (vI 8 :: S) w := propext Iff.rfl
theorem x_45 {i : Int} : ab_wb Ls C J Rt nx ((.iaload, ex, z) :: is) L (vI i :: vR 45 :: S) w = ((0 ≤ i ∧ i < 8) ∧ ab_wb Ls C J Rt nx is L (vI (w 45 i) :: S) w) := propext Iff.rfl
theorem y_45 {i x : Int} : ab_wb Ls C J Rt nx ((.iastore, ex, z) :: is) L (vI x :: vI i :: vR 45 :: S) w = ((0 ≤ i ∧ i < 8) ∧ ab_wb Ls C J Rt nx is L S (ab_up w 45 i x)) := propext Iff.rfl
theorem n_45  : ab_wb Ls C J Rt nx ((.arraylength, ex, z) :: is) L (vR 45 :: S) w = ab_wb Ls C J Rt nx is L (vI 8 :: S) w := propext Iff.rfl
theorem x_46 {i : Int} : ab_wb Ls C J Rt nx ((.iaload, ex, z) :: is) L (vI i :: vR 46 :: S) w = ((0 ≤ i ∧ i < 8) ∧ ab_wb Ls C J Rt nx is L (vI (w 46 i) :: S) w) := propext Iff.rfl
theorem y_46 {i x : Int} : ab_wb Ls C J Rt nx ((.iastore, ex, z) :: is) L (vI x :: vI i :: vR 46 :: S) w = ((0 ≤ i ∧ i < 8) ∧ ab_wb Ls C J Rt nx is L S (ab_up w 46 i x)) := propext Iff.rfl
theorem n_46  : ab_wb Ls C J Rt nx ((.arraylength, ex, z) :: is) L (vR 46 :: S) w = ab_wb Ls C J Rt nx is L (vI 8 :: S) w := propext Iff.rfl
theorem x_47 {i : Int} : ab_wb Ls C J Rt nx ((.iaload, ex, z) :: is) L (vI i :: vR 47 :: S) w = ((0 ≤ i ∧ i < 8) ∧ ab_wb Ls C J Rt nx is L (vI (w 47 i) :: S) w) := propext Iff.rfl
theorem y_47 {i x : Int} : ab_wb Ls C J Rt nx ((.iastore, ex, z) :: is) L (vI x :: vI i :: vR 47 :: S) w = ((0 ≤ i ∧ i < 8) ∧ ab_wb Ls C J Rt nx is L S (ab_up w 47 i x)) := propext Iff.rfl
theorem n_47  : ab_wb Ls C J Rt nx ((.arraylength, ex, z) :: is) L (vR 47 :: S) w = ab_wb Ls C J Rt nx is L (vI 8 :: S) w := propext Iff.rfl
theorem x_48 {i : Int} : ab_wb Ls C J Rt nx ((.iaload, ex, z) :: is) L (vI i :: vR 48 :: S) w = ((0 ≤ i ∧ i < 8) ∧ ab_wb Ls C J Rt nx is L (vI (w 48 i) :: S) w) := propext Iff.rfl
theorem y_48 {i x : Int} : ab_wb Ls C J Rt nx ((.iastore, ex, z) :: is) L (vI x :: vI i :: vR 48 :: S) w = ((0 ≤ i ∧ i < 8) ∧ ab_wb Ls C J Rt nx is L S (ab_up w 48 i x)) := propext Iff.rfl
theorem n_48  : ab_wb Ls C J Rt nx ((.arraylength, ex, z) :: is) L (vR 48 :: S) w = ab_wb Ls C J Rt nx is L (vI 8 :: S) w := propext Iff.rfl
theorem x_49 {i : Int} : ab_wb Ls C J Rt nx ((.iaload, ex, z) :: is) L (vI i :: vR 49 :: S) w = ((0 ≤ i ∧ i < 16) ∧ ab_wb Ls C J Rt nx is L (vI (w 49 i) :: S) w) := propext Iff.rfl
theorem y_49 {i x : Int} : ab_wb Ls C J Rt nx ((.iastore, ex, z) :: is) L (vI x :: vI i :: vR 49 :: S) w = ((0 ≤ i ∧ i < 16) ∧ ab_wb Ls C J Rt nx is L S (ab_up w 49 i x)) := propext Iff.rfl
theorem n_49  : ab_wb Ls C J Rt nx ((.arraylength, ex, z) :: is) L (vR 49 :: S) w = ab_wb Ls C J Rt nx is L (vI 16 :: S) w := propext Iff.rfl
theorem x_50 {i : Int} : ab_wb Ls C J Rt nx ((.iaload, ex, z) :: is) L (vI i :: vR 50 :: S) w = ((0 ≤ i ∧ i < 4) ∧ ab_wb Ls C J Rt nx is L (vI (w 50 i) :: S) w) := propext Iff.rfl
theorem y_50 {i x : Int} : ab_wb Ls C J Rt nx ((.iastore, ex, z) :: is) L (vI x :: vI i :: vR 50 :: S) w = ((0 ≤ i ∧ i < 4) ∧ ab_wb Ls C J Rt nx is L S (ab_up w 50 i x)) := propext Iff.rfl
theorem n_50  : ab_wb Ls C J Rt nx ((.arraylength, ex, z) :: is) L (vR 50 :: S) w = ab_wb Ls C J Rt nx is L (vI 4 :: S) w := propext Iff.rfl
theorem x_51 {i : Int} : ab_wb Ls C J Rt nx ((.iaload, ex, z) :: is) L (vI i :: vR 51 :: S) w = ((0 ≤ i ∧ i < 4) ∧ ab_wb Ls C J Rt nx is L (vI (w 51 i) :: S) w) := propext Iff.rfl
theorem y_51 {i x : Int} : ab_wb Ls C J Rt nx ((.iastore, ex, z) :: is) L (vI x :: vI i :: vR 51 :: S) w = ((0 ≤ i ∧ i < 4) ∧ ab_wb Ls C J Rt nx is L S (ab_up w 51 i x)) := propext Iff.rfl
theorem n_51  : ab_wb Ls C J Rt nx ((.arraylength, ex, z) :: is) L (vR 51 :: S) w = ab_wb Ls C J Rt nx is L (vI 4 :: S) w := propext Iff.rfl
theorem x_52 {i : Int} : ab_wb Ls C J Rt nx ((.iaload, ex, z) :: is) L (vI i :: vR 52 :: S) w = ((0 ≤ i ∧ i < 4) ∧ ab_wb Ls C J Rt nx is L (vI (w 52 i) :: S) w) := propext Iff.rfl
theorem y_52 {i x : Int} : ab_wb Ls C J Rt nx ((.iastore, ex, z) :: is) L (vI x :: vI i :: vR 52 :: S) w = ((0 ≤ i ∧ i < 4) ∧ ab_wb Ls C J Rt nx is L S (ab_up w 52 i x)) := propext Iff.rfl
theorem n_52  : ab_wb Ls C J Rt nx ((.arraylength, ex, z) :: is) L (vR 52 :: S) w = ab_wb Ls C J Rt nx is L (vI 4 :: S) w := propext Iff.rfl
theorem x_53 {i : Int} : ab_wb Ls C J Rt nx ((.iaload, ex, z) :: is) L (vI i :: vR 53 :: S) w = ((0 ≤ i ∧ i < 4) ∧ ab_wb Ls C J Rt nx is L (vI (w 53 i) :: S) w) := propext Iff.rfl
theorem y_53 {i x : Int} : ab_wb Ls C J Rt nx ((.iastore, ex, z) :: is) L (vI x :: vI i :: vR 53 :: S) w = ((0 ≤ i ∧ i < 4) ∧ ab_wb Ls C J Rt nx is L S (ab_up w 53 i x)) := propext Iff.rfl
theorem n_53  : ab_wb Ls C J Rt nx ((.arraylength, ex, z) :: is) L (vR 53 :: S) w = ab_wb Ls C J Rt nx is L (vI 4 :: S) w := propext Iff.rfl
theorem x_54 {i : Int} : ab_wb Ls C J Rt nx ((.iaload, ex, z) :: is) L (vI i :: vR 54 :: S) w = ((0 ≤ i ∧ i < 4) ∧ ab_wb Ls C J Rt nx is L (vI (w 54 i) :: S) w) := propext Iff.rfl
theorem y_54 {i x : Int} : ab_wb Ls C J Rt nx ((.iastore, ex, z) :: is) L (vI x :: vI i :: vR 54 :: S) w = ((0 ≤ i ∧ i < 4) ∧ ab_wb Ls C J Rt nx is L S (ab_up w 54 i x)) := propext Iff.rfl
theorem n_54  : ab_wb Ls C J Rt nx ((.arraylength, ex, z) :: is) L (vR 54 :: S) w = ab_wb Ls C J Rt nx is L (vI 4 :: S) w := propext Iff.rfl
theorem x_55 {i : Int} : ab_wb Ls C J Rt nx ((.iaload, ex, z) :: is) L (vI i :: vR 55 :: S) w = ((0 ≤ i ∧ i < 16) ∧ ab_wb Ls C J Rt nx is L (vI (w 55 i) :: S) w) := propext Iff.rfl
theorem y_55 {i x : Int} : ab_wb Ls C J Rt nx ((.iastore, ex, z) :: is) L (vI x :: vI i :: vR 55 :: S) w = ((0 ≤ i ∧ i < 16) ∧ ab_wb Ls C J Rt nx is L S (ab_up w 55 i x)) := propext Iff.rfl
theorem n_55  : ab_wb Ls C J Rt nx ((.arraylength, ex, z) :: is) L (vR 55 :: S) w = ab_wb Ls C J Rt nx is L (vI 16 :: S) w := propext Iff.rfl
theorem x_56 {i : Int} : ab_wb Ls C J Rt nx ((.iaload, ex, z) :: is) L (vI i :: vR 56 :: S) w = ((0 ≤ i ∧ i < 192) ∧ ab_wb Ls C J Rt nx is L (vI (w 56 i) :: S) w) := propext Iff.rfl
theorem y_56 {i x : Int} : ab_wb Ls C J Rt nx ((.iastore, ex, z) :: is) L (vI x :: vI i :: vR 56 :: S) w = ((0 ≤ i ∧ i < 192) ∧ ab_wb Ls C J Rt nx is L S (ab_up w 56 i x)) := propext Iff.rfl
theorem n_56  : ab_wb Ls C J Rt nx ((.arraylength, ex, z) :: is) L (vR 56 :: S) w = ab_wb Ls C J Rt nx is L (vI 192 :: S) w := propext Iff.rfl
theorem x_57 {i : Int} : ab_wb Ls C J Rt nx ((.iaload, ex, z) :: is) L (vI i :: vR 57 :: S) w = ((0 ≤ i ∧ i < 192) ∧ ab_wb Ls C J Rt nx is L (vI (w 57 i) :: S) w) := propext Iff.rfl
theorem y_57 {i x : Int} : ab_wb Ls C J Rt nx ((.iastore, ex, z) :: is) L (vI x :: vI i :: vR 57 :: S) w = ((0 ≤ i ∧ i < 192) ∧ ab_wb Ls C J Rt nx is L S (ab_up w 57 i x)) := propext Iff.rfl
theorem n_57  : ab_wb Ls C J Rt nx ((.arraylength, ex, z) :: is) L (vR 57 :: S) w = ab_wb Ls C J Rt nx is L (vI 192 :: S) w := propext Iff.rfl
theorem x_58 {i : Int} : ab_wb Ls C J Rt nx ((.iaload, ex, z) :: is) L (vI i :: vR 58 :: S) w = ((0 ≤ i ∧ i < 192) ∧ ab_wb Ls C J Rt nx is L (vI (w 58 i) :: S) w) := propext Iff.rfl
theorem y_58 {i x : Int} : ab_wb Ls C J Rt nx ((.iastore, ex, z) :: is) L (vI x :: vI i :: vR 58 :: S) w = ((0 ≤ i ∧ i < 192) ∧ ab_wb Ls C J Rt nx is L S (ab_up w 58 i x)) := propext Iff.rfl
theorem n_58  : ab_wb Ls C J Rt nx ((.arraylength, ex, z) :: is) L (vR 58 :: S) w = ab_wb Ls C J Rt nx is L (vI 192 :: S) w := propext Iff.rfl
theorem x_59 {i : Int} : ab_wb Ls C J Rt nx ((.iaload, ex, z) :: is) L (vI i :: vR 59 :: S) w = ((0 ≤ i ∧ i < 2) ∧ ab_wb Ls C J Rt nx is L (vI (w 59 i) :: S) w) := propext Iff.rfl
theorem y_59 {i x : Int} : ab_wb Ls C J Rt nx ((.iastore, ex, z) :: is) L (vI x :: vI i :: vR 59 :: S) w = ((0 ≤ i ∧ i < 2) ∧ ab_wb Ls C J Rt nx is L S (ab_up w 59 i x)) := propext Iff.rfl
theorem n_59  : ab_wb Ls C J Rt nx ((.arraylength, ex, z) :: is) L (vR 59 :: S) w = ab_wb Ls C J Rt nx is L (vI 2 :: S) w := propext Iff.rfl
theorem x_60 {i : Int} : ab_wb Ls C J Rt nx ((.iaload, ex, z) :: is) L (vI i :: vR 60 :: S) w = ((0 ≤ i ∧ i < 8) ∧ ab_wb Ls C J Rt nx is L (vI (w 60 i) :: S) w) := propext Iff.rfl
theorem y_60 {i x : Int} : ab_wb Ls C J Rt nx ((.iastore, ex, z) :: is) L (vI x :: vI i :: vR 60 :: S) w = ((0 ≤ i ∧ i < 8) ∧ ab_wb Ls C J Rt nx is L S (ab_up w 60 i x)) := propext Iff.rfl
theorem n_60  : ab_wb Ls C J Rt nx ((.arraylength, ex, z) :: is) L (vR 60 :: S) w = ab_wb Ls C J Rt nx is L (vI 8 :: S) w := propext Iff.rfl
theorem x_61 {i : Int} : ab_wb Ls C J Rt nx ((.iaload, ex, z) :: is) L (vI i :: vR 61 :: S) w = ((0 ≤ i ∧ i < 8) ∧ ab_wb Ls C J Rt nx is L (vI (w 61 i) :: S) w) := propext Iff.rfl
theorem y_61 {i x : Int} : ab_wb Ls C J Rt nx ((.iastore, ex, z) :: is) L (vI x :: vI i :: vR 61 :: S) w = ((0 ≤ i ∧ i < 8) ∧ ab_wb Ls C J Rt nx is L S (ab_up w 61 i x)) := propext Iff.rfl
theorem n_61  : ab_wb Ls C J Rt nx ((.arraylength, ex, z) :: is) L (vR 61 :: S) w = ab_wb Ls C J Rt nx is L (vI 8 :: S) w := propext Iff.rfl
theorem x_62 {i : Int} : ab_wb Ls C J Rt nx ((.iaload, ex, z) :: is) L (vI i :: vR 62 :: S) w = ((0 ≤ i ∧ i < 8) ∧ ab_wb Ls C J Rt nx is L (vI (w 62 i) :: S) w) := propext Iff.rfl
theorem y_62 {i x : Int} : ab_wb Ls C J Rt nx ((.iastore, ex, z) :: is) L (vI x :: vI i :: vR 62 :: S) w = ((0 ≤ i ∧ i < 8) ∧ ab_wb Ls C J Rt nx is L S (ab_up w 62 i x)) := propext Iff.rfl
theorem n_62  : ab_wb Ls C J Rt nx ((.arraylength, ex, z) :: is) L (vR 62 :: S) w = ab_wb Ls C J Rt nx is L (vI 8 :: S) w := propext Iff.rfl
theorem x_63 {i : Int} : ab_wb Ls C J Rt nx ((.iaload, ex, z) :: is) L (vI i :: vR 63 :: S) w = ((0 ≤ i ∧ i < 480) ∧ ab_wb Ls C J Rt nx is L (vI (w 63 i) :: S) w) := propext Iff.rfl
theorem y_63 {i x : Int} : ab_wb Ls C J Rt nx ((.iastore, ex, z) :: is) L (vI x :: vI i :: vR 63 :: S) w = ((0 ≤ i ∧ i < 480) ∧ ab_wb Ls C J Rt nx is L S (ab_up w 63 i x)) := propext Iff.rfl
theorem n_63  : ab_wb Ls C J Rt nx ((.arraylength, ex, z) :: is) L (vR 63 :: S) w = ab_wb Ls C J Rt nx is L (vI 480 :: S) w := propext Iff.rfl
theorem x_64 {i : Int} : ab_wb Ls C J Rt nx ((.baload, ex, z) :: is) L (vI i :: vR 64 :: S) w = ((0 ≤ i ∧ i < 4) ∧ ab_wb Ls C J Rt nx is L (vI (w 64 i) :: S) w) := propext Iff.rfl
theorem y_64 {i x : Int} : ab_wb Ls C J Rt nx ((.bastore, ex, z) :: is) L (vI x :: vI i :: vR 64 :: S) w = ((0 ≤ i ∧ i < 4) ∧ (x = 0 ∨ x = 1) ∧ ab_wb Ls C J Rt nx is L S (ab_up w 64 i x)) := propext Iff.rfl
theorem n_64  : ab_wb Ls C J Rt nx ((.arraylength, ex, z) :: is) L (vR 64 :: S) w = ab_wb Ls C J Rt nx is L (vI 4 :: S) w := propext Iff.rfl
theorem x_65 {i : Int} : ab_wb Ls C J Rt nx ((.iaload, ex, z) :: is) L (vI i :: vR 65 :: S) w = ((0 ≤ i ∧ i < 4) ∧ ab_wb Ls C J Rt nx is L (vI (w 65 i) :: S) w) := propext Iff.rfl
theorem y_65 {i x : Int} : ab_wb Ls C J Rt nx ((.iastore, ex, z) :: is) L (vI x :: vI i :: vR 65 :: S) w = ((0 ≤ i ∧ i < 4) ∧ ab_wb Ls C J Rt nx is L S (ab_up w 65 i x)) := propext Iff.rfl
theorem n_65  : ab_wb Ls C J Rt nx ((.arraylength, ex, z) :: is) L (vR 65 :: S) w = ab_wb Ls C J Rt nx is L (vI 4 :: S) w := propext Iff.rfl
theorem x_66 {i : Int} : ab_wb Ls C J Rt nx ((.iaload, ex, z) :: is) L (vI i :: vR 66 :: S) w = ((0 ≤ i ∧ i < 4) ∧ ab_wb Ls C J Rt nx is L (vI (w 66 i) :: S) w) := propext Iff.rfl
theorem y_66 {i x : Int} : ab_wb Ls C J Rt nx ((.iastore, ex, z) :: is) L (vI x :: vI i :: vR 66 :: S) w = ((0 ≤ i ∧ i < 4) ∧ ab_wb Ls C J Rt nx is L S (ab_up w 66 i x)) := propext Iff.rfl
theorem n_66  : ab_wb Ls C J Rt nx ((.arraylength, ex, z) :: is) L (vR 66 :: S) w = ab_wb Ls C J Rt nx is L (vI 4 :: S) w := propext Iff.rfl
theorem x_67 {i : Int} : ab_wb Ls C J Rt nx ((.iaload, ex, z) :: is) L (vI i :: vR 67 :: S) w = ((0 ≤ i ∧ i < 240) ∧ ab_wb Ls C J Rt nx is L (vI (w 67 i) :: S) w) := propext Iff.rfl
theorem y_67 {i x : Int} : ab_wb Ls C J Rt nx ((.iastore, ex, z) :: is) L (vI x :: vI i :: vR 67 :: S) w = ((0 ≤ i ∧ i < 240) ∧ ab_wb Ls C J Rt nx is L S (ab_up w 67 i x)) := propext Iff.rfl
theorem n_67  : ab_wb Ls C J Rt nx ((.arraylength, ex, z) :: is) L (vR 67 :: S) w = ab_wb Ls C J Rt nx is L (vI 240 :: S) w := propext Iff.rfl
theorem x_68 {i : Int} : ab_wb Ls C J Rt nx ((.iaload, ex, z) :: is) L (vI i :: vR 68 :: S) w = ((0 ≤ i ∧ i < 60) ∧ ab_wb Ls C J Rt nx is L (vI (w 68 i) :: S) w) := propext Iff.rfl
theorem y_68 {i x : Int} : ab_wb Ls C J Rt nx ((.iastore, ex, z) :: is) L (vI x :: vI i :: vR 68 :: S) w = ((0 ≤ i ∧ i < 60) ∧ ab_wb Ls C J Rt nx is L S (ab_up w 68 i x)) := propext Iff.rfl
theorem n_68  : ab_wb Ls C J Rt nx ((.arraylength, ex, z) :: is) L (vR 68 :: S) w = ab_wb Ls C J Rt nx is L (vI 60 :: S) w := propext Iff.rfl
theorem x_100 {i : Int} : ab_wb Ls C J Rt nx ((.iaload, ex, z) :: is) L (vI i :: vR 100 :: S) w = ((0 ≤ i ∧ i < 5) ∧ ab_wb Ls C J Rt nx is L (vI (w 100 i) :: S) w) := propext Iff.rfl
theorem x_101 {i : Int} : ab_wb Ls C J Rt nx ((.iaload, ex, z) :: is) L (vI i :: vR 101 :: S) w = ((0 ≤ i ∧ i < (Ls : Int)) ∧ ab_wb Ls C J Rt nx is L (vI (w 101 i) :: S) w) := propext Iff.rfl
theorem n_100  : ab_wb Ls C J Rt nx ((.arraylength, ex, z) :: is) L (vR 100 :: S) w = ab_wb Ls C J Rt nx is L (vI 5 :: S) w := propext Iff.rfl
theorem n_101  : ab_wb Ls C J Rt nx ((.arraylength, ex, z) :: is) L (vR 101 :: S) w = ab_wb Ls C J Rt nx is L (vI (Ls : Int) :: S) w := propext Iff.rfl
theorem e_mmax {i : Nat} {x y : Int} : ab_wb Ls C J Rt nx ((.invokestatic i, [1], z) :: is) L (vI y :: vI x :: S) w = (ab_few S ∧ C 999 [] w (fun _ _ => True) ∧ ab_wb Ls C J Rt nx is L (vI (i_max x y) :: S) w) := propext Iff.rfl
theorem e_mmin {i : Nat} {x y : Int} : ab_wb Ls C J Rt nx ((.invokestatic i, [2], z) :: is) L (vI y :: vI x :: S) w = (ab_few S ∧ C 999 [] w (fun _ _ => True) ∧ ab_wb Ls C J Rt nx is L (vI (i_min x y) :: S) w) := propext Iff.rfl
theorem e_copy {i p q : Nat} {sp dp n : Int} : ab_wb Ls C J Rt nx ((.invokestatic i, [], z) :: is) L (vI n :: vI dp :: vR q :: vI sp :: vR p :: S) w = (ab_few S ∧ C 999 [] w (fun _ _ => True) ∧ (∃ kd a b, (kd = 0 ∨ kd = 1) ∧ ab_arr kd p = some a ∧ ab_arr kd q = some b ∧ 0 ≤ sp ∧ 0 ≤ dp ∧ 0 ≤ n ∧ sp + n ≤ a ∧ dp + n ≤ b) ∧ ab_wb Ls C J Rt nx is L S (ab_cp w p q sp dp n)) := propext Iff.rfl
theorem ab_is3 {i k n c : Nat} : ab_wb Ls C J Rt nx ((.invokestatic i, [k, n, c], z) :: is) L S w = ab_call C [k, n, c] S w false (fun S w => ab_wb Ls C J Rt nx is L S w) := by
  simp only [ab_wb, ab_wp]
  rw [if_neg (by simp), if_neg (by simp), if_neg (by simp)]
theorem e_cs0 {i k c : Nat} : ab_wb Ls C J Rt nx ((.invokestatic i, [k, 0, c], z) :: is) L (S) w = (ab_few S ∧ C k [] w (fun r w' => ab_wb Ls C J Rt nx is L (ab_rp r S) w')) := ab_is3.trans (propext ⟨fun h => ⟨h.2.1, h.2.2⟩, fun h => ⟨fun q => (by cases q), h.1, h.2⟩⟩)
theorem e_cs1 {a0 : ab_V} {i k c : Nat} : ab_wb Ls C J Rt nx ((.invokestatic i, [k, 1, c], z) :: is) L (a0 :: S) w = (ab_few S ∧ C k [a0] w (fun r w' => ab_wb Ls C J Rt nx is L (ab_rp r S) w')) := ab_is3.trans (propext ⟨fun h => ⟨h.2.1, h.2.2⟩, fun h => ⟨fun q => (by cases q), h.1, h.2⟩⟩)
theorem e_cv1 {i k c p : Nat} : ab_wb Ls C J Rt nx ((.invokevirtual i, [k, 1, c], z) :: is) L (vR p :: S) w = (ab_ci p = some c ∧ ab_few S ∧ C k [vR p] w (fun r w' => ab_wb Ls C J Rt nx is L (ab_rp r S) w')) := propext ⟨fun h => ⟨h.1 rfl, h.2.1, h.2.2⟩, fun h => ⟨fun _ => h.1, h.2.1, h.2.2⟩⟩
theorem e_cs2 {a0 a1 : ab_V} {i k c : Nat} : ab_wb Ls C J Rt nx ((.invokestatic i, [k, 2, c], z) :: is) L (a1 :: a0 :: S) w = (ab_few S ∧ C k [a0, a1] w (fun r w' => ab_wb Ls C J Rt nx is L (ab_rp r S) w')) := ab_is3.trans (propext ⟨fun h => ⟨h.2.1, h.2.2⟩, fun h => ⟨fun q => (by cases q), h.1, h.2⟩⟩)
theorem e_cv2 {a1 : ab_V} {i k c p : Nat} : ab_wb Ls C J Rt nx ((.invokevirtual i, [k, 2, c], z) :: is) L (a1 :: vR p :: S) w = (ab_ci p = some c ∧ ab_few S ∧ C k [vR p, a1] w (fun r w' => ab_wb Ls C J Rt nx is L (ab_rp r S) w')) := propext ⟨fun h => ⟨h.1 rfl, h.2.1, h.2.2⟩, fun h => ⟨fun _ => h.1, h.2.1, h.2.2⟩⟩
theorem e_cs3 {a0 a1 a2 : ab_V} {i k c : Nat} : ab_wb Ls C J Rt nx ((.invokestatic i, [k, 3, c], z) :: is) L (a2 :: a1 :: a0 :: S) w = (ab_few S ∧ C k [a0, a1, a2] w (fun r w' => ab_wb Ls C J Rt nx is L (ab_rp r S) w')) := ab_is3.trans (propext ⟨fun h => ⟨h.2.1, h.2.2⟩, fun h => ⟨fun q => (by cases q), h.1, h.2⟩⟩)
theorem e_cv3 {a1 a2 : ab_V} {i k c p : Nat} : ab_wb Ls C J Rt nx ((.invokevirtual i, [k, 3, c], z) :: is) L (a2 :: a1 :: vR p :: S) w = (ab_ci p = some c ∧ ab_few S ∧ C k [vR p, a1, a2] w (fun r w' => ab_wb Ls C J Rt nx is L (ab_rp r S) w')) := propext ⟨fun h => ⟨h.1 rfl, h.2.1, h.2.2⟩, fun h => ⟨fun _ => h.1, h.2.1, h.2.2⟩⟩
theorem e_cs4 {a0 a1 a2 a3 : ab_V} {i k c : Nat} : ab_wb Ls C J Rt nx ((.invokestatic i, [k, 4, c], z) :: is) L (a3 :: a2 :: a1 :: a0 :: S) w = (ab_few S ∧ C k [a0, a1, a2, a3] w (fun r w' => ab_wb Ls C J Rt nx is L (ab_rp r S) w')) := ab_is3.trans (propext ⟨fun h => ⟨h.2.1, h.2.2⟩, fun h => ⟨fun q => (by cases q), h.1, h.2⟩⟩)
theorem e_cv4 {a1 a2 a3 : ab_V} {i k c p : Nat} : ab_wb Ls C J Rt nx ((.invokevirtual i, [k, 4, c], z) :: is) L (a3 :: a2 :: a1 :: vR p :: S) w = (ab_ci p = some c ∧ ab_few S ∧ C k [vR p, a1, a2, a3] w (fun r w' => ab_wb Ls C J Rt nx is L (ab_rp r S) w')) := propext ⟨fun h => ⟨h.1 rfl, h.2.1, h.2.2⟩, fun h => ⟨fun _ => h.1, h.2.1, h.2.2⟩⟩
theorem e_cs5 {a0 a1 a2 a3 a4 : ab_V} {i k c : Nat} : ab_wb Ls C J Rt nx ((.invokestatic i, [k, 5, c], z) :: is) L (a4 :: a3 :: a2 :: a1 :: a0 :: S) w = (ab_few S ∧ C k [a0, a1, a2, a3, a4] w (fun r w' => ab_wb Ls C J Rt nx is L (ab_rp r S) w')) := ab_is3.trans (propext ⟨fun h => ⟨h.2.1, h.2.2⟩, fun h => ⟨fun q => (by cases q), h.1, h.2⟩⟩)
theorem e_cv5 {a1 a2 a3 a4 : ab_V} {i k c p : Nat} : ab_wb Ls C J Rt nx ((.invokevirtual i, [k, 5, c], z) :: is) L (a4 :: a3 :: a2 :: a1 :: vR p :: S) w = (ab_ci p = some c ∧ ab_few S ∧ C k [vR p, a1, a2, a3, a4] w (fun r w' => ab_wb Ls C J Rt nx is L (ab_rp r S) w')) := propext ⟨fun h => ⟨h.1 rfl, h.2.1, h.2.2⟩, fun h => ⟨fun _ => h.1, h.2.1, h.2.2⟩⟩
theorem e_cs6 {a0 a1 a2 a3 a4 a5 : ab_V} {i k c : Nat} : ab_wb Ls C J Rt nx ((.invokestatic i, [k, 6, c], z) :: is) L (a5 :: a4 :: a3 :: a2 :: a1 :: a0 :: S) w = (ab_few S ∧ C k [a0, a1, a2, a3, a4, a5] w (fun r w' => ab_wb Ls C J Rt nx is L (ab_rp r S) w')) := ab_is3.trans (propext ⟨fun h => ⟨h.2.1, h.2.2⟩, fun h => ⟨fun q => (by cases q), h.1, h.2⟩⟩)
theorem e_cv6 {a1 a2 a3 a4 a5 : ab_V} {i k c p : Nat} : ab_wb Ls C J Rt nx ((.invokevirtual i, [k, 6, c], z) :: is) L (a5 :: a4 :: a3 :: a2 :: a1 :: vR p :: S) w = (ab_ci p = some c ∧ ab_few S ∧ C k [vR p, a1, a2, a3, a4, a5] w (fun r w' => ab_wb Ls C J Rt nx is L (ab_rp r S) w')) := propext ⟨fun h => ⟨h.1 rfl, h.2.1, h.2.2⟩, fun h => ⟨fun _ => h.1, h.2.1, h.2.2⟩⟩
theorem e_cs7 {a0 a1 a2 a3 a4 a5 a6 : ab_V} {i k c : Nat} : ab_wb Ls C J Rt nx ((.invokestatic i, [k, 7, c], z) :: is) L (a6 :: a5 :: a4 :: a3 :: a2 :: a1 :: a0 :: S) w = (ab_few S ∧ C k [a0, a1, a2, a3, a4, a5, a6] w (fun r w' => ab_wb Ls C J Rt nx is L (ab_rp r S) w')) := ab_is3.trans (propext ⟨fun h => ⟨h.2.1, h.2.2⟩, fun h => ⟨fun q => (by cases q), h.1, h.2⟩⟩)
theorem e_cv7 {a1 a2 a3 a4 a5 a6 : ab_V} {i k c p : Nat} : ab_wb Ls C J Rt nx ((.invokevirtual i, [k, 7, c], z) :: is) L (a6 :: a5 :: a4 :: a3 :: a2 :: a1 :: vR p :: S) w = (ab_ci p = some c ∧ ab_few S ∧ C k [vR p, a1, a2, a3, a4, a5, a6] w (fun r w' => ab_wb Ls C J Rt nx is L (ab_rp r S) w')) := propext ⟨fun h => ⟨h.1 rfl, h.2.1, h.2.2⟩, fun h => ⟨fun _ => h.1, h.2.1, h.2.2⟩⟩
theorem e_rpn : ab_rp none S = S := congrArg (fun x => x) (Eq.refl S)
theorem e_rps {v : ab_V} : ab_rp (some v) S = v :: S := congrArg (fun x => x) (Eq.refl (v :: S))
theorem e_few0 : ab_few [] = True := propext Iff.rfl
theorem e_few1 {a : ab_V} : ab_few [a] = True := propext Iff.rfl
theorem e_few2 {a b : ab_V} : ab_few [a, b] = True := propext Iff.rfl
theorem e_few3 {a b c : ab_V} : ab_few [a, b, c] = True := propext Iff.rfl
theorem e_few4 {a b c d : ab_V} : ab_few [a, b, c, d] = True := propext Iff.rfl
theorem i_0 : (ab_ci 0 = some 4) = True := propext ⟨fun _ => trivial, fun _ => rfl⟩
theorem i_1 : (ab_ci 1 = some 2) = True := propext ⟨fun _ => trivial, fun _ => rfl⟩
theorem i_3 : (ab_ci 3 = some 3) = True := propext ⟨fun _ => trivial, fun _ => rfl⟩
theorem i_7 : (ab_ci 7 = some 3) = True := propext ⟨fun _ => trivial, fun _ => rfl⟩
theorem i_11 : (ab_ci 11 = some 3) = True := propext ⟨fun _ => trivial, fun _ => rfl⟩
theorem i_15 : (ab_ci 15 = some 0) = True := propext ⟨fun _ => trivial, fun _ => rfl⟩
theorem i_21 : (ab_ci 21 = some 0) = True := propext ⟨fun _ => trivial, fun _ => rfl⟩
theorem i_31 : (ab_ci 31 = some 1) = True := propext ⟨fun _ => trivial, fun _ => rfl⟩
theorem i_33 : (ab_ci 33 = some 1) = True := propext ⟨fun _ => trivial, fun _ => rfl⟩
theorem i_35 : (ab_ci 35 = some 1) = True := propext ⟨fun _ => trivial, fun _ => rfl⟩
theorem i_37 : (ab_ci 37 = some 1) = True := propext ⟨fun _ => trivial, fun _ => rfl⟩
theorem i_39 : (ab_ci 39 = some 5) = True := propext ⟨fun _ => trivial, fun _ => rfl⟩
end Steps15
theorem e_999 {Ls d : Nat} {w : ab_W} {q : Option ab_V → ab_W → Prop} : Sm Ls (d + 1) 999 [] w q = q none w := propext ⟨fun h => h.2, fun h => ⟨rfl, h⟩⟩
