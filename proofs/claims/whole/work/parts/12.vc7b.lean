set_option maxHeartbeats 4000000 in
set_option maxRecDepth 100000 in
theorem vc_X7_canBe_0 (a0 : Nat) (x1 : Int32) (x2 : Int32) (x3 : Int32) (x4 : Int32) (σ : zx_S) (K : Int32 → zx_S → Prop) (h : ((¬ x3 = (0 : Int32) → ((x2 < (18 : Int32) → K 0 σ) ∧ (¬ x2 < (18 : Int32) → zwI 175 0 [some (.int x3)] [] σ (fun v2 σ1 => zK σ1 a0 = 20 ∧ zwI 210 0 [some (.ref a0), some (.int x1), some (.int 6)] [] σ1 (fun v5 σ4 => (((x2 + v2) ≤ v5 → ((x3 < (32768 : Int32) → zwI 144 62 [some (.ref a0), some (.int x1), none, none, some (.int x4), some (.int x2), some (.int (x2 + x3)), some (.int 0), none] [] σ4 K) ∧ (¬ x3 < (32768 : Int32) → ((¬ x3 = (32768 + x4) → K 0 σ4) ∧ (x3 = (32768 + x4) → K 1 σ4))))) ∧ (¬ (x2 + v2) ≤ v5 → K 0 σ4))))))) ∧ (x3 = (0 : Int32) → K 1 σ))) : zwI 144 0 [some (.ref a0), some (.int x1), some (.int x2), some (.int x3), some (.int x4), none, none, none, none] [] σ K := by
  refine zw_go (pc1 := 1) (L1 := [some (.ref a0), some (.int x1), some (.int x2), some (.int x3), some (.int x4), none, none, none, none]) (st1 := [.int x3]) (σ1 := σ) zM_X7_canBe dX7_canBe_0 rfl rfl rfl rfl ?_
  refine zw_if_ne (tgt := 6) zM_X7_canBe dX7_canBe_1 rfl rfl (fun q => ?_) (fun q => ?_)
  · replace h := h.1 q
    refine zw_go (pc1 := 7) (L1 := [some (.ref a0), some (.int x1), some (.int x2), some (.int x3), some (.int x4), none, none, none, none]) (st1 := [.int x2]) (σ1 := σ) zM_X7_canBe dX7_canBe_6 rfl rfl rfl rfl ?_
    refine zw_bipush (v := 18) zM_X7_canBe dX7_canBe_7 (by decide) ?_
    refine zw_icmp_lt (tgt := 28) zM_X7_canBe dX7_canBe_9 rfl rfl (fun q => ?_) (fun q => ?_)
    · replace h := h.1 q
      refine zw_iconst (v := 0) zM_X7_canBe dX7_canBe_28 (by decide) ?_
      exact zw_retz zM_X7_canBe dX7_canBe_29 rfl (by decide) h
    · replace h := h.2 q
      refine zw_go (pc1 := 13) (L1 := [some (.ref a0), some (.int x1), some (.int x2), some (.int x3), some (.int x4), none, none, none, none]) (st1 := [.int x2]) (σ1 := σ) zM_X7_canBe dX7_canBe_12 rfl rfl rfl rfl ?_
      refine zw_go (pc1 := 14) (L1 := [some (.ref a0), some (.int x1), some (.int x2), some (.int x3), some (.int x4), none, none, none, none]) (st1 := [.int x3, .int x2]) (σ1 := σ) zM_X7_canBe dX7_canBe_13 rfl rfl rfl rfl ?_
      refine zw_callI (as := [.int x3]) (rest := [.int x2]) zM_X7_canBe dX7_canBe_14 (zx_calS zC_7_204) zM_X7_lies rfl rfl rfl rfl rfl rfl rfl h (fun v2 σ1 h => ?_)
      refine zw_go (pc1 := 18) (L1 := [some (.ref a0), some (.int x1), some (.int x2), some (.int x3), some (.int x4), none, none, none, none]) (st1 := [.int (x2 + v2)]) (σ1 := σ1) zM_X7_canBe dX7_canBe_17 rfl rfl rfl rfl ?_
      refine zw_go (pc1 := 19) (L1 := [some (.ref a0), some (.int x1), some (.int x2), some (.int x3), some (.int x4), none, none, none, none]) (st1 := [.ref a0, .int (x2 + v2)]) (σ1 := σ1) zM_X7_canBe dX7_canBe_18 rfl rfl rfl rfl ?_
      refine zw_go (pc1 := 20) (L1 := [some (.ref a0), some (.int x1), some (.int x2), some (.int x3), some (.int x4), none, none, none, none]) (st1 := [.int x1, .ref a0, .int (x2 + v2)]) (σ1 := σ1) zM_X7_canBe dX7_canBe_19 rfl rfl rfl rfl ?_
      refine zw_bipush (v := 6) zM_X7_canBe dX7_canBe_20 (by decide) ?_
      obtain ⟨hk3, h⟩ := h
      refine zw_callI (as := [.ref a0, .int x1, .int 6]) (rest := [.int (x2 + v2)]) zM_X7_canBe dX7_canBe_22 (zx_calV zC_7_201) zM_X7_word rfl rfl rfl rfl rfl (zx_args0 hk3 rfl) rfl h (fun v5 σ4 h => ?_)
      refine zw_icmp_le (tgt := 30) zM_X7_canBe dX7_canBe_25 rfl rfl (fun q => ?_) (fun q => ?_)
      · replace h := h.1 q
        refine zw_go (pc1 := 31) (L1 := [some (.ref a0), some (.int x1), some (.int x2), some (.int x3), some (.int x4), none, none, none, none]) (st1 := [.int x3]) (σ1 := σ4) zM_X7_canBe dX7_canBe_30 rfl rfl rfl rfl ?_
        refine zw_ldc (v := 32768) zM_X7_canBe dX7_canBe_31 zK_7_158 ?_
        refine zw_icmp_lt (tgt := 51) zM_X7_canBe dX7_canBe_33 rfl rfl (fun q => ?_) (fun q => ?_)
        · replace h := h.1 q
          refine zw_go (pc1 := 52) (L1 := [some (.ref a0), some (.int x1), some (.int x2), some (.int x3), some (.int x4), none, none, none, none]) (st1 := [.int x2]) (σ1 := σ4) zM_X7_canBe dX7_canBe_51 rfl rfl rfl rfl ?_
          refine zw_go (pc1 := 54) (L1 := [some (.ref a0), some (.int x1), some (.int x2), some (.int x3), some (.int x4), some (.int x2), none, none, none]) (st1 := []) (σ1 := σ4) zM_X7_canBe dX7_canBe_52 rfl rfl rfl rfl ?_
          refine zw_go (pc1 := 55) (L1 := [some (.ref a0), some (.int x1), some (.int x2), some (.int x3), some (.int x4), some (.int x2), none, none, none]) (st1 := [.int x2]) (σ1 := σ4) zM_X7_canBe dX7_canBe_54 rfl rfl rfl rfl ?_
          refine zw_go (pc1 := 56) (L1 := [some (.ref a0), some (.int x1), some (.int x2), some (.int x3), some (.int x4), some (.int x2), none, none, none]) (st1 := [.int x3, .int x2]) (σ1 := σ4) zM_X7_canBe dX7_canBe_55 rfl rfl rfl rfl ?_
          refine zw_go (pc1 := 57) (L1 := [some (.ref a0), some (.int x1), some (.int x2), some (.int x3), some (.int x4), some (.int x2), none, none, none]) (st1 := [.int (x2 + x3)]) (σ1 := σ4) zM_X7_canBe dX7_canBe_56 rfl rfl rfl rfl ?_
          refine zw_go (pc1 := 59) (L1 := [some (.ref a0), some (.int x1), some (.int x2), some (.int x3), some (.int x4), some (.int x2), some (.int (x2 + x3)), none, none]) (st1 := []) (σ1 := σ4) zM_X7_canBe dX7_canBe_57 rfl rfl rfl rfl ?_
          refine zw_iconst (v := 0) zM_X7_canBe dX7_canBe_59 (by decide) ?_
          refine zw_go (pc1 := 62) (L1 := [some (.ref a0), some (.int x1), some (.int x2), some (.int x3), some (.int x4), some (.int x2), some (.int (x2 + x3)), some (.int 0), none]) (st1 := []) (σ1 := σ4) zM_X7_canBe dX7_canBe_60 rfl rfl rfl rfl ?_
          exact zw_weak2 h ⟨rfl, rfl, rfl, rfl, rfl, rfl, trivial⟩
        · replace h := h.2 q
          refine zw_go (pc1 := 37) (L1 := [some (.ref a0), some (.int x1), some (.int x2), some (.int x3), some (.int x4), none, none, none, none]) (st1 := [.int x3]) (σ1 := σ4) zM_X7_canBe dX7_canBe_36 rfl rfl rfl rfl ?_
          refine zw_ldc (v := 32768) zM_X7_canBe dX7_canBe_37 zK_7_158 ?_
          refine zw_go (pc1 := 41) (L1 := [some (.ref a0), some (.int x1), some (.int x2), some (.int x3), some (.int x4), none, none, none, none]) (st1 := [.int x4, .int 32768, .int x3]) (σ1 := σ4) zM_X7_canBe dX7_canBe_39 rfl rfl rfl rfl ?_
          refine zw_go (pc1 := 42) (L1 := [some (.ref a0), some (.int x1), some (.int x2), some (.int x3), some (.int x4), none, none, none, none]) (st1 := [.int (32768 + x4), .int x3]) (σ1 := σ4) zM_X7_canBe dX7_canBe_41 rfl rfl rfl rfl ?_
          refine zw_icmp_ne (tgt := 49) zM_X7_canBe dX7_canBe_42 rfl rfl (fun q => ?_) (fun q => ?_)
          · replace h := h.1 q
            refine zw_iconst (v := 0) zM_X7_canBe dX7_canBe_49 (by decide) ?_
            exact zw_retz zM_X7_canBe dX7_canBe_50 rfl (by decide) h
          · replace h := h.2 q
            refine zw_iconst (v := 1) zM_X7_canBe dX7_canBe_45 (by decide) ?_
            refine zw_goto (tgt := 50) zM_X7_canBe dX7_canBe_46 rfl ?_
            exact zw_retz zM_X7_canBe dX7_canBe_50 rfl (by decide) h
      · replace h := h.2 q
        refine zw_iconst (v := 0) zM_X7_canBe dX7_canBe_28 (by decide) ?_
        exact zw_retz zM_X7_canBe dX7_canBe_29 rfl (by decide) h
  · replace h := h.2 q
    refine zw_iconst (v := 1) zM_X7_canBe dX7_canBe_4 (by decide) ?_
    exact zw_retz zM_X7_canBe dX7_canBe_5 rfl (by decide) h
set_option maxHeartbeats 4000000 in
set_option maxRecDepth 100000 in
theorem vc_X7_canBe_62 (a0 : Nat) (x1 : Int32) (x4 : Int32) (x5 : Int32) (x6 : Int32) (x7 : Int32) (σ : zx_S) (K : Int32 → zx_S → Prop) (h : ((x6 ≤ x5 → ((¬ x7 = x4 → K 0 σ) ∧ (x7 = x4 → K 1 σ))) ∧ (¬ x6 ≤ x5 → zK σ a0 = 20 ∧ zwI 143 0 [some (.ref a0), some (.int x1), some (.int x5)] [] σ (fun v3 σ2 => (((128 : Int32) ≤ v3 → ((v3 ≤ (128 : Int32) → zwI 144 132 [some (.ref a0), some (.int x1), none, none, some (.int x4), some (.int (x5 + Int32.ofInt 1)), some (.int x6), some (.int x7), none] [] σ2 K) ∧ (¬ v3 ≤ (128 : Int32) → zwI 144 132 [some (.ref a0), some (.int x1), none, none, some (.int x4), some (.int ((x5 + Int32.ofInt 1) + Int32.ofInt 1)), some (.int x6), some (.int (x7 + (257 - v3))), none] [] σ2 K))) ∧ (¬ (128 : Int32) ≤ v3 → zwI 144 132 [some (.ref a0), some (.int x1), none, none, some (.int x4), some (.int ((x5 + Int32.ofInt 1) + (v3 + 1))), some (.int x6), some (.int (x7 + (v3 + 1))), none] [] σ2 K)))))) : zwI 144 62 [some (.ref a0), some (.int x1), none, none, some (.int x4), some (.int x5), some (.int x6), some (.int x7), none] [] σ K := by
  refine zw_go (pc1 := 64) (L1 := [some (.ref a0), some (.int x1), none, none, some (.int x4), some (.int x5), some (.int x6), some (.int x7), none]) (st1 := [.int x5]) (σ1 := σ) zM_X7_canBe dX7_canBe_62 rfl rfl rfl rfl ?_
  refine zw_go (pc1 := 66) (L1 := [some (.ref a0), some (.int x1), none, none, some (.int x4), some (.int x5), some (.int x6), some (.int x7), none]) (st1 := [.int x6, .int x5]) (σ1 := σ) zM_X7_canBe dX7_canBe_64 rfl rfl rfl rfl ?_
  refine zw_icmp_ge (tgt := 151) zM_X7_canBe dX7_canBe_66 rfl rfl (fun q => ?_) (fun q => ?_)
  · replace h := h.1 q
    refine zw_go (pc1 := 153) (L1 := [some (.ref a0), some (.int x1), none, none, some (.int x4), some (.int x5), some (.int x6), some (.int x7), none]) (st1 := [.int x7]) (σ1 := σ) zM_X7_canBe dX7_canBe_151 rfl rfl rfl rfl ?_
    refine zw_go (pc1 := 155) (L1 := [some (.ref a0), some (.int x1), none, none, some (.int x4), some (.int x5), some (.int x6), some (.int x7), none]) (st1 := [.int x4, .int x7]) (σ1 := σ) zM_X7_canBe dX7_canBe_153 rfl rfl rfl rfl ?_
    refine zw_icmp_ne (tgt := 162) zM_X7_canBe dX7_canBe_155 rfl rfl (fun q => ?_) (fun q => ?_)
    · replace h := h.1 q
      refine zw_iconst (v := 0) zM_X7_canBe dX7_canBe_162 (by decide) ?_
      exact zw_retz zM_X7_canBe dX7_canBe_163 rfl (by decide) h
    · replace h := h.2 q
      refine zw_iconst (v := 1) zM_X7_canBe dX7_canBe_158 (by decide) ?_
      refine zw_goto (tgt := 163) zM_X7_canBe dX7_canBe_159 rfl ?_
      exact zw_retz zM_X7_canBe dX7_canBe_163 rfl (by decide) h
  · replace h := h.2 q
    refine zw_go (pc1 := 70) (L1 := [some (.ref a0), some (.int x1), none, none, some (.int x4), some (.int x5), some (.int x6), some (.int x7), none]) (st1 := [.ref a0]) (σ1 := σ) zM_X7_canBe dX7_canBe_69 rfl rfl rfl rfl ?_
    refine zw_go (pc1 := 71) (L1 := [some (.ref a0), some (.int x1), none, none, some (.int x4), some (.int x5), some (.int x6), some (.int x7), none]) (st1 := [.int x1, .ref a0]) (σ1 := σ) zM_X7_canBe dX7_canBe_70 rfl rfl rfl rfl ?_
    refine zw_go (pc1 := 73) (L1 := [some (.ref a0), some (.int x1), none, none, some (.int x4), some (.int x5), some (.int x6), some (.int x7), none]) (st1 := [.int x5, .int x1, .ref a0]) (σ1 := σ) zM_X7_canBe dX7_canBe_71 rfl rfl rfl rfl ?_
    obtain ⟨hk1, h⟩ := h
    refine zw_callI (as := [.ref a0, .int x1, .int x5]) (rest := []) zM_X7_canBe dX7_canBe_73 (zx_calV zC_7_198) zM_X7_byteAt rfl rfl rfl rfl rfl (zx_args0 hk1 rfl) rfl h (fun v3 σ2 h => ?_)
    refine zw_go (pc1 := 78) (L1 := [some (.ref a0), some (.int x1), none, none, some (.int x4), some (.int x5), some (.int x6), some (.int x7), some (.int v3)]) (st1 := []) (σ1 := σ2) zM_X7_canBe dX7_canBe_76 rfl rfl rfl rfl ?_
    refine zw_go (pc1 := 81) (L1 := [some (.ref a0), some (.int x1), none, none, some (.int x4), some (.int (x5 + Int32.ofInt 1)), some (.int x6), some (.int x7), some (.int v3)]) (st1 := []) (σ1 := σ2) zM_X7_canBe dX7_canBe_78 rfl rfl rfl rfl ?_
    refine zw_go (pc1 := 83) (L1 := [some (.ref a0), some (.int x1), none, none, some (.int x4), some (.int (x5 + Int32.ofInt 1)), some (.int x6), some (.int x7), some (.int v3)]) (st1 := [.int v3]) (σ1 := σ2) zM_X7_canBe dX7_canBe_81 rfl rfl rfl rfl ?_
    refine zw_sipush (v := 128) zM_X7_canBe dX7_canBe_83 (by decide) ?_
    refine zw_icmp_ge (tgt := 110) zM_X7_canBe dX7_canBe_86 rfl rfl (fun q => ?_) (fun q => ?_)
    · replace h := h.1 q
      refine zw_go (pc1 := 112) (L1 := [some (.ref a0), some (.int x1), none, none, some (.int x4), some (.int (x5 + Int32.ofInt 1)), some (.int x6), some (.int x7), some (.int v3)]) (st1 := [.int v3]) (σ1 := σ2) zM_X7_canBe dX7_canBe_110 rfl rfl rfl rfl ?_
      refine zw_sipush (v := 128) zM_X7_canBe dX7_canBe_112 (by decide) ?_
      refine zw_icmp_le (tgt := 132) zM_X7_canBe dX7_canBe_115 rfl rfl (fun q => ?_) (fun q => ?_)
      · replace h := h.1 q
        exact zw_weak2 h ⟨rfl, rfl, rfl, rfl, rfl, rfl, trivial⟩
      · replace h := h.2 q
        refine zw_go (pc1 := 121) (L1 := [some (.ref a0), some (.int x1), none, none, some (.int x4), some (.int ((x5 + Int32.ofInt 1) + Int32.ofInt 1)), some (.int x6), some (.int x7), some (.int v3)]) (st1 := []) (σ1 := σ2) zM_X7_canBe dX7_canBe_118 rfl rfl rfl rfl ?_
        refine zw_go (pc1 := 123) (L1 := [some (.ref a0), some (.int x1), none, none, some (.int x4), some (.int ((x5 + Int32.ofInt 1) + Int32.ofInt 1)), some (.int x6), some (.int x7), some (.int v3)]) (st1 := [.int x7]) (σ1 := σ2) zM_X7_canBe dX7_canBe_121 rfl rfl rfl rfl ?_
        refine zw_sipush (v := 257) zM_X7_canBe dX7_canBe_123 (by decide) ?_
        refine zw_go (pc1 := 128) (L1 := [some (.ref a0), some (.int x1), none, none, some (.int x4), some (.int ((x5 + Int32.ofInt 1) + Int32.ofInt 1)), some (.int x6), some (.int x7), some (.int v3)]) (st1 := [.int v3, .int 257, .int x7]) (σ1 := σ2) zM_X7_canBe dX7_canBe_126 rfl rfl rfl rfl ?_
        refine zw_go (pc1 := 129) (L1 := [some (.ref a0), some (.int x1), none, none, some (.int x4), some (.int ((x5 + Int32.ofInt 1) + Int32.ofInt 1)), some (.int x6), some (.int x7), some (.int v3)]) (st1 := [.int (257 - v3), .int x7]) (σ1 := σ2) zM_X7_canBe dX7_canBe_128 rfl rfl rfl rfl ?_
        refine zw_go (pc1 := 130) (L1 := [some (.ref a0), some (.int x1), none, none, some (.int x4), some (.int ((x5 + Int32.ofInt 1) + Int32.ofInt 1)), some (.int x6), some (.int x7), some (.int v3)]) (st1 := [.int (x7 + (257 - v3))]) (σ1 := σ2) zM_X7_canBe dX7_canBe_129 rfl rfl rfl rfl ?_
        refine zw_go (pc1 := 132) (L1 := [some (.ref a0), some (.int x1), none, none, some (.int x4), some (.int ((x5 + Int32.ofInt 1) + Int32.ofInt 1)), some (.int x6), some (.int (x7 + (257 - v3))), some (.int v3)]) (st1 := []) (σ1 := σ2) zM_X7_canBe dX7_canBe_130 rfl rfl rfl rfl ?_
        exact zw_weak2 h ⟨rfl, rfl, rfl, rfl, rfl, rfl, trivial⟩
    · replace h := h.2 q
      refine zw_go (pc1 := 91) (L1 := [some (.ref a0), some (.int x1), none, none, some (.int x4), some (.int (x5 + Int32.ofInt 1)), some (.int x6), some (.int x7), some (.int v3)]) (st1 := [.int (x5 + Int32.ofInt 1)]) (σ1 := σ2) zM_X7_canBe dX7_canBe_89 rfl rfl rfl rfl ?_
      refine zw_go (pc1 := 93) (L1 := [some (.ref a0), some (.int x1), none, none, some (.int x4), some (.int (x5 + Int32.ofInt 1)), some (.int x6), some (.int x7), some (.int v3)]) (st1 := [.int v3, .int (x5 + Int32.ofInt 1)]) (σ1 := σ2) zM_X7_canBe dX7_canBe_91 rfl rfl rfl rfl ?_
      refine zw_iconst (v := 1) zM_X7_canBe dX7_canBe_93 (by decide) ?_
      refine zw_go (pc1 := 95) (L1 := [some (.ref a0), some (.int x1), none, none, some (.int x4), some (.int (x5 + Int32.ofInt 1)), some (.int x6), some (.int x7), some (.int v3)]) (st1 := [.int (v3 + 1), .int (x5 + Int32.ofInt 1)]) (σ1 := σ2) zM_X7_canBe dX7_canBe_94 rfl rfl rfl rfl ?_
      refine zw_go (pc1 := 96) (L1 := [some (.ref a0), some (.int x1), none, none, some (.int x4), some (.int (x5 + Int32.ofInt 1)), some (.int x6), some (.int x7), some (.int v3)]) (st1 := [.int ((x5 + Int32.ofInt 1) + (v3 + 1))]) (σ1 := σ2) zM_X7_canBe dX7_canBe_95 rfl rfl rfl rfl ?_
      refine zw_go (pc1 := 98) (L1 := [some (.ref a0), some (.int x1), none, none, some (.int x4), some (.int ((x5 + Int32.ofInt 1) + (v3 + 1))), some (.int x6), some (.int x7), some (.int v3)]) (st1 := []) (σ1 := σ2) zM_X7_canBe dX7_canBe_96 rfl rfl rfl rfl ?_
      refine zw_go (pc1 := 100) (L1 := [some (.ref a0), some (.int x1), none, none, some (.int x4), some (.int ((x5 + Int32.ofInt 1) + (v3 + 1))), some (.int x6), some (.int x7), some (.int v3)]) (st1 := [.int x7]) (σ1 := σ2) zM_X7_canBe dX7_canBe_98 rfl rfl rfl rfl ?_
      refine zw_go (pc1 := 102) (L1 := [some (.ref a0), some (.int x1), none, none, some (.int x4), some (.int ((x5 + Int32.ofInt 1) + (v3 + 1))), some (.int x6), some (.int x7), some (.int v3)]) (st1 := [.int v3, .int x7]) (σ1 := σ2) zM_X7_canBe dX7_canBe_100 rfl rfl rfl rfl ?_
      refine zw_iconst (v := 1) zM_X7_canBe dX7_canBe_102 (by decide) ?_
      refine zw_go (pc1 := 104) (L1 := [some (.ref a0), some (.int x1), none, none, some (.int x4), some (.int ((x5 + Int32.ofInt 1) + (v3 + 1))), some (.int x6), some (.int x7), some (.int v3)]) (st1 := [.int (v3 + 1), .int x7]) (σ1 := σ2) zM_X7_canBe dX7_canBe_103 rfl rfl rfl rfl ?_
      refine zw_go (pc1 := 105) (L1 := [some (.ref a0), some (.int x1), none, none, some (.int x4), some (.int ((x5 + Int32.ofInt 1) + (v3 + 1))), some (.int x6), some (.int x7), some (.int v3)]) (st1 := [.int (x7 + (v3 + 1))]) (σ1 := σ2) zM_X7_canBe dX7_canBe_104 rfl rfl rfl rfl ?_
      refine zw_go (pc1 := 107) (L1 := [some (.ref a0), some (.int x1), none, none, some (.int x4), some (.int ((x5 + Int32.ofInt 1) + (v3 + 1))), some (.int x6), some (.int (x7 + (v3 + 1))), some (.int v3)]) (st1 := []) (σ1 := σ2) zM_X7_canBe dX7_canBe_105 rfl rfl rfl rfl ?_
      refine zw_goto (tgt := 132) zM_X7_canBe dX7_canBe_107 rfl ?_
      exact zw_weak2 h ⟨rfl, rfl, rfl, rfl, rfl, rfl, trivial⟩
set_option maxHeartbeats 4000000 in
set_option maxRecDepth 100000 in
theorem vc_X7_canBe_132 (a0 : Nat) (x1 : Int32) (x4 : Int32) (x5 : Int32) (x6 : Int32) (x7 : Int32) (σ : zx_S) (K : Int32 → zx_S → Prop) (h : ((x4 < x7 → K 0 σ) ∧ (¬ x4 < x7 → ((x5 ≤ x6 → zwI 144 62 [some (.ref a0), some (.int x1), none, none, some (.int x4), some (.int x5), some (.int x6), some (.int x7), none] [] σ K) ∧ (¬ x5 ≤ x6 → K 0 σ))))) : zwI 144 132 [some (.ref a0), some (.int x1), none, none, some (.int x4), some (.int x5), some (.int x6), some (.int x7), none] [] σ K := by
  refine zw_go (pc1 := 134) (L1 := [some (.ref a0), some (.int x1), none, none, some (.int x4), some (.int x5), some (.int x6), some (.int x7), none]) (st1 := [.int x7]) (σ1 := σ) zM_X7_canBe dX7_canBe_132 rfl rfl rfl rfl ?_
  refine zw_go (pc1 := 136) (L1 := [some (.ref a0), some (.int x1), none, none, some (.int x4), some (.int x5), some (.int x6), some (.int x7), none]) (st1 := [.int x4, .int x7]) (σ1 := σ) zM_X7_canBe dX7_canBe_134 rfl rfl rfl rfl ?_
  refine zw_icmp_gt (tgt := 146) zM_X7_canBe dX7_canBe_136 rfl rfl (fun q => ?_) (fun q => ?_)
  · replace h := h.1 q
    refine zw_iconst (v := 0) zM_X7_canBe dX7_canBe_146 (by decide) ?_
    exact zw_retz zM_X7_canBe dX7_canBe_147 rfl (by decide) h
  · replace h := h.2 q
    refine zw_go (pc1 := 141) (L1 := [some (.ref a0), some (.int x1), none, none, some (.int x4), some (.int x5), some (.int x6), some (.int x7), none]) (st1 := [.int x5]) (σ1 := σ) zM_X7_canBe dX7_canBe_139 rfl rfl rfl rfl ?_
    refine zw_go (pc1 := 143) (L1 := [some (.ref a0), some (.int x1), none, none, some (.int x4), some (.int x5), some (.int x6), some (.int x7), none]) (st1 := [.int x6, .int x5]) (σ1 := σ) zM_X7_canBe dX7_canBe_141 rfl rfl rfl rfl ?_
    refine zw_icmp_le (tgt := 148) zM_X7_canBe dX7_canBe_143 rfl rfl (fun q => ?_) (fun q => ?_)
    · replace h := h.1 q
      refine zw_goto (tgt := 62) zM_X7_canBe dX7_canBe_148 rfl ?_
      exact zw_weak2 h ⟨rfl, rfl, rfl, rfl, rfl, rfl, trivial⟩
    · replace h := h.2 q
      refine zw_iconst (v := 0) zM_X7_canBe dX7_canBe_146 (by decide) ?_
      exact zw_retz zM_X7_canBe dX7_canBe_147 rfl (by decide) h
set_option maxHeartbeats 4000000 in
set_option maxRecDepth 100000 in
theorem vc_X7_child_0 (a0 : Nat) (x1 : Int32) (x2 : Int32) (x3 : Int32) (σ : zx_S) (K : Int32 → zx_S → Prop) (h : zwI 145 6 [some (.ref a0), some (.int x1), some (.int x2), some (.int x3), some (.int 0), some (.int 0)] [] σ K) : zwI 145 0 [some (.ref a0), some (.int x1), some (.int x2), some (.int x3), none, none] [] σ K := by
  refine zw_iconst (v := 0) zM_X7_child dX7_child_0 (by decide) ?_
  refine zw_go (pc1 := 3) (L1 := [some (.ref a0), some (.int x1), some (.int x2), some (.int x3), some (.int 0), none]) (st1 := []) (σ1 := σ) zM_X7_child dX7_child_1 rfl rfl rfl rfl ?_
  refine zw_iconst (v := 0) zM_X7_child dX7_child_3 (by decide) ?_
  refine zw_go (pc1 := 6) (L1 := [some (.ref a0), some (.int x1), some (.int x2), some (.int x3), some (.int 0), some (.int 0)]) (st1 := []) (σ1 := σ) zM_X7_child dX7_child_4 rfl rfl rfl rfl ?_
  exact zw_weak2 h ⟨rfl, rfl, rfl, rfl, rfl, rfl, trivial⟩
set_option maxHeartbeats 4000000 in
set_option maxRecDepth 100000 in
theorem vc_X7_child_6 (a0 : Nat) (x1 : Int32) (x2 : Int32) (x3 : Int32) (x4 : Int32) (x5 : Int32) (σ : zx_S) (K : Int32 → zx_S → Prop) (h : zK σ a0 = 20 ∧ zwI 180 0 [some (.ref a0), some (.int x1), some (.int x2)] [] σ (fun v3 σ2 => ((v3 ≤ x5 → K x4 σ2) ∧ (¬ v3 ≤ x5 → zK σ2 a0 = 20 ∧ zwI 156 0 [some (.ref a0), some (.int x1), some (.int x2)] [] σ2 (fun v6 σ5 => zK σ5 a0 = 20 ∧ zwI 181 0 [some (.ref a0), some (.int x1), some (.int (v6 + x5))] [] σ5 (fun v9 σ8 => ((¬ v9 = x3 → zwI 145 54 [some (.ref a0), some (.int x1), some (.int x2), some (.int x3), none, some (.int x5)] [.int x4] σ8 K) ∧ (v9 = x3 → zK σ8 a0 = 20 ∧ zwI 156 0 [some (.ref a0), some (.int x1), some (.int x2)] [] σ8 (fun v12 σ11 => zK σ11 a0 = 20 ∧ zwI 190 0 [some (.ref a0), some (.int x1), some (.int (v12 + x5))] [] σ11 (fun v15 σ14 => zwI 145 54 [some (.ref a0), some (.int x1), some (.int x2), some (.int x3), none, some (.int x5)] [.int v15] σ14 K)))))))))) : zwI 145 6 [some (.ref a0), some (.int x1), some (.int x2), some (.int x3), some (.int x4), some (.int x5)] [] σ K := by
  refine zw_go (pc1 := 8) (L1 := [some (.ref a0), some (.int x1), some (.int x2), some (.int x3), some (.int x4), some (.int x5)]) (st1 := [.int x5]) (σ1 := σ) zM_X7_child dX7_child_6 rfl rfl rfl rfl ?_
  refine zw_go (pc1 := 9) (L1 := [some (.ref a0), some (.int x1), some (.int x2), some (.int x3), some (.int x4), some (.int x5)]) (st1 := [.ref a0, .int x5]) (σ1 := σ) zM_X7_child dX7_child_8 rfl rfl rfl rfl ?_
  refine zw_go (pc1 := 10) (L1 := [some (.ref a0), some (.int x1), some (.int x2), some (.int x3), some (.int x4), some (.int x5)]) (st1 := [.int x1, .ref a0, .int x5]) (σ1 := σ) zM_X7_child dX7_child_9 rfl rfl rfl rfl ?_
  refine zw_go (pc1 := 11) (L1 := [some (.ref a0), some (.int x1), some (.int x2), some (.int x3), some (.int x4), some (.int x5)]) (st1 := [.int x2, .int x1, .ref a0, .int x5]) (σ1 := σ) zM_X7_child dX7_child_10 rfl rfl rfl rfl ?_
  obtain ⟨hk1, h⟩ := h
  refine zw_callI (as := [.ref a0, .int x1, .int x2]) (rest := [.int x5]) zM_X7_child dX7_child_11 (zx_calV zC_7_238) zM_X7_manyOf rfl rfl rfl rfl rfl (zx_args0 hk1 rfl) rfl h (fun v3 σ2 h => ?_)
  refine zw_icmp_ge (tgt := 62) zM_X7_child dX7_child_14 rfl rfl (fun q => ?_) (fun q => ?_)
  · replace h := h.1 q
    refine zw_go (pc1 := 64) (L1 := [some (.ref a0), some (.int x1), some (.int x2), some (.int x3), some (.int x4), some (.int x5)]) (st1 := [.int x4]) (σ1 := σ2) zM_X7_child dX7_child_62 rfl rfl rfl rfl ?_
    exact zw_reti zM_X7_child dX7_child_64 rfl h
  · replace h := h.2 q
    refine zw_go (pc1 := 18) (L1 := [some (.ref a0), some (.int x1), some (.int x2), some (.int x3), some (.int x4), some (.int x5)]) (st1 := [.ref a0]) (σ1 := σ2) zM_X7_child dX7_child_17 rfl rfl rfl rfl ?_
    refine zw_go (pc1 := 19) (L1 := [some (.ref a0), some (.int x1), some (.int x2), some (.int x3), some (.int x4), some (.int x5)]) (st1 := [.int x1, .ref a0]) (σ1 := σ2) zM_X7_child dX7_child_18 rfl rfl rfl rfl ?_
    refine zw_go (pc1 := 20) (L1 := [some (.ref a0), some (.int x1), some (.int x2), some (.int x3), some (.int x4), some (.int x5)]) (st1 := [.ref a0, .int x1, .ref a0]) (σ1 := σ2) zM_X7_child dX7_child_19 rfl rfl rfl rfl ?_
    refine zw_go (pc1 := 21) (L1 := [some (.ref a0), some (.int x1), some (.int x2), some (.int x3), some (.int x4), some (.int x5)]) (st1 := [.int x1, .ref a0, .int x1, .ref a0]) (σ1 := σ2) zM_X7_child dX7_child_20 rfl rfl rfl rfl ?_
    refine zw_go (pc1 := 22) (L1 := [some (.ref a0), some (.int x1), some (.int x2), some (.int x3), some (.int x4), some (.int x5)]) (st1 := [.int x2, .int x1, .ref a0, .int x1, .ref a0]) (σ1 := σ2) zM_X7_child dX7_child_21 rfl rfl rfl rfl ?_
    obtain ⟨hk4, h⟩ := h
    refine zw_callI (as := [.ref a0, .int x1, .int x2]) (rest := [.int x1, .ref a0]) zM_X7_child dX7_child_22 (zx_calV zC_7_251) zM_X7_firstOf rfl rfl rfl rfl rfl (zx_args0 hk4 rfl) rfl h (fun v6 σ5 h => ?_)
    refine zw_go (pc1 := 27) (L1 := [some (.ref a0), some (.int x1), some (.int x2), some (.int x3), some (.int x4), some (.int x5)]) (st1 := [.int x5, .int v6, .int x1, .ref a0]) (σ1 := σ5) zM_X7_child dX7_child_25 rfl rfl rfl rfl ?_
    refine zw_go (pc1 := 28) (L1 := [some (.ref a0), some (.int x1), some (.int x2), some (.int x3), some (.int x4), some (.int x5)]) (st1 := [.int (v6 + x5), .int x1, .ref a0]) (σ1 := σ5) zM_X7_child dX7_child_27 rfl rfl rfl rfl ?_
    obtain ⟨hk7, h⟩ := h
    refine zw_callI (as := [.ref a0, .int x1, .int (v6 + x5)]) (rest := []) zM_X7_child dX7_child_28 (zx_calV zC_7_241) zM_X7_nameAt rfl rfl rfl rfl rfl (zx_args0 hk7 rfl) rfl h (fun v9 σ8 h => ?_)
    refine zw_go (pc1 := 32) (L1 := [some (.ref a0), some (.int x1), some (.int x2), some (.int x3), some (.int x4), some (.int x5)]) (st1 := [.int x3, .int v9]) (σ1 := σ8) zM_X7_child dX7_child_31 rfl rfl rfl rfl ?_
    refine zw_icmp_ne (tgt := 52) zM_X7_child dX7_child_32 rfl rfl (fun q => ?_) (fun q => ?_)
    · replace h := h.1 q
      refine zw_go (pc1 := 54) (L1 := [some (.ref a0), some (.int x1), some (.int x2), some (.int x3), some (.int x4), some (.int x5)]) (st1 := [.int x4]) (σ1 := σ8) zM_X7_child dX7_child_52 rfl rfl rfl rfl ?_
      exact zw_weak2 h ⟨rfl, rfl, rfl, rfl, rfl, trivial⟩
    · replace h := h.2 q
      refine zw_go (pc1 := 36) (L1 := [some (.ref a0), some (.int x1), some (.int x2), some (.int x3), some (.int x4), some (.int x5)]) (st1 := [.ref a0]) (σ1 := σ8) zM_X7_child dX7_child_35 rfl rfl rfl rfl ?_
      refine zw_go (pc1 := 37) (L1 := [some (.ref a0), some (.int x1), some (.int x2), some (.int x3), some (.int x4), some (.int x5)]) (st1 := [.int x1, .ref a0]) (σ1 := σ8) zM_X7_child dX7_child_36 rfl rfl rfl rfl ?_
      refine zw_go (pc1 := 38) (L1 := [some (.ref a0), some (.int x1), some (.int x2), some (.int x3), some (.int x4), some (.int x5)]) (st1 := [.ref a0, .int x1, .ref a0]) (σ1 := σ8) zM_X7_child dX7_child_37 rfl rfl rfl rfl ?_
      refine zw_go (pc1 := 39) (L1 := [some (.ref a0), some (.int x1), some (.int x2), some (.int x3), some (.int x4), some (.int x5)]) (st1 := [.int x1, .ref a0, .int x1, .ref a0]) (σ1 := σ8) zM_X7_child dX7_child_38 rfl rfl rfl rfl ?_
      refine zw_go (pc1 := 40) (L1 := [some (.ref a0), some (.int x1), some (.int x2), some (.int x3), some (.int x4), some (.int x5)]) (st1 := [.int x2, .int x1, .ref a0, .int x1, .ref a0]) (σ1 := σ8) zM_X7_child dX7_child_39 rfl rfl rfl rfl ?_
      obtain ⟨hk10, h⟩ := h
      refine zw_callI (as := [.ref a0, .int x1, .int x2]) (rest := [.int x1, .ref a0]) zM_X7_child dX7_child_40 (zx_calV zC_7_251) zM_X7_firstOf rfl rfl rfl rfl rfl (zx_args0 hk10 rfl) rfl h (fun v12 σ11 h => ?_)
      refine zw_go (pc1 := 45) (L1 := [some (.ref a0), some (.int x1), some (.int x2), some (.int x3), some (.int x4), some (.int x5)]) (st1 := [.int x5, .int v12, .int x1, .ref a0]) (σ1 := σ11) zM_X7_child dX7_child_43 rfl rfl rfl rfl ?_
      refine zw_go (pc1 := 46) (L1 := [some (.ref a0), some (.int x1), some (.int x2), some (.int x3), some (.int x4), some (.int x5)]) (st1 := [.int (v12 + x5), .int x1, .ref a0]) (σ1 := σ11) zM_X7_child dX7_child_45 rfl rfl rfl rfl ?_
      obtain ⟨hk13, h⟩ := h
      refine zw_callI (as := [.ref a0, .int x1, .int (v12 + x5)]) (rest := []) zM_X7_child dX7_child_46 (zx_calV zC_7_244) zM_X7_numberAt rfl rfl rfl rfl rfl (zx_args0 hk13 rfl) rfl h (fun v15 σ14 h => ?_)
      refine zw_goto (tgt := 54) zM_X7_child dX7_child_49 rfl ?_
      exact zw_weak2 h ⟨rfl, rfl, rfl, rfl, rfl, trivial⟩
set_option maxHeartbeats 4000000 in
set_option maxRecDepth 100000 in
theorem vc_X7_child_54 (a0 : Nat) (x1 : Int32) (x2 : Int32) (x3 : Int32) (x5 : Int32) (y0 : Int32) (σ : zx_S) (K : Int32 → zx_S → Prop) (h : zwI 145 6 [some (.ref a0), some (.int x1), some (.int x2), some (.int x3), some (.int y0), some (.int (x5 + Int32.ofInt 1))] [] σ K) : zwI 145 54 [some (.ref a0), some (.int x1), some (.int x2), some (.int x3), none, some (.int x5)] [.int y0] σ K := by
  refine zw_go (pc1 := 56) (L1 := [some (.ref a0), some (.int x1), some (.int x2), some (.int x3), some (.int y0), some (.int x5)]) (st1 := []) (σ1 := σ) zM_X7_child dX7_child_54 rfl rfl rfl rfl ?_
  refine zw_go (pc1 := 59) (L1 := [some (.ref a0), some (.int x1), some (.int x2), some (.int x3), some (.int y0), some (.int (x5 + Int32.ofInt 1))]) (st1 := []) (σ1 := σ) zM_X7_child dX7_child_56 rfl rfl rfl rfl ?_
  refine zw_goto (tgt := 6) zM_X7_child dX7_child_59 rfl ?_
  exact zw_weak2 h ⟨rfl, rfl, rfl, rfl, rfl, rfl, trivial⟩
set_option maxHeartbeats 4000000 in
set_option maxRecDepth 100000 in
theorem vc_X7_clear_0 (a0 : Nat) (σ : zx_S) (K : Int32 → zx_S → Prop) (h : zK σ a0 = 20 ∧ ∀ σ2 : zx_S, σ2 = zx_pI σ a0 0 0 → ∀ σ4 : zx_S, σ4 = zx_pI σ2 a0 1 1 → ∀ σ6 : zx_S, σ6 = zx_pI σ4 a0 7 0 → ∃ b8 : Nat, zR σ6 a0 3 = some b8 ∧ zK σ6 b8 = 1 ∧ zx_in 0 (zN σ6 b8) = true ∧ ∀ σ12 : zx_S, σ12 = zx_pI σ6 b8 (Int32.toNatClampNeg 0) 0 → ∃ b14 : Nat, zR σ12 a0 4 = some b14 ∧ zK σ12 b14 = 1 ∧ zx_in 0 (zN σ12 b14) = true ∧ ∀ σ18 : zx_S, σ18 = zx_pI σ12 b14 (Int32.toNatClampNeg 0) 0 → K (zI σ2 a0 1) σ18) : zwI 146 0 [some (.ref a0), none] [] σ K := by
  refine zw_go (pc1 := 1) (L1 := [some (.ref a0), none]) (st1 := [.ref a0]) (σ1 := σ) zM_X7_clear dX7_clear_0 rfl rfl rfl rfl ?_
  refine zw_iconst (v := 0) zM_X7_clear dX7_clear_1 (by decide) ?_
  obtain ⟨hk1, h⟩ := h
  obtain ⟨σ2, e3⟩ : ∃ z9 : zx_S, z9 = zx_pI σ a0 0 0 := ⟨_, rfl⟩
  replace h := h σ2 e3
  refine zw_putI zM_X7_clear dX7_clear_2 zF_7_98 rfl rfl hk1 e3 ?_
  refine zw_go (pc1 := 6) (L1 := [some (.ref a0), none]) (st1 := [.ref a0]) (σ1 := σ2) zM_X7_clear dX7_clear_5 rfl rfl rfl rfl ?_
  refine zw_getI zM_X7_clear dX7_clear_6 zF_7_94 rfl (by rw [e3]; exact hk1) ?_
  refine zw_go (pc1 := 10) (L1 := [some (.ref a0), some (.int (zI σ2 a0 1))]) (st1 := []) (σ1 := σ2) zM_X7_clear dX7_clear_9 rfl rfl rfl rfl ?_
  refine zw_go (pc1 := 11) (L1 := [some (.ref a0), some (.int (zI σ2 a0 1))]) (st1 := [.ref a0]) (σ1 := σ2) zM_X7_clear dX7_clear_10 rfl rfl rfl rfl ?_
  refine zw_iconst (v := 1) zM_X7_clear dX7_clear_11 (by decide) ?_
  obtain ⟨σ4, e5⟩ : ∃ z9 : zx_S, z9 = zx_pI σ2 a0 1 1 := ⟨_, rfl⟩
  replace h := h σ4 e5
  refine zw_putI zM_X7_clear dX7_clear_12 zF_7_94 rfl rfl (by rw [e3]; exact hk1) e5 ?_
  refine zw_go (pc1 := 16) (L1 := [some (.ref a0), some (.int (zI σ2 a0 1))]) (st1 := [.ref a0]) (σ1 := σ4) zM_X7_clear dX7_clear_15 rfl rfl rfl rfl ?_
  refine zw_iconst (v := 0) zM_X7_clear dX7_clear_16 (by decide) ?_
  obtain ⟨σ6, e7⟩ : ∃ z9 : zx_S, z9 = zx_pI σ4 a0 7 0 := ⟨_, rfl⟩
  replace h := h σ6 e7
  refine zw_putI zM_X7_clear dX7_clear_17 zF_7_105 rfl rfl (by rw [e5, e3]; exact hk1) e7 ?_
  refine zw_go (pc1 := 21) (L1 := [some (.ref a0), some (.int (zI σ2 a0 1))]) (st1 := [.ref a0]) (σ1 := σ6) zM_X7_clear dX7_clear_20 rfl rfl rfl rfl ?_
  obtain ⟨b8, hr9, h⟩ := h
  refine zw_getR (a := b8) zM_X7_clear dX7_clear_21 zF_7_13 rfl (by rw [e7, e5, e3]; exact hk1) hr9 ?_
  refine zw_iconst (v := 0) zM_X7_clear dX7_clear_24 (by decide) ?_
  refine zw_iconst (v := 0) zM_X7_clear dX7_clear_25 (by decide) ?_
  obtain ⟨hk10, h⟩ := h
  obtain ⟨hi11, h⟩ := h
  obtain ⟨σ12, e13⟩ : ∃ z9 : zx_S, z9 = zx_pI σ6 b8 (Int32.toNatClampNeg 0) 0 := ⟨_, rfl⟩
  replace h := h σ12 e13
  refine zw_iast zM_X7_clear dX7_clear_26 ⟨hk10, hi11⟩ e13 ?_
  refine zw_go (pc1 := 28) (L1 := [some (.ref a0), some (.int (zI σ2 a0 1))]) (st1 := [.ref a0]) (σ1 := σ12) zM_X7_clear dX7_clear_27 rfl rfl rfl rfl ?_
  obtain ⟨b14, hr15, h⟩ := h
  refine zw_getR (a := b14) zM_X7_clear dX7_clear_28 zF_7_16 rfl (by rw [e13, e7, e5, e3]; exact hk1) hr15 ?_
  refine zw_iconst (v := 0) zM_X7_clear dX7_clear_31 (by decide) ?_
  refine zw_iconst (v := 0) zM_X7_clear dX7_clear_32 (by decide) ?_
  obtain ⟨hk16, h⟩ := h
  obtain ⟨hi17, h⟩ := h
  obtain ⟨σ18, e19⟩ : ∃ z9 : zx_S, z9 = zx_pI σ12 b14 (Int32.toNatClampNeg 0) 0 := ⟨_, rfl⟩
  replace h := h σ18 e19
  refine zw_iast zM_X7_clear dX7_clear_33 ⟨hk16, hi17⟩ e19 ?_
  refine zw_go (pc1 := 35) (L1 := [some (.ref a0), some (.int (zI σ2 a0 1))]) (st1 := [.int (zI σ2 a0 1)]) (σ1 := σ18) zM_X7_clear dX7_clear_34 rfl rfl rfl rfl ?_
  exact zw_reti zM_X7_clear dX7_clear_35 rfl h
set_option maxHeartbeats 4000000 in
set_option maxRecDepth 100000 in
theorem vc_X7_comes_0 (a0 : Nat) (x1 : Int32) (x2 : Int32) (x3 : Int32) (σ : zx_S) (K : Int32 → zx_S → Prop) (h : zK σ a0 = 20 ∧ ∀ σ2 : zx_S, σ2 = zx_pI σ a0 0 0 → zwI 167 0 [some (.ref a0), some (.int x2)] [] σ2 (fun v5 σ4 => ((¬ v5 = (0 : Int32) → zwI 160 0 [some (.int x3), some (.int 1), some (.int 999)] [] σ4 (fun v7 σ6 => ((¬ v7 = (0 : Int32) → zK σ6 a0 = 20 ∧ ∃ b9 : Nat, zR σ6 a0 2 = some b9 ∧ zK σ6 b9 = 1 ∧ zx_in x2 (zN σ6 b9) = true ∧ ((¬ (zI σ6 b9 (Int32.toNatClampNeg x2)) = (1 : Int32) → K (-3) σ6) ∧ ((zI σ6 b9 (Int32.toNatClampNeg x2)) = (1 : Int32) → zwI 169 0 [some (.ref a0), some (.int x2), some (.int x3), none, none] [] σ6 (fun v14 σ13 => ((v14 = (0 : Int32) → zK σ13 a0 = 20 ∧ ((¬ (zI σ13 a0 1) = (32 : Int32) → ∃ b16 : Nat, zR σ13 a0 2 = some b16 ∧ zK σ13 b16 = 1 ∧ zx_in (zI σ13 a0 1) (zN σ13 b16) = true ∧ ∀ σ20 : zx_S, σ20 = zx_pI σ13 b16 (Int32.toNatClampNeg (zI σ13 a0 1)) x1 → ∃ b22 : Nat, zR σ20 a0 3 = some b22 ∧ zK σ20 b22 = 1 ∧ zx_in (zI σ20 a0 1) (zN σ20 b22) = true ∧ ∀ σ26 : zx_S, σ26 = zx_pI σ20 b22 (Int32.toNatClampNeg (zI σ20 a0 1)) 0 → ∃ b28 : Nat, zR σ26 a0 4 = some b28 ∧ zK σ26 b28 = 1 ∧ zx_in (zI σ26 a0 1) (zN σ26 b28) = true ∧ ∀ σ32 : zx_S, σ32 = zx_pI σ26 b28 (Int32.toNatClampNeg (zI σ26 a0 1)) 0 → ∃ b34 : Nat, zR σ32 a0 5 = some b34 ∧ zK σ32 b34 = 1 ∧ zx_in (zI σ32 a0 1) (zN σ32 b34) = true ∧ ∀ σ38 : zx_S, σ38 = zx_pI σ32 b34 (Int32.toNatClampNeg (zI σ32 a0 1)) 0 → zwV 182 0 [some (.ref a0), some (.int x2), some (.int x3), some (.int (zI σ38 a0 1))] [] σ38 (fun σ40 => zK σ40 a0 = 20 ∧ ∀ σ42 : zx_S, σ42 = zx_pI σ40 a0 1 ((zI σ40 a0 1) + 1) → K ((zI σ42 a0 1) - 1) σ42)) ∧ ((zI σ13 a0 1) = (32 : Int32) → K (-4) σ13))) ∧ (¬ v14 = (0 : Int32) → K (-3) σ13)))))) ∧ (v7 = (0 : Int32) → K (-2) σ6)))) ∧ (v5 = (0 : Int32) → K (-1) σ4)))) : zwI 147 0 [some (.ref a0), some (.int x1), some (.int x2), some (.int x3)] [] σ K := by
  refine zw_go (pc1 := 1) (L1 := [some (.ref a0), some (.int x1), some (.int x2), some (.int x3)]) (st1 := [.ref a0]) (σ1 := σ) zM_X7_comes dX7_comes_0 rfl rfl rfl rfl ?_
  refine zw_iconst (v := 0) zM_X7_comes dX7_comes_1 (by decide) ?_
  obtain ⟨hk1, h⟩ := h
  obtain ⟨σ2, e3⟩ : ∃ z9 : zx_S, z9 = zx_pI σ a0 0 0 := ⟨_, rfl⟩
  replace h := h σ2 e3
  refine zw_putI zM_X7_comes dX7_comes_2 zF_7_98 rfl rfl hk1 e3 ?_
  refine zw_go (pc1 := 6) (L1 := [some (.ref a0), some (.int x1), some (.int x2), some (.int x3)]) (st1 := [.ref a0]) (σ1 := σ2) zM_X7_comes dX7_comes_5 rfl rfl rfl rfl ?_
  refine zw_go (pc1 := 7) (L1 := [some (.ref a0), some (.int x1), some (.int x2), some (.int x3)]) (st1 := [.int x2, .ref a0]) (σ1 := σ2) zM_X7_comes dX7_comes_6 rfl rfl rfl rfl ?_
  refine zw_callI (as := [.ref a0, .int x2]) (rest := []) zM_X7_comes dX7_comes_7 (zx_calV zC_7_108) zM_X7_isNode rfl rfl rfl rfl rfl (zx_args0 (by rw [e3]; exact hk1) rfl) rfl h (fun v5 σ4 h => ?_)
  refine zw_if_ne (tgt := 15) zM_X7_comes dX7_comes_10 rfl rfl (fun q => ?_) (fun q => ?_)
  · replace h := h.1 q
    refine zw_go (pc1 := 16) (L1 := [some (.ref a0), some (.int x1), some (.int x2), some (.int x3)]) (st1 := [.int x3]) (σ1 := σ4) zM_X7_comes dX7_comes_15 rfl rfl rfl rfl ?_
    refine zw_iconst (v := 1) zM_X7_comes dX7_comes_16 (by decide) ?_
    refine zw_sipush (v := 999) zM_X7_comes dX7_comes_17 (by decide) ?_
    refine zw_callI (as := [.int x3, .int 1, .int 999]) (rest := []) zM_X7_comes dX7_comes_20 (zx_calS zC_7_101) zM_X7_in rfl rfl rfl rfl rfl rfl rfl h (fun v7 σ6 h => ?_)
    refine zw_if_ne (tgt := 29) zM_X7_comes dX7_comes_23 rfl rfl (fun q => ?_) (fun q => ?_)
    · replace h := h.1 q
      refine zw_go (pc1 := 30) (L1 := [some (.ref a0), some (.int x1), some (.int x2), some (.int x3)]) (st1 := [.ref a0]) (σ1 := σ6) zM_X7_comes dX7_comes_29 rfl rfl rfl rfl ?_
      obtain ⟨hk8, h⟩ := h
      obtain ⟨b9, hr10, h⟩ := h
      refine zw_getR (a := b9) zM_X7_comes dX7_comes_30 zF_7_7 rfl hk8 hr10 ?_
      refine zw_go (pc1 := 34) (L1 := [some (.ref a0), some (.int x1), some (.int x2), some (.int x3)]) (st1 := [.int x2, .ref b9]) (σ1 := σ6) zM_X7_comes dX7_comes_33 rfl rfl rfl rfl ?_
      obtain ⟨hk11, h⟩ := h
      obtain ⟨hi12, h⟩ := h
      refine zw_iald zM_X7_comes dX7_comes_34 ⟨Or.inl hk11, hi12⟩ ?_
      refine zw_iconst (v := 1) zM_X7_comes dX7_comes_35 (by decide) ?_
      refine zw_icmp_ne (tgt := 48) zM_X7_comes dX7_comes_36 rfl rfl (fun q => ?_) (fun q => ?_)
      · replace h := h.1 q
        refine zw_bipush (v := (-3)) zM_X7_comes dX7_comes_48 (by decide) ?_
        exact zw_reti zM_X7_comes dX7_comes_50 rfl h
      · replace h := h.2 q
        refine zw_go (pc1 := 40) (L1 := [some (.ref a0), some (.int x1), some (.int x2), some (.int x3)]) (st1 := [.ref a0]) (σ1 := σ6) zM_X7_comes dX7_comes_39 rfl rfl rfl rfl ?_
        refine zw_go (pc1 := 41) (L1 := [some (.ref a0), some (.int x1), some (.int x2), some (.int x3)]) (st1 := [.int x2, .ref a0]) (σ1 := σ6) zM_X7_comes dX7_comes_40 rfl rfl rfl rfl ?_
        refine zw_go (pc1 := 42) (L1 := [some (.ref a0), some (.int x1), some (.int x2), some (.int x3)]) (st1 := [.int x3, .int x2, .ref a0]) (σ1 := σ6) zM_X7_comes dX7_comes_41 rfl rfl rfl rfl ?_
        refine zw_callI (as := [.ref a0, .int x2, .int x3]) (rest := []) zM_X7_comes dX7_comes_42 (zx_calV zC_7_112) zM_X7_isThere rfl rfl rfl rfl rfl (zx_args0 hk8 rfl) rfl h (fun v14 σ13 h => ?_)
        refine zw_if_eq (tgt := 51) zM_X7_comes dX7_comes_45 rfl rfl (fun q => ?_) (fun q => ?_)
        · replace h := h.1 q
          refine zw_go (pc1 := 52) (L1 := [some (.ref a0), some (.int x1), some (.int x2), some (.int x3)]) (st1 := [.ref a0]) (σ1 := σ13) zM_X7_comes dX7_comes_51 rfl rfl rfl rfl ?_
          obtain ⟨hk15, h⟩ := h
          refine zw_getI zM_X7_comes dX7_comes_52 zF_7_94 rfl hk15 ?_
          refine zw_bipush (v := 32) zM_X7_comes dX7_comes_55 (by decide) ?_
          refine zw_icmp_ne (tgt := 63) zM_X7_comes dX7_comes_57 rfl rfl (fun q => ?_) (fun q => ?_)
          · replace h := h.1 q
            refine zw_go (pc1 := 64) (L1 := [some (.ref a0), some (.int x1), some (.int x2), some (.int x3)]) (st1 := [.ref a0]) (σ1 := σ13) zM_X7_comes dX7_comes_63 rfl rfl rfl rfl ?_
            obtain ⟨b16, hr17, h⟩ := h
            refine zw_getR (a := b16) zM_X7_comes dX7_comes_64 zF_7_7 rfl hk15 hr17 ?_
            refine zw_go (pc1 := 68) (L1 := [some (.ref a0), some (.int x1), some (.int x2), some (.int x3)]) (st1 := [.ref a0, .ref b16]) (σ1 := σ13) zM_X7_comes dX7_comes_67 rfl rfl rfl rfl ?_
            refine zw_getI zM_X7_comes dX7_comes_68 zF_7_94 rfl hk15 ?_
            refine zw_go (pc1 := 72) (L1 := [some (.ref a0), some (.int x1), some (.int x2), some (.int x3)]) (st1 := [.int x1, .int (zI σ13 a0 1), .ref b16]) (σ1 := σ13) zM_X7_comes dX7_comes_71 rfl rfl rfl rfl ?_
            obtain ⟨hk18, h⟩ := h
            obtain ⟨hi19, h⟩ := h
            obtain ⟨σ20, e21⟩ : ∃ z9 : zx_S, z9 = zx_pI σ13 b16 (Int32.toNatClampNeg (zI σ13 a0 1)) x1 := ⟨_, rfl⟩
            replace h := h σ20 e21
            refine zw_iast zM_X7_comes dX7_comes_72 ⟨hk18, hi19⟩ e21 ?_
            refine zw_go (pc1 := 74) (L1 := [some (.ref a0), some (.int x1), some (.int x2), some (.int x3)]) (st1 := [.ref a0]) (σ1 := σ20) zM_X7_comes dX7_comes_73 rfl rfl rfl rfl ?_
            obtain ⟨b22, hr23, h⟩ := h
            refine zw_getR (a := b22) zM_X7_comes dX7_comes_74 zF_7_13 rfl (by rw [e21]; exact hk15) hr23 ?_
            refine zw_go (pc1 := 78) (L1 := [some (.ref a0), some (.int x1), some (.int x2), some (.int x3)]) (st1 := [.ref a0, .ref b22]) (σ1 := σ20) zM_X7_comes dX7_comes_77 rfl rfl rfl rfl ?_
            refine zw_getI zM_X7_comes dX7_comes_78 zF_7_94 rfl (by rw [e21]; exact hk15) ?_
            refine zw_iconst (v := 0) zM_X7_comes dX7_comes_81 (by decide) ?_
            obtain ⟨hk24, h⟩ := h
            obtain ⟨hi25, h⟩ := h
            obtain ⟨σ26, e27⟩ : ∃ z9 : zx_S, z9 = zx_pI σ20 b22 (Int32.toNatClampNeg (zI σ20 a0 1)) 0 := ⟨_, rfl⟩
            replace h := h σ26 e27
            refine zw_iast zM_X7_comes dX7_comes_82 ⟨hk24, hi25⟩ e27 ?_
            refine zw_go (pc1 := 84) (L1 := [some (.ref a0), some (.int x1), some (.int x2), some (.int x3)]) (st1 := [.ref a0]) (σ1 := σ26) zM_X7_comes dX7_comes_83 rfl rfl rfl rfl ?_
            obtain ⟨b28, hr29, h⟩ := h
            refine zw_getR (a := b28) zM_X7_comes dX7_comes_84 zF_7_16 rfl (by rw [e27, e21]; exact hk15) hr29 ?_
            refine zw_go (pc1 := 88) (L1 := [some (.ref a0), some (.int x1), some (.int x2), some (.int x3)]) (st1 := [.ref a0, .ref b28]) (σ1 := σ26) zM_X7_comes dX7_comes_87 rfl rfl rfl rfl ?_
            refine zw_getI zM_X7_comes dX7_comes_88 zF_7_94 rfl (by rw [e27, e21]; exact hk15) ?_
            refine zw_iconst (v := 0) zM_X7_comes dX7_comes_91 (by decide) ?_
            obtain ⟨hk30, h⟩ := h
            obtain ⟨hi31, h⟩ := h
            obtain ⟨σ32, e33⟩ : ∃ z9 : zx_S, z9 = zx_pI σ26 b28 (Int32.toNatClampNeg (zI σ26 a0 1)) 0 := ⟨_, rfl⟩
            replace h := h σ32 e33
            refine zw_iast zM_X7_comes dX7_comes_92 ⟨hk30, hi31⟩ e33 ?_
            refine zw_go (pc1 := 94) (L1 := [some (.ref a0), some (.int x1), some (.int x2), some (.int x3)]) (st1 := [.ref a0]) (σ1 := σ32) zM_X7_comes dX7_comes_93 rfl rfl rfl rfl ?_
            obtain ⟨b34, hr35, h⟩ := h
            refine zw_getR (a := b34) zM_X7_comes dX7_comes_94 zF_7_19 rfl (by rw [e33, e27, e21]; exact hk15) hr35 ?_
            refine zw_go (pc1 := 98) (L1 := [some (.ref a0), some (.int x1), some (.int x2), some (.int x3)]) (st1 := [.ref a0, .ref b34]) (σ1 := σ32) zM_X7_comes dX7_comes_97 rfl rfl rfl rfl ?_
            refine zw_getI zM_X7_comes dX7_comes_98 zF_7_94 rfl (by rw [e33, e27, e21]; exact hk15) ?_
            refine zw_iconst (v := 0) zM_X7_comes dX7_comes_101 (by decide) ?_
            obtain ⟨hk36, h⟩ := h
            obtain ⟨hi37, h⟩ := h
            obtain ⟨σ38, e39⟩ : ∃ z9 : zx_S, z9 = zx_pI σ32 b34 (Int32.toNatClampNeg (zI σ32 a0 1)) 0 := ⟨_, rfl⟩
            replace h := h σ38 e39
            refine zw_iast zM_X7_comes dX7_comes_102 ⟨hk36, hi37⟩ e39 ?_
            refine zw_go (pc1 := 104) (L1 := [some (.ref a0), some (.int x1), some (.int x2), some (.int x3)]) (st1 := [.ref a0]) (σ1 := σ38) zM_X7_comes dX7_comes_103 rfl rfl rfl rfl ?_
            refine zw_go (pc1 := 105) (L1 := [some (.ref a0), some (.int x1), some (.int x2), some (.int x3)]) (st1 := [.int x2, .ref a0]) (σ1 := σ38) zM_X7_comes dX7_comes_104 rfl rfl rfl rfl ?_
            refine zw_go (pc1 := 106) (L1 := [some (.ref a0), some (.int x1), some (.int x2), some (.int x3)]) (st1 := [.int x3, .int x2, .ref a0]) (σ1 := σ38) zM_X7_comes dX7_comes_105 rfl rfl rfl rfl ?_
            refine zw_go (pc1 := 107) (L1 := [some (.ref a0), some (.int x1), some (.int x2), some (.int x3)]) (st1 := [.ref a0, .int x3, .int x2, .ref a0]) (σ1 := σ38) zM_X7_comes dX7_comes_106 rfl rfl rfl rfl ?_
            refine zw_getI zM_X7_comes dX7_comes_107 zF_7_94 rfl (by rw [e39, e33, e27, e21]; exact hk15) ?_
            refine zw_callV (as := [.ref a0, .int x2, .int x3, .int (zI σ38 a0 1)]) (rest := []) zM_X7_comes dX7_comes_110 (zx_calV zC_7_116) zM_X7_nameIt rfl rfl rfl rfl rfl (zx_args0 (by rw [e39, e33, e27, e21]; exact hk15) rfl) rfl h (fun σ40 h => ?_)
            refine zw_go (pc1 := 114) (L1 := [some (.ref a0), some (.int x1), some (.int x2), some (.int x3)]) (st1 := [.ref a0]) (σ1 := σ40) zM_X7_comes dX7_comes_113 rfl rfl rfl rfl ?_
            refine zw_go (pc1 := 115) (L1 := [some (.ref a0), some (.int x1), some (.int x2), some (.int x3)]) (st1 := [.ref a0, .ref a0]) (σ1 := σ40) zM_X7_comes dX7_comes_114 rfl rfl rfl rfl ?_
            obtain ⟨hk41, h⟩ := h
            refine zw_getI zM_X7_comes dX7_comes_115 zF_7_94 rfl hk41 ?_
            refine zw_iconst (v := 1) zM_X7_comes dX7_comes_118 (by decide) ?_
            refine zw_go (pc1 := 120) (L1 := [some (.ref a0), some (.int x1), some (.int x2), some (.int x3)]) (st1 := [.int ((zI σ40 a0 1) + 1), .ref a0]) (σ1 := σ40) zM_X7_comes dX7_comes_119 rfl rfl rfl rfl ?_
            obtain ⟨σ42, e43⟩ : ∃ z9 : zx_S, z9 = zx_pI σ40 a0 1 ((zI σ40 a0 1) + 1) := ⟨_, rfl⟩
            replace h := h σ42 e43
            refine zw_putI zM_X7_comes dX7_comes_120 zF_7_94 rfl rfl hk41 e43 ?_
            refine zw_go (pc1 := 124) (L1 := [some (.ref a0), some (.int x1), some (.int x2), some (.int x3)]) (st1 := [.ref a0]) (σ1 := σ42) zM_X7_comes dX7_comes_123 rfl rfl rfl rfl ?_
            refine zw_getI zM_X7_comes dX7_comes_124 zF_7_94 rfl (by rw [e43]; exact hk41) ?_
            refine zw_iconst (v := 1) zM_X7_comes dX7_comes_127 (by decide) ?_
            refine zw_go (pc1 := 129) (L1 := [some (.ref a0), some (.int x1), some (.int x2), some (.int x3)]) (st1 := [.int ((zI σ42 a0 1) - 1)]) (σ1 := σ42) zM_X7_comes dX7_comes_128 rfl rfl rfl rfl ?_
            exact zw_reti zM_X7_comes dX7_comes_129 rfl h
          · replace h := h.2 q
            refine zw_bipush (v := (-4)) zM_X7_comes dX7_comes_60 (by decide) ?_
            exact zw_reti zM_X7_comes dX7_comes_62 rfl h
        · replace h := h.2 q
          refine zw_bipush (v := (-3)) zM_X7_comes dX7_comes_48 (by decide) ?_
          exact zw_reti zM_X7_comes dX7_comes_50 rfl h
    · replace h := h.2 q
      refine zw_bipush (v := (-2)) zM_X7_comes dX7_comes_26 (by decide) ?_
      exact zw_reti zM_X7_comes dX7_comes_28 rfl h
  · replace h := h.2 q
    refine zw_iconst (v := (-1)) zM_X7_comes dX7_comes_13 (by decide) ?_
    exact zw_reti zM_X7_comes dX7_comes_14 rfl h
set_option maxHeartbeats 4000000 in
set_option maxRecDepth 100000 in
theorem vc_X7_count_0 (a0 : Nat) (x1 : Int32) (σ : zx_S) (K : Int32 → zx_S → Prop) (h : zK σ a0 = 20 ∧ ∀ σ2 : zx_S, σ2 = zx_pI σ a0 0 0 → ((x1 = 0 → K (zI σ2 a0 1) σ2) ∧ (¬ x1 = 0 → ((x1 = 1 → K (zI σ2 a0 11) σ2) ∧ (¬ x1 = 1 → ((x1 = 2 → K (zI σ2 a0 35) σ2) ∧ (¬ x1 = 2 → ((x1 = 3 → K (zI σ2 a0 37) σ2) ∧ (¬ x1 = 3 → ((x1 = 4 → K (zI σ2 a0 34) σ2) ∧ (¬ x1 = 4 → K (-2) σ2))))))))))) : zwI 148 0 [some (.ref a0), some (.int x1)] [] σ K := by
  refine zw_go (pc1 := 1) (L1 := [some (.ref a0), some (.int x1)]) (st1 := [.ref a0]) (σ1 := σ) zM_X7_count dX7_count_0 rfl rfl rfl rfl ?_
  refine zw_iconst (v := 0) zM_X7_count dX7_count_1 (by decide) ?_
  obtain ⟨hk1, h⟩ := h
  obtain ⟨σ2, e3⟩ : ∃ z9 : zx_S, z9 = zx_pI σ a0 0 0 := ⟨_, rfl⟩
  replace h := h σ2 e3
  refine zw_putI zM_X7_count dX7_count_2 zF_7_98 rfl rfl hk1 e3 ?_
  refine zw_go (pc1 := 6) (L1 := [some (.ref a0), some (.int x1)]) (st1 := [.int x1]) (σ1 := σ2) zM_X7_count dX7_count_5 rfl rfl rfl rfl ?_
  by_cases hs4 : x1 = 0
  · replace h := h.1 hs4
    refine zw_sw (tgt := 40) zM_X7_count dX7_count_6 (zx_sw_in hs4 rfl) rfl ?_
    refine zw_go (pc1 := 41) (L1 := [some (.ref a0), some (.int x1)]) (st1 := [.ref a0]) (σ1 := σ2) zM_X7_count dX7_count_40 rfl rfl rfl rfl ?_
    refine zw_getI zM_X7_count dX7_count_41 zF_7_94 rfl (by rw [e3]; exact hk1) ?_
    exact zw_reti zM_X7_count dX7_count_44 rfl h
  · replace h := h.2 hs4
    by_cases hs5 : x1 = 1
    · replace h := h.1 hs5
      refine zw_sw (tgt := 45) zM_X7_count dX7_count_6 (zx_sw_in hs5 rfl) rfl ?_
      refine zw_go (pc1 := 46) (L1 := [some (.ref a0), some (.int x1)]) (st1 := [.ref a0]) (σ1 := σ2) zM_X7_count dX7_count_45 rfl rfl rfl rfl ?_
      refine zw_getI zM_X7_count dX7_count_46 zF_7_168 rfl (by rw [e3]; exact hk1) ?_
      exact zw_reti zM_X7_count dX7_count_49 rfl h
    · replace h := h.2 hs5
      by_cases hs6 : x1 = 2
      · replace h := h.1 hs6
        refine zw_sw (tgt := 50) zM_X7_count dX7_count_6 (zx_sw_in hs6 rfl) rfl ?_
        refine zw_go (pc1 := 51) (L1 := [some (.ref a0), some (.int x1)]) (st1 := [.ref a0]) (σ1 := σ2) zM_X7_count dX7_count_50 rfl rfl rfl rfl ?_
        refine zw_getI zM_X7_count dX7_count_51 zF_7_257 rfl (by rw [e3]; exact hk1) ?_
        exact zw_reti zM_X7_count dX7_count_54 rfl h
      · replace h := h.2 hs6
        by_cases hs7 : x1 = 3
        · replace h := h.1 hs7
          refine zw_sw (tgt := 55) zM_X7_count dX7_count_6 (zx_sw_in hs7 rfl) rfl ?_
          refine zw_go (pc1 := 56) (L1 := [some (.ref a0), some (.int x1)]) (st1 := [.ref a0]) (σ1 := σ2) zM_X7_count dX7_count_55 rfl rfl rfl rfl ?_
          refine zw_getI zM_X7_count dX7_count_56 zF_7_269 rfl (by rw [e3]; exact hk1) ?_
          exact zw_reti zM_X7_count dX7_count_59 rfl h
        · replace h := h.2 hs7
          by_cases hs8 : x1 = 4
          · replace h := h.1 hs8
            refine zw_sw (tgt := 60) zM_X7_count dX7_count_6 (zx_sw_in hs8 rfl) rfl ?_
            refine zw_go (pc1 := 61) (L1 := [some (.ref a0), some (.int x1)]) (st1 := [.ref a0]) (σ1 := σ2) zM_X7_count dX7_count_60 rfl rfl rfl rfl ?_
            refine zw_getI zM_X7_count dX7_count_61 zF_7_195 rfl (by rw [e3]; exact hk1) ?_
            exact zw_reti zM_X7_count dX7_count_64 rfl h
          · replace h := h.2 hs8
            have n0 := zx_ne (n := 0) hs4 (by decide)
            have n1 := zx_ne (n := 1) hs5 (by decide)
            have n2 := zx_ne (n := 2) hs6 (by decide)
            have n3 := zx_ne (n := 3) hs7 (by decide)
            have n4 := zx_ne (n := 4) hs8 (by decide)
            refine zw_sw (tgt := 65) zM_X7_count dX7_count_6 (zx_sw_out (by omega)) rfl ?_
            refine zw_bipush (v := (-2)) zM_X7_count dX7_count_65 (by decide) ?_
            exact zw_reti zM_X7_count dX7_count_67 rfl h
set_option maxHeartbeats 4000000 in
set_option maxRecDepth 100000 in
theorem vc_X7_data_0 (a0 : Nat) (x1 : Int32) (x2 : Int32) (x3 : Int32) (σ : zx_S) (K : Int32 → zx_S → Prop) (h : zK σ a0 = 20 ∧ ∀ σ2 : zx_S, σ2 = zx_pI σ a0 0 0 → zwI 167 0 [some (.ref a0), some (.int x1)] [] σ2 (fun v5 σ4 => ((¬ v5 = (0 : Int32) → zwI 160 0 [some (.int x2), some (.int 0), some (.int 255)] [] σ4 (fun v7 σ6 => ((v7 = (0 : Int32) → K (-2) σ6) ∧ (¬ v7 = (0 : Int32) → zwI 160 0 [some (.int x3), some (.int 1), some (.int 100)] [] σ6 (fun v9 σ8 => ((¬ v9 = (0 : Int32) → zK σ8 a0 = 20 ∧ ∃ b11 : Nat, zR σ8 a0 2 = some b11 ∧ zK σ8 b11 = 1 ∧ zx_in x1 (zN σ8 b11) = true ∧ (((zI σ8 b11 (Int32.toNatClampNeg x1)) = (2 : Int32) → ∃ b15 : Nat, zR σ8 a0 5 = some b15 ∧ zK σ8 b15 = 1 ∧ zx_in x1 (zN σ8 b15) = true ∧ ((((zI σ8 b15 (Int32.toNatClampNeg x1)) + x3) ≤ (100 : Int32) → zwI 149 71 [some (.ref a0), some (.int x1), some (.int x2), some (.int x3), some (.int 0)] [] σ8 K) ∧ (¬ ((zI σ8 b15 (Int32.toNatClampNeg x1)) + x3) ≤ (100 : Int32) → K (-4) σ8))) ∧ (¬ (zI σ8 b11 (Int32.toNatClampNeg x1)) = (2 : Int32) → K (-3) σ8))) ∧ (v9 = (0 : Int32) → K (-2) σ8))))))) ∧ (v5 = (0 : Int32) → K (-1) σ4)))) : zwI 149 0 [some (.ref a0), some (.int x1), some (.int x2), some (.int x3), none] [] σ K := by
  refine zw_go (pc1 := 1) (L1 := [some (.ref a0), some (.int x1), some (.int x2), some (.int x3), none]) (st1 := [.ref a0]) (σ1 := σ) zM_X7_data dX7_data_0 rfl rfl rfl rfl ?_
  refine zw_iconst (v := 0) zM_X7_data dX7_data_1 (by decide) ?_
  obtain ⟨hk1, h⟩ := h
  obtain ⟨σ2, e3⟩ : ∃ z9 : zx_S, z9 = zx_pI σ a0 0 0 := ⟨_, rfl⟩
  replace h := h σ2 e3
  refine zw_putI zM_X7_data dX7_data_2 zF_7_98 rfl rfl hk1 e3 ?_
  refine zw_go (pc1 := 6) (L1 := [some (.ref a0), some (.int x1), some (.int x2), some (.int x3), none]) (st1 := [.ref a0]) (σ1 := σ2) zM_X7_data dX7_data_5 rfl rfl rfl rfl ?_
  refine zw_go (pc1 := 7) (L1 := [some (.ref a0), some (.int x1), some (.int x2), some (.int x3), none]) (st1 := [.int x1, .ref a0]) (σ1 := σ2) zM_X7_data dX7_data_6 rfl rfl rfl rfl ?_
  refine zw_callI (as := [.ref a0, .int x1]) (rest := []) zM_X7_data dX7_data_7 (zx_calV zC_7_108) zM_X7_isNode rfl rfl rfl rfl rfl (zx_args0 (by rw [e3]; exact hk1) rfl) rfl h (fun v5 σ4 h => ?_)
  refine zw_if_ne (tgt := 15) zM_X7_data dX7_data_10 rfl rfl (fun q => ?_) (fun q => ?_)
  · replace h := h.1 q
    refine zw_go (pc1 := 16) (L1 := [some (.ref a0), some (.int x1), some (.int x2), some (.int x3), none]) (st1 := [.int x2]) (σ1 := σ4) zM_X7_data dX7_data_15 rfl rfl rfl rfl ?_
    refine zw_iconst (v := 0) zM_X7_data dX7_data_16 (by decide) ?_
    refine zw_sipush (v := 255) zM_X7_data dX7_data_17 (by decide) ?_
    refine zw_callI (as := [.int x2, .int 0, .int 255]) (rest := []) zM_X7_data dX7_data_20 (zx_calS zC_7_101) zM_X7_in rfl rfl rfl rfl rfl rfl rfl h (fun v7 σ6 h => ?_)
    refine zw_if_eq (tgt := 36) zM_X7_data dX7_data_23 rfl rfl (fun q => ?_) (fun q => ?_)
    · replace h := h.1 q
      refine zw_bipush (v := (-2)) zM_X7_data dX7_data_36 (by decide) ?_
      exact zw_reti zM_X7_data dX7_data_38 rfl h
    · replace h := h.2 q
      refine zw_go (pc1 := 27) (L1 := [some (.ref a0), some (.int x1), some (.int x2), some (.int x3), none]) (st1 := [.int x3]) (σ1 := σ6) zM_X7_data dX7_data_26 rfl rfl rfl rfl ?_
      refine zw_iconst (v := 1) zM_X7_data dX7_data_27 (by decide) ?_
      refine zw_bipush (v := 100) zM_X7_data dX7_data_28 (by decide) ?_
      refine zw_callI (as := [.int x3, .int 1, .int 100]) (rest := []) zM_X7_data dX7_data_30 (zx_calS zC_7_101) zM_X7_in rfl rfl rfl rfl rfl rfl rfl h (fun v9 σ8 h => ?_)
      refine zw_if_ne (tgt := 39) zM_X7_data dX7_data_33 rfl rfl (fun q => ?_) (fun q => ?_)
      · replace h := h.1 q
        refine zw_go (pc1 := 40) (L1 := [some (.ref a0), some (.int x1), some (.int x2), some (.int x3), none]) (st1 := [.ref a0]) (σ1 := σ8) zM_X7_data dX7_data_39 rfl rfl rfl rfl ?_
        obtain ⟨hk10, h⟩ := h
        obtain ⟨b11, hr12, h⟩ := h
        refine zw_getR (a := b11) zM_X7_data dX7_data_40 zF_7_7 rfl hk10 hr12 ?_
        refine zw_go (pc1 := 44) (L1 := [some (.ref a0), some (.int x1), some (.int x2), some (.int x3), none]) (st1 := [.int x1, .ref b11]) (σ1 := σ8) zM_X7_data dX7_data_43 rfl rfl rfl rfl ?_
        obtain ⟨hk13, h⟩ := h
        obtain ⟨hi14, h⟩ := h
        refine zw_iald zM_X7_data dX7_data_44 ⟨Or.inl hk13, hi14⟩ ?_
        refine zw_iconst (v := 2) zM_X7_data dX7_data_45 (by decide) ?_
        refine zw_icmp_eq (tgt := 52) zM_X7_data dX7_data_46 rfl rfl (fun q => ?_) (fun q => ?_)
        · replace h := h.1 q
          refine zw_go (pc1 := 53) (L1 := [some (.ref a0), some (.int x1), some (.int x2), some (.int x3), none]) (st1 := [.ref a0]) (σ1 := σ8) zM_X7_data dX7_data_52 rfl rfl rfl rfl ?_
          obtain ⟨b15, hr16, h⟩ := h
          refine zw_getR (a := b15) zM_X7_data dX7_data_53 zF_7_19 rfl hk10 hr16 ?_
          refine zw_go (pc1 := 57) (L1 := [some (.ref a0), some (.int x1), some (.int x2), some (.int x3), none]) (st1 := [.int x1, .ref b15]) (σ1 := σ8) zM_X7_data dX7_data_56 rfl rfl rfl rfl ?_
          obtain ⟨hk17, h⟩ := h
          obtain ⟨hi18, h⟩ := h
          refine zw_iald zM_X7_data dX7_data_57 ⟨Or.inl hk17, hi18⟩ ?_
          refine zw_go (pc1 := 59) (L1 := [some (.ref a0), some (.int x1), some (.int x2), some (.int x3), none]) (st1 := [.int x3, .int (zI σ8 b15 (Int32.toNatClampNeg x1))]) (σ1 := σ8) zM_X7_data dX7_data_58 rfl rfl rfl rfl ?_
          refine zw_go (pc1 := 60) (L1 := [some (.ref a0), some (.int x1), some (.int x2), some (.int x3), none]) (st1 := [.int ((zI σ8 b15 (Int32.toNatClampNeg x1)) + x3)]) (σ1 := σ8) zM_X7_data dX7_data_59 rfl rfl rfl rfl ?_
          refine zw_bipush (v := 100) zM_X7_data dX7_data_60 (by decide) ?_
          refine zw_icmp_le (tgt := 68) zM_X7_data dX7_data_62 rfl rfl (fun q => ?_) (fun q => ?_)
          · replace h := h.1 q
            refine zw_iconst (v := 0) zM_X7_data dX7_data_68 (by decide) ?_
            refine zw_go (pc1 := 71) (L1 := [some (.ref a0), some (.int x1), some (.int x2), some (.int x3), some (.int 0)]) (st1 := []) (σ1 := σ8) zM_X7_data dX7_data_69 rfl rfl rfl rfl ?_
            exact zw_weak2 h ⟨rfl, rfl, rfl, rfl, rfl, trivial⟩
          · replace h := h.2 q
            refine zw_bipush (v := (-4)) zM_X7_data dX7_data_65 (by decide) ?_
            exact zw_reti zM_X7_data dX7_data_67 rfl h
        · replace h := h.2 q
          refine zw_bipush (v := (-3)) zM_X7_data dX7_data_49 (by decide) ?_
          exact zw_reti zM_X7_data dX7_data_51 rfl h
      · replace h := h.2 q
        refine zw_bipush (v := (-2)) zM_X7_data dX7_data_36 (by decide) ?_
        exact zw_reti zM_X7_data dX7_data_38 rfl h
  · replace h := h.2 q
    refine zw_iconst (v := (-1)) zM_X7_data dX7_data_13 (by decide) ?_
    exact zw_reti zM_X7_data dX7_data_14 rfl h
set_option maxHeartbeats 4000000 in
set_option maxRecDepth 100000 in
theorem vc_X7_data_71 (a0 : Nat) (x1 : Int32) (x2 : Int32) (x3 : Int32) (x4 : Int32) (σ : zx_S) (K : Int32 → zx_S → Prop) (h : ((x3 ≤ x4 → zK σ a0 = 20 ∧ ∃ b2 : Nat, zR σ a0 5 = some b2 ∧ zK σ b2 = 1 ∧ zx_in x1 (zN σ b2) = true ∧ K (zI σ b2 (Int32.toNatClampNeg x1)) σ) ∧ (¬ x3 ≤ x4 → zK σ a0 = 20 ∧ ∃ b7 : Nat, zR σ a0 6 = some b7 ∧ ∃ b9 : Nat, zR σ a0 5 = some b9 ∧ zK σ b9 = 1 ∧ zx_in x1 (zN σ b9) = true ∧ zK σ b7 = 1 ∧ zx_in ((100 * x1) + (zI σ b9 (Int32.toNatClampNeg x1))) (zN σ b7) = true ∧ ∀ σ15 : zx_S, σ15 = zx_pI σ b7 (Int32.toNatClampNeg ((100 * x1) + (zI σ b9 (Int32.toNatClampNeg x1)))) x2 → zx_in x1 (zN σ15 b9) = true ∧ zx_in x1 (zN σ15 b9) = true ∧ ∀ σ19 : zx_S, σ19 = zx_pI σ15 b9 (Int32.toNatClampNeg x1) ((zI σ15 b9 (Int32.toNatClampNeg x1)) + 1) → zwI 149 71 [some (.ref a0), some (.int x1), some (.int x2), some (.int x3), some (.int (x4 + Int32.ofInt 1))] [] σ19 K))) : zwI 149 71 [some (.ref a0), some (.int x1), some (.int x2), some (.int x3), some (.int x4)] [] σ K := by
  refine zw_go (pc1 := 73) (L1 := [some (.ref a0), some (.int x1), some (.int x2), some (.int x3), some (.int x4)]) (st1 := [.int x4]) (σ1 := σ) zM_X7_data dX7_data_71 rfl rfl rfl rfl ?_
  refine zw_go (pc1 := 74) (L1 := [some (.ref a0), some (.int x1), some (.int x2), some (.int x3), some (.int x4)]) (st1 := [.int x3, .int x4]) (σ1 := σ) zM_X7_data dX7_data_73 rfl rfl rfl rfl ?_
  refine zw_icmp_ge (tgt := 110) zM_X7_data dX7_data_74 rfl rfl (fun q => ?_) (fun q => ?_)
  · replace h := h.1 q
    refine zw_go (pc1 := 111) (L1 := [some (.ref a0), some (.int x1), some (.int x2), some (.int x3), some (.int x4)]) (st1 := [.ref a0]) (σ1 := σ) zM_X7_data dX7_data_110 rfl rfl rfl rfl ?_
    obtain ⟨hk1, h⟩ := h
    obtain ⟨b2, hr3, h⟩ := h
    refine zw_getR (a := b2) zM_X7_data dX7_data_111 zF_7_19 rfl hk1 hr3 ?_
    refine zw_go (pc1 := 115) (L1 := [some (.ref a0), some (.int x1), some (.int x2), some (.int x3), some (.int x4)]) (st1 := [.int x1, .ref b2]) (σ1 := σ) zM_X7_data dX7_data_114 rfl rfl rfl rfl ?_
    obtain ⟨hk4, h⟩ := h
    obtain ⟨hi5, h⟩ := h
    refine zw_iald zM_X7_data dX7_data_115 ⟨Or.inl hk4, hi5⟩ ?_
    exact zw_reti zM_X7_data dX7_data_116 rfl h
  · replace h := h.2 q
    refine zw_go (pc1 := 78) (L1 := [some (.ref a0), some (.int x1), some (.int x2), some (.int x3), some (.int x4)]) (st1 := [.ref a0]) (σ1 := σ) zM_X7_data dX7_data_77 rfl rfl rfl rfl ?_
    obtain ⟨hk6, h⟩ := h
    obtain ⟨b7, hr8, h⟩ := h
    refine zw_getR (a := b7) zM_X7_data dX7_data_78 zF_7_22 rfl hk6 hr8 ?_
    refine zw_bipush (v := 100) zM_X7_data dX7_data_81 (by decide) ?_
    refine zw_go (pc1 := 84) (L1 := [some (.ref a0), some (.int x1), some (.int x2), some (.int x3), some (.int x4)]) (st1 := [.int x1, .int 100, .ref b7]) (σ1 := σ) zM_X7_data dX7_data_83 rfl rfl rfl rfl ?_
    refine zw_go (pc1 := 85) (L1 := [some (.ref a0), some (.int x1), some (.int x2), some (.int x3), some (.int x4)]) (st1 := [.int (100 * x1), .ref b7]) (σ1 := σ) zM_X7_data dX7_data_84 rfl rfl rfl rfl ?_
    refine zw_go (pc1 := 86) (L1 := [some (.ref a0), some (.int x1), some (.int x2), some (.int x3), some (.int x4)]) (st1 := [.ref a0, .int (100 * x1), .ref b7]) (σ1 := σ) zM_X7_data dX7_data_85 rfl rfl rfl rfl ?_
    obtain ⟨b9, hr10, h⟩ := h
    refine zw_getR (a := b9) zM_X7_data dX7_data_86 zF_7_19 rfl hk6 hr10 ?_
    refine zw_go (pc1 := 90) (L1 := [some (.ref a0), some (.int x1), some (.int x2), some (.int x3), some (.int x4)]) (st1 := [.int x1, .ref b9, .int (100 * x1), .ref b7]) (σ1 := σ) zM_X7_data dX7_data_89 rfl rfl rfl rfl ?_
    obtain ⟨hk11, h⟩ := h
    obtain ⟨hi12, h⟩ := h
    refine zw_iald zM_X7_data dX7_data_90 ⟨Or.inl hk11, hi12⟩ ?_
    refine zw_go (pc1 := 92) (L1 := [some (.ref a0), some (.int x1), some (.int x2), some (.int x3), some (.int x4)]) (st1 := [.int ((100 * x1) + (zI σ b9 (Int32.toNatClampNeg x1))), .ref b7]) (σ1 := σ) zM_X7_data dX7_data_91 rfl rfl rfl rfl ?_
    refine zw_go (pc1 := 93) (L1 := [some (.ref a0), some (.int x1), some (.int x2), some (.int x3), some (.int x4)]) (st1 := [.int x2, .int ((100 * x1) + (zI σ b9 (Int32.toNatClampNeg x1))), .ref b7]) (σ1 := σ) zM_X7_data dX7_data_92 rfl rfl rfl rfl ?_
    obtain ⟨hk13, h⟩ := h
    obtain ⟨hi14, h⟩ := h
    obtain ⟨σ15, e16⟩ : ∃ z9 : zx_S, z9 = zx_pI σ b7 (Int32.toNatClampNeg ((100 * x1) + (zI σ b9 (Int32.toNatClampNeg x1)))) x2 := ⟨_, rfl⟩
    replace h := h σ15 e16
    refine zw_iast zM_X7_data dX7_data_93 ⟨hk13, hi14⟩ e16 ?_
    refine zw_go (pc1 := 95) (L1 := [some (.ref a0), some (.int x1), some (.int x2), some (.int x3), some (.int x4)]) (st1 := [.ref a0]) (σ1 := σ15) zM_X7_data dX7_data_94 rfl rfl rfl rfl ?_
    refine zw_getR (a := b9) zM_X7_data dX7_data_95 zF_7_19 rfl (by rw [e16]; exact hk6) (by rw [e16]; exact hr10) ?_
    refine zw_go (pc1 := 99) (L1 := [some (.ref a0), some (.int x1), some (.int x2), some (.int x3), some (.int x4)]) (st1 := [.int x1, .ref b9]) (σ1 := σ15) zM_X7_data dX7_data_98 rfl rfl rfl rfl ?_
    refine zw_go (pc1 := 100) (L1 := [some (.ref a0), some (.int x1), some (.int x2), some (.int x3), some (.int x4)]) (st1 := [.int x1, .ref b9, .int x1, .ref b9]) (σ1 := σ15) zM_X7_data dX7_data_99 rfl rfl rfl rfl ?_
    obtain ⟨hi17, h⟩ := h
    refine zw_iald zM_X7_data dX7_data_100 ⟨Or.inl (by rw [e16]; exact hk11), hi17⟩ ?_
    refine zw_iconst (v := 1) zM_X7_data dX7_data_101 (by decide) ?_
    refine zw_go (pc1 := 103) (L1 := [some (.ref a0), some (.int x1), some (.int x2), some (.int x3), some (.int x4)]) (st1 := [.int ((zI σ15 b9 (Int32.toNatClampNeg x1)) + 1), .int x1, .ref b9]) (σ1 := σ15) zM_X7_data dX7_data_102 rfl rfl rfl rfl ?_
    obtain ⟨hi18, h⟩ := h
    obtain ⟨σ19, e20⟩ : ∃ z9 : zx_S, z9 = zx_pI σ15 b9 (Int32.toNatClampNeg x1) ((zI σ15 b9 (Int32.toNatClampNeg x1)) + 1) := ⟨_, rfl⟩
    replace h := h σ19 e20
    refine zw_iast zM_X7_data dX7_data_103 ⟨(by rw [e16]; exact hk11), hi18⟩ e20 ?_
    refine zw_go (pc1 := 107) (L1 := [some (.ref a0), some (.int x1), some (.int x2), some (.int x3), some (.int (x4 + Int32.ofInt 1))]) (st1 := []) (σ1 := σ19) zM_X7_data dX7_data_104 rfl rfl rfl rfl ?_
    refine zw_goto (tgt := 71) zM_X7_data dX7_data_107 rfl ?_
    exact zw_weak2 h ⟨rfl, rfl, rfl, rfl, rfl, trivial⟩
set_option maxHeartbeats 4000000 in
set_option maxRecDepth 100000 in
theorem vc_X7_drop_0 (a0 : Nat) (σ : zx_S) (K : Int32 → zx_S → Prop) (h : zK σ a0 = 20 ∧ ∀ σ2 : zx_S, σ2 = zx_pI σ a0 0 0 → (((zI σ2 a0 11) = (0 : Int32) → K (-3) σ2) ∧ (¬ (zI σ2 a0 11) = (0 : Int32) → zwI 166 0 [some (.ref a0), some (.int ((zI σ2 a0 11) - 1)), none, none] [] σ2 (fun v5 σ4 => ((v5 = (0 : Int32) → zK σ4 a0 = 20 ∧ ∀ σ7 : zx_S, σ7 = zx_pI σ4 a0 11 ((zI σ4 a0 11) - 1) → K (zI σ7 a0 11) σ7) ∧ (¬ v5 = (0 : Int32) → K (-3) σ4)))))) : zwI 150 0 [some (.ref a0)] [] σ K := by
  refine zw_go (pc1 := 1) (L1 := [some (.ref a0)]) (st1 := [.ref a0]) (σ1 := σ) zM_X7_drop dX7_drop_0 rfl rfl rfl rfl ?_
  refine zw_iconst (v := 0) zM_X7_drop dX7_drop_1 (by decide) ?_
  obtain ⟨hk1, h⟩ := h
  obtain ⟨σ2, e3⟩ : ∃ z9 : zx_S, z9 = zx_pI σ a0 0 0 := ⟨_, rfl⟩
  replace h := h σ2 e3
  refine zw_putI zM_X7_drop dX7_drop_2 zF_7_98 rfl rfl hk1 e3 ?_
  refine zw_go (pc1 := 6) (L1 := [some (.ref a0)]) (st1 := [.ref a0]) (σ1 := σ2) zM_X7_drop dX7_drop_5 rfl rfl rfl rfl ?_
  refine zw_getI zM_X7_drop dX7_drop_6 zF_7_168 rfl (by rw [e3]; exact hk1) ?_
  refine zw_if_eq (tgt := 25) zM_X7_drop dX7_drop_9 rfl rfl (fun q => ?_) (fun q => ?_)
  · replace h := h.1 q
    refine zw_bipush (v := (-3)) zM_X7_drop dX7_drop_25 (by decide) ?_
    exact zw_reti zM_X7_drop dX7_drop_27 rfl h
  · replace h := h.2 q
    refine zw_go (pc1 := 13) (L1 := [some (.ref a0)]) (st1 := [.ref a0]) (σ1 := σ2) zM_X7_drop dX7_drop_12 rfl rfl rfl rfl ?_
    refine zw_go (pc1 := 14) (L1 := [some (.ref a0)]) (st1 := [.ref a0, .ref a0]) (σ1 := σ2) zM_X7_drop dX7_drop_13 rfl rfl rfl rfl ?_
    refine zw_getI zM_X7_drop dX7_drop_14 zF_7_168 rfl (by rw [e3]; exact hk1) ?_
    refine zw_iconst (v := 1) zM_X7_drop dX7_drop_17 (by decide) ?_
    refine zw_go (pc1 := 19) (L1 := [some (.ref a0)]) (st1 := [.int ((zI σ2 a0 11) - 1), .ref a0]) (σ1 := σ2) zM_X7_drop dX7_drop_18 rfl rfl rfl rfl ?_
    refine zw_callI (as := [.ref a0, .int ((zI σ2 a0 11) - 1)]) (rest := []) zM_X7_drop dX7_drop_19 (zx_calV zC_7_260) zM_X7_isLaid rfl rfl rfl rfl rfl (zx_args0 (by rw [e3]; exact hk1) rfl) rfl h (fun v5 σ4 h => ?_)
    refine zw_if_eq (tgt := 28) zM_X7_drop dX7_drop_22 rfl rfl (fun q => ?_) (fun q => ?_)
    · replace h := h.1 q
      refine zw_go (pc1 := 29) (L1 := [some (.ref a0)]) (st1 := [.ref a0]) (σ1 := σ4) zM_X7_drop dX7_drop_28 rfl rfl rfl rfl ?_
      refine zw_go (pc1 := 30) (L1 := [some (.ref a0)]) (st1 := [.ref a0, .ref a0]) (σ1 := σ4) zM_X7_drop dX7_drop_29 rfl rfl rfl rfl ?_
      obtain ⟨hk6, h⟩ := h
      refine zw_getI zM_X7_drop dX7_drop_30 zF_7_168 rfl hk6 ?_
      refine zw_iconst (v := 1) zM_X7_drop dX7_drop_33 (by decide) ?_
      refine zw_go (pc1 := 35) (L1 := [some (.ref a0)]) (st1 := [.int ((zI σ4 a0 11) - 1), .ref a0]) (σ1 := σ4) zM_X7_drop dX7_drop_34 rfl rfl rfl rfl ?_
      obtain ⟨σ7, e8⟩ : ∃ z9 : zx_S, z9 = zx_pI σ4 a0 11 ((zI σ4 a0 11) - 1) := ⟨_, rfl⟩
      replace h := h σ7 e8
      refine zw_putI zM_X7_drop dX7_drop_35 zF_7_168 rfl rfl hk6 e8 ?_
      refine zw_go (pc1 := 39) (L1 := [some (.ref a0)]) (st1 := [.ref a0]) (σ1 := σ7) zM_X7_drop dX7_drop_38 rfl rfl rfl rfl ?_
      refine zw_getI zM_X7_drop dX7_drop_39 zF_7_168 rfl (by rw [e8]; exact hk6) ?_
      exact zw_reti zM_X7_drop dX7_drop_42 rfl h
    · replace h := h.2 q
      refine zw_bipush (v := (-3)) zM_X7_drop dX7_drop_25 (by decide) ?_
      exact zw_reti zM_X7_drop dX7_drop_27 rfl h
set_option maxHeartbeats 4000000 in
set_option maxRecDepth 100000 in
theorem vc_X7_end_0 (a0 : Nat) (x1 : Int32) (σ : zx_S) (K : Int32 → zx_S → Prop) (h : zK σ a0 = 20 ∧ ∀ σ2 : zx_S, σ2 = zx_pI σ a0 0 0 → zwI 160 0 [some (.int x1), some (.int 0), some (.int (zI σ2 a0 34))] [] σ2 (fun v5 σ4 => ((¬ v5 = (0 : Int32) → zK σ4 a0 = 20 ∧ ∀ σ7 : zx_S, σ7 = zx_pI σ4 a0 34 x1 → K x1 σ7) ∧ (v5 = (0 : Int32) → K (-2) σ4)))) : zwI 151 0 [some (.ref a0), some (.int x1)] [] σ K := by
  refine zw_go (pc1 := 1) (L1 := [some (.ref a0), some (.int x1)]) (st1 := [.ref a0]) (σ1 := σ) zM_X7_end dX7_end_0 rfl rfl rfl rfl ?_
  refine zw_iconst (v := 0) zM_X7_end dX7_end_1 (by decide) ?_
  obtain ⟨hk1, h⟩ := h
  obtain ⟨σ2, e3⟩ : ∃ z9 : zx_S, z9 = zx_pI σ a0 0 0 := ⟨_, rfl⟩
  replace h := h σ2 e3
  refine zw_putI zM_X7_end dX7_end_2 zF_7_98 rfl rfl hk1 e3 ?_
  refine zw_go (pc1 := 6) (L1 := [some (.ref a0), some (.int x1)]) (st1 := [.int x1]) (σ1 := σ2) zM_X7_end dX7_end_5 rfl rfl rfl rfl ?_
  refine zw_iconst (v := 0) zM_X7_end dX7_end_6 (by decide) ?_
  refine zw_go (pc1 := 8) (L1 := [some (.ref a0), some (.int x1)]) (st1 := [.ref a0, .int 0, .int x1]) (σ1 := σ2) zM_X7_end dX7_end_7 rfl rfl rfl rfl ?_
  refine zw_getI zM_X7_end dX7_end_8 zF_7_195 rfl (by rw [e3]; exact hk1) ?_
  refine zw_callI (as := [.int x1, .int 0, .int (zI σ2 a0 34)]) (rest := []) zM_X7_end dX7_end_11 (zx_calS zC_7_101) zM_X7_in rfl rfl rfl rfl rfl rfl rfl h (fun v5 σ4 h => ?_)
  refine zw_if_ne (tgt := 20) zM_X7_end dX7_end_14 rfl rfl (fun q => ?_) (fun q => ?_)
  · replace h := h.1 q
    refine zw_go (pc1 := 21) (L1 := [some (.ref a0), some (.int x1)]) (st1 := [.ref a0]) (σ1 := σ4) zM_X7_end dX7_end_20 rfl rfl rfl rfl ?_
    refine zw_go (pc1 := 22) (L1 := [some (.ref a0), some (.int x1)]) (st1 := [.int x1, .ref a0]) (σ1 := σ4) zM_X7_end dX7_end_21 rfl rfl rfl rfl ?_
    obtain ⟨hk6, h⟩ := h
    obtain ⟨σ7, e8⟩ : ∃ z9 : zx_S, z9 = zx_pI σ4 a0 34 x1 := ⟨_, rfl⟩
    replace h := h σ7 e8
    refine zw_putI zM_X7_end dX7_end_22 zF_7_195 rfl rfl hk6 e8 ?_
    refine zw_go (pc1 := 26) (L1 := [some (.ref a0), some (.int x1)]) (st1 := [.int x1]) (σ1 := σ7) zM_X7_end dX7_end_25 rfl rfl rfl rfl ?_
    exact zw_reti zM_X7_end dX7_end_26 rfl h
  · replace h := h.2 q
    refine zw_bipush (v := (-2)) zM_X7_end dX7_end_17 (by decide) ?_
    exact zw_reti zM_X7_end dX7_end_19 rfl h
set_option maxHeartbeats 4000000 in
set_option maxRecDepth 100000 in
theorem vc_X7_feed_0 (a0 : Nat) (x1 : Int32) (x2 : Int32) (x3 : Int32) (x4 : Int32) (x5 : Int32) (σ : zx_S) (K : Int32 → zx_S → Prop) (h : zK σ a0 = 20 ∧ ∀ σ2 : zx_S, σ2 = zx_pI σ a0 0 0 → ((((zI σ2 a0 34) + 20) ≤ (4000 : Int32) → zwI 152 24 [some (.ref a0), some (.int x1), some (.int x2), some (.int x3), some (.int x4), some (.int x5), some (.int 0), none] [] σ2 K) ∧ (¬ ((zI σ2 a0 34) + 20) ≤ (4000 : Int32) → K (-4) σ2))) : zwI 152 0 [some (.ref a0), some (.int x1), some (.int x2), some (.int x3), some (.int x4), some (.int x5), none, none] [] σ K := by
  refine zw_go (pc1 := 1) (L1 := [some (.ref a0), some (.int x1), some (.int x2), some (.int x3), some (.int x4), some (.int x5), none, none]) (st1 := [.ref a0]) (σ1 := σ) zM_X7_feed dX7_feed_0 rfl rfl rfl rfl ?_
  refine zw_iconst (v := 0) zM_X7_feed dX7_feed_1 (by decide) ?_
  obtain ⟨hk1, h⟩ := h
  obtain ⟨σ2, e3⟩ : ∃ z9 : zx_S, z9 = zx_pI σ a0 0 0 := ⟨_, rfl⟩
  replace h := h σ2 e3
  refine zw_putI zM_X7_feed dX7_feed_2 zF_7_98 rfl rfl hk1 e3 ?_
  refine zw_go (pc1 := 6) (L1 := [some (.ref a0), some (.int x1), some (.int x2), some (.int x3), some (.int x4), some (.int x5), none, none]) (st1 := [.ref a0]) (σ1 := σ2) zM_X7_feed dX7_feed_5 rfl rfl rfl rfl ?_
  refine zw_getI zM_X7_feed dX7_feed_6 zF_7_195 rfl (by rw [e3]; exact hk1) ?_
  refine zw_bipush (v := 20) zM_X7_feed dX7_feed_9 (by decide) ?_
  refine zw_go (pc1 := 12) (L1 := [some (.ref a0), some (.int x1), some (.int x2), some (.int x3), some (.int x4), some (.int x5), none, none]) (st1 := [.int ((zI σ2 a0 34) + 20)]) (σ1 := σ2) zM_X7_feed dX7_feed_11 rfl rfl rfl rfl ?_
  refine zw_sipush (v := 4000) zM_X7_feed dX7_feed_12 (by decide) ?_
  refine zw_icmp_le (tgt := 21) zM_X7_feed dX7_feed_15 rfl rfl (fun q => ?_) (fun q => ?_)
  · replace h := h.1 q
    refine zw_iconst (v := 0) zM_X7_feed dX7_feed_21 (by decide) ?_
    refine zw_go (pc1 := 24) (L1 := [some (.ref a0), some (.int x1), some (.int x2), some (.int x3), some (.int x4), some (.int x5), some (.int 0), none]) (st1 := []) (σ1 := σ2) zM_X7_feed dX7_feed_22 rfl rfl rfl rfl ?_
    exact zw_weak2 h ⟨rfl, rfl, rfl, rfl, rfl, rfl, rfl, trivial⟩
  · replace h := h.2 q
    refine zw_bipush (v := (-4)) zM_X7_feed dX7_feed_18 (by decide) ?_
    exact zw_reti zM_X7_feed dX7_feed_20 rfl h
set_option maxHeartbeats 4000000 in
set_option maxRecDepth 100000 in
theorem vc_X7_feed_24 (a0 : Nat) (x1 : Int32) (x2 : Int32) (x3 : Int32) (x4 : Int32) (x5 : Int32) (x6 : Int32) (σ : zx_S) (K : Int32 → zx_S → Prop) (h : (((20 : Int32) ≤ x6 → zK σ a0 = 20 ∧ K (zI σ a0 34) σ) ∧ (¬ (20 : Int32) ≤ x6 → (((4 : Int32) ≤ x6 → (((8 : Int32) ≤ x6 → (((12 : Int32) ≤ x6 → (((16 : Int32) ≤ x6 → zwI 152 77 [some (.ref a0), some (.int x1), some (.int x2), some (.int x3), some (.int x4), some (.int x5), some (.int x6), none] [.int x5] σ K) ∧ (¬ (16 : Int32) ≤ x6 → zwI 152 77 [some (.ref a0), some (.int x1), some (.int x2), some (.int x3), some (.int x4), some (.int x5), some (.int x6), none] [.int x4] σ K))) ∧ (¬ (12 : Int32) ≤ x6 → zwI 152 77 [some (.ref a0), some (.int x1), some (.int x2), some (.int x3), some (.int x4), some (.int x5), some (.int x6), none] [.int x3] σ K))) ∧ (¬ (8 : Int32) ≤ x6 → zwI 152 77 [some (.ref a0), some (.int x1), some (.int x2), some (.int x3), some (.int x4), some (.int x5), some (.int x6), none] [.int x2] σ K))) ∧ (¬ (4 : Int32) ≤ x6 → zwI 152 77 [some (.ref a0), some (.int x1), some (.int x2), some (.int x3), some (.int x4), some (.int x5), some (.int x6), none] [.int x1] σ K))))) : zwI 152 24 [some (.ref a0), some (.int x1), some (.int x2), some (.int x3), some (.int x4), some (.int x5), some (.int x6), none] [] σ K := by
  refine zw_go (pc1 := 26) (L1 := [some (.ref a0), some (.int x1), some (.int x2), some (.int x3), some (.int x4), some (.int x5), some (.int x6), none]) (st1 := [.int x6]) (σ1 := σ) zM_X7_feed dX7_feed_24 rfl rfl rfl rfl ?_
  refine zw_bipush (v := 20) zM_X7_feed dX7_feed_26 (by decide) ?_
  refine zw_icmp_ge (tgt := 121) zM_X7_feed dX7_feed_28 rfl rfl (fun q => ?_) (fun q => ?_)
  · replace h := h.1 q
    refine zw_go (pc1 := 122) (L1 := [some (.ref a0), some (.int x1), some (.int x2), some (.int x3), some (.int x4), some (.int x5), some (.int x6), none]) (st1 := [.ref a0]) (σ1 := σ) zM_X7_feed dX7_feed_121 rfl rfl rfl rfl ?_
    obtain ⟨hk1, h⟩ := h
    refine zw_getI zM_X7_feed dX7_feed_122 zF_7_195 rfl hk1 ?_
    exact zw_reti zM_X7_feed dX7_feed_125 rfl h
  · replace h := h.2 q
    refine zw_go (pc1 := 33) (L1 := [some (.ref a0), some (.int x1), some (.int x2), some (.int x3), some (.int x4), some (.int x5), some (.int x6), none]) (st1 := [.int x6]) (σ1 := σ) zM_X7_feed dX7_feed_31 rfl rfl rfl rfl ?_
    refine zw_iconst (v := 4) zM_X7_feed dX7_feed_33 (by decide) ?_
    refine zw_icmp_ge (tgt := 41) zM_X7_feed dX7_feed_34 rfl rfl (fun q => ?_) (fun q => ?_)
    · replace h := h.1 q
      refine zw_go (pc1 := 43) (L1 := [some (.ref a0), some (.int x1), some (.int x2), some (.int x3), some (.int x4), some (.int x5), some (.int x6), none]) (st1 := [.int x6]) (σ1 := σ) zM_X7_feed dX7_feed_41 rfl rfl rfl rfl ?_
      refine zw_bipush (v := 8) zM_X7_feed dX7_feed_43 (by decide) ?_
      refine zw_icmp_ge (tgt := 52) zM_X7_feed dX7_feed_45 rfl rfl (fun q => ?_) (fun q => ?_)
      · replace h := h.1 q
        refine zw_go (pc1 := 54) (L1 := [some (.ref a0), some (.int x1), some (.int x2), some (.int x3), some (.int x4), some (.int x5), some (.int x6), none]) (st1 := [.int x6]) (σ1 := σ) zM_X7_feed dX7_feed_52 rfl rfl rfl rfl ?_
        refine zw_bipush (v := 12) zM_X7_feed dX7_feed_54 (by decide) ?_
        refine zw_icmp_ge (tgt := 63) zM_X7_feed dX7_feed_56 rfl rfl (fun q => ?_) (fun q => ?_)
        · replace h := h.1 q
          refine zw_go (pc1 := 65) (L1 := [some (.ref a0), some (.int x1), some (.int x2), some (.int x3), some (.int x4), some (.int x5), some (.int x6), none]) (st1 := [.int x6]) (σ1 := σ) zM_X7_feed dX7_feed_63 rfl rfl rfl rfl ?_
          refine zw_bipush (v := 16) zM_X7_feed dX7_feed_65 (by decide) ?_
          refine zw_icmp_ge (tgt := 75) zM_X7_feed dX7_feed_67 rfl rfl (fun q => ?_) (fun q => ?_)
          · replace h := h.1 q
            refine zw_go (pc1 := 77) (L1 := [some (.ref a0), some (.int x1), some (.int x2), some (.int x3), some (.int x4), some (.int x5), some (.int x6), none]) (st1 := [.int x5]) (σ1 := σ) zM_X7_feed dX7_feed_75 rfl rfl rfl rfl ?_
            exact zw_weak2 h ⟨rfl, rfl, rfl, rfl, rfl, rfl, rfl, trivial⟩
          · replace h := h.2 q
            refine zw_go (pc1 := 72) (L1 := [some (.ref a0), some (.int x1), some (.int x2), some (.int x3), some (.int x4), some (.int x5), some (.int x6), none]) (st1 := [.int x4]) (σ1 := σ) zM_X7_feed dX7_feed_70 rfl rfl rfl rfl ?_
            refine zw_goto (tgt := 77) zM_X7_feed dX7_feed_72 rfl ?_
            exact zw_weak2 h ⟨rfl, rfl, rfl, rfl, rfl, rfl, rfl, trivial⟩
        · replace h := h.2 q
          refine zw_go (pc1 := 60) (L1 := [some (.ref a0), some (.int x1), some (.int x2), some (.int x3), some (.int x4), some (.int x5), some (.int x6), none]) (st1 := [.int x3]) (σ1 := σ) zM_X7_feed dX7_feed_59 rfl rfl rfl rfl ?_
          refine zw_goto (tgt := 77) zM_X7_feed dX7_feed_60 rfl ?_
          exact zw_weak2 h ⟨rfl, rfl, rfl, rfl, rfl, rfl, rfl, trivial⟩
      · replace h := h.2 q
        refine zw_go (pc1 := 49) (L1 := [some (.ref a0), some (.int x1), some (.int x2), some (.int x3), some (.int x4), some (.int x5), some (.int x6), none]) (st1 := [.int x2]) (σ1 := σ) zM_X7_feed dX7_feed_48 rfl rfl rfl rfl ?_
        refine zw_goto (tgt := 77) zM_X7_feed dX7_feed_49 rfl ?_
        exact zw_weak2 h ⟨rfl, rfl, rfl, rfl, rfl, rfl, rfl, trivial⟩
    · replace h := h.2 q
      refine zw_go (pc1 := 38) (L1 := [some (.ref a0), some (.int x1), some (.int x2), some (.int x3), some (.int x4), some (.int x5), some (.int x6), none]) (st1 := [.int x1]) (σ1 := σ) zM_X7_feed dX7_feed_37 rfl rfl rfl rfl ?_
      refine zw_goto (tgt := 77) zM_X7_feed dX7_feed_38 rfl ?_
      exact zw_weak2 h ⟨rfl, rfl, rfl, rfl, rfl, rfl, rfl, trivial⟩
set_option maxHeartbeats 4000000 in
set_option maxRecDepth 100000 in
theorem vc_X7_feed_77 (a0 : Nat) (x1 : Int32) (x2 : Int32) (x3 : Int32) (x4 : Int32) (x5 : Int32) (x6 : Int32) (y0 : Int32) (σ : zx_S) (K : Int32 → zx_S → Prop) (h : zK σ a0 = 20 ∧ ∃ b2 : Nat, zR σ a0 33 = some b2 ∧ zK σ b2 = 1 ∧ zx_in (zI σ a0 34) (zN σ b2) = true ∧ ∀ σ6 : zx_S, σ6 = zx_pI σ b2 (Int32.toNatClampNeg (zI σ a0 34)) ((y0 >>> ((24 - (8 * (x6 - x6 / 4 * 4))) &&& 31)) &&& 255) → ∀ σ8 : zx_S, σ8 = zx_pI σ6 a0 34 ((zI σ6 a0 34) + 1) → zwI 152 24 [some (.ref a0), some (.int x1), some (.int x2), some (.int x3), some (.int x4), some (.int x5), some (.int (x6 + Int32.ofInt 1)), none] [] σ8 K) : zwI 152 77 [some (.ref a0), some (.int x1), some (.int x2), some (.int x3), some (.int x4), some (.int x5), some (.int x6), none] [.int y0] σ K := by
  refine zw_go (pc1 := 79) (L1 := [some (.ref a0), some (.int x1), some (.int x2), some (.int x3), some (.int x4), some (.int x5), some (.int x6), some (.int y0)]) (st1 := []) (σ1 := σ) zM_X7_feed dX7_feed_77 rfl rfl rfl rfl ?_
  refine zw_go (pc1 := 80) (L1 := [some (.ref a0), some (.int x1), some (.int x2), some (.int x3), some (.int x4), some (.int x5), some (.int x6), some (.int y0)]) (st1 := [.ref a0]) (σ1 := σ) zM_X7_feed dX7_feed_79 rfl rfl rfl rfl ?_
  obtain ⟨hk1, h⟩ := h
  obtain ⟨b2, hr3, h⟩ := h
  refine zw_getR (a := b2) zM_X7_feed dX7_feed_80 zF_7_79 rfl hk1 hr3 ?_
  refine zw_go (pc1 := 84) (L1 := [some (.ref a0), some (.int x1), some (.int x2), some (.int x3), some (.int x4), some (.int x5), some (.int x6), some (.int y0)]) (st1 := [.ref a0, .ref b2]) (σ1 := σ) zM_X7_feed dX7_feed_83 rfl rfl rfl rfl ?_
  refine zw_getI zM_X7_feed dX7_feed_84 zF_7_195 rfl hk1 ?_
  refine zw_go (pc1 := 89) (L1 := [some (.ref a0), some (.int x1), some (.int x2), some (.int x3), some (.int x4), some (.int x5), some (.int x6), some (.int y0)]) (st1 := [.int y0, .int (zI σ a0 34), .ref b2]) (σ1 := σ) zM_X7_feed dX7_feed_87 rfl rfl rfl rfl ?_
  refine zw_bipush (v := 24) zM_X7_feed dX7_feed_89 (by decide) ?_
  refine zw_bipush (v := 8) zM_X7_feed dX7_feed_91 (by decide) ?_
  refine zw_go (pc1 := 95) (L1 := [some (.ref a0), some (.int x1), some (.int x2), some (.int x3), some (.int x4), some (.int x5), some (.int x6), some (.int y0)]) (st1 := [.int x6, .int 8, .int 24, .int y0, .int (zI σ a0 34), .ref b2]) (σ1 := σ) zM_X7_feed dX7_feed_93 rfl rfl rfl rfl ?_
  refine zw_iconst (v := 4) zM_X7_feed dX7_feed_95 (by decide) ?_
  refine zw_rem zM_X7_feed dX7_feed_96 (by decide) ?_
  refine zw_go (pc1 := 98) (L1 := [some (.ref a0), some (.int x1), some (.int x2), some (.int x3), some (.int x4), some (.int x5), some (.int x6), some (.int y0)]) (st1 := [.int (8 * (x6 - x6 / 4 * 4)), .int 24, .int y0, .int (zI σ a0 34), .ref b2]) (σ1 := σ) zM_X7_feed dX7_feed_97 rfl rfl rfl rfl ?_
  refine zw_go (pc1 := 99) (L1 := [some (.ref a0), some (.int x1), some (.int x2), some (.int x3), some (.int x4), some (.int x5), some (.int x6), some (.int y0)]) (st1 := [.int (24 - (8 * (x6 - x6 / 4 * 4))), .int y0, .int (zI σ a0 34), .ref b2]) (σ1 := σ) zM_X7_feed dX7_feed_98 rfl rfl rfl rfl ?_
  refine zw_go (pc1 := 100) (L1 := [some (.ref a0), some (.int x1), some (.int x2), some (.int x3), some (.int x4), some (.int x5), some (.int x6), some (.int y0)]) (st1 := [.int (y0 >>> ((24 - (8 * (x6 - x6 / 4 * 4))) &&& 31)), .int (zI σ a0 34), .ref b2]) (σ1 := σ) zM_X7_feed dX7_feed_99 rfl rfl rfl rfl ?_
  refine zw_sipush (v := 255) zM_X7_feed dX7_feed_100 (by decide) ?_
  refine zw_go (pc1 := 104) (L1 := [some (.ref a0), some (.int x1), some (.int x2), some (.int x3), some (.int x4), some (.int x5), some (.int x6), some (.int y0)]) (st1 := [.int ((y0 >>> ((24 - (8 * (x6 - x6 / 4 * 4))) &&& 31)) &&& 255), .int (zI σ a0 34), .ref b2]) (σ1 := σ) zM_X7_feed dX7_feed_103 rfl rfl rfl rfl ?_
  obtain ⟨hk4, h⟩ := h
  obtain ⟨hi5, h⟩ := h
  obtain ⟨σ6, e7⟩ : ∃ z9 : zx_S, z9 = zx_pI σ b2 (Int32.toNatClampNeg (zI σ a0 34)) ((y0 >>> ((24 - (8 * (x6 - x6 / 4 * 4))) &&& 31)) &&& 255) := ⟨_, rfl⟩
  replace h := h σ6 e7
  refine zw_iast zM_X7_feed dX7_feed_104 ⟨hk4, hi5⟩ e7 ?_
  refine zw_go (pc1 := 106) (L1 := [some (.ref a0), some (.int x1), some (.int x2), some (.int x3), some (.int x4), some (.int x5), some (.int x6), some (.int y0)]) (st1 := [.ref a0]) (σ1 := σ6) zM_X7_feed dX7_feed_105 rfl rfl rfl rfl ?_
  refine zw_go (pc1 := 107) (L1 := [some (.ref a0), some (.int x1), some (.int x2), some (.int x3), some (.int x4), some (.int x5), some (.int x6), some (.int y0)]) (st1 := [.ref a0, .ref a0]) (σ1 := σ6) zM_X7_feed dX7_feed_106 rfl rfl rfl rfl ?_
  refine zw_getI zM_X7_feed dX7_feed_107 zF_7_195 rfl (by rw [e7]; exact hk1) ?_
  refine zw_iconst (v := 1) zM_X7_feed dX7_feed_110 (by decide) ?_
  refine zw_go (pc1 := 112) (L1 := [some (.ref a0), some (.int x1), some (.int x2), some (.int x3), some (.int x4), some (.int x5), some (.int x6), some (.int y0)]) (st1 := [.int ((zI σ6 a0 34) + 1), .ref a0]) (σ1 := σ6) zM_X7_feed dX7_feed_111 rfl rfl rfl rfl ?_
  obtain ⟨σ8, e9⟩ : ∃ z9 : zx_S, z9 = zx_pI σ6 a0 34 ((zI σ6 a0 34) + 1) := ⟨_, rfl⟩
  replace h := h σ8 e9
  refine zw_putI zM_X7_feed dX7_feed_112 zF_7_195 rfl rfl (by rw [e7]; exact hk1) e9 ?_
  refine zw_go (pc1 := 118) (L1 := [some (.ref a0), some (.int x1), some (.int x2), some (.int x3), some (.int x4), some (.int x5), some (.int (x6 + Int32.ofInt 1)), some (.int y0)]) (st1 := []) (σ1 := σ8) zM_X7_feed dX7_feed_115 rfl rfl rfl rfl ?_
  refine zw_goto (tgt := 24) zM_X7_feed dX7_feed_118 rfl ?_
  exact zw_weak2 h ⟨rfl, rfl, rfl, rfl, rfl, rfl, rfl, trivial⟩
set_option maxHeartbeats 4000000 in
set_option maxRecDepth 100000 in
theorem vc_X7_file_0 (a0 : Nat) (x1 : Int32) (x2 : Int32) (σ : zx_S) (K : Int32 → zx_S → Prop) (h : zK σ a0 = 20 ∧ zwI 147 0 [some (.ref a0), some (.int 2), some (.int x1), some (.int x2)] [] σ (fun v3 σ2 => K v3 σ2)) : zwI 153 0 [some (.ref a0), some (.int x1), some (.int x2)] [] σ K := by
  refine zw_go (pc1 := 1) (L1 := [some (.ref a0), some (.int x1), some (.int x2)]) (st1 := [.ref a0]) (σ1 := σ) zM_X7_file dX7_file_0 rfl rfl rfl rfl ?_
  refine zw_iconst (v := 2) zM_X7_file dX7_file_1 (by decide) ?_
  refine zw_go (pc1 := 3) (L1 := [some (.ref a0), some (.int x1), some (.int x2)]) (st1 := [.int x1, .int 2, .ref a0]) (σ1 := σ) zM_X7_file dX7_file_2 rfl rfl rfl rfl ?_
  refine zw_go (pc1 := 4) (L1 := [some (.ref a0), some (.int x1), some (.int x2)]) (st1 := [.int x2, .int x1, .int 2, .ref a0]) (σ1 := σ) zM_X7_file dX7_file_3 rfl rfl rfl rfl ?_
  obtain ⟨hk1, h⟩ := h
  refine zw_callI (as := [.ref a0, .int 2, .int x1, .int x2]) (rest := []) zM_X7_file dX7_file_4 (zx_calV zC_7_120) zM_X7_comes rfl rfl rfl rfl rfl (zx_args0 hk1 rfl) rfl h (fun v3 σ2 h => ?_)
  exact zw_reti zM_X7_file dX7_file_7 rfl h
set_option maxHeartbeats 4000000 in
set_option maxRecDepth 100000 in
theorem vc_X7_first_0 (a0 : Nat) (σ : zx_S) (K : zx_S → Prop) (h : zK σ a0 = 20 ∧ ((¬ (zI σ a0 35) = (0 : Int32) → zwV 154 13 [some (.ref a0), none] [.int 1, .ref a0] σ K) ∧ ((zI σ a0 35) = (0 : Int32) → zwV 154 13 [some (.ref a0), none] [.int 0, .ref a0] σ K))) : zwV 154 0 [some (.ref a0), none] [] σ K := by
  refine zw_go (pc1 := 1) (L1 := [some (.ref a0), none]) (st1 := [.ref a0]) (σ1 := σ) zM_X7_first dX7_first_0 rfl rfl rfl rfl ?_
  refine zw_go (pc1 := 2) (L1 := [some (.ref a0), none]) (st1 := [.ref a0, .ref a0]) (σ1 := σ) zM_X7_first dX7_first_1 rfl rfl rfl rfl ?_
  obtain ⟨hk1, h⟩ := h
  refine zw_getI zM_X7_first dX7_first_2 zF_7_257 rfl hk1 ?_
  refine zw_if_ne (tgt := 12) zM_X7_first dX7_first_5 rfl rfl (fun q => ?_) (fun q => ?_)
  · replace h := h.1 q
    refine zw_iconst (v := 1) zM_X7_first dX7_first_12 (by decide) ?_
    exact zw_weak2 h ⟨rfl, trivial⟩
  · replace h := h.2 q
    refine zw_iconst (v := 0) zM_X7_first dX7_first_8 (by decide) ?_
    refine zw_goto (tgt := 13) zM_X7_first dX7_first_9 rfl ?_
    exact zw_weak2 h ⟨rfl, trivial⟩
set_option maxHeartbeats 4000000 in
set_option maxRecDepth 100000 in
theorem vc_X7_first_13 (a0 : Nat) (y0 : Int32) (c1 : Nat) (σ : zx_S) (K : zx_S → Prop) (h : zK σ c1 = 20 ∧ ∀ σ2 : zx_S, σ2 = zx_pI σ c1 37 y0 → zK σ2 a0 = 20 ∧ ∃ b5 : Nat, zR σ2 a0 38 = some b5 ∧ zK σ2 b5 = 1 ∧ zx_in 0 (zN σ2 b5) = true ∧ ∀ σ9 : zx_S, σ9 = zx_pI σ2 b5 (Int32.toNatClampNeg 0) (zI σ2 a0 35) → zwV 154 28 [some (.ref a0), some (.int 0)] [] σ9 K) : zwV 154 13 [some (.ref a0), none] [.int y0, .ref c1] σ K := by
  obtain ⟨hk1, h⟩ := h
  obtain ⟨σ2, e3⟩ : ∃ z9 : zx_S, z9 = zx_pI σ c1 37 y0 := ⟨_, rfl⟩
  replace h := h σ2 e3
  refine zw_putI zM_X7_first dX7_first_13 zF_7_269 rfl rfl hk1 e3 ?_
  refine zw_go (pc1 := 17) (L1 := [some (.ref a0), none]) (st1 := [.ref a0]) (σ1 := σ2) zM_X7_first dX7_first_16 rfl rfl rfl rfl ?_
  obtain ⟨hk4, h⟩ := h
  obtain ⟨b5, hr6, h⟩ := h
  refine zw_getR (a := b5) zM_X7_first dX7_first_17 zF_7_85 rfl hk4 hr6 ?_
  refine zw_iconst (v := 0) zM_X7_first dX7_first_20 (by decide) ?_
  refine zw_go (pc1 := 22) (L1 := [some (.ref a0), none]) (st1 := [.ref a0, .int 0, .ref b5]) (σ1 := σ2) zM_X7_first dX7_first_21 rfl rfl rfl rfl ?_
  refine zw_getI zM_X7_first dX7_first_22 zF_7_257 rfl hk4 ?_
  obtain ⟨hk7, h⟩ := h
  obtain ⟨hi8, h⟩ := h
  obtain ⟨σ9, e10⟩ : ∃ z9 : zx_S, z9 = zx_pI σ2 b5 (Int32.toNatClampNeg 0) (zI σ2 a0 35) := ⟨_, rfl⟩
  replace h := h σ9 e10
  refine zw_iast zM_X7_first dX7_first_25 ⟨hk7, hi8⟩ e10 ?_
  refine zw_iconst (v := 0) zM_X7_first dX7_first_26 (by decide) ?_
  refine zw_go (pc1 := 28) (L1 := [some (.ref a0), some (.int 0)]) (st1 := []) (σ1 := σ9) zM_X7_first dX7_first_27 rfl rfl rfl rfl ?_
  exact zw_weak2 h ⟨rfl, rfl, trivial⟩
set_option maxHeartbeats 4000000 in
set_option maxRecDepth 100000 in
theorem vc_X7_first_28 (a0 : Nat) (x1 : Int32) (σ : zx_S) (K : zx_S → Prop) (h : zK σ a0 = 20 ∧ (((zI σ a0 35) ≤ x1 → K σ) ∧ (¬ (zI σ a0 35) ≤ x1 → ∃ b2 : Nat, zR σ a0 39 = some b2 ∧ ∃ b4 : Nat, zR σ a0 36 = some b4 ∧ zK σ b4 = 1 ∧ zx_in (((zI σ a0 35) - 1) - x1) (zN σ b4) = true ∧ zK σ b2 = 1 ∧ zx_in x1 (zN σ b2) = true ∧ ∀ σ10 : zx_S, σ10 = zx_pI σ b2 (Int32.toNatClampNeg x1) (zI σ b4 (Int32.toNatClampNeg (((zI σ a0 35) - 1) - x1))) → ∃ b12 : Nat, zR σ10 a0 40 = some b12 ∧ zK σ10 b12 = 1 ∧ zx_in x1 (zN σ10 b12) = true ∧ ∀ σ16 : zx_S, σ16 = zx_pI σ10 b12 (Int32.toNatClampNeg x1) 1 → zwV 154 28 [some (.ref a0), some (.int (x1 + Int32.ofInt 1))] [] σ16 K))) : zwV 154 28 [some (.ref a0), some (.int x1)] [] σ K := by
  refine zw_go (pc1 := 29) (L1 := [some (.ref a0), some (.int x1)]) (st1 := [.int x1]) (σ1 := σ) zM_X7_first dX7_first_28 rfl rfl rfl rfl ?_
  refine zw_go (pc1 := 30) (L1 := [some (.ref a0), some (.int x1)]) (st1 := [.ref a0, .int x1]) (σ1 := σ) zM_X7_first dX7_first_29 rfl rfl rfl rfl ?_
  obtain ⟨hk1, h⟩ := h
  refine zw_getI zM_X7_first dX7_first_30 zF_7_257 rfl hk1 ?_
  refine zw_icmp_ge (tgt := 68) zM_X7_first dX7_first_33 rfl rfl (fun q => ?_) (fun q => ?_)
  · replace h := h.1 q
    exact zw_retv zM_X7_first dX7_first_68 rfl h
  · replace h := h.2 q
    refine zw_go (pc1 := 37) (L1 := [some (.ref a0), some (.int x1)]) (st1 := [.ref a0]) (σ1 := σ) zM_X7_first dX7_first_36 rfl rfl rfl rfl ?_
    obtain ⟨b2, hr3, h⟩ := h
    refine zw_getR (a := b2) zM_X7_first dX7_first_37 zF_7_88 rfl hk1 hr3 ?_
    refine zw_go (pc1 := 41) (L1 := [some (.ref a0), some (.int x1)]) (st1 := [.int x1, .ref b2]) (σ1 := σ) zM_X7_first dX7_first_40 rfl rfl rfl rfl ?_
    refine zw_go (pc1 := 42) (L1 := [some (.ref a0), some (.int x1)]) (st1 := [.ref a0, .int x1, .ref b2]) (σ1 := σ) zM_X7_first dX7_first_41 rfl rfl rfl rfl ?_
    obtain ⟨b4, hr5, h⟩ := h
    refine zw_getR (a := b4) zM_X7_first dX7_first_42 zF_7_82 rfl hk1 hr5 ?_
    refine zw_go (pc1 := 46) (L1 := [some (.ref a0), some (.int x1)]) (st1 := [.ref a0, .ref b4, .int x1, .ref b2]) (σ1 := σ) zM_X7_first dX7_first_45 rfl rfl rfl rfl ?_
    refine zw_getI zM_X7_first dX7_first_46 zF_7_257 rfl hk1 ?_
    refine zw_iconst (v := 1) zM_X7_first dX7_first_49 (by decide) ?_
    refine zw_go (pc1 := 51) (L1 := [some (.ref a0), some (.int x1)]) (st1 := [.int ((zI σ a0 35) - 1), .ref b4, .int x1, .ref b2]) (σ1 := σ) zM_X7_first dX7_first_50 rfl rfl rfl rfl ?_
    refine zw_go (pc1 := 52) (L1 := [some (.ref a0), some (.int x1)]) (st1 := [.int x1, .int ((zI σ a0 35) - 1), .ref b4, .int x1, .ref b2]) (σ1 := σ) zM_X7_first dX7_first_51 rfl rfl rfl rfl ?_
    refine zw_go (pc1 := 53) (L1 := [some (.ref a0), some (.int x1)]) (st1 := [.int (((zI σ a0 35) - 1) - x1), .ref b4, .int x1, .ref b2]) (σ1 := σ) zM_X7_first dX7_first_52 rfl rfl rfl rfl ?_
    obtain ⟨hk6, h⟩ := h
    obtain ⟨hi7, h⟩ := h
    refine zw_iald zM_X7_first dX7_first_53 ⟨Or.inl hk6, hi7⟩ ?_
    obtain ⟨hk8, h⟩ := h
    obtain ⟨hi9, h⟩ := h
    obtain ⟨σ10, e11⟩ : ∃ z9 : zx_S, z9 = zx_pI σ b2 (Int32.toNatClampNeg x1) (zI σ b4 (Int32.toNatClampNeg (((zI σ a0 35) - 1) - x1))) := ⟨_, rfl⟩
    replace h := h σ10 e11
    refine zw_iast zM_X7_first dX7_first_54 ⟨hk8, hi9⟩ e11 ?_
    refine zw_go (pc1 := 56) (L1 := [some (.ref a0), some (.int x1)]) (st1 := [.ref a0]) (σ1 := σ10) zM_X7_first dX7_first_55 rfl rfl rfl rfl ?_
    obtain ⟨b12, hr13, h⟩ := h
    refine zw_getR (a := b12) zM_X7_first dX7_first_56 zF_7_91 rfl (by rw [e11]; exact hk1) hr13 ?_
    refine zw_go (pc1 := 60) (L1 := [some (.ref a0), some (.int x1)]) (st1 := [.int x1, .ref b12]) (σ1 := σ10) zM_X7_first dX7_first_59 rfl rfl rfl rfl ?_
    refine zw_iconst (v := 1) zM_X7_first dX7_first_60 (by decide) ?_
    obtain ⟨hk14, h⟩ := h
    obtain ⟨hi15, h⟩ := h
    obtain ⟨σ16, e17⟩ : ∃ z9 : zx_S, z9 = zx_pI σ10 b12 (Int32.toNatClampNeg x1) 1 := ⟨_, rfl⟩
    replace h := h σ16 e17
    refine zw_iast zM_X7_first dX7_first_61 ⟨hk14, hi15⟩ e17 ?_
    refine zw_go (pc1 := 65) (L1 := [some (.ref a0), some (.int (x1 + Int32.ofInt 1))]) (st1 := []) (σ1 := σ16) zM_X7_first dX7_first_62 rfl rfl rfl rfl ?_
    refine zw_goto (tgt := 28) zM_X7_first dX7_first_65 rfl ?_
    exact zw_weak2 h ⟨rfl, rfl, trivial⟩
set_option maxHeartbeats 4000000 in
set_option maxRecDepth 100000 in
theorem vc_X7_firstLike_0 (a0 : Nat) (x1 : Int32) (σ : zx_S) (K : Int32 → zx_S → Prop) (h : zK σ a0 = 20 ∧ ∃ b2 : Nat, zR σ a0 17 = some b2 ∧ zK σ b2 = 1 ∧ zx_in x1 (zN σ b2) = true ∧ zwI 155 9 [some (.ref a0), some (.int x1), some (.int (zI σ b2 (Int32.toNatClampNeg x1))), some (.int 1)] [] σ K) : zwI 155 0 [some (.ref a0), some (.int x1), none, none] [] σ K := by
  refine zw_go (pc1 := 1) (L1 := [some (.ref a0), some (.int x1), none, none]) (st1 := [.ref a0]) (σ1 := σ) zM_X7_firstLike dX7_firstLike_0 rfl rfl rfl rfl ?_
  obtain ⟨hk1, h⟩ := h
  obtain ⟨b2, hr3, h⟩ := h
  refine zw_getR (a := b2) zM_X7_firstLike dX7_firstLike_1 zF_7_43 rfl hk1 hr3 ?_
  refine zw_go (pc1 := 5) (L1 := [some (.ref a0), some (.int x1), none, none]) (st1 := [.int x1, .ref b2]) (σ1 := σ) zM_X7_firstLike dX7_firstLike_4 rfl rfl rfl rfl ?_
  obtain ⟨hk4, h⟩ := h
  obtain ⟨hi5, h⟩ := h
  refine zw_iald zM_X7_firstLike dX7_firstLike_5 ⟨Or.inl hk4, hi5⟩ ?_
  refine zw_go (pc1 := 7) (L1 := [some (.ref a0), some (.int x1), some (.int (zI σ b2 (Int32.toNatClampNeg x1))), none]) (st1 := []) (σ1 := σ) zM_X7_firstLike dX7_firstLike_6 rfl rfl rfl rfl ?_
  refine zw_iconst (v := 1) zM_X7_firstLike dX7_firstLike_7 (by decide) ?_
  refine zw_go (pc1 := 9) (L1 := [some (.ref a0), some (.int x1), some (.int (zI σ b2 (Int32.toNatClampNeg x1))), some (.int 1)]) (st1 := []) (σ1 := σ) zM_X7_firstLike dX7_firstLike_8 rfl rfl rfl rfl ?_
  exact zw_weak2 h ⟨rfl, rfl, rfl, rfl, trivial⟩
set_option maxHeartbeats 4000000 in
set_option maxRecDepth 100000 in
theorem vc_X7_firstLike_9 (a0 : Nat) (x1 : Int32) (x2 : Int32) (x3 : Int32) (σ : zx_S) (K : Int32 → zx_S → Prop) (h : ((x1 ≤ x3 → K x1 σ) ∧ (¬ x1 ≤ x3 → zK σ a0 = 20 ∧ ∃ b2 : Nat, zR σ a0 5 = some b2 ∧ zK σ b2 = 1 ∧ zx_in x2 (zN σ b2) = true ∧ (((zI σ b2 (Int32.toNatClampNeg x2)) ≤ (0 : Int32) → K x1 σ) ∧ (¬ (zI σ b2 (Int32.toNatClampNeg x2)) ≤ (0 : Int32) → ∃ b6 : Nat, zR σ a0 2 = some b6 ∧ ∃ b8 : Nat, zR σ a0 17 = some b8 ∧ zK σ b8 = 1 ∧ zx_in x3 (zN σ b8) = true ∧ zK σ b6 = 1 ∧ zx_in (zI σ b8 (Int32.toNatClampNeg x3)) (zN σ b6) = true ∧ ((¬ (zI σ b6 (Int32.toNatClampNeg (zI σ b8 (Int32.toNatClampNeg x3)))) = (2 : Int32) → zwI 155 54 [some (.ref a0), some (.int x1), some (.int x2), some (.int x3)] [] σ K) ∧ ((zI σ b6 (Int32.toNatClampNeg (zI σ b8 (Int32.toNatClampNeg x3)))) = (2 : Int32) → zx_in x3 (zN σ b8) = true ∧ zwI 168 0 [some (.ref a0), some (.int (zI σ b8 (Int32.toNatClampNeg x3))), some (.int x2), none, none] [] σ (fun v16 σ15 => ((v16 = (0 : Int32) → zwI 155 54 [some (.ref a0), some (.int x1), some (.int x2), some (.int x3)] [] σ15 K) ∧ (¬ v16 = (0 : Int32) → K x3 σ15)))))))))) : zwI 155 9 [some (.ref a0), some (.int x1), some (.int x2), some (.int x3)] [] σ K := by
  refine zw_go (pc1 := 10) (L1 := [some (.ref a0), some (.int x1), some (.int x2), some (.int x3)]) (st1 := [.int x3]) (σ1 := σ) zM_X7_firstLike dX7_firstLike_9 rfl rfl rfl rfl ?_
  refine zw_go (pc1 := 11) (L1 := [some (.ref a0), some (.int x1), some (.int x2), some (.int x3)]) (st1 := [.int x1, .int x3]) (σ1 := σ) zM_X7_firstLike dX7_firstLike_10 rfl rfl rfl rfl ?_
  refine zw_icmp_ge (tgt := 60) zM_X7_firstLike dX7_firstLike_11 rfl rfl (fun q => ?_) (fun q => ?_)
  · replace h := h.1 q
    refine zw_go (pc1 := 61) (L1 := [some (.ref a0), some (.int x1), some (.int x2), some (.int x3)]) (st1 := [.int x1]) (σ1 := σ) zM_X7_firstLike dX7_firstLike_60 rfl rfl rfl rfl ?_
    exact zw_reti zM_X7_firstLike dX7_firstLike_61 rfl h
  · replace h := h.2 q
    refine zw_go (pc1 := 15) (L1 := [some (.ref a0), some (.int x1), some (.int x2), some (.int x3)]) (st1 := [.ref a0]) (σ1 := σ) zM_X7_firstLike dX7_firstLike_14 rfl rfl rfl rfl ?_
    obtain ⟨hk1, h⟩ := h
    obtain ⟨b2, hr3, h⟩ := h
    refine zw_getR (a := b2) zM_X7_firstLike dX7_firstLike_15 zF_7_19 rfl hk1 hr3 ?_
    refine zw_go (pc1 := 19) (L1 := [some (.ref a0), some (.int x1), some (.int x2), some (.int x3)]) (st1 := [.int x2, .ref b2]) (σ1 := σ) zM_X7_firstLike dX7_firstLike_18 rfl rfl rfl rfl ?_
    obtain ⟨hk4, h⟩ := h
    obtain ⟨hi5, h⟩ := h
    refine zw_iald zM_X7_firstLike dX7_firstLike_19 ⟨Or.inl hk4, hi5⟩ ?_
    refine zw_if_le (tgt := 60) zM_X7_firstLike dX7_firstLike_20 rfl rfl (fun q => ?_) (fun q => ?_)
    · replace h := h.1 q
      refine zw_go (pc1 := 61) (L1 := [some (.ref a0), some (.int x1), some (.int x2), some (.int x3)]) (st1 := [.int x1]) (σ1 := σ) zM_X7_firstLike dX7_firstLike_60 rfl rfl rfl rfl ?_
      exact zw_reti zM_X7_firstLike dX7_firstLike_61 rfl h
    · replace h := h.2 q
      refine zw_go (pc1 := 24) (L1 := [some (.ref a0), some (.int x1), some (.int x2), some (.int x3)]) (st1 := [.ref a0]) (σ1 := σ) zM_X7_firstLike dX7_firstLike_23 rfl rfl rfl rfl ?_
      obtain ⟨b6, hr7, h⟩ := h
      refine zw_getR (a := b6) zM_X7_firstLike dX7_firstLike_24 zF_7_7 rfl hk1 hr7 ?_
      refine zw_go (pc1 := 28) (L1 := [some (.ref a0), some (.int x1), some (.int x2), some (.int x3)]) (st1 := [.ref a0, .ref b6]) (σ1 := σ) zM_X7_firstLike dX7_firstLike_27 rfl rfl rfl rfl ?_
      obtain ⟨b8, hr9, h⟩ := h
      refine zw_getR (a := b8) zM_X7_firstLike dX7_firstLike_28 zF_7_43 rfl hk1 hr9 ?_
      refine zw_go (pc1 := 32) (L1 := [some (.ref a0), some (.int x1), some (.int x2), some (.int x3)]) (st1 := [.int x3, .ref b8, .ref b6]) (σ1 := σ) zM_X7_firstLike dX7_firstLike_31 rfl rfl rfl rfl ?_
      obtain ⟨hk10, h⟩ := h
      obtain ⟨hi11, h⟩ := h
      refine zw_iald zM_X7_firstLike dX7_firstLike_32 ⟨Or.inl hk10, hi11⟩ ?_
      obtain ⟨hk12, h⟩ := h
      obtain ⟨hi13, h⟩ := h
      refine zw_iald zM_X7_firstLike dX7_firstLike_33 ⟨Or.inl hk12, hi13⟩ ?_
      refine zw_iconst (v := 2) zM_X7_firstLike dX7_firstLike_34 (by decide) ?_
      refine zw_icmp_ne (tgt := 54) zM_X7_firstLike dX7_firstLike_35 rfl rfl (fun q => ?_) (fun q => ?_)
      · replace h := h.1 q
        exact zw_weak2 h ⟨rfl, rfl, rfl, rfl, trivial⟩
      · replace h := h.2 q
        refine zw_go (pc1 := 39) (L1 := [some (.ref a0), some (.int x1), some (.int x2), some (.int x3)]) (st1 := [.ref a0]) (σ1 := σ) zM_X7_firstLike dX7_firstLike_38 rfl rfl rfl rfl ?_
        refine zw_go (pc1 := 40) (L1 := [some (.ref a0), some (.int x1), some (.int x2), some (.int x3)]) (st1 := [.ref a0, .ref a0]) (σ1 := σ) zM_X7_firstLike dX7_firstLike_39 rfl rfl rfl rfl ?_
        refine zw_getR (a := b8) zM_X7_firstLike dX7_firstLike_40 zF_7_43 rfl hk1 hr9 ?_
        refine zw_go (pc1 := 44) (L1 := [some (.ref a0), some (.int x1), some (.int x2), some (.int x3)]) (st1 := [.int x3, .ref b8, .ref a0]) (σ1 := σ) zM_X7_firstLike dX7_firstLike_43 rfl rfl rfl rfl ?_
        obtain ⟨hi14, h⟩ := h
        refine zw_iald zM_X7_firstLike dX7_firstLike_44 ⟨Or.inl hk10, hi14⟩ ?_
        refine zw_go (pc1 := 46) (L1 := [some (.ref a0), some (.int x1), some (.int x2), some (.int x3)]) (st1 := [.int x2, .int (zI σ b8 (Int32.toNatClampNeg x3)), .ref a0]) (σ1 := σ) zM_X7_firstLike dX7_firstLike_45 rfl rfl rfl rfl ?_
        refine zw_callI (as := [.ref a0, .int (zI σ b8 (Int32.toNatClampNeg x3)), .int x2]) (rest := []) zM_X7_firstLike dX7_firstLike_46 (zx_calV zC_7_159) zM_X7_isSameFile rfl rfl rfl rfl rfl (zx_args0 hk1 rfl) rfl h (fun v16 σ15 h => ?_)
        refine zw_if_eq (tgt := 54) zM_X7_firstLike dX7_firstLike_49 rfl rfl (fun q => ?_) (fun q => ?_)
        · replace h := h.1 q
          exact zw_weak2 h ⟨rfl, rfl, rfl, rfl, trivial⟩
        · replace h := h.2 q
          refine zw_go (pc1 := 53) (L1 := [some (.ref a0), some (.int x1), some (.int x2), some (.int x3)]) (st1 := [.int x3]) (σ1 := σ15) zM_X7_firstLike dX7_firstLike_52 rfl rfl rfl rfl ?_
          exact zw_reti zM_X7_firstLike dX7_firstLike_53 rfl h
set_option maxHeartbeats 4000000 in
set_option maxRecDepth 100000 in
theorem vc_X7_firstLike_54 (a0 : Nat) (x1 : Int32) (x2 : Int32) (x3 : Int32) (σ : zx_S) (K : Int32 → zx_S → Prop) (h : zwI 155 9 [some (.ref a0), some (.int x1), some (.int x2), some (.int (x3 + Int32.ofInt 1))] [] σ K) : zwI 155 54 [some (.ref a0), some (.int x1), some (.int x2), some (.int x3)] [] σ K := by
  refine zw_go (pc1 := 57) (L1 := [some (.ref a0), some (.int x1), some (.int x2), some (.int (x3 + Int32.ofInt 1))]) (st1 := []) (σ1 := σ) zM_X7_firstLike dX7_firstLike_54 rfl rfl rfl rfl ?_
  refine zw_goto (tgt := 9) zM_X7_firstLike dX7_firstLike_57 rfl ?_
  exact zw_weak2 h ⟨rfl, rfl, rfl, rfl, trivial⟩
set_option maxHeartbeats 4000000 in
set_option maxRecDepth 100000 in
theorem vc_X7_firstOf_0 (a0 : Nat) (x1 : Int32) (x2 : Int32) (σ : zx_S) (K : Int32 → zx_S → Prop) (h : zK σ a0 = 20 ∧ zwI 162 0 [some (.ref a0), some (.int x1), some (.int x2)] [] σ (fun v3 σ2 => zK σ2 a0 = 20 ∧ zwI 210 0 [some (.ref a0), some (.int x1), some (.int (v3 + 6))] [] σ2 (fun v6 σ5 => K (v6 / 4) σ5))) : zwI 156 0 [some (.ref a0), some (.int x1), some (.int x2)] [] σ K := by
  refine zw_go (pc1 := 1) (L1 := [some (.ref a0), some (.int x1), some (.int x2)]) (st1 := [.ref a0]) (σ1 := σ) zM_X7_firstOf dX7_firstOf_0 rfl rfl rfl rfl ?_
  refine zw_go (pc1 := 2) (L1 := [some (.ref a0), some (.int x1), some (.int x2)]) (st1 := [.int x1, .ref a0]) (σ1 := σ) zM_X7_firstOf dX7_firstOf_1 rfl rfl rfl rfl ?_
  refine zw_go (pc1 := 3) (L1 := [some (.ref a0), some (.int x1), some (.int x2)]) (st1 := [.ref a0, .int x1, .ref a0]) (σ1 := σ) zM_X7_firstOf dX7_firstOf_2 rfl rfl rfl rfl ?_
  refine zw_go (pc1 := 4) (L1 := [some (.ref a0), some (.int x1), some (.int x2)]) (st1 := [.int x1, .ref a0, .int x1, .ref a0]) (σ1 := σ) zM_X7_firstOf dX7_firstOf_3 rfl rfl rfl rfl ?_
  refine zw_go (pc1 := 5) (L1 := [some (.ref a0), some (.int x1), some (.int x2)]) (st1 := [.int x2, .int x1, .ref a0, .int x1, .ref a0]) (σ1 := σ) zM_X7_firstOf dX7_firstOf_4 rfl rfl rfl rfl ?_
  obtain ⟨hk1, h⟩ := h
  refine zw_callI (as := [.ref a0, .int x1, .int x2]) (rest := [.int x1, .ref a0]) zM_X7_firstOf dX7_firstOf_5 (zx_calV zC_7_226) zM_X7_inode rfl rfl rfl rfl rfl (zx_args0 hk1 rfl) rfl h (fun v3 σ2 h => ?_)
  refine zw_bipush (v := 6) zM_X7_firstOf dX7_firstOf_8 (by decide) ?_
  refine zw_go (pc1 := 11) (L1 := [some (.ref a0), some (.int x1), some (.int x2)]) (st1 := [.int (v3 + 6), .int x1, .ref a0]) (σ1 := σ2) zM_X7_firstOf dX7_firstOf_10 rfl rfl rfl rfl ?_
  obtain ⟨hk4, h⟩ := h
  refine zw_callI (as := [.ref a0, .int x1, .int (v3 + 6)]) (rest := []) zM_X7_firstOf dX7_firstOf_11 (zx_calV zC_7_201) zM_X7_word rfl rfl rfl rfl rfl (zx_args0 hk4 rfl) rfl h (fun v6 σ5 h => ?_)
  refine zw_iconst (v := 4) zM_X7_firstOf dX7_firstOf_14 (by decide) ?_
  refine zw_div zM_X7_firstOf dX7_firstOf_15 (by decide) ?_
  exact zw_reti zM_X7_firstOf dX7_firstOf_16 rfl h
set_option maxHeartbeats 4000000 in
set_option maxRecDepth 100000 in
theorem vc_X7_folder_0 (a0 : Nat) (x1 : Int32) (x2 : Int32) (σ : zx_S) (K : Int32 → zx_S → Prop) (h : zK σ a0 = 20 ∧ zwI 147 0 [some (.ref a0), some (.int 1), some (.int x1), some (.int x2)] [] σ (fun v3 σ2 => K v3 σ2)) : zwI 157 0 [some (.ref a0), some (.int x1), some (.int x2)] [] σ K := by
  refine zw_go (pc1 := 1) (L1 := [some (.ref a0), some (.int x1), some (.int x2)]) (st1 := [.ref a0]) (σ1 := σ) zM_X7_folder dX7_folder_0 rfl rfl rfl rfl ?_
  refine zw_iconst (v := 1) zM_X7_folder dX7_folder_1 (by decide) ?_
  refine zw_go (pc1 := 3) (L1 := [some (.ref a0), some (.int x1), some (.int x2)]) (st1 := [.int x1, .int 1, .ref a0]) (σ1 := σ) zM_X7_folder dX7_folder_2 rfl rfl rfl rfl ?_
  refine zw_go (pc1 := 4) (L1 := [some (.ref a0), some (.int x1), some (.int x2)]) (st1 := [.int x2, .int x1, .int 1, .ref a0]) (σ1 := σ) zM_X7_folder dX7_folder_3 rfl rfl rfl rfl ?_
  obtain ⟨hk1, h⟩ := h
  refine zw_callI (as := [.ref a0, .int 1, .int x1, .int x2]) (rest := []) zM_X7_folder dX7_folder_4 (zx_calV zC_7_120) zM_X7_comes rfl rfl rfl rfl rfl (zx_args0 hk1 rfl) rfl h (fun v3 σ2 h => ?_)
  exact zw_reti zM_X7_folder dX7_folder_7 rfl h
set_option maxHeartbeats 4000000 in
set_option maxRecDepth 100000 in
theorem vc_X7_hide_0 (a0 : Nat) (x1 : Int32) (x2 : Int32) (σ : zx_S) (K : Int32 → zx_S → Prop) (h : zK σ a0 = 20 ∧ zwI 147 0 [some (.ref a0), some (.int 3), some (.int x1), some (.int x2)] [] σ (fun v3 σ2 => K v3 σ2)) : zwI 158 0 [some (.ref a0), some (.int x1), some (.int x2)] [] σ K := by
  refine zw_go (pc1 := 1) (L1 := [some (.ref a0), some (.int x1), some (.int x2)]) (st1 := [.ref a0]) (σ1 := σ) zM_X7_hide dX7_hide_0 rfl rfl rfl rfl ?_
  refine zw_iconst (v := 3) zM_X7_hide dX7_hide_1 (by decide) ?_
  refine zw_go (pc1 := 3) (L1 := [some (.ref a0), some (.int x1), some (.int x2)]) (st1 := [.int x1, .int 3, .ref a0]) (σ1 := σ) zM_X7_hide dX7_hide_2 rfl rfl rfl rfl ?_
  refine zw_go (pc1 := 4) (L1 := [some (.ref a0), some (.int x1), some (.int x2)]) (st1 := [.int x2, .int x1, .int 3, .ref a0]) (σ1 := σ) zM_X7_hide dX7_hide_3 rfl rfl rfl rfl ?_
  obtain ⟨hk1, h⟩ := h
  refine zw_callI (as := [.ref a0, .int 3, .int x1, .int x2]) (rest := []) zM_X7_hide dX7_hide_4 (zx_calV zC_7_120) zM_X7_comes rfl rfl rfl rfl rfl (zx_args0 hk1 rfl) rfl h (fun v3 σ2 h => ?_)
  exact zw_reti zM_X7_hide dX7_hide_7 rfl h
set_option maxHeartbeats 4000000 in
set_option maxRecDepth 100000 in
theorem vc_X7_image_0 (a0 : Nat) (x1 : Int32) (x2 : Int32) (σ : zx_S) (K : Int32 → zx_S → Prop) (h : zK σ a0 = 20 ∧ ∀ σ2 : zx_S, σ2 = zx_pI σ a0 0 0 → zwI 165 0 [some (.ref a0), some (.int x1)] [] σ2 (fun v5 σ4 => ((¬ v5 = (0 : Int32) → ((x2 = 0 → zK σ4 a0 = 20 ∧ ∃ b7 : Nat, zR σ4 a0 13 = some b7 ∧ zK σ4 b7 = 1 ∧ zx_in x1 (zN σ4 b7) = true ∧ K (zI σ4 b7 (Int32.toNatClampNeg x1)) σ4) ∧ (¬ x2 = 0 → ((x2 = 1 → zK σ4 a0 = 20 ∧ zwI 143 0 [some (.ref a0), some (.int x1), some (.int 2)] [] σ4 (fun v14 σ13 => K v14 σ13)) ∧ (¬ x2 = 1 → ((x2 = 2 → zK σ4 a0 = 20 ∧ zwI 191 0 [some (.ref a0), some (.int x1)] [] σ4 (fun v18 σ17 => K v18 σ17)) ∧ (¬ x2 = 2 → ((x2 = 3 → zK σ4 a0 = 20 ∧ zwI 202 0 [some (.ref a0), some (.int x1)] [] σ4 (fun v22 σ21 => K v22 σ21)) ∧ (¬ x2 = 3 → ((x2 = 4 → zK σ4 a0 = 20 ∧ zwI 210 0 [some (.ref a0), some (.int x1), some (.int 6)] [] σ4 (fun v26 σ25 => K (v26 - 18) σ25)) ∧ (¬ x2 = 4 → K (-2) σ4))))))))))) ∧ (v5 = (0 : Int32) → K (-1) σ4)))) : zwI 159 0 [some (.ref a0), some (.int x1), some (.int x2)] [] σ K := by
  refine zw_go (pc1 := 1) (L1 := [some (.ref a0), some (.int x1), some (.int x2)]) (st1 := [.ref a0]) (σ1 := σ) zM_X7_image dX7_image_0 rfl rfl rfl rfl ?_
  refine zw_iconst (v := 0) zM_X7_image dX7_image_1 (by decide) ?_
  obtain ⟨hk1, h⟩ := h
  obtain ⟨σ2, e3⟩ : ∃ z9 : zx_S, z9 = zx_pI σ a0 0 0 := ⟨_, rfl⟩
  replace h := h σ2 e3
  refine zw_putI zM_X7_image dX7_image_2 zF_7_98 rfl rfl hk1 e3 ?_
  refine zw_go (pc1 := 6) (L1 := [some (.ref a0), some (.int x1), some (.int x2)]) (st1 := [.ref a0]) (σ1 := σ2) zM_X7_image dX7_image_5 rfl rfl rfl rfl ?_
  refine zw_go (pc1 := 7) (L1 := [some (.ref a0), some (.int x1), some (.int x2)]) (st1 := [.int x1, .ref a0]) (σ1 := σ2) zM_X7_image dX7_image_6 rfl rfl rfl rfl ?_
  refine zw_callI (as := [.ref a0, .int x1]) (rest := []) zM_X7_image dX7_image_7 (zx_calV zC_7_263) zM_X7_isImage rfl rfl rfl rfl rfl (zx_args0 (by rw [e3]; exact hk1) rfl) rfl h (fun v5 σ4 h => ?_)
  refine zw_if_ne (tgt := 15) zM_X7_image dX7_image_10 rfl rfl (fun q => ?_) (fun q => ?_)
  · replace h := h.1 q
    refine zw_go (pc1 := 16) (L1 := [some (.ref a0), some (.int x1), some (.int x2)]) (st1 := [.int x2]) (σ1 := σ4) zM_X7_image dX7_image_15 rfl rfl rfl rfl ?_
    by_cases hs11 : x2 = 0
    · replace h := h.1 hs11
      refine zw_sw (tgt := 52) zM_X7_image dX7_image_16 (zx_sw_in hs11 rfl) rfl ?_
      refine zw_go (pc1 := 53) (L1 := [some (.ref a0), some (.int x1), some (.int x2)]) (st1 := [.ref a0]) (σ1 := σ4) zM_X7_image dX7_image_52 rfl rfl rfl rfl ?_
      obtain ⟨hk6, h⟩ := h
      obtain ⟨b7, hr8, h⟩ := h
      refine zw_getR (a := b7) zM_X7_image dX7_image_53 zF_7_37 rfl hk6 hr8 ?_
      refine zw_go (pc1 := 57) (L1 := [some (.ref a0), some (.int x1), some (.int x2)]) (st1 := [.int x1, .ref b7]) (σ1 := σ4) zM_X7_image dX7_image_56 rfl rfl rfl rfl ?_
      obtain ⟨hk9, h⟩ := h
      obtain ⟨hi10, h⟩ := h
      refine zw_iald zM_X7_image dX7_image_57 ⟨Or.inl hk9, hi10⟩ ?_
      exact zw_reti zM_X7_image dX7_image_58 rfl h
    · replace h := h.2 hs11
      by_cases hs15 : x2 = 1
      · replace h := h.1 hs15
        refine zw_sw (tgt := 59) zM_X7_image dX7_image_16 (zx_sw_in hs15 rfl) rfl ?_
        refine zw_go (pc1 := 60) (L1 := [some (.ref a0), some (.int x1), some (.int x2)]) (st1 := [.ref a0]) (σ1 := σ4) zM_X7_image dX7_image_59 rfl rfl rfl rfl ?_
        refine zw_go (pc1 := 61) (L1 := [some (.ref a0), some (.int x1), some (.int x2)]) (st1 := [.int x1, .ref a0]) (σ1 := σ4) zM_X7_image dX7_image_60 rfl rfl rfl rfl ?_
        refine zw_iconst (v := 2) zM_X7_image dX7_image_61 (by decide) ?_
        obtain ⟨hk12, h⟩ := h
        refine zw_callI (as := [.ref a0, .int x1, .int 2]) (rest := []) zM_X7_image dX7_image_62 (zx_calV zC_7_198) zM_X7_byteAt rfl rfl rfl rfl rfl (zx_args0 hk12 rfl) rfl h (fun v14 σ13 h => ?_)
        exact zw_reti zM_X7_image dX7_image_65 rfl h
      · replace h := h.2 hs15
        by_cases hs19 : x2 = 2
        · replace h := h.1 hs19
          refine zw_sw (tgt := 66) zM_X7_image dX7_image_16 (zx_sw_in hs19 rfl) rfl ?_
          refine zw_go (pc1 := 67) (L1 := [some (.ref a0), some (.int x1), some (.int x2)]) (st1 := [.ref a0]) (σ1 := σ4) zM_X7_image dX7_image_66 rfl rfl rfl rfl ?_
          refine zw_go (pc1 := 68) (L1 := [some (.ref a0), some (.int x1), some (.int x2)]) (st1 := [.int x1, .ref a0]) (σ1 := σ4) zM_X7_image dX7_image_67 rfl rfl rfl rfl ?_
          obtain ⟨hk16, h⟩ := h
          refine zw_callI (as := [.ref a0, .int x1]) (rest := []) zM_X7_image dX7_image_68 (zx_calV zC_7_207) zM_X7_numbersIn rfl rfl rfl rfl rfl (zx_args0 hk16 rfl) rfl h (fun v18 σ17 h => ?_)
          exact zw_reti zM_X7_image dX7_image_71 rfl h
        · replace h := h.2 hs19
          by_cases hs23 : x2 = 3
          · replace h := h.1 hs23
            refine zw_sw (tgt := 72) zM_X7_image dX7_image_16 (zx_sw_in hs23 rfl) rfl ?_
            refine zw_go (pc1 := 73) (L1 := [some (.ref a0), some (.int x1), some (.int x2)]) (st1 := [.ref a0]) (σ1 := σ4) zM_X7_image dX7_image_72 rfl rfl rfl rfl ?_
            refine zw_go (pc1 := 74) (L1 := [some (.ref a0), some (.int x1), some (.int x2)]) (st1 := [.int x1, .ref a0]) (σ1 := σ4) zM_X7_image dX7_image_73 rfl rfl rfl rfl ?_
            obtain ⟨hk20, h⟩ := h
            refine zw_callI (as := [.ref a0, .int x1]) (rest := []) zM_X7_image dX7_image_74 (zx_calV zC_7_232) zM_X7_tailsIn rfl rfl rfl rfl rfl (zx_args0 hk20 rfl) rfl h (fun v22 σ21 h => ?_)
            exact zw_reti zM_X7_image dX7_image_77 rfl h
          · replace h := h.2 hs23
            by_cases hs27 : x2 = 4
            · replace h := h.1 hs27
              refine zw_sw (tgt := 78) zM_X7_image dX7_image_16 (zx_sw_in hs27 rfl) rfl ?_
              refine zw_go (pc1 := 79) (L1 := [some (.ref a0), some (.int x1), some (.int x2)]) (st1 := [.ref a0]) (σ1 := σ4) zM_X7_image dX7_image_78 rfl rfl rfl rfl ?_
              refine zw_go (pc1 := 80) (L1 := [some (.ref a0), some (.int x1), some (.int x2)]) (st1 := [.int x1, .ref a0]) (σ1 := σ4) zM_X7_image dX7_image_79 rfl rfl rfl rfl ?_
              refine zw_bipush (v := 6) zM_X7_image dX7_image_80 (by decide) ?_
              obtain ⟨hk24, h⟩ := h
              refine zw_callI (as := [.ref a0, .int x1, .int 6]) (rest := []) zM_X7_image dX7_image_82 (zx_calV zC_7_201) zM_X7_word rfl rfl rfl rfl rfl (zx_args0 hk24 rfl) rfl h (fun v26 σ25 h => ?_)
              refine zw_bipush (v := 18) zM_X7_image dX7_image_85 (by decide) ?_
              refine zw_go (pc1 := 88) (L1 := [some (.ref a0), some (.int x1), some (.int x2)]) (st1 := [.int (v26 - 18)]) (σ1 := σ25) zM_X7_image dX7_image_87 rfl rfl rfl rfl ?_
              exact zw_reti zM_X7_image dX7_image_88 rfl h
            · replace h := h.2 hs27
              have n0 := zx_ne (n := 0) hs11 (by decide)
              have n1 := zx_ne (n := 1) hs15 (by decide)
              have n2 := zx_ne (n := 2) hs19 (by decide)
              have n3 := zx_ne (n := 3) hs23 (by decide)
              have n4 := zx_ne (n := 4) hs27 (by decide)
              refine zw_sw (tgt := 89) zM_X7_image dX7_image_16 (zx_sw_out (by omega)) rfl ?_
              refine zw_bipush (v := (-2)) zM_X7_image dX7_image_89 (by decide) ?_
              exact zw_reti zM_X7_image dX7_image_91 rfl h
  · replace h := h.2 q
    refine zw_iconst (v := (-1)) zM_X7_image dX7_image_13 (by decide) ?_
    exact zw_reti zM_X7_image dX7_image_14 rfl h
set_option maxHeartbeats 4000000 in
set_option maxRecDepth 100000 in
theorem vc_X7_in_0 (x0 : Int32) (x1 : Int32) (x2 : Int32) (σ : zx_S) (K : Int32 → zx_S → Prop) (h : ((x0 < x1 → K 0 σ) ∧ (¬ x0 < x1 → ((x2 < x0 → K 0 σ) ∧ (¬ x2 < x0 → K 1 σ))))) : zwI 160 0 [some (.int x0), some (.int x1), some (.int x2)] [] σ K := by
  refine zw_go (pc1 := 1) (L1 := [some (.int x0), some (.int x1), some (.int x2)]) (st1 := [.int x0]) (σ1 := σ) zM_X7_in dX7_in_0 rfl rfl rfl rfl ?_
  refine zw_go (pc1 := 2) (L1 := [some (.int x0), some (.int x1), some (.int x2)]) (st1 := [.int x1, .int x0]) (σ1 := σ) zM_X7_in dX7_in_1 rfl rfl rfl rfl ?_
  refine zw_icmp_lt (tgt := 14) zM_X7_in dX7_in_2 rfl rfl (fun q => ?_) (fun q => ?_)
  · replace h := h.1 q
    refine zw_iconst (v := 0) zM_X7_in dX7_in_14 (by decide) ?_
    exact zw_retz zM_X7_in dX7_in_15 rfl (by decide) h
  · replace h := h.2 q
    refine zw_go (pc1 := 6) (L1 := [some (.int x0), some (.int x1), some (.int x2)]) (st1 := [.int x0]) (σ1 := σ) zM_X7_in dX7_in_5 rfl rfl rfl rfl ?_
    refine zw_go (pc1 := 7) (L1 := [some (.int x0), some (.int x1), some (.int x2)]) (st1 := [.int x2, .int x0]) (σ1 := σ) zM_X7_in dX7_in_6 rfl rfl rfl rfl ?_
    refine zw_icmp_gt (tgt := 14) zM_X7_in dX7_in_7 rfl rfl (fun q => ?_) (fun q => ?_)
    · replace h := h.1 q
      refine zw_iconst (v := 0) zM_X7_in dX7_in_14 (by decide) ?_
      exact zw_retz zM_X7_in dX7_in_15 rfl (by decide) h
    · replace h := h.2 q
      refine zw_iconst (v := 1) zM_X7_in dX7_in_10 (by decide) ?_
      refine zw_goto (tgt := 15) zM_X7_in dX7_in_11 rfl ?_
      exact zw_retz zM_X7_in dX7_in_15 rfl (by decide) h
set_option maxHeartbeats 4000000 in
set_option maxRecDepth 100000 in
theorem vc_X7_init_0 (a0 : Nat) (σ : zx_S) (K : zx_S → Prop) (h : ∀ σ1 : zx_S, σ1 = zx_nw σ 1 (Int32.toNatClampNeg 32) (Int32.toNatClampNeg 32) → zK σ1 a0 = 20 ∧ ∀ σ4 : zx_S, σ4 = zx_pR σ1 a0 2 (some (zn σ)) → ∀ σ6 : zx_S, σ6 = zx_nw σ4 1 (Int32.toNatClampNeg 32) (Int32.toNatClampNeg 32) → zK σ6 a0 = 20 ∧ ∀ σ9 : zx_S, σ9 = zx_pR σ6 a0 3 (some (zn σ4)) → ∀ σ11 : zx_S, σ11 = zx_nw σ9 1 (Int32.toNatClampNeg 32) (Int32.toNatClampNeg 32) → zK σ11 a0 = 20 ∧ ∀ σ14 : zx_S, σ14 = zx_pR σ11 a0 4 (some (zn σ9)) → ∀ σ16 : zx_S, σ16 = zx_nw σ14 1 (Int32.toNatClampNeg 32) (Int32.toNatClampNeg 32) → zK σ16 a0 = 20 ∧ ∀ σ19 : zx_S, σ19 = zx_pR σ16 a0 5 (some (zn σ14)) → ∀ σ21 : zx_S, σ21 = zx_nw σ19 1 (Int32.toNatClampNeg 3200) (Int32.toNatClampNeg 3200) → zK σ21 a0 = 20 ∧ ∀ σ24 : zx_S, σ24 = zx_pR σ21 a0 6 (some (zn σ19)) → ∀ σ26 : zx_S, σ26 = zx_nw σ24 1 (Int32.toNatClampNeg 300) (Int32.toNatClampNeg 300) → zK σ26 a0 = 20 ∧ ∀ σ29 : zx_S, σ29 = zx_pR σ26 a0 8 (some (zn σ24)) → ∀ σ31 : zx_S, σ31 = zx_nw σ29 1 (Int32.toNatClampNeg 300) (Int32.toNatClampNeg 300) → zK σ31 a0 = 20 ∧ ∀ σ34 : zx_S, σ34 = zx_pR σ31 a0 9 (some (zn σ29)) → ∀ σ36 : zx_S, σ36 = zx_nw σ34 1 (Int32.toNatClampNeg 300) (Int32.toNatClampNeg 300) → zK σ36 a0 = 20 ∧ ∀ σ39 : zx_S, σ39 = zx_pR σ36 a0 10 (some (zn σ34)) → ∀ σ41 : zx_S, σ41 = zx_nw σ39 1 (Int32.toNatClampNeg 18000) (Int32.toNatClampNeg 18000) → zK σ41 a0 = 20 ∧ ∀ σ44 : zx_S, σ44 = zx_pR σ41 a0 12 (some (zn σ39)) → ∀ σ46 : zx_S, σ46 = zx_nw σ44 1 (Int32.toNatClampNeg 3) (Int32.toNatClampNeg 3) → zK σ46 a0 = 20 ∧ ∀ σ49 : zx_S, σ49 = zx_pR σ46 a0 13 (some (zn σ44)) → ∀ σ51 : zx_S, σ51 = zx_nw σ49 1 (Int32.toNatClampNeg 32) (Int32.toNatClampNeg 32) → zK σ51 a0 = 20 ∧ ∀ σ54 : zx_S, σ54 = zx_pR σ51 a0 16 (some (zn σ49)) → ∀ σ56 : zx_S, σ56 = zx_nw σ54 1 (Int32.toNatClampNeg 33) (Int32.toNatClampNeg 33) → zK σ56 a0 = 20 ∧ ∀ σ59 : zx_S, σ59 = zx_pR σ56 a0 17 (some (zn σ54)) → ∀ σ61 : zx_S, σ61 = zx_nw σ59 1 (Int32.toNatClampNeg 32) (Int32.toNatClampNeg 32) → zK σ61 a0 = 20 ∧ ∀ σ64 : zx_S, σ64 = zx_pR σ61 a0 20 (some (zn σ59)) → ∀ σ66 : zx_S, σ66 = zx_nw σ64 1 (Int32.toNatClampNeg 80) (Int32.toNatClampNeg 80) → zK σ66 a0 = 20 ∧ ∀ σ69 : zx_S, σ69 = zx_pR σ66 a0 21 (some (zn σ64)) → ∀ σ71 : zx_S, σ71 = zx_nw σ69 1 (Int32.toNatClampNeg 33) (Int32.toNatClampNeg 33) → zK σ71 a0 = 20 ∧ ∀ σ74 : zx_S, σ74 = zx_pR σ71 a0 23 (some (zn σ69)) → ∀ σ76 : zx_S, σ76 = zx_nw σ74 1 (Int32.toNatClampNeg 429) (Int32.toNatClampNeg 429) → zK σ76 a0 = 20 ∧ ∀ σ79 : zx_S, σ79 = zx_pR σ76 a0 24 (some (zn σ74)) → ∀ σ81 : zx_S, σ81 = zx_nw σ79 1 (Int32.toNatClampNeg 33) (Int32.toNatClampNeg 33) → zK σ81 a0 = 20 ∧ ∀ σ84 : zx_S, σ84 = zx_pR σ81 a0 25 (some (zn σ79)) → ∀ σ86 : zx_S, σ86 = zx_nw σ84 1 (Int32.toNatClampNeg 33) (Int32.toNatClampNeg 33) → zK σ86 a0 = 20 ∧ ∀ σ89 : zx_S, σ89 = zx_pR σ86 a0 26 (some (zn σ84)) → ∀ σ91 : zx_S, σ91 = zx_nw σ89 1 (Int32.toNatClampNeg 32) (Int32.toNatClampNeg 32) → zK σ91 a0 = 20 ∧ ∀ σ94 : zx_S, σ94 = zx_pR σ91 a0 28 (some (zn σ89)) → ∀ σ96 : zx_S, σ96 = zx_nw σ94 1 (Int32.toNatClampNeg 1024) (Int32.toNatClampNeg 1024) → zK σ96 a0 = 20 ∧ ∀ σ99 : zx_S, σ99 = zx_pR σ96 a0 29 (some (zn σ94)) → ∀ σ101 : zx_S, σ101 = zx_nw σ99 1 (Int32.toNatClampNeg 32) (Int32.toNatClampNeg 32) → zK σ101 a0 = 20 ∧ ∀ σ104 : zx_S, σ104 = zx_pR σ101 a0 30 (some (zn σ99)) → ∀ σ106 : zx_S, σ106 = zx_nw σ104 1 (Int32.toNatClampNeg 32) (Int32.toNatClampNeg 32) → zK σ106 a0 = 20 ∧ ∀ σ109 : zx_S, σ109 = zx_pR σ106 a0 31 (some (zn σ104)) → ∀ σ111 : zx_S, σ111 = zx_nw σ109 1 (Int32.toNatClampNeg 33) (Int32.toNatClampNeg 33) → zK σ111 a0 = 20 ∧ ∀ σ114 : zx_S, σ114 = zx_pR σ111 a0 32 (some (zn σ109)) → ∀ σ116 : zx_S, σ116 = zx_nw σ114 1 (Int32.toNatClampNeg 4000) (Int32.toNatClampNeg 4000) → zK σ116 a0 = 20 ∧ ∀ σ119 : zx_S, σ119 = zx_pR σ116 a0 33 (some (zn σ114)) → ∀ σ121 : zx_S, σ121 = zx_nw σ119 1 (Int32.toNatClampNeg 3) (Int32.toNatClampNeg 3) → zK σ121 a0 = 20 ∧ ∀ σ124 : zx_S, σ124 = zx_pR σ121 a0 36 (some (zn σ119)) → ∀ σ126 : zx_S, σ126 = zx_nw σ124 1 (Int32.toNatClampNeg 61) (Int32.toNatClampNeg 61) → zK σ126 a0 = 20 ∧ ∀ σ129 : zx_S, σ129 = zx_pR σ126 a0 38 (some (zn σ124)) → ∀ σ131 : zx_S, σ131 = zx_nw σ129 1 (Int32.toNatClampNeg 183) (Int32.toNatClampNeg 183) → zK σ131 a0 = 20 ∧ ∀ σ134 : zx_S, σ134 = zx_pR σ131 a0 39 (some (zn σ129)) → ∀ σ136 : zx_S, σ136 = zx_nw σ134 1 (Int32.toNatClampNeg 183) (Int32.toNatClampNeg 183) → zK σ136 a0 = 20 ∧ ∀ σ139 : zx_S, σ139 = zx_pR σ136 a0 40 (some (zn σ134)) → ∀ σ141 : zx_S, σ141 = zx_pI σ139 a0 1 1 → ∃ b143 : Nat, zR σ141 a0 2 = some b143 ∧ zK σ141 b143 = 1 ∧ zx_in 0 (zN σ141 b143) = true ∧ ∀ σ147 : zx_S, σ147 = zx_pI σ141 b143 (Int32.toNatClampNeg 0) 1 → K σ147) : zwV 161 0 [some (.ref a0)] [] σ K := by
  refine zw_go (pc1 := 1) (L1 := [some (.ref a0)]) (st1 := [.ref a0]) (σ1 := σ) zM_X7_init dX7_init_0 rfl rfl rfl rfl ?_
  refine zw_obj zM_X7_init dX7_init_1 zC_7_1 (by decide) rfl ?_
  refine zw_go (pc1 := 5) (L1 := [some (.ref a0)]) (st1 := [.ref a0]) (σ1 := σ) zM_X7_init dX7_init_4 rfl rfl rfl rfl ?_
  refine zw_bipush (v := 32) zM_X7_init dX7_init_5 (by decide) ?_
  obtain ⟨σ1, e2⟩ : ∃ z9 : zx_S, z9 = zx_nw σ 1 (Int32.toNatClampNeg 32) (Int32.toNatClampNeg 32) := ⟨_, rfl⟩
  replace h := h σ1 e2
  refine zw_newI zM_X7_init dX7_init_7 (by decide) e2 ?_
  obtain ⟨hk3, h⟩ := h
  obtain ⟨σ4, e5⟩ : ∃ z9 : zx_S, z9 = zx_pR σ1 a0 2 (some (zn σ)) := ⟨_, rfl⟩
  replace h := h σ4 e5
  refine zw_putR zM_X7_init dX7_init_9 zF_7_7 rfl rfl (by decide) hk3 e5 ?_
  refine zw_go (pc1 := 13) (L1 := [some (.ref a0)]) (st1 := [.ref a0]) (σ1 := σ4) zM_X7_init dX7_init_12 rfl rfl rfl rfl ?_
  refine zw_bipush (v := 32) zM_X7_init dX7_init_13 (by decide) ?_
  obtain ⟨σ6, e7⟩ : ∃ z9 : zx_S, z9 = zx_nw σ4 1 (Int32.toNatClampNeg 32) (Int32.toNatClampNeg 32) := ⟨_, rfl⟩
  replace h := h σ6 e7
  refine zw_newI zM_X7_init dX7_init_15 (by decide) e7 ?_
  obtain ⟨hk8, h⟩ := h
  obtain ⟨σ9, e10⟩ : ∃ z9 : zx_S, z9 = zx_pR σ6 a0 3 (some (zn σ4)) := ⟨_, rfl⟩
  replace h := h σ9 e10
  refine zw_putR zM_X7_init dX7_init_17 zF_7_13 rfl rfl (by decide) hk8 e10 ?_
  refine zw_go (pc1 := 21) (L1 := [some (.ref a0)]) (st1 := [.ref a0]) (σ1 := σ9) zM_X7_init dX7_init_20 rfl rfl rfl rfl ?_
  refine zw_bipush (v := 32) zM_X7_init dX7_init_21 (by decide) ?_
  obtain ⟨σ11, e12⟩ : ∃ z9 : zx_S, z9 = zx_nw σ9 1 (Int32.toNatClampNeg 32) (Int32.toNatClampNeg 32) := ⟨_, rfl⟩
  replace h := h σ11 e12
  refine zw_newI zM_X7_init dX7_init_23 (by decide) e12 ?_
  obtain ⟨hk13, h⟩ := h
  obtain ⟨σ14, e15⟩ : ∃ z9 : zx_S, z9 = zx_pR σ11 a0 4 (some (zn σ9)) := ⟨_, rfl⟩
  replace h := h σ14 e15
  refine zw_putR zM_X7_init dX7_init_25 zF_7_16 rfl rfl (by decide) hk13 e15 ?_
  refine zw_go (pc1 := 29) (L1 := [some (.ref a0)]) (st1 := [.ref a0]) (σ1 := σ14) zM_X7_init dX7_init_28 rfl rfl rfl rfl ?_
  refine zw_bipush (v := 32) zM_X7_init dX7_init_29 (by decide) ?_
  obtain ⟨σ16, e17⟩ : ∃ z9 : zx_S, z9 = zx_nw σ14 1 (Int32.toNatClampNeg 32) (Int32.toNatClampNeg 32) := ⟨_, rfl⟩
  replace h := h σ16 e17
  refine zw_newI zM_X7_init dX7_init_31 (by decide) e17 ?_
  obtain ⟨hk18, h⟩ := h
  obtain ⟨σ19, e20⟩ : ∃ z9 : zx_S, z9 = zx_pR σ16 a0 5 (some (zn σ14)) := ⟨_, rfl⟩
  replace h := h σ19 e20
  refine zw_putR zM_X7_init dX7_init_33 zF_7_19 rfl rfl (by decide) hk18 e20 ?_
  refine zw_go (pc1 := 37) (L1 := [some (.ref a0)]) (st1 := [.ref a0]) (σ1 := σ19) zM_X7_init dX7_init_36 rfl rfl rfl rfl ?_
  refine zw_sipush (v := 3200) zM_X7_init dX7_init_37 (by decide) ?_
  obtain ⟨σ21, e22⟩ : ∃ z9 : zx_S, z9 = zx_nw σ19 1 (Int32.toNatClampNeg 3200) (Int32.toNatClampNeg 3200) := ⟨_, rfl⟩
  replace h := h σ21 e22
  refine zw_newI zM_X7_init dX7_init_40 (by decide) e22 ?_
  obtain ⟨hk23, h⟩ := h
  obtain ⟨σ24, e25⟩ : ∃ z9 : zx_S, z9 = zx_pR σ21 a0 6 (some (zn σ19)) := ⟨_, rfl⟩
  replace h := h σ24 e25
  refine zw_putR zM_X7_init dX7_init_42 zF_7_22 rfl rfl (by decide) hk23 e25 ?_
  refine zw_go (pc1 := 46) (L1 := [some (.ref a0)]) (st1 := [.ref a0]) (σ1 := σ24) zM_X7_init dX7_init_45 rfl rfl rfl rfl ?_
  refine zw_sipush (v := 300) zM_X7_init dX7_init_46 (by decide) ?_
  obtain ⟨σ26, e27⟩ : ∃ z9 : zx_S, z9 = zx_nw σ24 1 (Int32.toNatClampNeg 300) (Int32.toNatClampNeg 300) := ⟨_, rfl⟩
  replace h := h σ26 e27
  refine zw_newI zM_X7_init dX7_init_49 (by decide) e27 ?_
  obtain ⟨hk28, h⟩ := h
  obtain ⟨σ29, e30⟩ : ∃ z9 : zx_S, z9 = zx_pR σ26 a0 8 (some (zn σ24)) := ⟨_, rfl⟩
  replace h := h σ29 e30
  refine zw_putR zM_X7_init dX7_init_51 zF_7_25 rfl rfl (by decide) hk28 e30 ?_
  refine zw_go (pc1 := 55) (L1 := [some (.ref a0)]) (st1 := [.ref a0]) (σ1 := σ29) zM_X7_init dX7_init_54 rfl rfl rfl rfl ?_
  refine zw_sipush (v := 300) zM_X7_init dX7_init_55 (by decide) ?_
  obtain ⟨σ31, e32⟩ : ∃ z9 : zx_S, z9 = zx_nw σ29 1 (Int32.toNatClampNeg 300) (Int32.toNatClampNeg 300) := ⟨_, rfl⟩
  replace h := h σ31 e32
  refine zw_newI zM_X7_init dX7_init_58 (by decide) e32 ?_
  obtain ⟨hk33, h⟩ := h
  obtain ⟨σ34, e35⟩ : ∃ z9 : zx_S, z9 = zx_pR σ31 a0 9 (some (zn σ29)) := ⟨_, rfl⟩
  replace h := h σ34 e35
  refine zw_putR zM_X7_init dX7_init_60 zF_7_28 rfl rfl (by decide) hk33 e35 ?_
  refine zw_go (pc1 := 64) (L1 := [some (.ref a0)]) (st1 := [.ref a0]) (σ1 := σ34) zM_X7_init dX7_init_63 rfl rfl rfl rfl ?_
  refine zw_sipush (v := 300) zM_X7_init dX7_init_64 (by decide) ?_
  obtain ⟨σ36, e37⟩ : ∃ z9 : zx_S, z9 = zx_nw σ34 1 (Int32.toNatClampNeg 300) (Int32.toNatClampNeg 300) := ⟨_, rfl⟩
  replace h := h σ36 e37
  refine zw_newI zM_X7_init dX7_init_67 (by decide) e37 ?_
  obtain ⟨hk38, h⟩ := h
  obtain ⟨σ39, e40⟩ : ∃ z9 : zx_S, z9 = zx_pR σ36 a0 10 (some (zn σ34)) := ⟨_, rfl⟩
  replace h := h σ39 e40
  refine zw_putR zM_X7_init dX7_init_69 zF_7_31 rfl rfl (by decide) hk38 e40 ?_
  refine zw_go (pc1 := 73) (L1 := [some (.ref a0)]) (st1 := [.ref a0]) (σ1 := σ39) zM_X7_init dX7_init_72 rfl rfl rfl rfl ?_
  refine zw_sipush (v := 18000) zM_X7_init dX7_init_73 (by decide) ?_
  obtain ⟨σ41, e42⟩ : ∃ z9 : zx_S, z9 = zx_nw σ39 1 (Int32.toNatClampNeg 18000) (Int32.toNatClampNeg 18000) := ⟨_, rfl⟩
  replace h := h σ41 e42
  refine zw_newI zM_X7_init dX7_init_76 (by decide) e42 ?_
  obtain ⟨hk43, h⟩ := h
  obtain ⟨σ44, e45⟩ : ∃ z9 : zx_S, z9 = zx_pR σ41 a0 12 (some (zn σ39)) := ⟨_, rfl⟩
  replace h := h σ44 e45
  refine zw_putR zM_X7_init dX7_init_78 zF_7_34 rfl rfl (by decide) hk43 e45 ?_
  refine zw_go (pc1 := 82) (L1 := [some (.ref a0)]) (st1 := [.ref a0]) (σ1 := σ44) zM_X7_init dX7_init_81 rfl rfl rfl rfl ?_
  refine zw_iconst (v := 3) zM_X7_init dX7_init_82 (by decide) ?_
  obtain ⟨σ46, e47⟩ : ∃ z9 : zx_S, z9 = zx_nw σ44 1 (Int32.toNatClampNeg 3) (Int32.toNatClampNeg 3) := ⟨_, rfl⟩
  replace h := h σ46 e47
  refine zw_newI zM_X7_init dX7_init_83 (by decide) e47 ?_
  obtain ⟨hk48, h⟩ := h
  obtain ⟨σ49, e50⟩ : ∃ z9 : zx_S, z9 = zx_pR σ46 a0 13 (some (zn σ44)) := ⟨_, rfl⟩
  replace h := h σ49 e50
  refine zw_putR zM_X7_init dX7_init_85 zF_7_37 rfl rfl (by decide) hk48 e50 ?_
  refine zw_go (pc1 := 89) (L1 := [some (.ref a0)]) (st1 := [.ref a0]) (σ1 := σ49) zM_X7_init dX7_init_88 rfl rfl rfl rfl ?_
  refine zw_bipush (v := 32) zM_X7_init dX7_init_89 (by decide) ?_
  obtain ⟨σ51, e52⟩ : ∃ z9 : zx_S, z9 = zx_nw σ49 1 (Int32.toNatClampNeg 32) (Int32.toNatClampNeg 32) := ⟨_, rfl⟩
  replace h := h σ51 e52
  refine zw_newI zM_X7_init dX7_init_91 (by decide) e52 ?_
  obtain ⟨hk53, h⟩ := h
  obtain ⟨σ54, e55⟩ : ∃ z9 : zx_S, z9 = zx_pR σ51 a0 16 (some (zn σ49)) := ⟨_, rfl⟩
  replace h := h σ54 e55
  refine zw_putR zM_X7_init dX7_init_93 zF_7_40 rfl rfl (by decide) hk53 e55 ?_
  refine zw_go (pc1 := 97) (L1 := [some (.ref a0)]) (st1 := [.ref a0]) (σ1 := σ54) zM_X7_init dX7_init_96 rfl rfl rfl rfl ?_
  refine zw_bipush (v := 33) zM_X7_init dX7_init_97 (by decide) ?_
  obtain ⟨σ56, e57⟩ : ∃ z9 : zx_S, z9 = zx_nw σ54 1 (Int32.toNatClampNeg 33) (Int32.toNatClampNeg 33) := ⟨_, rfl⟩
  replace h := h σ56 e57
  refine zw_newI zM_X7_init dX7_init_99 (by decide) e57 ?_
  obtain ⟨hk58, h⟩ := h
  obtain ⟨σ59, e60⟩ : ∃ z9 : zx_S, z9 = zx_pR σ56 a0 17 (some (zn σ54)) := ⟨_, rfl⟩
  replace h := h σ59 e60
  refine zw_putR zM_X7_init dX7_init_101 zF_7_43 rfl rfl (by decide) hk58 e60 ?_
  refine zw_go (pc1 := 105) (L1 := [some (.ref a0)]) (st1 := [.ref a0]) (σ1 := σ59) zM_X7_init dX7_init_104 rfl rfl rfl rfl ?_
  refine zw_bipush (v := 32) zM_X7_init dX7_init_105 (by decide) ?_
  obtain ⟨σ61, e62⟩ : ∃ z9 : zx_S, z9 = zx_nw σ59 1 (Int32.toNatClampNeg 32) (Int32.toNatClampNeg 32) := ⟨_, rfl⟩
  replace h := h σ61 e62
  refine zw_newI zM_X7_init dX7_init_107 (by decide) e62 ?_
  obtain ⟨hk63, h⟩ := h
  obtain ⟨σ64, e65⟩ : ∃ z9 : zx_S, z9 = zx_pR σ61 a0 20 (some (zn σ59)) := ⟨_, rfl⟩
  replace h := h σ64 e65
  refine zw_putR zM_X7_init dX7_init_109 zF_7_46 rfl rfl (by decide) hk63 e65 ?_
  refine zw_go (pc1 := 113) (L1 := [some (.ref a0)]) (st1 := [.ref a0]) (σ1 := σ64) zM_X7_init dX7_init_112 rfl rfl rfl rfl ?_
  refine zw_bipush (v := 80) zM_X7_init dX7_init_113 (by decide) ?_
  obtain ⟨σ66, e67⟩ : ∃ z9 : zx_S, z9 = zx_nw σ64 1 (Int32.toNatClampNeg 80) (Int32.toNatClampNeg 80) := ⟨_, rfl⟩
  replace h := h σ66 e67
  refine zw_newI zM_X7_init dX7_init_115 (by decide) e67 ?_
  obtain ⟨hk68, h⟩ := h
  obtain ⟨σ69, e70⟩ : ∃ z9 : zx_S, z9 = zx_pR σ66 a0 21 (some (zn σ64)) := ⟨_, rfl⟩
  replace h := h σ69 e70
  refine zw_putR zM_X7_init dX7_init_117 zF_7_49 rfl rfl (by decide) hk68 e70 ?_
  refine zw_go (pc1 := 121) (L1 := [some (.ref a0)]) (st1 := [.ref a0]) (σ1 := σ69) zM_X7_init dX7_init_120 rfl rfl rfl rfl ?_
  refine zw_bipush (v := 33) zM_X7_init dX7_init_121 (by decide) ?_
  obtain ⟨σ71, e72⟩ : ∃ z9 : zx_S, z9 = zx_nw σ69 1 (Int32.toNatClampNeg 33) (Int32.toNatClampNeg 33) := ⟨_, rfl⟩
  replace h := h σ71 e72
  refine zw_newI zM_X7_init dX7_init_123 (by decide) e72 ?_
  obtain ⟨hk73, h⟩ := h
  obtain ⟨σ74, e75⟩ : ∃ z9 : zx_S, z9 = zx_pR σ71 a0 23 (some (zn σ69)) := ⟨_, rfl⟩
  replace h := h σ74 e75
  refine zw_putR zM_X7_init dX7_init_125 zF_7_52 rfl rfl (by decide) hk73 e75 ?_
  refine zw_go (pc1 := 129) (L1 := [some (.ref a0)]) (st1 := [.ref a0]) (σ1 := σ74) zM_X7_init dX7_init_128 rfl rfl rfl rfl ?_
  refine zw_sipush (v := 429) zM_X7_init dX7_init_129 (by decide) ?_
  obtain ⟨σ76, e77⟩ : ∃ z9 : zx_S, z9 = zx_nw σ74 1 (Int32.toNatClampNeg 429) (Int32.toNatClampNeg 429) := ⟨_, rfl⟩
  replace h := h σ76 e77
  refine zw_newI zM_X7_init dX7_init_132 (by decide) e77 ?_
  obtain ⟨hk78, h⟩ := h
  obtain ⟨σ79, e80⟩ : ∃ z9 : zx_S, z9 = zx_pR σ76 a0 24 (some (zn σ74)) := ⟨_, rfl⟩
  replace h := h σ79 e80
  refine zw_putR zM_X7_init dX7_init_134 zF_7_55 rfl rfl (by decide) hk78 e80 ?_
  refine zw_go (pc1 := 138) (L1 := [some (.ref a0)]) (st1 := [.ref a0]) (σ1 := σ79) zM_X7_init dX7_init_137 rfl rfl rfl rfl ?_
  refine zw_bipush (v := 33) zM_X7_init dX7_init_138 (by decide) ?_
  obtain ⟨σ81, e82⟩ : ∃ z9 : zx_S, z9 = zx_nw σ79 1 (Int32.toNatClampNeg 33) (Int32.toNatClampNeg 33) := ⟨_, rfl⟩
  replace h := h σ81 e82
  refine zw_newI zM_X7_init dX7_init_140 (by decide) e82 ?_
  obtain ⟨hk83, h⟩ := h
  obtain ⟨σ84, e85⟩ : ∃ z9 : zx_S, z9 = zx_pR σ81 a0 25 (some (zn σ79)) := ⟨_, rfl⟩
  replace h := h σ84 e85
  refine zw_putR zM_X7_init dX7_init_142 zF_7_58 rfl rfl (by decide) hk83 e85 ?_
  refine zw_go (pc1 := 146) (L1 := [some (.ref a0)]) (st1 := [.ref a0]) (σ1 := σ84) zM_X7_init dX7_init_145 rfl rfl rfl rfl ?_
  refine zw_bipush (v := 33) zM_X7_init dX7_init_146 (by decide) ?_
  obtain ⟨σ86, e87⟩ : ∃ z9 : zx_S, z9 = zx_nw σ84 1 (Int32.toNatClampNeg 33) (Int32.toNatClampNeg 33) := ⟨_, rfl⟩
  replace h := h σ86 e87
  refine zw_newI zM_X7_init dX7_init_148 (by decide) e87 ?_
  obtain ⟨hk88, h⟩ := h
  obtain ⟨σ89, e90⟩ : ∃ z9 : zx_S, z9 = zx_pR σ86 a0 26 (some (zn σ84)) := ⟨_, rfl⟩
  replace h := h σ89 e90
  refine zw_putR zM_X7_init dX7_init_150 zF_7_61 rfl rfl (by decide) hk88 e90 ?_
  refine zw_go (pc1 := 154) (L1 := [some (.ref a0)]) (st1 := [.ref a0]) (σ1 := σ89) zM_X7_init dX7_init_153 rfl rfl rfl rfl ?_
  refine zw_bipush (v := 32) zM_X7_init dX7_init_154 (by decide) ?_
  obtain ⟨σ91, e92⟩ : ∃ z9 : zx_S, z9 = zx_nw σ89 1 (Int32.toNatClampNeg 32) (Int32.toNatClampNeg 32) := ⟨_, rfl⟩
  replace h := h σ91 e92
  refine zw_newI zM_X7_init dX7_init_156 (by decide) e92 ?_
  obtain ⟨hk93, h⟩ := h
  obtain ⟨σ94, e95⟩ : ∃ z9 : zx_S, z9 = zx_pR σ91 a0 28 (some (zn σ89)) := ⟨_, rfl⟩
  replace h := h σ94 e95
  refine zw_putR zM_X7_init dX7_init_158 zF_7_64 rfl rfl (by decide) hk93 e95 ?_
  refine zw_go (pc1 := 162) (L1 := [some (.ref a0)]) (st1 := [.ref a0]) (σ1 := σ94) zM_X7_init dX7_init_161 rfl rfl rfl rfl ?_
  refine zw_sipush (v := 1024) zM_X7_init dX7_init_162 (by decide) ?_
  obtain ⟨σ96, e97⟩ : ∃ z9 : zx_S, z9 = zx_nw σ94 1 (Int32.toNatClampNeg 1024) (Int32.toNatClampNeg 1024) := ⟨_, rfl⟩
  replace h := h σ96 e97
  refine zw_newI zM_X7_init dX7_init_165 (by decide) e97 ?_
  obtain ⟨hk98, h⟩ := h
  obtain ⟨σ99, e100⟩ : ∃ z9 : zx_S, z9 = zx_pR σ96 a0 29 (some (zn σ94)) := ⟨_, rfl⟩
  replace h := h σ99 e100
  refine zw_putR zM_X7_init dX7_init_167 zF_7_67 rfl rfl (by decide) hk98 e100 ?_
  refine zw_go (pc1 := 171) (L1 := [some (.ref a0)]) (st1 := [.ref a0]) (σ1 := σ99) zM_X7_init dX7_init_170 rfl rfl rfl rfl ?_
  refine zw_bipush (v := 32) zM_X7_init dX7_init_171 (by decide) ?_
  obtain ⟨σ101, e102⟩ : ∃ z9 : zx_S, z9 = zx_nw σ99 1 (Int32.toNatClampNeg 32) (Int32.toNatClampNeg 32) := ⟨_, rfl⟩
  replace h := h σ101 e102
  refine zw_newI zM_X7_init dX7_init_173 (by decide) e102 ?_
  obtain ⟨hk103, h⟩ := h
  obtain ⟨σ104, e105⟩ : ∃ z9 : zx_S, z9 = zx_pR σ101 a0 30 (some (zn σ99)) := ⟨_, rfl⟩
  replace h := h σ104 e105
  refine zw_putR zM_X7_init dX7_init_175 zF_7_70 rfl rfl (by decide) hk103 e105 ?_
  refine zw_go (pc1 := 179) (L1 := [some (.ref a0)]) (st1 := [.ref a0]) (σ1 := σ104) zM_X7_init dX7_init_178 rfl rfl rfl rfl ?_
  refine zw_bipush (v := 32) zM_X7_init dX7_init_179 (by decide) ?_
  obtain ⟨σ106, e107⟩ : ∃ z9 : zx_S, z9 = zx_nw σ104 1 (Int32.toNatClampNeg 32) (Int32.toNatClampNeg 32) := ⟨_, rfl⟩
  replace h := h σ106 e107
  refine zw_newI zM_X7_init dX7_init_181 (by decide) e107 ?_
  obtain ⟨hk108, h⟩ := h
  obtain ⟨σ109, e110⟩ : ∃ z9 : zx_S, z9 = zx_pR σ106 a0 31 (some (zn σ104)) := ⟨_, rfl⟩
  replace h := h σ109 e110
  refine zw_putR zM_X7_init dX7_init_183 zF_7_73 rfl rfl (by decide) hk108 e110 ?_
  refine zw_go (pc1 := 187) (L1 := [some (.ref a0)]) (st1 := [.ref a0]) (σ1 := σ109) zM_X7_init dX7_init_186 rfl rfl rfl rfl ?_
  refine zw_bipush (v := 33) zM_X7_init dX7_init_187 (by decide) ?_
  obtain ⟨σ111, e112⟩ : ∃ z9 : zx_S, z9 = zx_nw σ109 1 (Int32.toNatClampNeg 33) (Int32.toNatClampNeg 33) := ⟨_, rfl⟩
  replace h := h σ111 e112
  refine zw_newI zM_X7_init dX7_init_189 (by decide) e112 ?_
  obtain ⟨hk113, h⟩ := h
  obtain ⟨σ114, e115⟩ : ∃ z9 : zx_S, z9 = zx_pR σ111 a0 32 (some (zn σ109)) := ⟨_, rfl⟩
  replace h := h σ114 e115
  refine zw_putR zM_X7_init dX7_init_191 zF_7_76 rfl rfl (by decide) hk113 e115 ?_
  refine zw_go (pc1 := 195) (L1 := [some (.ref a0)]) (st1 := [.ref a0]) (σ1 := σ114) zM_X7_init dX7_init_194 rfl rfl rfl rfl ?_
  refine zw_sipush (v := 4000) zM_X7_init dX7_init_195 (by decide) ?_
  obtain ⟨σ116, e117⟩ : ∃ z9 : zx_S, z9 = zx_nw σ114 1 (Int32.toNatClampNeg 4000) (Int32.toNatClampNeg 4000) := ⟨_, rfl⟩
  replace h := h σ116 e117
  refine zw_newI zM_X7_init dX7_init_198 (by decide) e117 ?_
  obtain ⟨hk118, h⟩ := h
  obtain ⟨σ119, e120⟩ : ∃ z9 : zx_S, z9 = zx_pR σ116 a0 33 (some (zn σ114)) := ⟨_, rfl⟩
  replace h := h σ119 e120
  refine zw_putR zM_X7_init dX7_init_200 zF_7_79 rfl rfl (by decide) hk118 e120 ?_
  refine zw_go (pc1 := 204) (L1 := [some (.ref a0)]) (st1 := [.ref a0]) (σ1 := σ119) zM_X7_init dX7_init_203 rfl rfl rfl rfl ?_
  refine zw_iconst (v := 3) zM_X7_init dX7_init_204 (by decide) ?_
  obtain ⟨σ121, e122⟩ : ∃ z9 : zx_S, z9 = zx_nw σ119 1 (Int32.toNatClampNeg 3) (Int32.toNatClampNeg 3) := ⟨_, rfl⟩
  replace h := h σ121 e122
  refine zw_newI zM_X7_init dX7_init_205 (by decide) e122 ?_
  obtain ⟨hk123, h⟩ := h
  obtain ⟨σ124, e125⟩ : ∃ z9 : zx_S, z9 = zx_pR σ121 a0 36 (some (zn σ119)) := ⟨_, rfl⟩
  replace h := h σ124 e125
  refine zw_putR zM_X7_init dX7_init_207 zF_7_82 rfl rfl (by decide) hk123 e125 ?_
  refine zw_go (pc1 := 211) (L1 := [some (.ref a0)]) (st1 := [.ref a0]) (σ1 := σ124) zM_X7_init dX7_init_210 rfl rfl rfl rfl ?_
  refine zw_bipush (v := 61) zM_X7_init dX7_init_211 (by decide) ?_
  obtain ⟨σ126, e127⟩ : ∃ z9 : zx_S, z9 = zx_nw σ124 1 (Int32.toNatClampNeg 61) (Int32.toNatClampNeg 61) := ⟨_, rfl⟩
  replace h := h σ126 e127
  refine zw_newI zM_X7_init dX7_init_213 (by decide) e127 ?_
  obtain ⟨hk128, h⟩ := h
  obtain ⟨σ129, e130⟩ : ∃ z9 : zx_S, z9 = zx_pR σ126 a0 38 (some (zn σ124)) := ⟨_, rfl⟩
  replace h := h σ129 e130
  refine zw_putR zM_X7_init dX7_init_215 zF_7_85 rfl rfl (by decide) hk128 e130 ?_
  refine zw_go (pc1 := 219) (L1 := [some (.ref a0)]) (st1 := [.ref a0]) (σ1 := σ129) zM_X7_init dX7_init_218 rfl rfl rfl rfl ?_
  refine zw_sipush (v := 183) zM_X7_init dX7_init_219 (by decide) ?_
  obtain ⟨σ131, e132⟩ : ∃ z9 : zx_S, z9 = zx_nw σ129 1 (Int32.toNatClampNeg 183) (Int32.toNatClampNeg 183) := ⟨_, rfl⟩
  replace h := h σ131 e132
  refine zw_newI zM_X7_init dX7_init_222 (by decide) e132 ?_
  obtain ⟨hk133, h⟩ := h
  obtain ⟨σ134, e135⟩ : ∃ z9 : zx_S, z9 = zx_pR σ131 a0 39 (some (zn σ129)) := ⟨_, rfl⟩
  replace h := h σ134 e135
  refine zw_putR zM_X7_init dX7_init_224 zF_7_88 rfl rfl (by decide) hk133 e135 ?_
  refine zw_go (pc1 := 228) (L1 := [some (.ref a0)]) (st1 := [.ref a0]) (σ1 := σ134) zM_X7_init dX7_init_227 rfl rfl rfl rfl ?_
  refine zw_sipush (v := 183) zM_X7_init dX7_init_228 (by decide) ?_
  obtain ⟨σ136, e137⟩ : ∃ z9 : zx_S, z9 = zx_nw σ134 1 (Int32.toNatClampNeg 183) (Int32.toNatClampNeg 183) := ⟨_, rfl⟩
  replace h := h σ136 e137
  refine zw_newI zM_X7_init dX7_init_231 (by decide) e137 ?_
  obtain ⟨hk138, h⟩ := h
  obtain ⟨σ139, e140⟩ : ∃ z9 : zx_S, z9 = zx_pR σ136 a0 40 (some (zn σ134)) := ⟨_, rfl⟩
  replace h := h σ139 e140
  refine zw_putR zM_X7_init dX7_init_233 zF_7_91 rfl rfl (by decide) hk138 e140 ?_
  refine zw_go (pc1 := 237) (L1 := [some (.ref a0)]) (st1 := [.ref a0]) (σ1 := σ139) zM_X7_init dX7_init_236 rfl rfl rfl rfl ?_
  refine zw_iconst (v := 1) zM_X7_init dX7_init_237 (by decide) ?_
  obtain ⟨σ141, e142⟩ : ∃ z9 : zx_S, z9 = zx_pI σ139 a0 1 1 := ⟨_, rfl⟩
  replace h := h σ141 e142
  refine zw_putI zM_X7_init dX7_init_238 zF_7_94 rfl rfl (by rw [e140]; exact hk138) e142 ?_
  refine zw_go (pc1 := 242) (L1 := [some (.ref a0)]) (st1 := [.ref a0]) (σ1 := σ141) zM_X7_init dX7_init_241 rfl rfl rfl rfl ?_
  obtain ⟨b143, hr144, h⟩ := h
  refine zw_getR (a := b143) zM_X7_init dX7_init_242 zF_7_7 rfl (by rw [e142, e140]; exact hk138) hr144 ?_
  refine zw_iconst (v := 0) zM_X7_init dX7_init_245 (by decide) ?_
  refine zw_iconst (v := 1) zM_X7_init dX7_init_246 (by decide) ?_
  obtain ⟨hk145, h⟩ := h
  obtain ⟨hi146, h⟩ := h
  obtain ⟨σ147, e148⟩ : ∃ z9 : zx_S, z9 = zx_pI σ141 b143 (Int32.toNatClampNeg 0) 1 := ⟨_, rfl⟩
  replace h := h σ147 e148
  refine zw_iast zM_X7_init dX7_init_247 ⟨hk145, hi146⟩ e148 ?_
  exact zw_retv zM_X7_init dX7_init_248 rfl h
set_option maxHeartbeats 4000000 in
set_option maxRecDepth 100000 in
theorem vc_X7_inode_0 (a0 : Nat) (x1 : Int32) (x2 : Int32) (σ : zx_S) (K : Int32 → zx_S → Prop) (h : zK σ a0 = 20 ∧ zwI 210 0 [some (.ref a0), some (.int x1), some (.int 6)] [] σ (fun v3 σ2 => zK σ2 a0 = 20 ∧ zwI 210 0 [some (.ref a0), some (.int x1), some (.int 12)] [] σ2 (fun v6 σ5 => zK σ5 a0 = 20 ∧ zwI 210 0 [some (.ref a0), some (.int x1), some (.int ((v6 + (2 * x2)) - 2))] [] σ5 (fun v9 σ8 => K (v3 + v9) σ8)))) : zwI 162 0 [some (.ref a0), some (.int x1), some (.int x2)] [] σ K := by
  refine zw_go (pc1 := 1) (L1 := [some (.ref a0), some (.int x1), some (.int x2)]) (st1 := [.ref a0]) (σ1 := σ) zM_X7_inode dX7_inode_0 rfl rfl rfl rfl ?_
  refine zw_go (pc1 := 2) (L1 := [some (.ref a0), some (.int x1), some (.int x2)]) (st1 := [.int x1, .ref a0]) (σ1 := σ) zM_X7_inode dX7_inode_1 rfl rfl rfl rfl ?_
  refine zw_bipush (v := 6) zM_X7_inode dX7_inode_2 (by decide) ?_
  obtain ⟨hk1, h⟩ := h
  refine zw_callI (as := [.ref a0, .int x1, .int 6]) (rest := []) zM_X7_inode dX7_inode_4 (zx_calV zC_7_201) zM_X7_word rfl rfl rfl rfl rfl (zx_args0 hk1 rfl) rfl h (fun v3 σ2 h => ?_)
  refine zw_go (pc1 := 8) (L1 := [some (.ref a0), some (.int x1), some (.int x2)]) (st1 := [.ref a0, .int v3]) (σ1 := σ2) zM_X7_inode dX7_inode_7 rfl rfl rfl rfl ?_
  refine zw_go (pc1 := 9) (L1 := [some (.ref a0), some (.int x1), some (.int x2)]) (st1 := [.int x1, .ref a0, .int v3]) (σ1 := σ2) zM_X7_inode dX7_inode_8 rfl rfl rfl rfl ?_
  refine zw_go (pc1 := 10) (L1 := [some (.ref a0), some (.int x1), some (.int x2)]) (st1 := [.ref a0, .int x1, .ref a0, .int v3]) (σ1 := σ2) zM_X7_inode dX7_inode_9 rfl rfl rfl rfl ?_
  refine zw_go (pc1 := 11) (L1 := [some (.ref a0), some (.int x1), some (.int x2)]) (st1 := [.int x1, .ref a0, .int x1, .ref a0, .int v3]) (σ1 := σ2) zM_X7_inode dX7_inode_10 rfl rfl rfl rfl ?_
  refine zw_bipush (v := 12) zM_X7_inode dX7_inode_11 (by decide) ?_
  obtain ⟨hk4, h⟩ := h
  refine zw_callI (as := [.ref a0, .int x1, .int 12]) (rest := [.int x1, .ref a0, .int v3]) zM_X7_inode dX7_inode_13 (zx_calV zC_7_201) zM_X7_word rfl rfl rfl rfl rfl (zx_args0 hk4 rfl) rfl h (fun v6 σ5 h => ?_)
  refine zw_iconst (v := 2) zM_X7_inode dX7_inode_16 (by decide) ?_
  refine zw_go (pc1 := 18) (L1 := [some (.ref a0), some (.int x1), some (.int x2)]) (st1 := [.int x2, .int 2, .int v6, .int x1, .ref a0, .int v3]) (σ1 := σ5) zM_X7_inode dX7_inode_17 rfl rfl rfl rfl ?_
  refine zw_go (pc1 := 19) (L1 := [some (.ref a0), some (.int x1), some (.int x2)]) (st1 := [.int (2 * x2), .int v6, .int x1, .ref a0, .int v3]) (σ1 := σ5) zM_X7_inode dX7_inode_18 rfl rfl rfl rfl ?_
  refine zw_go (pc1 := 20) (L1 := [some (.ref a0), some (.int x1), some (.int x2)]) (st1 := [.int (v6 + (2 * x2)), .int x1, .ref a0, .int v3]) (σ1 := σ5) zM_X7_inode dX7_inode_19 rfl rfl rfl rfl ?_
  refine zw_iconst (v := 2) zM_X7_inode dX7_inode_20 (by decide) ?_
  refine zw_go (pc1 := 22) (L1 := [some (.ref a0), some (.int x1), some (.int x2)]) (st1 := [.int ((v6 + (2 * x2)) - 2), .int x1, .ref a0, .int v3]) (σ1 := σ5) zM_X7_inode dX7_inode_21 rfl rfl rfl rfl ?_
  obtain ⟨hk7, h⟩ := h
  refine zw_callI (as := [.ref a0, .int x1, .int ((v6 + (2 * x2)) - 2)]) (rest := [.int v3]) zM_X7_inode dX7_inode_22 (zx_calV zC_7_201) zM_X7_word rfl rfl rfl rfl rfl (zx_args0 hk7 rfl) rfl h (fun v9 σ8 h => ?_)
  refine zw_go (pc1 := 26) (L1 := [some (.ref a0), some (.int x1), some (.int x2)]) (st1 := [.int (v3 + v9)]) (σ1 := σ8) zM_X7_inode dX7_inode_25 rfl rfl rfl rfl ?_
  exact zw_reti zM_X7_inode dX7_inode_26 rfl h
