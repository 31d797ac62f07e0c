set_option maxHeartbeats 4000000 in
set_option maxRecDepth 100000 in
theorem vc_X1_blockByte_0 (a0 : Nat) (x1 : Int32) (x2 : Int32) (x3 : Int32) (σ : zx_S) (K : Int32 → zx_S → Prop) (h : ((¬ x2 = (0 : Int32) → ((x2 < (32768 : Int32) → zK σ a0 = 14 ∧ zwI 33 0 [some (.ref a0), some (.int x1), some (.int x2), some (.int x3), none, none, none, none] [] σ (fun v3 σ2 => K v3 σ2)) ∧ (¬ x2 < (32768 : Int32) → zK σ a0 = 14 ∧ zwI 21 0 [some (.ref a0), some (.int (x1 + x3))] [] σ (fun v6 σ5 => K v6 σ5)))) ∧ (x2 = (0 : Int32) → K 0 σ))) : zwI 20 0 [some (.ref a0), some (.int x1), some (.int x2), some (.int x3)] [] σ K := by
  refine zw_go (pc1 := 1) (L1 := [some (.ref a0), some (.int x1), some (.int x2), some (.int x3)]) (st1 := [.int x2]) (σ1 := σ) zM_X1_blockByte dX1_blockByte_0 rfl rfl rfl rfl ?_
  refine zw_if_ne (tgt := 6) zM_X1_blockByte dX1_blockByte_1 rfl rfl (fun q => ?_) (fun q => ?_)
  · replace h := h.1 q
    refine zw_go (pc1 := 7) (L1 := [some (.ref a0), some (.int x1), some (.int x2), some (.int x3)]) (st1 := [.int x2]) (σ1 := σ) zM_X1_blockByte dX1_blockByte_6 rfl rfl rfl rfl ?_
    refine zw_ldc (v := 32768) zM_X1_blockByte dX1_blockByte_7 zK_1_90 ?_
    refine zw_icmp_lt (tgt := 22) zM_X1_blockByte dX1_blockByte_9 rfl rfl (fun q => ?_) (fun q => ?_)
    · replace h := h.1 q
      refine zw_go (pc1 := 23) (L1 := [some (.ref a0), some (.int x1), some (.int x2), some (.int x3)]) (st1 := [.ref a0]) (σ1 := σ) zM_X1_blockByte dX1_blockByte_22 rfl rfl rfl rfl ?_
      refine zw_go (pc1 := 24) (L1 := [some (.ref a0), some (.int x1), some (.int x2), some (.int x3)]) (st1 := [.int x1, .ref a0]) (σ1 := σ) zM_X1_blockByte dX1_blockByte_23 rfl rfl rfl rfl ?_
      refine zw_go (pc1 := 25) (L1 := [some (.ref a0), some (.int x1), some (.int x2), some (.int x3)]) (st1 := [.int x2, .int x1, .ref a0]) (σ1 := σ) zM_X1_blockByte dX1_blockByte_24 rfl rfl rfl rfl ?_
      refine zw_go (pc1 := 26) (L1 := [some (.ref a0), some (.int x1), some (.int x2), some (.int x3)]) (st1 := [.int x3, .int x2, .int x1, .ref a0]) (σ1 := σ) zM_X1_blockByte dX1_blockByte_25 rfl rfl rfl rfl ?_
      obtain ⟨hk1, h⟩ := h
      refine zw_callI (as := [.ref a0, .int x1, .int x2, .int x3]) (rest := []) zM_X1_blockByte dX1_blockByte_26 (zx_calV zC_1_94) zM_X1_openedByte rfl rfl rfl rfl rfl (zx_args0 hk1 rfl) rfl h (fun v3 σ2 h => ?_)
      exact zw_reti zM_X1_blockByte dX1_blockByte_29 rfl h
    · replace h := h.2 q
      refine zw_go (pc1 := 13) (L1 := [some (.ref a0), some (.int x1), some (.int x2), some (.int x3)]) (st1 := [.ref a0]) (σ1 := σ) zM_X1_blockByte dX1_blockByte_12 rfl rfl rfl rfl ?_
      refine zw_go (pc1 := 14) (L1 := [some (.ref a0), some (.int x1), some (.int x2), some (.int x3)]) (st1 := [.int x1, .ref a0]) (σ1 := σ) zM_X1_blockByte dX1_blockByte_13 rfl rfl rfl rfl ?_
      refine zw_go (pc1 := 15) (L1 := [some (.ref a0), some (.int x1), some (.int x2), some (.int x3)]) (st1 := [.int x3, .int x1, .ref a0]) (σ1 := σ) zM_X1_blockByte dX1_blockByte_14 rfl rfl rfl rfl ?_
      refine zw_go (pc1 := 16) (L1 := [some (.ref a0), some (.int x1), some (.int x2), some (.int x3)]) (st1 := [.int (x1 + x3), .ref a0]) (σ1 := σ) zM_X1_blockByte dX1_blockByte_15 rfl rfl rfl rfl ?_
      obtain ⟨hk4, h⟩ := h
      refine zw_callI (as := [.ref a0, .int (x1 + x3)]) (rest := []) zM_X1_blockByte dX1_blockByte_16 (zx_calV zC_1_41) zM_X1_byteAt rfl rfl rfl rfl rfl (zx_args0 hk4 rfl) rfl h (fun v6 σ5 h => ?_)
      refine zw_goto (tgt := 29) zM_X1_blockByte dX1_blockByte_19 rfl ?_
      exact zw_reti zM_X1_blockByte dX1_blockByte_29 rfl h
  · replace h := h.2 q
    refine zw_iconst (v := 0) zM_X1_blockByte dX1_blockByte_4 (by decide) ?_
    exact zw_reti zM_X1_blockByte dX1_blockByte_5 rfl h
set_option maxHeartbeats 4000000 in
set_option maxRecDepth 100000 in
theorem vc_X1_byteAt_0 (a0 : Nat) (x1 : Int32) (σ : zx_S) (K : Int32 → zx_S → Prop) (h : ((x1 < (0 : Int32) → K 0 σ) ∧ (¬ x1 < (0 : Int32) → zK σ a0 = 14 ∧ ((x1 < (zI σ a0 1) → ∃ b2 : Nat, zR σ a0 0 = some b2 ∧ zK σ b2 = 1 ∧ zx_in x1 (zN σ b2) = true ∧ K (zI σ b2 (Int32.toNatClampNeg x1)) σ) ∧ (¬ x1 < (zI σ a0 1) → K 0 σ))))) : zwI 21 0 [some (.ref a0), some (.int x1)] [] σ K := by
  refine zw_go (pc1 := 1) (L1 := [some (.ref a0), some (.int x1)]) (st1 := [.int x1]) (σ1 := σ) zM_X1_byteAt dX1_byteAt_0 rfl rfl rfl rfl ?_
  refine zw_if_lt (tgt := 12) zM_X1_byteAt dX1_byteAt_1 rfl rfl (fun q => ?_) (fun q => ?_)
  · replace h := h.1 q
    refine zw_iconst (v := 0) zM_X1_byteAt dX1_byteAt_12 (by decide) ?_
    refine zw_goto (tgt := 22) zM_X1_byteAt dX1_byteAt_13 rfl ?_
    exact zw_reti zM_X1_byteAt dX1_byteAt_22 rfl h
  · replace h := h.2 q
    refine zw_go (pc1 := 5) (L1 := [some (.ref a0), some (.int x1)]) (st1 := [.int x1]) (σ1 := σ) zM_X1_byteAt dX1_byteAt_4 rfl rfl rfl rfl ?_
    refine zw_go (pc1 := 6) (L1 := [some (.ref a0), some (.int x1)]) (st1 := [.ref a0, .int x1]) (σ1 := σ) zM_X1_byteAt dX1_byteAt_5 rfl rfl rfl rfl ?_
    obtain ⟨hk1, h⟩ := h
    refine zw_getI zM_X1_byteAt dX1_byteAt_6 zF_1_15 rfl hk1 ?_
    refine zw_icmp_lt (tgt := 16) zM_X1_byteAt dX1_byteAt_9 rfl rfl (fun q => ?_) (fun q => ?_)
    · replace h := h.1 q
      refine zw_go (pc1 := 17) (L1 := [some (.ref a0), some (.int x1)]) (st1 := [.ref a0]) (σ1 := σ) zM_X1_byteAt dX1_byteAt_16 rfl rfl rfl rfl ?_
      obtain ⟨b2, hr3, h⟩ := h
      refine zw_getR (a := b2) zM_X1_byteAt dX1_byteAt_17 zF_1_9 rfl hk1 hr3 ?_
      refine zw_go (pc1 := 21) (L1 := [some (.ref a0), some (.int x1)]) (st1 := [.int x1, .ref b2]) (σ1 := σ) zM_X1_byteAt dX1_byteAt_20 rfl rfl rfl rfl ?_
      obtain ⟨hk4, h⟩ := h
      obtain ⟨hi5, h⟩ := h
      refine zw_iald zM_X1_byteAt dX1_byteAt_21 ⟨Or.inl hk4, hi5⟩ ?_
      exact zw_reti zM_X1_byteAt dX1_byteAt_22 rfl h
    · replace h := h.2 q
      refine zw_iconst (v := 0) zM_X1_byteAt dX1_byteAt_12 (by decide) ?_
      refine zw_goto (tgt := 22) zM_X1_byteAt dX1_byteAt_13 rfl ?_
      exact zw_reti zM_X1_byteAt dX1_byteAt_22 rfl h
set_option maxHeartbeats 4000000 in
set_option maxRecDepth 100000 in
theorem vc_X1_canBeBlock_0 (a0 : Nat) (x1 : Int32) (x2 : Int32) (x3 : Int32) (σ : zx_S) (K : Int32 → zx_S → Prop) (h : ((¬ x2 = (0 : Int32) → ((x1 < (18 : Int32) → K 0 σ) ∧ (¬ x1 < (18 : Int32) → zwI 45 0 [some (.int x2)] [] σ (fun v2 σ1 => zK σ1 a0 = 14 ∧ (((x1 + v2) ≤ (zI σ1 a0 4) → ((x2 < (32768 : Int32) → zwI 34 0 [some (.ref a0), some (.int x1), some (.int x2), none, none, none, none] [] σ1 (fun v5 σ4 => ((¬ v5 = x3 → K 0 σ4) ∧ (v5 = x3 → K 1 σ4)))) ∧ (¬ x2 < (32768 : Int32) → ((¬ x2 = (32768 + x3) → K 0 σ1) ∧ (x2 = (32768 + x3) → K 1 σ1))))) ∧ (¬ (x1 + v2) ≤ (zI σ1 a0 4) → K 0 σ1)))))) ∧ (x2 = (0 : Int32) → K 1 σ))) : zwI 22 0 [some (.ref a0), some (.int x1), some (.int x2), some (.int x3)] [] σ K := by
  refine zw_go (pc1 := 1) (L1 := [some (.ref a0), some (.int x1), some (.int x2), some (.int x3)]) (st1 := [.int x2]) (σ1 := σ) zM_X1_canBeBlock dX1_canBeBlock_0 rfl rfl rfl rfl ?_
  refine zw_if_ne (tgt := 6) zM_X1_canBeBlock dX1_canBeBlock_1 rfl rfl (fun q => ?_) (fun q => ?_)
  · replace h := h.1 q
    refine zw_go (pc1 := 7) (L1 := [some (.ref a0), some (.int x1), some (.int x2), some (.int x3)]) (st1 := [.int x1]) (σ1 := σ) zM_X1_canBeBlock dX1_canBeBlock_6 rfl rfl rfl rfl ?_
    refine zw_bipush (v := 18) zM_X1_canBeBlock dX1_canBeBlock_7 (by decide) ?_
    refine zw_icmp_lt (tgt := 25) zM_X1_canBeBlock dX1_canBeBlock_9 rfl rfl (fun q => ?_) (fun q => ?_)
    · replace h := h.1 q
      refine zw_iconst (v := 0) zM_X1_canBeBlock dX1_canBeBlock_25 (by decide) ?_
      exact zw_retz zM_X1_canBeBlock dX1_canBeBlock_26 rfl (by decide) h
    · replace h := h.2 q
      refine zw_go (pc1 := 13) (L1 := [some (.ref a0), some (.int x1), some (.int x2), some (.int x3)]) (st1 := [.int x1]) (σ1 := σ) zM_X1_canBeBlock dX1_canBeBlock_12 rfl rfl rfl rfl ?_
      refine zw_go (pc1 := 14) (L1 := [some (.ref a0), some (.int x1), some (.int x2), some (.int x3)]) (st1 := [.int x2, .int x1]) (σ1 := σ) zM_X1_canBeBlock dX1_canBeBlock_13 rfl rfl rfl rfl ?_
      refine zw_callI (as := [.int x2]) (rest := [.int x1]) zM_X1_canBeBlock dX1_canBeBlock_14 (zx_calS zC_1_87) zM_X1_storedBytes rfl rfl rfl rfl rfl rfl rfl h (fun v2 σ1 h => ?_)
      refine zw_go (pc1 := 18) (L1 := [some (.ref a0), some (.int x1), some (.int x2), some (.int x3)]) (st1 := [.int (x1 + v2)]) (σ1 := σ1) zM_X1_canBeBlock dX1_canBeBlock_17 rfl rfl rfl rfl ?_
      refine zw_go (pc1 := 19) (L1 := [some (.ref a0), some (.int x1), some (.int x2), some (.int x3)]) (st1 := [.ref a0, .int (x1 + v2)]) (σ1 := σ1) zM_X1_canBeBlock dX1_canBeBlock_18 rfl rfl rfl rfl ?_
      obtain ⟨hk3, h⟩ := h
      refine zw_getI zM_X1_canBeBlock dX1_canBeBlock_19 zF_1_54 rfl hk3 ?_
      refine zw_icmp_le (tgt := 27) zM_X1_canBeBlock dX1_canBeBlock_22 rfl rfl (fun q => ?_) (fun q => ?_)
      · replace h := h.1 q
        refine zw_go (pc1 := 28) (L1 := [some (.ref a0), some (.int x1), some (.int x2), some (.int x3)]) (st1 := [.int x2]) (σ1 := σ1) zM_X1_canBeBlock dX1_canBeBlock_27 rfl rfl rfl rfl ?_
        refine zw_ldc (v := 32768) zM_X1_canBeBlock dX1_canBeBlock_28 zK_1_90 ?_
        refine zw_icmp_lt (tgt := 49) zM_X1_canBeBlock dX1_canBeBlock_30 rfl rfl (fun q => ?_) (fun q => ?_)
        · replace h := h.1 q
          refine zw_go (pc1 := 50) (L1 := [some (.ref a0), some (.int x1), some (.int x2), some (.int x3)]) (st1 := [.ref a0]) (σ1 := σ1) zM_X1_canBeBlock dX1_canBeBlock_49 rfl rfl rfl rfl ?_
          refine zw_go (pc1 := 51) (L1 := [some (.ref a0), some (.int x1), some (.int x2), some (.int x3)]) (st1 := [.int x1, .ref a0]) (σ1 := σ1) zM_X1_canBeBlock dX1_canBeBlock_50 rfl rfl rfl rfl ?_
          refine zw_go (pc1 := 52) (L1 := [some (.ref a0), some (.int x1), some (.int x2), some (.int x3)]) (st1 := [.int x2, .int x1, .ref a0]) (σ1 := σ1) zM_X1_canBeBlock dX1_canBeBlock_51 rfl rfl rfl rfl ?_
          refine zw_callI (as := [.ref a0, .int x1, .int x2]) (rest := []) zM_X1_canBeBlock dX1_canBeBlock_52 (zx_calV zC_1_91) zM_X1_openedBytes rfl rfl rfl rfl rfl (zx_args0 hk3 rfl) rfl h (fun v5 σ4 h => ?_)
          refine zw_go (pc1 := 56) (L1 := [some (.ref a0), some (.int x1), some (.int x2), some (.int x3)]) (st1 := [.int x3, .int v5]) (σ1 := σ4) zM_X1_canBeBlock dX1_canBeBlock_55 rfl rfl rfl rfl ?_
          refine zw_icmp_ne (tgt := 63) zM_X1_canBeBlock dX1_canBeBlock_56 rfl rfl (fun q => ?_) (fun q => ?_)
          · replace h := h.1 q
            refine zw_iconst (v := 0) zM_X1_canBeBlock dX1_canBeBlock_63 (by decide) ?_
            exact zw_retz zM_X1_canBeBlock dX1_canBeBlock_64 rfl (by decide) h
          · replace h := h.2 q
            refine zw_iconst (v := 1) zM_X1_canBeBlock dX1_canBeBlock_59 (by decide) ?_
            refine zw_goto (tgt := 64) zM_X1_canBeBlock dX1_canBeBlock_60 rfl ?_
            exact zw_retz zM_X1_canBeBlock dX1_canBeBlock_64 rfl (by decide) h
        · replace h := h.2 q
          refine zw_go (pc1 := 34) (L1 := [some (.ref a0), some (.int x1), some (.int x2), some (.int x3)]) (st1 := [.int x2]) (σ1 := σ1) zM_X1_canBeBlock dX1_canBeBlock_33 rfl rfl rfl rfl ?_
          refine zw_ldc (v := 32768) zM_X1_canBeBlock dX1_canBeBlock_34 zK_1_90 ?_
          refine zw_go (pc1 := 37) (L1 := [some (.ref a0), some (.int x1), some (.int x2), some (.int x3)]) (st1 := [.int x3, .int 32768, .int x2]) (σ1 := σ1) zM_X1_canBeBlock dX1_canBeBlock_36 rfl rfl rfl rfl ?_
          refine zw_go (pc1 := 38) (L1 := [some (.ref a0), some (.int x1), some (.int x2), some (.int x3)]) (st1 := [.int (32768 + x3), .int x2]) (σ1 := σ1) zM_X1_canBeBlock dX1_canBeBlock_37 rfl rfl rfl rfl ?_
          refine zw_icmp_ne (tgt := 45) zM_X1_canBeBlock dX1_canBeBlock_38 rfl rfl (fun q => ?_) (fun q => ?_)
          · replace h := h.1 q
            refine zw_iconst (v := 0) zM_X1_canBeBlock dX1_canBeBlock_45 (by decide) ?_
            refine zw_goto (tgt := 64) zM_X1_canBeBlock dX1_canBeBlock_46 rfl ?_
            exact zw_retz zM_X1_canBeBlock dX1_canBeBlock_64 rfl (by decide) h
          · replace h := h.2 q
            refine zw_iconst (v := 1) zM_X1_canBeBlock dX1_canBeBlock_41 (by decide) ?_
            refine zw_goto (tgt := 64) zM_X1_canBeBlock dX1_canBeBlock_42 rfl ?_
            exact zw_retz zM_X1_canBeBlock dX1_canBeBlock_64 rfl (by decide) h
      · replace h := h.2 q
        refine zw_iconst (v := 0) zM_X1_canBeBlock dX1_canBeBlock_25 (by decide) ?_
        exact zw_retz zM_X1_canBeBlock dX1_canBeBlock_26 rfl (by decide) h
  · replace h := h.2 q
    refine zw_iconst (v := 1) zM_X1_canBeBlock dX1_canBeBlock_4 (by decide) ?_
    exact zw_retz zM_X1_canBeBlock dX1_canBeBlock_5 rfl (by decide) h
set_option maxHeartbeats 4000000 in
set_option maxRecDepth 100000 in
theorem vc_X1_copyFrom_0 (a0 : Nat) (a1 : Nat) (σ : zx_S) (K : zx_S → Prop) (h : zK σ a1 = 14 ∧ zK σ a0 = 14 ∧ ∃ b3 : Nat, zR σ a0 0 = some b3 ∧ zK σ b3 = 1 ∧ ∀ σ6 : zx_S, σ6 = zx_pI σ a0 1 (if (Int32.ofNat (zN σ b3)) < (zI σ a1 1) then (Int32.ofNat (zN σ b3)) else (zI σ a1 1)) → ∃ b8 : Nat, zR σ6 a1 0 = some b8 ∧ (zK σ6 b8 = 1 ∧ zK σ6 b3 = 1 ∧ ¬ (0 : Int32) < 0 ∧ ¬ (0 : Int32) < 0 ∧ ¬ (zI σ6 a0 1) < 0 ∧ (Int32.toNatClampNeg 0) + (Int32.toNatClampNeg (zI σ6 a0 1)) ≤ zN σ6 b8 ∧ (Int32.toNatClampNeg 0) + (Int32.toNatClampNeg (zI σ6 a0 1)) ≤ zN σ6 b3) ∧ ∀ σ11 : zx_S, σ11 = zx_pA σ6 b3 (va_cpy (zI σ6 b8) (zI σ6 b3) (Int32.toNatClampNeg 0) (Int32.toNatClampNeg 0) (Int32.toNatClampNeg (zI σ6 a0 1))) → zwV 41 0 [some (.ref a0)] [] σ11 (fun σ13 => K σ13)) : zwV 23 0 [some (.ref a0), some (.ref a1)] [] σ K := by
  refine zw_go (pc1 := 1) (L1 := [some (.ref a0), some (.ref a1)]) (st1 := [.ref a0]) (σ1 := σ) zM_X1_copyFrom dX1_copyFrom_0 rfl rfl rfl rfl ?_
  refine zw_go (pc1 := 2) (L1 := [some (.ref a0), some (.ref a1)]) (st1 := [.ref a1, .ref a0]) (σ1 := σ) zM_X1_copyFrom dX1_copyFrom_1 rfl rfl rfl rfl ?_
  obtain ⟨hk1, h⟩ := h
  refine zw_getI zM_X1_copyFrom dX1_copyFrom_2 zF_1_15 rfl hk1 ?_
  refine zw_go (pc1 := 6) (L1 := [some (.ref a0), some (.ref a1)]) (st1 := [.ref a0, .int (zI σ a1 1), .ref a0]) (σ1 := σ) zM_X1_copyFrom dX1_copyFrom_5 rfl rfl rfl rfl ?_
  obtain ⟨hk2, h⟩ := h
  obtain ⟨b3, hr4, h⟩ := h
  refine zw_getR (a := b3) zM_X1_copyFrom dX1_copyFrom_6 zF_1_9 rfl hk2 hr4 ?_
  obtain ⟨hk5, h⟩ := h
  refine zw_alen zM_X1_copyFrom dX1_copyFrom_9 (Or.inl hk5) ?_
  refine zw_min zM_X1_copyFrom dX1_copyFrom_10 zC_1_26 (by decide) rfl ?_
  obtain ⟨σ6, e7⟩ : ∃ z9 : zx_S, z9 = zx_pI σ a0 1 (if (Int32.ofNat (zN σ b3)) < (zI σ a1 1) then (Int32.ofNat (zN σ b3)) else (zI σ a1 1)) := ⟨_, rfl⟩
  replace h := h σ6 e7
  refine zw_putI zM_X1_copyFrom dX1_copyFrom_13 zF_1_15 rfl rfl hk2 e7 ?_
  refine zw_go (pc1 := 17) (L1 := [some (.ref a0), some (.ref a1)]) (st1 := [.ref a1]) (σ1 := σ6) zM_X1_copyFrom dX1_copyFrom_16 rfl rfl rfl rfl ?_
  obtain ⟨b8, hr9, h⟩ := h
  refine zw_getR (a := b8) zM_X1_copyFrom dX1_copyFrom_17 zF_1_9 rfl (by rw [e7]; exact hk1) hr9 ?_
  refine zw_iconst (v := 0) zM_X1_copyFrom dX1_copyFrom_20 (by decide) ?_
  refine zw_go (pc1 := 22) (L1 := [some (.ref a0), some (.ref a1)]) (st1 := [.ref a0, .int 0, .ref b8]) (σ1 := σ6) zM_X1_copyFrom dX1_copyFrom_21 rfl rfl rfl rfl ?_
  refine zw_getR (a := b3) zM_X1_copyFrom dX1_copyFrom_22 zF_1_9 rfl (by rw [e7]; exact hk2) (by rw [e7]; exact hr4) ?_
  refine zw_iconst (v := 0) zM_X1_copyFrom dX1_copyFrom_25 (by decide) ?_
  refine zw_go (pc1 := 27) (L1 := [some (.ref a0), some (.ref a1)]) (st1 := [.ref a0, .int 0, .ref b3, .int 0, .ref b8]) (σ1 := σ6) zM_X1_copyFrom dX1_copyFrom_26 rfl rfl rfl rfl ?_
  refine zw_getI zM_X1_copyFrom dX1_copyFrom_27 zF_1_15 rfl (by rw [e7]; exact hk2) ?_
  obtain ⟨hc10, h⟩ := h
  obtain ⟨σ11, e12⟩ : ∃ z9 : zx_S, z9 = zx_pA σ6 b3 (va_cpy (zI σ6 b8) (zI σ6 b3) (Int32.toNatClampNeg 0) (Int32.toNatClampNeg 0) (Int32.toNatClampNeg (zI σ6 a0 1))) := ⟨_, rfl⟩
  replace h := h σ11 e12
  refine zw_cpy zM_X1_copyFrom dX1_copyFrom_30 zC_1_32 (by decide) rfl hc10 e12 ?_
  refine zw_go (pc1 := 34) (L1 := [some (.ref a0), some (.ref a1)]) (st1 := [.ref a0]) (σ1 := σ11) zM_X1_copyFrom dX1_copyFrom_33 rfl rfl rfl rfl ?_
  refine zw_callV (as := [.ref a0]) (rest := []) zM_X1_copyFrom dX1_copyFrom_34 (zx_calV zC_1_38) zM_X1_readHead rfl rfl rfl rfl rfl (zx_args0 (by rw [e12, e7]; exact hk2) rfl) rfl h (fun σ13 h => ?_)
  exact zw_retv zM_X1_copyFrom dX1_copyFrom_37 rfl h
set_option maxHeartbeats 4000000 in
set_option maxRecDepth 100000 in
theorem vc_X1_fileByte_0 (a0 : Nat) (x1 : Int32) (x2 : Int32) (σ : zx_S) (K : Int32 → zx_S → Prop) (h : zK σ a0 = 14 ∧ zwI 42 0 [some (.ref a0), some (.int x1)] [] σ (fun v3 σ2 => zK σ2 a0 = 14 ∧ zwI 50 0 [some (.ref a0), some (.int x2)] [] σ2 (fun v6 σ5 => zK σ5 a0 = 14 ∧ zwI 51 0 [some (.ref a0), some (.int (v3 + 6))] [] σ5 (fun v9 σ8 => zK σ8 a0 = 14 ∧ zwI 50 0 [some (.ref a0), some (.int v9)] [] σ8 (fun v12 σ11 => ((v6 < v12 → zK σ11 a0 = 14 ∧ zwI 51 0 [some (.ref a0), some (.int (v3 + 8))] [] σ11 (fun v15 σ14 => zwI 24 100 [some (.ref a0), none, none, some (.int v3), some (.int v6), some (.int (x2 - (v6 * (zI σ5 a0 2)))), some (.int v15), some (.int 0)] [] σ14 K)) ∧ (¬ v6 < v12 → zK σ11 a0 = 14 ∧ zwI 21 0 [some (.ref a0), some (.int (v3 + 10))] [] σ11 (fun v18 σ17 => zK σ17 a0 = 14 ∧ zwI 48 0 [some (.ref a0), some (.int (v18 - 1))] [] σ17 (fun v21 σ20 => zK σ20 a0 = 14 ∧ zwI 51 0 [some (.ref a0), some (.int v21)] [] σ20 (fun v24 σ23 => zK σ23 a0 = 14 ∧ zwI 51 0 [some (.ref a0), some (.int (v21 + 2))] [] σ23 (fun v27 σ26 => zK σ26 a0 = 14 ∧ zwI 21 0 [some (.ref a0), some (.int (v3 + 11))] [] σ26 (fun v30 σ29 => zK σ29 a0 = 14 ∧ zwI 20 0 [some (.ref a0), some (.int v24), some (.int v27), some (.int (v30 + (x2 - (v6 * (zI σ5 a0 2)))))] [] σ29 (fun v33 σ32 => K v33 σ32))))))))))))) : zwI 24 0 [some (.ref a0), some (.int x1), some (.int x2), none, none, none, none, none] [] σ K := by
  refine zw_go (pc1 := 1) (L1 := [some (.ref a0), some (.int x1), some (.int x2), none, none, none, none, none]) (st1 := [.ref a0]) (σ1 := σ) zM_X1_fileByte dX1_fileByte_0 rfl rfl rfl rfl ?_
  refine zw_go (pc1 := 2) (L1 := [some (.ref a0), some (.int x1), some (.int x2), none, none, none, none, none]) (st1 := [.int x1, .ref a0]) (σ1 := σ) zM_X1_fileByte dX1_fileByte_1 rfl rfl rfl rfl ?_
  obtain ⟨hk1, h⟩ := h
  refine zw_callI (as := [.ref a0, .int x1]) (rest := []) zM_X1_fileByte dX1_fileByte_2 (zx_calV zC_1_68) zM_X1_rowOf rfl rfl rfl rfl rfl (zx_args0 hk1 rfl) rfl h (fun v3 σ2 h => ?_)
  refine zw_go (pc1 := 6) (L1 := [some (.ref a0), some (.int x1), some (.int x2), some (.int v3), none, none, none, none]) (st1 := []) (σ1 := σ2) zM_X1_fileByte dX1_fileByte_5 rfl rfl rfl rfl ?_
  refine zw_go (pc1 := 7) (L1 := [some (.ref a0), some (.int x1), some (.int x2), some (.int v3), none, none, none, none]) (st1 := [.ref a0]) (σ1 := σ2) zM_X1_fileByte dX1_fileByte_6 rfl rfl rfl rfl ?_
  refine zw_go (pc1 := 8) (L1 := [some (.ref a0), some (.int x1), some (.int x2), some (.int v3), none, none, none, none]) (st1 := [.int x2, .ref a0]) (σ1 := σ2) zM_X1_fileByte dX1_fileByte_7 rfl rfl rfl rfl ?_
  obtain ⟨hk4, h⟩ := h
  refine zw_callI (as := [.ref a0, .int x2]) (rest := []) zM_X1_fileByte dX1_fileByte_8 (zx_calV zC_1_77) zM_X1_wholeBlocks rfl rfl rfl rfl rfl (zx_args0 hk4 rfl) rfl h (fun v6 σ5 h => ?_)
  refine zw_go (pc1 := 13) (L1 := [some (.ref a0), some (.int x1), some (.int x2), some (.int v3), some (.int v6), none, none, none]) (st1 := []) (σ1 := σ5) zM_X1_fileByte dX1_fileByte_11 rfl rfl rfl rfl ?_
  refine zw_go (pc1 := 14) (L1 := [some (.ref a0), some (.int x1), some (.int x2), some (.int v3), some (.int v6), none, none, none]) (st1 := [.int x2]) (σ1 := σ5) zM_X1_fileByte dX1_fileByte_13 rfl rfl rfl rfl ?_
  refine zw_go (pc1 := 16) (L1 := [some (.ref a0), some (.int x1), some (.int x2), some (.int v3), some (.int v6), none, none, none]) (st1 := [.int v6, .int x2]) (σ1 := σ5) zM_X1_fileByte dX1_fileByte_14 rfl rfl rfl rfl ?_
  refine zw_go (pc1 := 17) (L1 := [some (.ref a0), some (.int x1), some (.int x2), some (.int v3), some (.int v6), none, none, none]) (st1 := [.ref a0, .int v6, .int x2]) (σ1 := σ5) zM_X1_fileByte dX1_fileByte_16 rfl rfl rfl rfl ?_
  obtain ⟨hk7, h⟩ := h
  refine zw_getI zM_X1_fileByte dX1_fileByte_17 zF_1_45 rfl hk7 ?_
  refine zw_go (pc1 := 21) (L1 := [some (.ref a0), some (.int x1), some (.int x2), some (.int v3), some (.int v6), none, none, none]) (st1 := [.int (v6 * (zI σ5 a0 2)), .int x2]) (σ1 := σ5) zM_X1_fileByte dX1_fileByte_20 rfl rfl rfl rfl ?_
  refine zw_go (pc1 := 22) (L1 := [some (.ref a0), some (.int x1), some (.int x2), some (.int v3), some (.int v6), none, none, none]) (st1 := [.int (x2 - (v6 * (zI σ5 a0 2)))]) (σ1 := σ5) zM_X1_fileByte dX1_fileByte_21 rfl rfl rfl rfl ?_
  refine zw_go (pc1 := 24) (L1 := [some (.ref a0), some (.int x1), some (.int x2), some (.int v3), some (.int v6), some (.int (x2 - (v6 * (zI σ5 a0 2)))), none, none]) (st1 := []) (σ1 := σ5) zM_X1_fileByte dX1_fileByte_22 rfl rfl rfl rfl ?_
  refine zw_go (pc1 := 26) (L1 := [some (.ref a0), some (.int x1), some (.int x2), some (.int v3), some (.int v6), some (.int (x2 - (v6 * (zI σ5 a0 2)))), none, none]) (st1 := [.int v6]) (σ1 := σ5) zM_X1_fileByte dX1_fileByte_24 rfl rfl rfl rfl ?_
  refine zw_go (pc1 := 27) (L1 := [some (.ref a0), some (.int x1), some (.int x2), some (.int v3), some (.int v6), some (.int (x2 - (v6 * (zI σ5 a0 2)))), none, none]) (st1 := [.ref a0, .int v6]) (σ1 := σ5) zM_X1_fileByte dX1_fileByte_26 rfl rfl rfl rfl ?_
  refine zw_go (pc1 := 28) (L1 := [some (.ref a0), some (.int x1), some (.int x2), some (.int v3), some (.int v6), some (.int (x2 - (v6 * (zI σ5 a0 2)))), none, none]) (st1 := [.ref a0, .ref a0, .int v6]) (σ1 := σ5) zM_X1_fileByte dX1_fileByte_27 rfl rfl rfl rfl ?_
  refine zw_go (pc1 := 29) (L1 := [some (.ref a0), some (.int x1), some (.int x2), some (.int v3), some (.int v6), some (.int (x2 - (v6 * (zI σ5 a0 2)))), none, none]) (st1 := [.int v3, .ref a0, .ref a0, .int v6]) (σ1 := σ5) zM_X1_fileByte dX1_fileByte_28 rfl rfl rfl rfl ?_
  refine zw_bipush (v := 6) zM_X1_fileByte dX1_fileByte_29 (by decide) ?_
  refine zw_go (pc1 := 32) (L1 := [some (.ref a0), some (.int x1), some (.int x2), some (.int v3), some (.int v6), some (.int (x2 - (v6 * (zI σ5 a0 2)))), none, none]) (st1 := [.int (v3 + 6), .ref a0, .ref a0, .int v6]) (σ1 := σ5) zM_X1_fileByte dX1_fileByte_31 rfl rfl rfl rfl ?_
  refine zw_callI (as := [.ref a0, .int (v3 + 6)]) (rest := [.ref a0, .int v6]) zM_X1_fileByte dX1_fileByte_32 (zx_calV zC_1_48) zM_X1_wordAt rfl rfl rfl rfl rfl (zx_args0 hk7 rfl) rfl h (fun v9 σ8 h => ?_)
  obtain ⟨hk10, h⟩ := h
  refine zw_callI (as := [.ref a0, .int v9]) (rest := [.int v6]) zM_X1_fileByte dX1_fileByte_35 (zx_calV zC_1_77) zM_X1_wholeBlocks rfl rfl rfl rfl rfl (zx_args0 hk10 rfl) rfl h (fun v12 σ11 h => ?_)
  refine zw_icmp_lt (tgt := 87) zM_X1_fileByte dX1_fileByte_38 rfl rfl (fun q => ?_) (fun q => ?_)
  · replace h := h.1 q
    refine zw_go (pc1 := 88) (L1 := [some (.ref a0), some (.int x1), some (.int x2), some (.int v3), some (.int v6), some (.int (x2 - (v6 * (zI σ5 a0 2)))), none, none]) (st1 := [.ref a0]) (σ1 := σ11) zM_X1_fileByte dX1_fileByte_87 rfl rfl rfl rfl ?_
    refine zw_go (pc1 := 89) (L1 := [some (.ref a0), some (.int x1), some (.int x2), some (.int v3), some (.int v6), some (.int (x2 - (v6 * (zI σ5 a0 2)))), none, none]) (st1 := [.int v3, .ref a0]) (σ1 := σ11) zM_X1_fileByte dX1_fileByte_88 rfl rfl rfl rfl ?_
    refine zw_bipush (v := 8) zM_X1_fileByte dX1_fileByte_89 (by decide) ?_
    refine zw_go (pc1 := 92) (L1 := [some (.ref a0), some (.int x1), some (.int x2), some (.int v3), some (.int v6), some (.int (x2 - (v6 * (zI σ5 a0 2)))), none, none]) (st1 := [.int (v3 + 8), .ref a0]) (σ1 := σ11) zM_X1_fileByte dX1_fileByte_91 rfl rfl rfl rfl ?_
    obtain ⟨hk13, h⟩ := h
    refine zw_callI (as := [.ref a0, .int (v3 + 8)]) (rest := []) zM_X1_fileByte dX1_fileByte_92 (zx_calV zC_1_48) zM_X1_wordAt rfl rfl rfl rfl rfl (zx_args0 hk13 rfl) rfl h (fun v15 σ14 h => ?_)
    refine zw_go (pc1 := 97) (L1 := [some (.ref a0), some (.int x1), some (.int x2), some (.int v3), some (.int v6), some (.int (x2 - (v6 * (zI σ5 a0 2)))), some (.int v15), none]) (st1 := []) (σ1 := σ14) zM_X1_fileByte dX1_fileByte_95 rfl rfl rfl rfl ?_
    refine zw_iconst (v := 0) zM_X1_fileByte dX1_fileByte_97 (by decide) ?_
    refine zw_go (pc1 := 100) (L1 := [some (.ref a0), some (.int x1), some (.int x2), some (.int v3), some (.int v6), some (.int (x2 - (v6 * (zI σ5 a0 2)))), some (.int v15), some (.int 0)]) (st1 := []) (σ1 := σ14) zM_X1_fileByte dX1_fileByte_98 rfl rfl rfl rfl ?_
    exact zw_weak2 h ⟨rfl, rfl, rfl, rfl, rfl, rfl, trivial⟩
  · replace h := h.2 q
    refine zw_go (pc1 := 42) (L1 := [some (.ref a0), some (.int x1), some (.int x2), some (.int v3), some (.int v6), some (.int (x2 - (v6 * (zI σ5 a0 2)))), none, none]) (st1 := [.ref a0]) (σ1 := σ11) zM_X1_fileByte dX1_fileByte_41 rfl rfl rfl rfl ?_
    refine zw_go (pc1 := 43) (L1 := [some (.ref a0), some (.int x1), some (.int x2), some (.int v3), some (.int v6), some (.int (x2 - (v6 * (zI σ5 a0 2)))), none, none]) (st1 := [.ref a0, .ref a0]) (σ1 := σ11) zM_X1_fileByte dX1_fileByte_42 rfl rfl rfl rfl ?_
    refine zw_go (pc1 := 44) (L1 := [some (.ref a0), some (.int x1), some (.int x2), some (.int v3), some (.int v6), some (.int (x2 - (v6 * (zI σ5 a0 2)))), none, none]) (st1 := [.int v3, .ref a0, .ref a0]) (σ1 := σ11) zM_X1_fileByte dX1_fileByte_43 rfl rfl rfl rfl ?_
    refine zw_bipush (v := 10) zM_X1_fileByte dX1_fileByte_44 (by decide) ?_
    refine zw_go (pc1 := 47) (L1 := [some (.ref a0), some (.int x1), some (.int x2), some (.int v3), some (.int v6), some (.int (x2 - (v6 * (zI σ5 a0 2)))), none, none]) (st1 := [.int (v3 + 10), .ref a0, .ref a0]) (σ1 := σ11) zM_X1_fileByte dX1_fileByte_46 rfl rfl rfl rfl ?_
    obtain ⟨hk16, h⟩ := h
    refine zw_callI (as := [.ref a0, .int (v3 + 10)]) (rest := [.ref a0]) zM_X1_fileByte dX1_fileByte_47 (zx_calV zC_1_41) zM_X1_byteAt rfl rfl rfl rfl rfl (zx_args0 hk16 rfl) rfl h (fun v18 σ17 h => ?_)
    refine zw_iconst (v := 1) zM_X1_fileByte dX1_fileByte_50 (by decide) ?_
    refine zw_go (pc1 := 52) (L1 := [some (.ref a0), some (.int x1), some (.int x2), some (.int v3), some (.int v6), some (.int (x2 - (v6 * (zI σ5 a0 2)))), none, none]) (st1 := [.int (v18 - 1), .ref a0]) (σ1 := σ17) zM_X1_fileByte dX1_fileByte_51 rfl rfl rfl rfl ?_
    obtain ⟨hk19, h⟩ := h
    refine zw_callI (as := [.ref a0, .int (v18 - 1)]) (rest := []) zM_X1_fileByte dX1_fileByte_52 (zx_calV zC_1_80) zM_X1_tailRow rfl rfl rfl rfl rfl (zx_args0 hk19 rfl) rfl h (fun v21 σ20 h => ?_)
    refine zw_go (pc1 := 57) (L1 := [some (.ref a0), some (.int x1), some (.int x2), some (.int v3), some (.int v6), some (.int (x2 - (v6 * (zI σ5 a0 2)))), some (.int v21), none]) (st1 := []) (σ1 := σ20) zM_X1_fileByte dX1_fileByte_55 rfl rfl rfl rfl ?_
    refine zw_go (pc1 := 58) (L1 := [some (.ref a0), some (.int x1), some (.int x2), some (.int v3), some (.int v6), some (.int (x2 - (v6 * (zI σ5 a0 2)))), some (.int v21), none]) (st1 := [.ref a0]) (σ1 := σ20) zM_X1_fileByte dX1_fileByte_57 rfl rfl rfl rfl ?_
    refine zw_go (pc1 := 59) (L1 := [some (.ref a0), some (.int x1), some (.int x2), some (.int v3), some (.int v6), some (.int (x2 - (v6 * (zI σ5 a0 2)))), some (.int v21), none]) (st1 := [.ref a0, .ref a0]) (σ1 := σ20) zM_X1_fileByte dX1_fileByte_58 rfl rfl rfl rfl ?_
    refine zw_go (pc1 := 61) (L1 := [some (.ref a0), some (.int x1), some (.int x2), some (.int v3), some (.int v6), some (.int (x2 - (v6 * (zI σ5 a0 2)))), some (.int v21), none]) (st1 := [.int v21, .ref a0, .ref a0]) (σ1 := σ20) zM_X1_fileByte dX1_fileByte_59 rfl rfl rfl rfl ?_
    obtain ⟨hk22, h⟩ := h
    refine zw_callI (as := [.ref a0, .int v21]) (rest := [.ref a0]) zM_X1_fileByte dX1_fileByte_61 (zx_calV zC_1_48) zM_X1_wordAt rfl rfl rfl rfl rfl (zx_args0 hk22 rfl) rfl h (fun v24 σ23 h => ?_)
    refine zw_go (pc1 := 65) (L1 := [some (.ref a0), some (.int x1), some (.int x2), some (.int v3), some (.int v6), some (.int (x2 - (v6 * (zI σ5 a0 2)))), some (.int v21), none]) (st1 := [.ref a0, .int v24, .ref a0]) (σ1 := σ23) zM_X1_fileByte dX1_fileByte_64 rfl rfl rfl rfl ?_
    refine zw_go (pc1 := 67) (L1 := [some (.ref a0), some (.int x1), some (.int x2), some (.int v3), some (.int v6), some (.int (x2 - (v6 * (zI σ5 a0 2)))), some (.int v21), none]) (st1 := [.int v21, .ref a0, .int v24, .ref a0]) (σ1 := σ23) zM_X1_fileByte dX1_fileByte_65 rfl rfl rfl rfl ?_
    refine zw_iconst (v := 2) zM_X1_fileByte dX1_fileByte_67 (by decide) ?_
    refine zw_go (pc1 := 69) (L1 := [some (.ref a0), some (.int x1), some (.int x2), some (.int v3), some (.int v6), some (.int (x2 - (v6 * (zI σ5 a0 2)))), some (.int v21), none]) (st1 := [.int (v21 + 2), .ref a0, .int v24, .ref a0]) (σ1 := σ23) zM_X1_fileByte dX1_fileByte_68 rfl rfl rfl rfl ?_
    obtain ⟨hk25, h⟩ := h
    refine zw_callI (as := [.ref a0, .int (v21 + 2)]) (rest := [.int v24, .ref a0]) zM_X1_fileByte dX1_fileByte_69 (zx_calV zC_1_48) zM_X1_wordAt rfl rfl rfl rfl rfl (zx_args0 hk25 rfl) rfl h (fun v27 σ26 h => ?_)
    refine zw_go (pc1 := 73) (L1 := [some (.ref a0), some (.int x1), some (.int x2), some (.int v3), some (.int v6), some (.int (x2 - (v6 * (zI σ5 a0 2)))), some (.int v21), none]) (st1 := [.ref a0, .int v27, .int v24, .ref a0]) (σ1 := σ26) zM_X1_fileByte dX1_fileByte_72 rfl rfl rfl rfl ?_
    refine zw_go (pc1 := 74) (L1 := [some (.ref a0), some (.int x1), some (.int x2), some (.int v3), some (.int v6), some (.int (x2 - (v6 * (zI σ5 a0 2)))), some (.int v21), none]) (st1 := [.int v3, .ref a0, .int v27, .int v24, .ref a0]) (σ1 := σ26) zM_X1_fileByte dX1_fileByte_73 rfl rfl rfl rfl ?_
    refine zw_bipush (v := 11) zM_X1_fileByte dX1_fileByte_74 (by decide) ?_
    refine zw_go (pc1 := 77) (L1 := [some (.ref a0), some (.int x1), some (.int x2), some (.int v3), some (.int v6), some (.int (x2 - (v6 * (zI σ5 a0 2)))), some (.int v21), none]) (st1 := [.int (v3 + 11), .ref a0, .int v27, .int v24, .ref a0]) (σ1 := σ26) zM_X1_fileByte dX1_fileByte_76 rfl rfl rfl rfl ?_
    obtain ⟨hk28, h⟩ := h
    refine zw_callI (as := [.ref a0, .int (v3 + 11)]) (rest := [.int v27, .int v24, .ref a0]) zM_X1_fileByte dX1_fileByte_77 (zx_calV zC_1_41) zM_X1_byteAt rfl rfl rfl rfl rfl (zx_args0 hk28 rfl) rfl h (fun v30 σ29 h => ?_)
    refine zw_go (pc1 := 82) (L1 := [some (.ref a0), some (.int x1), some (.int x2), some (.int v3), some (.int v6), some (.int (x2 - (v6 * (zI σ5 a0 2)))), some (.int v21), none]) (st1 := [.int (x2 - (v6 * (zI σ5 a0 2))), .int v30, .int v27, .int v24, .ref a0]) (σ1 := σ29) zM_X1_fileByte dX1_fileByte_80 rfl rfl rfl rfl ?_
    refine zw_go (pc1 := 83) (L1 := [some (.ref a0), some (.int x1), some (.int x2), some (.int v3), some (.int v6), some (.int (x2 - (v6 * (zI σ5 a0 2)))), some (.int v21), none]) (st1 := [.int (v30 + (x2 - (v6 * (zI σ5 a0 2)))), .int v27, .int v24, .ref a0]) (σ1 := σ29) zM_X1_fileByte dX1_fileByte_82 rfl rfl rfl rfl ?_
    obtain ⟨hk31, h⟩ := h
    refine zw_callI (as := [.ref a0, .int v24, .int v27, .int (v30 + (x2 - (v6 * (zI σ5 a0 2))))]) (rest := []) zM_X1_fileByte dX1_fileByte_83 (zx_calV zC_1_83) zM_X1_blockByte rfl rfl rfl rfl rfl (zx_args0 hk31 rfl) rfl h (fun v33 σ32 h => ?_)
    exact zw_reti zM_X1_fileByte dX1_fileByte_86 rfl h
set_option maxHeartbeats 4000000 in
set_option maxRecDepth 100000 in
theorem vc_X1_fileByte_100 (a0 : Nat) (x3 : Int32) (x4 : Int32) (x5 : Int32) (x6 : Int32) (x7 : Int32) (σ : zx_S) (K : Int32 → zx_S → Prop) (h : ((x4 ≤ x7 → zK σ a0 = 14 ∧ zwI 51 0 [some (.ref a0), some (.int ((x3 + 12) + (2 * x4)))] [] σ (fun v3 σ2 => zK σ2 a0 = 14 ∧ zwI 20 0 [some (.ref a0), some (.int x6), some (.int v3), some (.int x5)] [] σ2 (fun v6 σ5 => K v6 σ5))) ∧ (¬ x4 ≤ x7 → zK σ a0 = 14 ∧ zwI 51 0 [some (.ref a0), some (.int ((x3 + 12) + (2 * x7)))] [] σ (fun v9 σ8 => zwI 45 0 [some (.int v9)] [] σ8 (fun v11 σ10 => zwI 24 100 [some (.ref a0), none, none, some (.int x3), some (.int x4), some (.int x5), some (.int (x6 + v11)), some (.int (x7 + Int32.ofInt 1))] [] σ10 K))))) : zwI 24 100 [some (.ref a0), none, none, some (.int x3), some (.int x4), some (.int x5), some (.int x6), some (.int x7)] [] σ K := by
  refine zw_go (pc1 := 102) (L1 := [some (.ref a0), none, none, some (.int x3), some (.int x4), some (.int x5), some (.int x6), some (.int x7)]) (st1 := [.int x7]) (σ1 := σ) zM_X1_fileByte dX1_fileByte_100 rfl rfl rfl rfl ?_
  refine zw_go (pc1 := 104) (L1 := [some (.ref a0), none, none, some (.int x3), some (.int x4), some (.int x5), some (.int x6), some (.int x7)]) (st1 := [.int x4, .int x7]) (σ1 := σ) zM_X1_fileByte dX1_fileByte_102 rfl rfl rfl rfl ?_
  refine zw_icmp_ge (tgt := 134) zM_X1_fileByte dX1_fileByte_104 rfl rfl (fun q => ?_) (fun q => ?_)
  · replace h := h.1 q
    refine zw_go (pc1 := 135) (L1 := [some (.ref a0), none, none, some (.int x3), some (.int x4), some (.int x5), some (.int x6), some (.int x7)]) (st1 := [.ref a0]) (σ1 := σ) zM_X1_fileByte dX1_fileByte_134 rfl rfl rfl rfl ?_
    refine zw_go (pc1 := 137) (L1 := [some (.ref a0), none, none, some (.int x3), some (.int x4), some (.int x5), some (.int x6), some (.int x7)]) (st1 := [.int x6, .ref a0]) (σ1 := σ) zM_X1_fileByte dX1_fileByte_135 rfl rfl rfl rfl ?_
    refine zw_go (pc1 := 138) (L1 := [some (.ref a0), none, none, some (.int x3), some (.int x4), some (.int x5), some (.int x6), some (.int x7)]) (st1 := [.ref a0, .int x6, .ref a0]) (σ1 := σ) zM_X1_fileByte dX1_fileByte_137 rfl rfl rfl rfl ?_
    refine zw_go (pc1 := 139) (L1 := [some (.ref a0), none, none, some (.int x3), some (.int x4), some (.int x5), some (.int x6), some (.int x7)]) (st1 := [.int x3, .ref a0, .int x6, .ref a0]) (σ1 := σ) zM_X1_fileByte dX1_fileByte_138 rfl rfl rfl rfl ?_
    refine zw_bipush (v := 12) zM_X1_fileByte dX1_fileByte_139 (by decide) ?_
    refine zw_go (pc1 := 142) (L1 := [some (.ref a0), none, none, some (.int x3), some (.int x4), some (.int x5), some (.int x6), some (.int x7)]) (st1 := [.int (x3 + 12), .ref a0, .int x6, .ref a0]) (σ1 := σ) zM_X1_fileByte dX1_fileByte_141 rfl rfl rfl rfl ?_
    refine zw_iconst (v := 2) zM_X1_fileByte dX1_fileByte_142 (by decide) ?_
    refine zw_go (pc1 := 145) (L1 := [some (.ref a0), none, none, some (.int x3), some (.int x4), some (.int x5), some (.int x6), some (.int x7)]) (st1 := [.int x4, .int 2, .int (x3 + 12), .ref a0, .int x6, .ref a0]) (σ1 := σ) zM_X1_fileByte dX1_fileByte_143 rfl rfl rfl rfl ?_
    refine zw_go (pc1 := 146) (L1 := [some (.ref a0), none, none, some (.int x3), some (.int x4), some (.int x5), some (.int x6), some (.int x7)]) (st1 := [.int (2 * x4), .int (x3 + 12), .ref a0, .int x6, .ref a0]) (σ1 := σ) zM_X1_fileByte dX1_fileByte_145 rfl rfl rfl rfl ?_
    refine zw_go (pc1 := 147) (L1 := [some (.ref a0), none, none, some (.int x3), some (.int x4), some (.int x5), some (.int x6), some (.int x7)]) (st1 := [.int ((x3 + 12) + (2 * x4)), .ref a0, .int x6, .ref a0]) (σ1 := σ) zM_X1_fileByte dX1_fileByte_146 rfl rfl rfl rfl ?_
    obtain ⟨hk1, h⟩ := h
    refine zw_callI (as := [.ref a0, .int ((x3 + 12) + (2 * x4))]) (rest := [.int x6, .ref a0]) zM_X1_fileByte dX1_fileByte_147 (zx_calV zC_1_48) zM_X1_wordAt rfl rfl rfl rfl rfl (zx_args0 hk1 rfl) rfl h (fun v3 σ2 h => ?_)
    refine zw_go (pc1 := 152) (L1 := [some (.ref a0), none, none, some (.int x3), some (.int x4), some (.int x5), some (.int x6), some (.int x7)]) (st1 := [.int x5, .int v3, .int x6, .ref a0]) (σ1 := σ2) zM_X1_fileByte dX1_fileByte_150 rfl rfl rfl rfl ?_
    obtain ⟨hk4, h⟩ := h
    refine zw_callI (as := [.ref a0, .int x6, .int v3, .int x5]) (rest := []) zM_X1_fileByte dX1_fileByte_152 (zx_calV zC_1_83) zM_X1_blockByte rfl rfl rfl rfl rfl (zx_args0 hk4 rfl) rfl h (fun v6 σ5 h => ?_)
    exact zw_reti zM_X1_fileByte dX1_fileByte_155 rfl h
  · replace h := h.2 q
    refine zw_go (pc1 := 109) (L1 := [some (.ref a0), none, none, some (.int x3), some (.int x4), some (.int x5), some (.int x6), some (.int x7)]) (st1 := [.int x6]) (σ1 := σ) zM_X1_fileByte dX1_fileByte_107 rfl rfl rfl rfl ?_
    refine zw_go (pc1 := 110) (L1 := [some (.ref a0), none, none, some (.int x3), some (.int x4), some (.int x5), some (.int x6), some (.int x7)]) (st1 := [.ref a0, .int x6]) (σ1 := σ) zM_X1_fileByte dX1_fileByte_109 rfl rfl rfl rfl ?_
    refine zw_go (pc1 := 111) (L1 := [some (.ref a0), none, none, some (.int x3), some (.int x4), some (.int x5), some (.int x6), some (.int x7)]) (st1 := [.int x3, .ref a0, .int x6]) (σ1 := σ) zM_X1_fileByte dX1_fileByte_110 rfl rfl rfl rfl ?_
    refine zw_bipush (v := 12) zM_X1_fileByte dX1_fileByte_111 (by decide) ?_
    refine zw_go (pc1 := 114) (L1 := [some (.ref a0), none, none, some (.int x3), some (.int x4), some (.int x5), some (.int x6), some (.int x7)]) (st1 := [.int (x3 + 12), .ref a0, .int x6]) (σ1 := σ) zM_X1_fileByte dX1_fileByte_113 rfl rfl rfl rfl ?_
    refine zw_iconst (v := 2) zM_X1_fileByte dX1_fileByte_114 (by decide) ?_
    refine zw_go (pc1 := 117) (L1 := [some (.ref a0), none, none, some (.int x3), some (.int x4), some (.int x5), some (.int x6), some (.int x7)]) (st1 := [.int x7, .int 2, .int (x3 + 12), .ref a0, .int x6]) (σ1 := σ) zM_X1_fileByte dX1_fileByte_115 rfl rfl rfl rfl ?_
    refine zw_go (pc1 := 118) (L1 := [some (.ref a0), none, none, some (.int x3), some (.int x4), some (.int x5), some (.int x6), some (.int x7)]) (st1 := [.int (2 * x7), .int (x3 + 12), .ref a0, .int x6]) (σ1 := σ) zM_X1_fileByte dX1_fileByte_117 rfl rfl rfl rfl ?_
    refine zw_go (pc1 := 119) (L1 := [some (.ref a0), none, none, some (.int x3), some (.int x4), some (.int x5), some (.int x6), some (.int x7)]) (st1 := [.int ((x3 + 12) + (2 * x7)), .ref a0, .int x6]) (σ1 := σ) zM_X1_fileByte dX1_fileByte_118 rfl rfl rfl rfl ?_
    obtain ⟨hk7, h⟩ := h
    refine zw_callI (as := [.ref a0, .int ((x3 + 12) + (2 * x7))]) (rest := [.int x6]) zM_X1_fileByte dX1_fileByte_119 (zx_calV zC_1_48) zM_X1_wordAt rfl rfl rfl rfl rfl (zx_args0 hk7 rfl) rfl h (fun v9 σ8 h => ?_)
    refine zw_callI (as := [.int v9]) (rest := [.int x6]) zM_X1_fileByte dX1_fileByte_122 (zx_calS zC_1_87) zM_X1_storedBytes rfl rfl rfl rfl rfl rfl rfl h (fun v11 σ10 h => ?_)
    refine zw_go (pc1 := 126) (L1 := [some (.ref a0), none, none, some (.int x3), some (.int x4), some (.int x5), some (.int x6), some (.int x7)]) (st1 := [.int (x6 + v11)]) (σ1 := σ10) zM_X1_fileByte dX1_fileByte_125 rfl rfl rfl rfl ?_
    refine zw_go (pc1 := 128) (L1 := [some (.ref a0), none, none, some (.int x3), some (.int x4), some (.int x5), some (.int (x6 + v11)), some (.int x7)]) (st1 := []) (σ1 := σ10) zM_X1_fileByte dX1_fileByte_126 rfl rfl rfl rfl ?_
    refine zw_go (pc1 := 131) (L1 := [some (.ref a0), none, none, some (.int x3), some (.int x4), some (.int x5), some (.int (x6 + v11)), some (.int (x7 + Int32.ofInt 1))]) (st1 := []) (σ1 := σ10) zM_X1_fileByte dX1_fileByte_128 rfl rfl rfl rfl ?_
    refine zw_goto (tgt := 100) zM_X1_fileByte dX1_fileByte_131 rfl ?_
    exact zw_weak2 h ⟨rfl, rfl, rfl, rfl, rfl, rfl, trivial⟩
set_option maxHeartbeats 4000000 in
set_option maxRecDepth 100000 in
theorem vc_X1_firstNamePlace_0 (a0 : Nat) (x1 : Int32) (σ : zx_S) (K : Int32 → zx_S → Prop) (h : zK σ a0 = 14 ∧ zwI 42 0 [some (.ref a0), some (.int x1)] [] σ (fun v3 σ2 => zK σ2 a0 = 14 ∧ zwI 51 0 [some (.ref a0), some (.int (v3 + 6))] [] σ2 (fun v6 σ5 => K ((zI σ a0 5) + v6) σ5))) : zwI 25 0 [some (.ref a0), some (.int x1)] [] σ K := by
  refine zw_go (pc1 := 1) (L1 := [some (.ref a0), some (.int x1)]) (st1 := [.ref a0]) (σ1 := σ) zM_X1_firstNamePlace dX1_firstNamePlace_0 rfl rfl rfl rfl ?_
  obtain ⟨hk1, h⟩ := h
  refine zw_getI zM_X1_firstNamePlace dX1_firstNamePlace_1 zF_1_57 rfl hk1 ?_
  refine zw_go (pc1 := 5) (L1 := [some (.ref a0), some (.int x1)]) (st1 := [.ref a0, .int (zI σ a0 5)]) (σ1 := σ) zM_X1_firstNamePlace dX1_firstNamePlace_4 rfl rfl rfl rfl ?_
  refine zw_go (pc1 := 6) (L1 := [some (.ref a0), some (.int x1)]) (st1 := [.ref a0, .ref a0, .int (zI σ a0 5)]) (σ1 := σ) zM_X1_firstNamePlace dX1_firstNamePlace_5 rfl rfl rfl rfl ?_
  refine zw_go (pc1 := 7) (L1 := [some (.ref a0), some (.int x1)]) (st1 := [.int x1, .ref a0, .ref a0, .int (zI σ a0 5)]) (σ1 := σ) zM_X1_firstNamePlace dX1_firstNamePlace_6 rfl rfl rfl rfl ?_
  refine zw_callI (as := [.ref a0, .int x1]) (rest := [.ref a0, .int (zI σ a0 5)]) zM_X1_firstNamePlace dX1_firstNamePlace_7 (zx_calV zC_1_68) zM_X1_rowOf rfl rfl rfl rfl rfl (zx_args0 hk1 rfl) rfl h (fun v3 σ2 h => ?_)
  refine zw_bipush (v := 6) zM_X1_firstNamePlace dX1_firstNamePlace_10 (by decide) ?_
  refine zw_go (pc1 := 13) (L1 := [some (.ref a0), some (.int x1)]) (st1 := [.int (v3 + 6), .ref a0, .int (zI σ a0 5)]) (σ1 := σ2) zM_X1_firstNamePlace dX1_firstNamePlace_12 rfl rfl rfl rfl ?_
  obtain ⟨hk4, h⟩ := h
  refine zw_callI (as := [.ref a0, .int (v3 + 6)]) (rest := [.int (zI σ a0 5)]) zM_X1_firstNamePlace dX1_firstNamePlace_13 (zx_calV zC_1_48) zM_X1_wordAt rfl rfl rfl rfl rfl (zx_args0 hk4 rfl) rfl h (fun v6 σ5 h => ?_)
  refine zw_go (pc1 := 17) (L1 := [some (.ref a0), some (.int x1)]) (st1 := [.int ((zI σ a0 5) + v6)]) (σ1 := σ5) zM_X1_firstNamePlace dX1_firstNamePlace_16 rfl rfl rfl rfl ?_
  exact zw_reti zM_X1_firstNamePlace dX1_firstNamePlace_17 rfl h
set_option maxHeartbeats 4000000 in
set_option maxRecDepth 100000 in
theorem vc_X1_hasBytesOf_0 (a0 : Nat) (a1 : Nat) (σ : zx_S) (K : Int32 → zx_S → Prop) (h : zK σ a0 = 14 ∧ zK σ a1 = 14 ∧ (((zI σ a0 1) = (zI σ a1 1) → zwI 26 15 [some (.ref a0), some (.ref a1), some (.int 0)] [] σ K) ∧ (¬ (zI σ a0 1) = (zI σ a1 1) → K 0 σ))) : zwI 26 0 [some (.ref a0), some (.ref a1), none] [] σ K := by
  refine zw_go (pc1 := 1) (L1 := [some (.ref a0), some (.ref a1), none]) (st1 := [.ref a0]) (σ1 := σ) zM_X1_hasBytesOf dX1_hasBytesOf_0 rfl rfl rfl rfl ?_
  obtain ⟨hk1, h⟩ := h
  refine zw_getI zM_X1_hasBytesOf dX1_hasBytesOf_1 zF_1_15 rfl hk1 ?_
  refine zw_go (pc1 := 5) (L1 := [some (.ref a0), some (.ref a1), none]) (st1 := [.ref a1, .int (zI σ a0 1)]) (σ1 := σ) zM_X1_hasBytesOf dX1_hasBytesOf_4 rfl rfl rfl rfl ?_
  obtain ⟨hk2, h⟩ := h
  refine zw_getI zM_X1_hasBytesOf dX1_hasBytesOf_5 zF_1_15 rfl hk2 ?_
  refine zw_icmp_eq (tgt := 13) zM_X1_hasBytesOf dX1_hasBytesOf_8 rfl rfl (fun q => ?_) (fun q => ?_)
  · replace h := h.1 q
    refine zw_iconst (v := 0) zM_X1_hasBytesOf dX1_hasBytesOf_13 (by decide) ?_
    refine zw_go (pc1 := 15) (L1 := [some (.ref a0), some (.ref a1), some (.int 0)]) (st1 := []) (σ1 := σ) zM_X1_hasBytesOf dX1_hasBytesOf_14 rfl rfl rfl rfl ?_
    exact zw_weak2 h ⟨rfl, rfl, rfl, trivial⟩
  · replace h := h.2 q
    refine zw_iconst (v := 0) zM_X1_hasBytesOf dX1_hasBytesOf_11 (by decide) ?_
    exact zw_retz zM_X1_hasBytesOf dX1_hasBytesOf_12 rfl (by decide) h
set_option maxHeartbeats 4000000 in
set_option maxRecDepth 100000 in
theorem vc_X1_hasBytesOf_15 (a0 : Nat) (a1 : Nat) (x2 : Int32) (σ : zx_S) (K : Int32 → zx_S → Prop) (h : zK σ a0 = 14 ∧ (((zI σ a0 1) ≤ x2 → K 1 σ) ∧ (¬ (zI σ a0 1) ≤ x2 → ∃ b2 : Nat, zR σ a0 0 = some b2 ∧ zK σ b2 = 1 ∧ zx_in x2 (zN σ b2) = true ∧ zK σ a1 = 14 ∧ ∃ b7 : Nat, zR σ a1 0 = some b7 ∧ zK σ b7 = 1 ∧ zx_in x2 (zN σ b7) = true ∧ (((zI σ b2 (Int32.toNatClampNeg x2)) = (zI σ b7 (Int32.toNatClampNeg x2)) → zwI 26 15 [some (.ref a0), some (.ref a1), some (.int (x2 + Int32.ofInt 1))] [] σ K) ∧ (¬ (zI σ b2 (Int32.toNatClampNeg x2)) = (zI σ b7 (Int32.toNatClampNeg x2)) → K 0 σ))))) : zwI 26 15 [some (.ref a0), some (.ref a1), some (.int x2)] [] σ K := by
  refine zw_go (pc1 := 16) (L1 := [some (.ref a0), some (.ref a1), some (.int x2)]) (st1 := [.int x2]) (σ1 := σ) zM_X1_hasBytesOf dX1_hasBytesOf_15 rfl rfl rfl rfl ?_
  refine zw_go (pc1 := 17) (L1 := [some (.ref a0), some (.ref a1), some (.int x2)]) (st1 := [.ref a0, .int x2]) (σ1 := σ) zM_X1_hasBytesOf dX1_hasBytesOf_16 rfl rfl rfl rfl ?_
  obtain ⟨hk1, h⟩ := h
  refine zw_getI zM_X1_hasBytesOf dX1_hasBytesOf_17 zF_1_15 rfl hk1 ?_
  refine zw_icmp_ge (tgt := 46) zM_X1_hasBytesOf dX1_hasBytesOf_20 rfl rfl (fun q => ?_) (fun q => ?_)
  · replace h := h.1 q
    refine zw_iconst (v := 1) zM_X1_hasBytesOf dX1_hasBytesOf_46 (by decide) ?_
    exact zw_retz zM_X1_hasBytesOf dX1_hasBytesOf_47 rfl (by decide) h
  · replace h := h.2 q
    refine zw_go (pc1 := 24) (L1 := [some (.ref a0), some (.ref a1), some (.int x2)]) (st1 := [.ref a0]) (σ1 := σ) zM_X1_hasBytesOf dX1_hasBytesOf_23 rfl rfl rfl rfl ?_
    obtain ⟨b2, hr3, h⟩ := h
    refine zw_getR (a := b2) zM_X1_hasBytesOf dX1_hasBytesOf_24 zF_1_9 rfl hk1 hr3 ?_
    refine zw_go (pc1 := 28) (L1 := [some (.ref a0), some (.ref a1), some (.int x2)]) (st1 := [.int x2, .ref b2]) (σ1 := σ) zM_X1_hasBytesOf dX1_hasBytesOf_27 rfl rfl rfl rfl ?_
    obtain ⟨hk4, h⟩ := h
    obtain ⟨hi5, h⟩ := h
    refine zw_iald zM_X1_hasBytesOf dX1_hasBytesOf_28 ⟨Or.inl hk4, hi5⟩ ?_
    refine zw_go (pc1 := 30) (L1 := [some (.ref a0), some (.ref a1), some (.int x2)]) (st1 := [.ref a1, .int (zI σ b2 (Int32.toNatClampNeg x2))]) (σ1 := σ) zM_X1_hasBytesOf dX1_hasBytesOf_29 rfl rfl rfl rfl ?_
    obtain ⟨hk6, h⟩ := h
    obtain ⟨b7, hr8, h⟩ := h
    refine zw_getR (a := b7) zM_X1_hasBytesOf dX1_hasBytesOf_30 zF_1_9 rfl hk6 hr8 ?_
    refine zw_go (pc1 := 34) (L1 := [some (.ref a0), some (.ref a1), some (.int x2)]) (st1 := [.int x2, .ref b7, .int (zI σ b2 (Int32.toNatClampNeg x2))]) (σ1 := σ) zM_X1_hasBytesOf dX1_hasBytesOf_33 rfl rfl rfl rfl ?_
    obtain ⟨hk9, h⟩ := h
    obtain ⟨hi10, h⟩ := h
    refine zw_iald zM_X1_hasBytesOf dX1_hasBytesOf_34 ⟨Or.inl hk9, hi10⟩ ?_
    refine zw_icmp_eq (tgt := 40) zM_X1_hasBytesOf dX1_hasBytesOf_35 rfl rfl (fun q => ?_) (fun q => ?_)
    · replace h := h.1 q
      refine zw_go (pc1 := 43) (L1 := [some (.ref a0), some (.ref a1), some (.int (x2 + Int32.ofInt 1))]) (st1 := []) (σ1 := σ) zM_X1_hasBytesOf dX1_hasBytesOf_40 rfl rfl rfl rfl ?_
      refine zw_goto (tgt := 15) zM_X1_hasBytesOf dX1_hasBytesOf_43 rfl ?_
      exact zw_weak2 h ⟨rfl, rfl, rfl, trivial⟩
    · replace h := h.2 q
      refine zw_iconst (v := 0) zM_X1_hasBytesOf dX1_hasBytesOf_38 (by decide) ?_
      exact zw_retz zM_X1_hasBytesOf dX1_hasBytesOf_39 rfl (by decide) h
set_option maxHeartbeats 4000000 in
set_option maxRecDepth 100000 in
theorem vc_X1_hasNumber_0 (a0 : Nat) (x1 : Int32) (σ : zx_S) (K : Int32 → zx_S → Prop) (h : ((x1 < (1 : Int32) → K 0 σ) ∧ (¬ x1 < (1 : Int32) → zK σ a0 = 14 ∧ (((zI σ a0 3) < x1 → K 0 σ) ∧ (¬ (zI σ a0 3) < x1 → K 1 σ))))) : zwI 27 0 [some (.ref a0), some (.int x1)] [] σ K := by
  refine zw_go (pc1 := 1) (L1 := [some (.ref a0), some (.int x1)]) (st1 := [.int x1]) (σ1 := σ) zM_X1_hasNumber dX1_hasNumber_0 rfl rfl rfl rfl ?_
  refine zw_iconst (v := 1) zM_X1_hasNumber dX1_hasNumber_1 (by decide) ?_
  refine zw_icmp_lt (tgt := 17) zM_X1_hasNumber dX1_hasNumber_2 rfl rfl (fun q => ?_) (fun q => ?_)
  · replace h := h.1 q
    refine zw_iconst (v := 0) zM_X1_hasNumber dX1_hasNumber_17 (by decide) ?_
    exact zw_retz zM_X1_hasNumber dX1_hasNumber_18 rfl (by decide) h
  · replace h := h.2 q
    refine zw_go (pc1 := 6) (L1 := [some (.ref a0), some (.int x1)]) (st1 := [.int x1]) (σ1 := σ) zM_X1_hasNumber dX1_hasNumber_5 rfl rfl rfl rfl ?_
    refine zw_go (pc1 := 7) (L1 := [some (.ref a0), some (.int x1)]) (st1 := [.ref a0, .int x1]) (σ1 := σ) zM_X1_hasNumber dX1_hasNumber_6 rfl rfl rfl rfl ?_
    obtain ⟨hk1, h⟩ := h
    refine zw_getI zM_X1_hasNumber dX1_hasNumber_7 zF_1_51 rfl hk1 ?_
    refine zw_icmp_gt (tgt := 17) zM_X1_hasNumber dX1_hasNumber_10 rfl rfl (fun q => ?_) (fun q => ?_)
    · replace h := h.1 q
      refine zw_iconst (v := 0) zM_X1_hasNumber dX1_hasNumber_17 (by decide) ?_
      exact zw_retz zM_X1_hasNumber dX1_hasNumber_18 rfl (by decide) h
    · replace h := h.2 q
      refine zw_iconst (v := 1) zM_X1_hasNumber dX1_hasNumber_13 (by decide) ?_
      refine zw_goto (tgt := 18) zM_X1_hasNumber dX1_hasNumber_14 rfl ?_
      exact zw_retz zM_X1_hasNumber dX1_hasNumber_18 rfl (by decide) h
set_option maxHeartbeats 4000000 in
set_option maxRecDepth 100000 in
theorem vc_X1_homeOf_0 (a0 : Nat) (x1 : Int32) (σ : zx_S) (K : Int32 → zx_S → Prop) (h : zK σ a0 = 14 ∧ zwI 42 0 [some (.ref a0), some (.int x1)] [] σ (fun v3 σ2 => zK σ2 a0 = 14 ∧ zwI 51 0 [some (.ref a0), some (.int (v3 + 10))] [] σ2 (fun v6 σ5 => K v6 σ5))) : zwI 28 0 [some (.ref a0), some (.int x1)] [] σ K := by
  refine zw_go (pc1 := 1) (L1 := [some (.ref a0), some (.int x1)]) (st1 := [.ref a0]) (σ1 := σ) zM_X1_homeOf dX1_homeOf_0 rfl rfl rfl rfl ?_
  refine zw_go (pc1 := 2) (L1 := [some (.ref a0), some (.int x1)]) (st1 := [.ref a0, .ref a0]) (σ1 := σ) zM_X1_homeOf dX1_homeOf_1 rfl rfl rfl rfl ?_
  refine zw_go (pc1 := 3) (L1 := [some (.ref a0), some (.int x1)]) (st1 := [.int x1, .ref a0, .ref a0]) (σ1 := σ) zM_X1_homeOf dX1_homeOf_2 rfl rfl rfl rfl ?_
  obtain ⟨hk1, h⟩ := h
  refine zw_callI (as := [.ref a0, .int x1]) (rest := [.ref a0]) zM_X1_homeOf dX1_homeOf_3 (zx_calV zC_1_68) zM_X1_rowOf rfl rfl rfl rfl rfl (zx_args0 hk1 rfl) rfl h (fun v3 σ2 h => ?_)
  refine zw_bipush (v := 10) zM_X1_homeOf dX1_homeOf_6 (by decide) ?_
  refine zw_go (pc1 := 9) (L1 := [some (.ref a0), some (.int x1)]) (st1 := [.int (v3 + 10), .ref a0]) (σ1 := σ2) zM_X1_homeOf dX1_homeOf_8 rfl rfl rfl rfl ?_
  obtain ⟨hk4, h⟩ := h
  refine zw_callI (as := [.ref a0, .int (v3 + 10)]) (rest := []) zM_X1_homeOf dX1_homeOf_9 (zx_calV zC_1_48) zM_X1_wordAt rfl rfl rfl rfl rfl (zx_args0 hk4 rfl) rfl h (fun v6 σ5 h => ?_)
  exact zw_reti zM_X1_homeOf dX1_homeOf_12 rfl h
set_option maxHeartbeats 4000000 in
set_option maxRecDepth 100000 in
theorem vc_X1_init_0 (a0 : Nat) (x1 : Int32) (σ : zx_S) (K : zx_S → Prop) (h : (¬ x1 < 0 ∧ (Int32.toNatClampNeg x1) ≤ 100000) ∧ ∀ σ1 : zx_S, σ1 = zx_nw σ 1 (Int32.toNatClampNeg x1) (Int32.toNatClampNeg x1) → zK σ1 a0 = 14 ∧ ∀ σ4 : zx_S, σ4 = zx_pR σ1 a0 0 (some (zn σ)) → K σ4) : zwV 29 0 [some (.ref a0), some (.int x1)] [] σ K := by
  refine zw_go (pc1 := 1) (L1 := [some (.ref a0), some (.int x1)]) (st1 := [.ref a0]) (σ1 := σ) zM_X1_init dX1_init_0 rfl rfl rfl rfl ?_
  refine zw_obj zM_X1_init dX1_init_1 zC_1_3 (by decide) rfl ?_
  refine zw_go (pc1 := 5) (L1 := [some (.ref a0), some (.int x1)]) (st1 := [.ref a0]) (σ1 := σ) zM_X1_init dX1_init_4 rfl rfl rfl rfl ?_
  refine zw_go (pc1 := 6) (L1 := [some (.ref a0), some (.int x1)]) (st1 := [.int x1, .ref a0]) (σ1 := σ) zM_X1_init dX1_init_5 rfl rfl rfl rfl ?_
  obtain ⟨hn6, h⟩ := h
  obtain ⟨σ1, e2⟩ : ∃ z9 : zx_S, z9 = zx_nw σ 1 (Int32.toNatClampNeg x1) (Int32.toNatClampNeg x1) := ⟨_, rfl⟩
  replace h := h σ1 e2
  refine zw_newI zM_X1_init dX1_init_6 hn6 e2 ?_
  obtain ⟨hk3, h⟩ := h
  obtain ⟨σ4, e5⟩ : ∃ z9 : zx_S, z9 = zx_pR σ1 a0 0 (some (zn σ)) := ⟨_, rfl⟩
  replace h := h σ4 e5
  refine zw_putR zM_X1_init dX1_init_8 zF_1_9 rfl rfl (by decide) hk3 e5 ?_
  exact zw_retv zM_X1_init dX1_init_11 rfl h
set_option maxHeartbeats 4000000 in
set_option maxRecDepth 100000 in
theorem vc_X1_kindOf_0 (a0 : Nat) (x1 : Int32) (σ : zx_S) (K : Int32 → zx_S → Prop) (h : zK σ a0 = 14 ∧ zwI 42 0 [some (.ref a0), some (.int x1)] [] σ (fun v3 σ2 => zK σ2 a0 = 14 ∧ zwI 21 0 [some (.ref a0), some (.int v3)] [] σ2 (fun v6 σ5 => K v6 σ5))) : zwI 30 0 [some (.ref a0), some (.int x1)] [] σ K := by
  refine zw_go (pc1 := 1) (L1 := [some (.ref a0), some (.int x1)]) (st1 := [.ref a0]) (σ1 := σ) zM_X1_kindOf dX1_kindOf_0 rfl rfl rfl rfl ?_
  refine zw_go (pc1 := 2) (L1 := [some (.ref a0), some (.int x1)]) (st1 := [.ref a0, .ref a0]) (σ1 := σ) zM_X1_kindOf dX1_kindOf_1 rfl rfl rfl rfl ?_
  refine zw_go (pc1 := 3) (L1 := [some (.ref a0), some (.int x1)]) (st1 := [.int x1, .ref a0, .ref a0]) (σ1 := σ) zM_X1_kindOf dX1_kindOf_2 rfl rfl rfl rfl ?_
  obtain ⟨hk1, h⟩ := h
  refine zw_callI (as := [.ref a0, .int x1]) (rest := [.ref a0]) zM_X1_kindOf dX1_kindOf_3 (zx_calV zC_1_68) zM_X1_rowOf rfl rfl rfl rfl rfl (zx_args0 hk1 rfl) rfl h (fun v3 σ2 h => ?_)
  obtain ⟨hk4, h⟩ := h
  refine zw_callI (as := [.ref a0, .int v3]) (rest := []) zM_X1_kindOf dX1_kindOf_6 (zx_calV zC_1_41) zM_X1_byteAt rfl rfl rfl rfl rfl (zx_args0 hk4 rfl) rfl h (fun v6 σ5 h => ?_)
  exact zw_reti zM_X1_kindOf dX1_kindOf_9 rfl h
set_option maxHeartbeats 4000000 in
set_option maxRecDepth 100000 in
theorem vc_X1_modeOf_0 (a0 : Nat) (x1 : Int32) (σ : zx_S) (K : Int32 → zx_S → Prop) (h : zK σ a0 = 14 ∧ zwI 42 0 [some (.ref a0), some (.int x1)] [] σ (fun v3 σ2 => zK σ2 a0 = 14 ∧ zwI 51 0 [some (.ref a0), some (.int (v3 + 1))] [] σ2 (fun v6 σ5 => K v6 σ5))) : zwI 31 0 [some (.ref a0), some (.int x1)] [] σ K := by
  refine zw_go (pc1 := 1) (L1 := [some (.ref a0), some (.int x1)]) (st1 := [.ref a0]) (σ1 := σ) zM_X1_modeOf dX1_modeOf_0 rfl rfl rfl rfl ?_
  refine zw_go (pc1 := 2) (L1 := [some (.ref a0), some (.int x1)]) (st1 := [.ref a0, .ref a0]) (σ1 := σ) zM_X1_modeOf dX1_modeOf_1 rfl rfl rfl rfl ?_
  refine zw_go (pc1 := 3) (L1 := [some (.ref a0), some (.int x1)]) (st1 := [.int x1, .ref a0, .ref a0]) (σ1 := σ) zM_X1_modeOf dX1_modeOf_2 rfl rfl rfl rfl ?_
  obtain ⟨hk1, h⟩ := h
  refine zw_callI (as := [.ref a0, .int x1]) (rest := [.ref a0]) zM_X1_modeOf dX1_modeOf_3 (zx_calV zC_1_68) zM_X1_rowOf rfl rfl rfl rfl rfl (zx_args0 hk1 rfl) rfl h (fun v3 σ2 h => ?_)
  refine zw_iconst (v := 1) zM_X1_modeOf dX1_modeOf_6 (by decide) ?_
  refine zw_go (pc1 := 8) (L1 := [some (.ref a0), some (.int x1)]) (st1 := [.int (v3 + 1), .ref a0]) (σ1 := σ2) zM_X1_modeOf dX1_modeOf_7 rfl rfl rfl rfl ?_
  obtain ⟨hk4, h⟩ := h
  refine zw_callI (as := [.ref a0, .int (v3 + 1)]) (rest := []) zM_X1_modeOf dX1_modeOf_8 (zx_calV zC_1_48) zM_X1_wordAt rfl rfl rfl rfl rfl (zx_args0 hk4 rfl) rfl h (fun v6 σ5 h => ?_)
  exact zw_reti zM_X1_modeOf dX1_modeOf_11 rfl h
set_option maxHeartbeats 4000000 in
set_option maxRecDepth 100000 in
theorem vc_X1_namesOf_0 (a0 : Nat) (x1 : Int32) (σ : zx_S) (K : Int32 → zx_S → Prop) (h : zK σ a0 = 14 ∧ zwI 42 0 [some (.ref a0), some (.int x1)] [] σ (fun v3 σ2 => zK σ2 a0 = 14 ∧ zwI 21 0 [some (.ref a0), some (.int (v3 + 5))] [] σ2 (fun v6 σ5 => K v6 σ5))) : zwI 32 0 [some (.ref a0), some (.int x1)] [] σ K := by
  refine zw_go (pc1 := 1) (L1 := [some (.ref a0), some (.int x1)]) (st1 := [.ref a0]) (σ1 := σ) zM_X1_namesOf dX1_namesOf_0 rfl rfl rfl rfl ?_
  refine zw_go (pc1 := 2) (L1 := [some (.ref a0), some (.int x1)]) (st1 := [.ref a0, .ref a0]) (σ1 := σ) zM_X1_namesOf dX1_namesOf_1 rfl rfl rfl rfl ?_
  refine zw_go (pc1 := 3) (L1 := [some (.ref a0), some (.int x1)]) (st1 := [.int x1, .ref a0, .ref a0]) (σ1 := σ) zM_X1_namesOf dX1_namesOf_2 rfl rfl rfl rfl ?_
  obtain ⟨hk1, h⟩ := h
  refine zw_callI (as := [.ref a0, .int x1]) (rest := [.ref a0]) zM_X1_namesOf dX1_namesOf_3 (zx_calV zC_1_68) zM_X1_rowOf rfl rfl rfl rfl rfl (zx_args0 hk1 rfl) rfl h (fun v3 σ2 h => ?_)
  refine zw_iconst (v := 5) zM_X1_namesOf dX1_namesOf_6 (by decide) ?_
  refine zw_go (pc1 := 8) (L1 := [some (.ref a0), some (.int x1)]) (st1 := [.int (v3 + 5), .ref a0]) (σ1 := σ2) zM_X1_namesOf dX1_namesOf_7 rfl rfl rfl rfl ?_
  obtain ⟨hk4, h⟩ := h
  refine zw_callI (as := [.ref a0, .int (v3 + 5)]) (rest := []) zM_X1_namesOf dX1_namesOf_8 (zx_calV zC_1_41) zM_X1_byteAt rfl rfl rfl rfl rfl (zx_args0 hk4 rfl) rfl h (fun v6 σ5 h => ?_)
  exact zw_reti zM_X1_namesOf dX1_namesOf_11 rfl h
set_option maxHeartbeats 4000000 in
set_option maxRecDepth 100000 in
theorem vc_X1_openedByte_0 (a0 : Nat) (x1 : Int32) (x2 : Int32) (x3 : Int32) (σ : zx_S) (K : Int32 → zx_S → Prop) (h : zwI 33 9 [some (.ref a0), some (.int x1), some (.int x2), some (.int x3), some (.int 0), some (.int 0), some (.int 0), none] [] σ K) : zwI 33 0 [some (.ref a0), some (.int x1), some (.int x2), some (.int x3), none, none, none, none] [] σ K := by
  refine zw_iconst (v := 0) zM_X1_openedByte dX1_openedByte_0 (by decide) ?_
  refine zw_go (pc1 := 3) (L1 := [some (.ref a0), some (.int x1), some (.int x2), some (.int x3), some (.int 0), none, none, none]) (st1 := []) (σ1 := σ) zM_X1_openedByte dX1_openedByte_1 rfl rfl rfl rfl ?_
  refine zw_iconst (v := 0) zM_X1_openedByte dX1_openedByte_3 (by decide) ?_
  refine zw_go (pc1 := 6) (L1 := [some (.ref a0), some (.int x1), some (.int x2), some (.int x3), some (.int 0), some (.int 0), none, none]) (st1 := []) (σ1 := σ) zM_X1_openedByte dX1_openedByte_4 rfl rfl rfl rfl ?_
  refine zw_iconst (v := 0) zM_X1_openedByte dX1_openedByte_6 (by decide) ?_
  refine zw_go (pc1 := 9) (L1 := [some (.ref a0), some (.int x1), some (.int x2), some (.int x3), some (.int 0), some (.int 0), some (.int 0), none]) (st1 := []) (σ1 := σ) zM_X1_openedByte dX1_openedByte_7 rfl rfl rfl rfl ?_
  exact zw_weak2 h ⟨rfl, rfl, rfl, rfl, rfl, rfl, rfl, trivial⟩
set_option maxHeartbeats 4000000 in
set_option maxRecDepth 100000 in
theorem vc_X1_openedByte_9 (a0 : Nat) (x1 : Int32) (x2 : Int32) (x3 : Int32) (x4 : Int32) (x5 : Int32) (x6 : Int32) (σ : zx_S) (K : Int32 → zx_S → Prop) (h : ((x2 ≤ x6 → K 0 σ) ∧ (¬ x2 ≤ x6 → ((x2 ≤ x5 → K 0 σ) ∧ (¬ x2 ≤ x5 → zK σ a0 = 14 ∧ zwI 21 0 [some (.ref a0), some (.int (x1 + x5))] [] σ (fun v3 σ2 => zwI 35 0 [some (.int v3)] [] σ2 (fun v5 σ4 => (((x4 + v5) ≤ x3 → zwI 35 0 [some (.int v3)] [] σ4 (fun v7 σ6 => zwI 37 0 [some (.int v3)] [] σ6 (fun v9 σ8 => zwI 33 9 [some (.ref a0), some (.int x1), some (.int x2), some (.int x3), some (.int (x4 + v7)), some (.int (x5 + v9)), some (.int (x6 + Int32.ofInt 1)), none] [] σ8 K))) ∧ (¬ (x4 + v5) ≤ x3 → (((128 : Int32) ≤ v3 → zwI 33 66 [none, none, none, none, none, none, none, none] [.int 0, .int ((x1 + x5) + 1), .ref a0] σ4 K) ∧ (¬ (128 : Int32) ≤ v3 → zwI 33 66 [none, none, none, none, none, none, none, none] [.int (x3 - x4), .int ((x1 + x5) + 1), .ref a0] σ4 K))))))))))) : zwI 33 9 [some (.ref a0), some (.int x1), some (.int x2), some (.int x3), some (.int x4), some (.int x5), some (.int x6), none] [] σ K := by
  refine zw_go (pc1 := 11) (L1 := [some (.ref a0), some (.int x1), some (.int x2), some (.int x3), some (.int x4), some (.int x5), some (.int x6), none]) (st1 := [.int x6]) (σ1 := σ) zM_X1_openedByte dX1_openedByte_9 rfl rfl rfl rfl ?_
  refine zw_go (pc1 := 12) (L1 := [some (.ref a0), some (.int x1), some (.int x2), some (.int x3), some (.int x4), some (.int x5), some (.int x6), none]) (st1 := [.int x2, .int x6]) (σ1 := σ) zM_X1_openedByte dX1_openedByte_11 rfl rfl rfl rfl ?_
  refine zw_icmp_ge (tgt := 97) zM_X1_openedByte dX1_openedByte_12 rfl rfl (fun q => ?_) (fun q => ?_)
  · replace h := h.1 q
    refine zw_iconst (v := 0) zM_X1_openedByte dX1_openedByte_97 (by decide) ?_
    exact zw_reti zM_X1_openedByte dX1_openedByte_98 rfl h
  · replace h := h.2 q
    refine zw_go (pc1 := 17) (L1 := [some (.ref a0), some (.int x1), some (.int x2), some (.int x3), some (.int x4), some (.int x5), some (.int x6), none]) (st1 := [.int x5]) (σ1 := σ) zM_X1_openedByte dX1_openedByte_15 rfl rfl rfl rfl ?_
    refine zw_go (pc1 := 18) (L1 := [some (.ref a0), some (.int x1), some (.int x2), some (.int x3), some (.int x4), some (.int x5), some (.int x6), none]) (st1 := [.int x2, .int x5]) (σ1 := σ) zM_X1_openedByte dX1_openedByte_17 rfl rfl rfl rfl ?_
    refine zw_icmp_ge (tgt := 97) zM_X1_openedByte dX1_openedByte_18 rfl rfl (fun q => ?_) (fun q => ?_)
    · replace h := h.1 q
      refine zw_iconst (v := 0) zM_X1_openedByte dX1_openedByte_97 (by decide) ?_
      exact zw_reti zM_X1_openedByte dX1_openedByte_98 rfl h
    · replace h := h.2 q
      refine zw_go (pc1 := 22) (L1 := [some (.ref a0), some (.int x1), some (.int x2), some (.int x3), some (.int x4), some (.int x5), some (.int x6), none]) (st1 := [.ref a0]) (σ1 := σ) zM_X1_openedByte dX1_openedByte_21 rfl rfl rfl rfl ?_
      refine zw_go (pc1 := 23) (L1 := [some (.ref a0), some (.int x1), some (.int x2), some (.int x3), some (.int x4), some (.int x5), some (.int x6), none]) (st1 := [.int x1, .ref a0]) (σ1 := σ) zM_X1_openedByte dX1_openedByte_22 rfl rfl rfl rfl ?_
      refine zw_go (pc1 := 25) (L1 := [some (.ref a0), some (.int x1), some (.int x2), some (.int x3), some (.int x4), some (.int x5), some (.int x6), none]) (st1 := [.int x5, .int x1, .ref a0]) (σ1 := σ) zM_X1_openedByte dX1_openedByte_23 rfl rfl rfl rfl ?_
      refine zw_go (pc1 := 26) (L1 := [some (.ref a0), some (.int x1), some (.int x2), some (.int x3), some (.int x4), some (.int x5), some (.int x6), none]) (st1 := [.int (x1 + x5), .ref a0]) (σ1 := σ) zM_X1_openedByte dX1_openedByte_25 rfl rfl rfl rfl ?_
      obtain ⟨hk1, h⟩ := h
      refine zw_callI (as := [.ref a0, .int (x1 + x5)]) (rest := []) zM_X1_openedByte dX1_openedByte_26 (zx_calV zC_1_41) zM_X1_byteAt rfl rfl rfl rfl rfl (zx_args0 hk1 rfl) rfl h (fun v3 σ2 h => ?_)
      refine zw_go (pc1 := 31) (L1 := [some (.ref a0), some (.int x1), some (.int x2), some (.int x3), some (.int x4), some (.int x5), some (.int x6), some (.int v3)]) (st1 := []) (σ1 := σ2) zM_X1_openedByte dX1_openedByte_29 rfl rfl rfl rfl ?_
      refine zw_go (pc1 := 32) (L1 := [some (.ref a0), some (.int x1), some (.int x2), some (.int x3), some (.int x4), some (.int x5), some (.int x6), some (.int v3)]) (st1 := [.int x3]) (σ1 := σ2) zM_X1_openedByte dX1_openedByte_31 rfl rfl rfl rfl ?_
      refine zw_go (pc1 := 34) (L1 := [some (.ref a0), some (.int x1), some (.int x2), some (.int x3), some (.int x4), some (.int x5), some (.int x6), some (.int v3)]) (st1 := [.int x4, .int x3]) (σ1 := σ2) zM_X1_openedByte dX1_openedByte_32 rfl rfl rfl rfl ?_
      refine zw_go (pc1 := 36) (L1 := [some (.ref a0), some (.int x1), some (.int x2), some (.int x3), some (.int x4), some (.int x5), some (.int x6), some (.int v3)]) (st1 := [.int v3, .int x4, .int x3]) (σ1 := σ2) zM_X1_openedByte dX1_openedByte_34 rfl rfl rfl rfl ?_
      refine zw_callI (as := [.int v3]) (rest := [.int x4, .int x3]) zM_X1_openedByte dX1_openedByte_36 (zx_calS zC_1_97) zM_X1_opensTo rfl rfl rfl rfl rfl rfl rfl h (fun v5 σ4 h => ?_)
      refine zw_go (pc1 := 40) (L1 := [some (.ref a0), some (.int x1), some (.int x2), some (.int x3), some (.int x4), some (.int x5), some (.int x6), some (.int v3)]) (st1 := [.int (x4 + v5), .int x3]) (σ1 := σ4) zM_X1_openedByte dX1_openedByte_39 rfl rfl rfl rfl ?_
      refine zw_icmp_ge (tgt := 71) zM_X1_openedByte dX1_openedByte_40 rfl rfl (fun q => ?_) (fun q => ?_)
      · replace h := h.1 q
        refine zw_go (pc1 := 73) (L1 := [some (.ref a0), some (.int x1), some (.int x2), some (.int x3), some (.int x4), some (.int x5), some (.int x6), some (.int v3)]) (st1 := [.int x4]) (σ1 := σ4) zM_X1_openedByte dX1_openedByte_71 rfl rfl rfl rfl ?_
        refine zw_go (pc1 := 75) (L1 := [some (.ref a0), some (.int x1), some (.int x2), some (.int x3), some (.int x4), some (.int x5), some (.int x6), some (.int v3)]) (st1 := [.int v3, .int x4]) (σ1 := σ4) zM_X1_openedByte dX1_openedByte_73 rfl rfl rfl rfl ?_
        refine zw_callI (as := [.int v3]) (rest := [.int x4]) zM_X1_openedByte dX1_openedByte_75 (zx_calS zC_1_97) zM_X1_opensTo rfl rfl rfl rfl rfl rfl rfl h (fun v7 σ6 h => ?_)
        refine zw_go (pc1 := 79) (L1 := [some (.ref a0), some (.int x1), some (.int x2), some (.int x3), some (.int x4), some (.int x5), some (.int x6), some (.int v3)]) (st1 := [.int (x4 + v7)]) (σ1 := σ6) zM_X1_openedByte dX1_openedByte_78 rfl rfl rfl rfl ?_
        refine zw_go (pc1 := 81) (L1 := [some (.ref a0), some (.int x1), some (.int x2), some (.int x3), some (.int (x4 + v7)), some (.int x5), some (.int x6), some (.int v3)]) (st1 := []) (σ1 := σ6) zM_X1_openedByte dX1_openedByte_79 rfl rfl rfl rfl ?_
        refine zw_go (pc1 := 83) (L1 := [some (.ref a0), some (.int x1), some (.int x2), some (.int x3), some (.int (x4 + v7)), some (.int x5), some (.int x6), some (.int v3)]) (st1 := [.int x5]) (σ1 := σ6) zM_X1_openedByte dX1_openedByte_81 rfl rfl rfl rfl ?_
        refine zw_go (pc1 := 85) (L1 := [some (.ref a0), some (.int x1), some (.int x2), some (.int x3), some (.int (x4 + v7)), some (.int x5), some (.int x6), some (.int v3)]) (st1 := [.int v3, .int x5]) (σ1 := σ6) zM_X1_openedByte dX1_openedByte_83 rfl rfl rfl rfl ?_
        refine zw_callI (as := [.int v3]) (rest := [.int x5]) zM_X1_openedByte dX1_openedByte_85 (zx_calS zC_1_100) zM_X1_packetBytes rfl rfl rfl rfl rfl rfl rfl h (fun v9 σ8 h => ?_)
        refine zw_go (pc1 := 89) (L1 := [some (.ref a0), some (.int x1), some (.int x2), some (.int x3), some (.int (x4 + v7)), some (.int x5), some (.int x6), some (.int v3)]) (st1 := [.int (x5 + v9)]) (σ1 := σ8) zM_X1_openedByte dX1_openedByte_88 rfl rfl rfl rfl ?_
        refine zw_go (pc1 := 91) (L1 := [some (.ref a0), some (.int x1), some (.int x2), some (.int x3), some (.int (x4 + v7)), some (.int (x5 + v9)), some (.int x6), some (.int v3)]) (st1 := []) (σ1 := σ8) zM_X1_openedByte dX1_openedByte_89 rfl rfl rfl rfl ?_
        refine zw_go (pc1 := 94) (L1 := [some (.ref a0), some (.int x1), some (.int x2), some (.int x3), some (.int (x4 + v7)), some (.int (x5 + v9)), some (.int (x6 + Int32.ofInt 1)), some (.int v3)]) (st1 := []) (σ1 := σ8) zM_X1_openedByte dX1_openedByte_91 rfl rfl rfl rfl ?_
        refine zw_goto (tgt := 9) zM_X1_openedByte dX1_openedByte_94 rfl ?_
        exact zw_weak2 h ⟨rfl, rfl, rfl, rfl, rfl, rfl, rfl, trivial⟩
      · replace h := h.2 q
        refine zw_go (pc1 := 44) (L1 := [some (.ref a0), some (.int x1), some (.int x2), some (.int x3), some (.int x4), some (.int x5), some (.int x6), some (.int v3)]) (st1 := [.ref a0]) (σ1 := σ4) zM_X1_openedByte dX1_openedByte_43 rfl rfl rfl rfl ?_
        refine zw_go (pc1 := 45) (L1 := [some (.ref a0), some (.int x1), some (.int x2), some (.int x3), some (.int x4), some (.int x5), some (.int x6), some (.int v3)]) (st1 := [.int x1, .ref a0]) (σ1 := σ4) zM_X1_openedByte dX1_openedByte_44 rfl rfl rfl rfl ?_
        refine zw_go (pc1 := 47) (L1 := [some (.ref a0), some (.int x1), some (.int x2), some (.int x3), some (.int x4), some (.int x5), some (.int x6), some (.int v3)]) (st1 := [.int x5, .int x1, .ref a0]) (σ1 := σ4) zM_X1_openedByte dX1_openedByte_45 rfl rfl rfl rfl ?_
        refine zw_go (pc1 := 48) (L1 := [some (.ref a0), some (.int x1), some (.int x2), some (.int x3), some (.int x4), some (.int x5), some (.int x6), some (.int v3)]) (st1 := [.int (x1 + x5), .ref a0]) (σ1 := σ4) zM_X1_openedByte dX1_openedByte_47 rfl rfl rfl rfl ?_
        refine zw_iconst (v := 1) zM_X1_openedByte dX1_openedByte_48 (by decide) ?_
        refine zw_go (pc1 := 50) (L1 := [some (.ref a0), some (.int x1), some (.int x2), some (.int x3), some (.int x4), some (.int x5), some (.int x6), some (.int v3)]) (st1 := [.int ((x1 + x5) + 1), .ref a0]) (σ1 := σ4) zM_X1_openedByte dX1_openedByte_49 rfl rfl rfl rfl ?_
        refine zw_go (pc1 := 52) (L1 := [some (.ref a0), some (.int x1), some (.int x2), some (.int x3), some (.int x4), some (.int x5), some (.int x6), some (.int v3)]) (st1 := [.int v3, .int ((x1 + x5) + 1), .ref a0]) (σ1 := σ4) zM_X1_openedByte dX1_openedByte_50 rfl rfl rfl rfl ?_
        refine zw_sipush (v := 128) zM_X1_openedByte dX1_openedByte_52 (by decide) ?_
        refine zw_icmp_ge (tgt := 65) zM_X1_openedByte dX1_openedByte_55 rfl rfl (fun q => ?_) (fun q => ?_)
        · replace h := h.1 q
          refine zw_iconst (v := 0) zM_X1_openedByte dX1_openedByte_65 (by decide) ?_
          exact zw_weak2 h trivial
        · replace h := h.2 q
          refine zw_go (pc1 := 59) (L1 := [some (.ref a0), some (.int x1), some (.int x2), some (.int x3), some (.int x4), some (.int x5), some (.int x6), some (.int v3)]) (st1 := [.int x3, .int ((x1 + x5) + 1), .ref a0]) (σ1 := σ4) zM_X1_openedByte dX1_openedByte_58 rfl rfl rfl rfl ?_
          refine zw_go (pc1 := 61) (L1 := [some (.ref a0), some (.int x1), some (.int x2), some (.int x3), some (.int x4), some (.int x5), some (.int x6), some (.int v3)]) (st1 := [.int x4, .int x3, .int ((x1 + x5) + 1), .ref a0]) (σ1 := σ4) zM_X1_openedByte dX1_openedByte_59 rfl rfl rfl rfl ?_
          refine zw_go (pc1 := 62) (L1 := [some (.ref a0), some (.int x1), some (.int x2), some (.int x3), some (.int x4), some (.int x5), some (.int x6), some (.int v3)]) (st1 := [.int (x3 - x4), .int ((x1 + x5) + 1), .ref a0]) (σ1 := σ4) zM_X1_openedByte dX1_openedByte_61 rfl rfl rfl rfl ?_
          refine zw_goto (tgt := 66) zM_X1_openedByte dX1_openedByte_62 rfl ?_
          exact zw_weak2 h trivial
set_option maxHeartbeats 4000000 in
set_option maxRecDepth 100000 in
theorem vc_X1_openedByte_66 (y0 : Int32) (y1 : Int32) (c2 : Nat) (σ : zx_S) (K : Int32 → zx_S → Prop) (h : zK σ c2 = 14 ∧ zwI 21 0 [some (.ref c2), some (.int (y1 + y0))] [] σ (fun v3 σ2 => K v3 σ2)) : zwI 33 66 [none, none, none, none, none, none, none, none] [.int y0, .int y1, .ref c2] σ K := by
  refine zw_go (pc1 := 67) (L1 := [none, none, none, none, none, none, none, none]) (st1 := [.int (y1 + y0), .ref c2]) (σ1 := σ) zM_X1_openedByte dX1_openedByte_66 rfl rfl rfl rfl ?_
  obtain ⟨hk1, h⟩ := h
  refine zw_callI (as := [.ref c2, .int (y1 + y0)]) (rest := []) zM_X1_openedByte dX1_openedByte_67 (zx_calV zC_1_41) zM_X1_byteAt rfl rfl rfl rfl rfl (zx_args0 hk1 rfl) rfl h (fun v3 σ2 h => ?_)
  exact zw_reti zM_X1_openedByte dX1_openedByte_70 rfl h
set_option maxHeartbeats 4000000 in
set_option maxRecDepth 100000 in
theorem vc_X1_openedBytes_0 (a0 : Nat) (x1 : Int32) (x2 : Int32) (σ : zx_S) (K : Int32 → zx_S → Prop) (h : zwI 34 8 [some (.ref a0), some (.int x1), some (.int x2), some (.int 0), some (.int 0), some (.int 0), none] [] σ K) : zwI 34 0 [some (.ref a0), some (.int x1), some (.int x2), none, none, none, none] [] σ K := by
  refine zw_iconst (v := 0) zM_X1_openedBytes dX1_openedBytes_0 (by decide) ?_
  refine zw_go (pc1 := 2) (L1 := [some (.ref a0), some (.int x1), some (.int x2), some (.int 0), none, none, none]) (st1 := []) (σ1 := σ) zM_X1_openedBytes dX1_openedBytes_1 rfl rfl rfl rfl ?_
  refine zw_iconst (v := 0) zM_X1_openedBytes dX1_openedBytes_2 (by decide) ?_
  refine zw_go (pc1 := 5) (L1 := [some (.ref a0), some (.int x1), some (.int x2), some (.int 0), some (.int 0), none, none]) (st1 := []) (σ1 := σ) zM_X1_openedBytes dX1_openedBytes_3 rfl rfl rfl rfl ?_
  refine zw_iconst (v := 0) zM_X1_openedBytes dX1_openedBytes_5 (by decide) ?_
  refine zw_go (pc1 := 8) (L1 := [some (.ref a0), some (.int x1), some (.int x2), some (.int 0), some (.int 0), some (.int 0), none]) (st1 := []) (σ1 := σ) zM_X1_openedBytes dX1_openedBytes_6 rfl rfl rfl rfl ?_
  exact zw_weak2 h ⟨rfl, rfl, rfl, rfl, rfl, rfl, trivial⟩
set_option maxHeartbeats 4000000 in
set_option maxRecDepth 100000 in
theorem vc_X1_openedBytes_8 (a0 : Nat) (x1 : Int32) (x2 : Int32) (x3 : Int32) (x4 : Int32) (x5 : Int32) (σ : zx_S) (K : Int32 → zx_S → Prop) (h : ((x2 ≤ x5 → zwI 34 54 [none, none, some (.int x2), some (.int x3), some (.int x4), none, none] [] σ K) ∧ (¬ x2 ≤ x5 → ((x2 ≤ x4 → zwI 34 54 [none, none, some (.int x2), some (.int x3), some (.int x4), none, none] [] σ K) ∧ (¬ x2 ≤ x4 → zK σ a0 = 14 ∧ zwI 21 0 [some (.ref a0), some (.int (x1 + x4))] [] σ (fun v3 σ2 => zwI 35 0 [some (.int v3)] [] σ2 (fun v5 σ4 => zwI 37 0 [some (.int v3)] [] σ4 (fun v7 σ6 => zwI 34 8 [some (.ref a0), some (.int x1), some (.int x2), some (.int (x3 + v5)), some (.int (x4 + v7)), some (.int (x5 + Int32.ofInt 1)), none] [] σ6 K)))))))) : zwI 34 8 [some (.ref a0), some (.int x1), some (.int x2), some (.int x3), some (.int x4), some (.int x5), none] [] σ K := by
  refine zw_go (pc1 := 10) (L1 := [some (.ref a0), some (.int x1), some (.int x2), some (.int x3), some (.int x4), some (.int x5), none]) (st1 := [.int x5]) (σ1 := σ) zM_X1_openedBytes dX1_openedBytes_8 rfl rfl rfl rfl ?_
  refine zw_go (pc1 := 11) (L1 := [some (.ref a0), some (.int x1), some (.int x2), some (.int x3), some (.int x4), some (.int x5), none]) (st1 := [.int x2, .int x5]) (σ1 := σ) zM_X1_openedBytes dX1_openedBytes_10 rfl rfl rfl rfl ?_
  refine zw_icmp_ge (tgt := 54) zM_X1_openedBytes dX1_openedBytes_11 rfl rfl (fun q => ?_) (fun q => ?_)
  · replace h := h.1 q
    exact zw_weak2 h ⟨rfl, rfl, rfl, trivial⟩
  · replace h := h.2 q
    refine zw_go (pc1 := 16) (L1 := [some (.ref a0), some (.int x1), some (.int x2), some (.int x3), some (.int x4), some (.int x5), none]) (st1 := [.int x4]) (σ1 := σ) zM_X1_openedBytes dX1_openedBytes_14 rfl rfl rfl rfl ?_
    refine zw_go (pc1 := 17) (L1 := [some (.ref a0), some (.int x1), some (.int x2), some (.int x3), some (.int x4), some (.int x5), none]) (st1 := [.int x2, .int x4]) (σ1 := σ) zM_X1_openedBytes dX1_openedBytes_16 rfl rfl rfl rfl ?_
    refine zw_icmp_ge (tgt := 54) zM_X1_openedBytes dX1_openedBytes_17 rfl rfl (fun q => ?_) (fun q => ?_)
    · replace h := h.1 q
      exact zw_weak2 h ⟨rfl, rfl, rfl, trivial⟩
    · replace h := h.2 q
      refine zw_go (pc1 := 21) (L1 := [some (.ref a0), some (.int x1), some (.int x2), some (.int x3), some (.int x4), some (.int x5), none]) (st1 := [.ref a0]) (σ1 := σ) zM_X1_openedBytes dX1_openedBytes_20 rfl rfl rfl rfl ?_
      refine zw_go (pc1 := 22) (L1 := [some (.ref a0), some (.int x1), some (.int x2), some (.int x3), some (.int x4), some (.int x5), none]) (st1 := [.int x1, .ref a0]) (σ1 := σ) zM_X1_openedBytes dX1_openedBytes_21 rfl rfl rfl rfl ?_
      refine zw_go (pc1 := 24) (L1 := [some (.ref a0), some (.int x1), some (.int x2), some (.int x3), some (.int x4), some (.int x5), none]) (st1 := [.int x4, .int x1, .ref a0]) (σ1 := σ) zM_X1_openedBytes dX1_openedBytes_22 rfl rfl rfl rfl ?_
      refine zw_go (pc1 := 25) (L1 := [some (.ref a0), some (.int x1), some (.int x2), some (.int x3), some (.int x4), some (.int x5), none]) (st1 := [.int (x1 + x4), .ref a0]) (σ1 := σ) zM_X1_openedBytes dX1_openedBytes_24 rfl rfl rfl rfl ?_
      obtain ⟨hk1, h⟩ := h
      refine zw_callI (as := [.ref a0, .int (x1 + x4)]) (rest := []) zM_X1_openedBytes dX1_openedBytes_25 (zx_calV zC_1_41) zM_X1_byteAt rfl rfl rfl rfl rfl (zx_args0 hk1 rfl) rfl h (fun v3 σ2 h => ?_)
      refine zw_go (pc1 := 30) (L1 := [some (.ref a0), some (.int x1), some (.int x2), some (.int x3), some (.int x4), some (.int x5), some (.int v3)]) (st1 := []) (σ1 := σ2) zM_X1_openedBytes dX1_openedBytes_28 rfl rfl rfl rfl ?_
      refine zw_go (pc1 := 31) (L1 := [some (.ref a0), some (.int x1), some (.int x2), some (.int x3), some (.int x4), some (.int x5), some (.int v3)]) (st1 := [.int x3]) (σ1 := σ2) zM_X1_openedBytes dX1_openedBytes_30 rfl rfl rfl rfl ?_
      refine zw_go (pc1 := 33) (L1 := [some (.ref a0), some (.int x1), some (.int x2), some (.int x3), some (.int x4), some (.int x5), some (.int v3)]) (st1 := [.int v3, .int x3]) (σ1 := σ2) zM_X1_openedBytes dX1_openedBytes_31 rfl rfl rfl rfl ?_
      refine zw_callI (as := [.int v3]) (rest := [.int x3]) zM_X1_openedBytes dX1_openedBytes_33 (zx_calS zC_1_97) zM_X1_opensTo rfl rfl rfl rfl rfl rfl rfl h (fun v5 σ4 h => ?_)
      refine zw_go (pc1 := 37) (L1 := [some (.ref a0), some (.int x1), some (.int x2), some (.int x3), some (.int x4), some (.int x5), some (.int v3)]) (st1 := [.int (x3 + v5)]) (σ1 := σ4) zM_X1_openedBytes dX1_openedBytes_36 rfl rfl rfl rfl ?_
      refine zw_go (pc1 := 38) (L1 := [some (.ref a0), some (.int x1), some (.int x2), some (.int (x3 + v5)), some (.int x4), some (.int x5), some (.int v3)]) (st1 := []) (σ1 := σ4) zM_X1_openedBytes dX1_openedBytes_37 rfl rfl rfl rfl ?_
      refine zw_go (pc1 := 40) (L1 := [some (.ref a0), some (.int x1), some (.int x2), some (.int (x3 + v5)), some (.int x4), some (.int x5), some (.int v3)]) (st1 := [.int x4]) (σ1 := σ4) zM_X1_openedBytes dX1_openedBytes_38 rfl rfl rfl rfl ?_
      refine zw_go (pc1 := 42) (L1 := [some (.ref a0), some (.int x1), some (.int x2), some (.int (x3 + v5)), some (.int x4), some (.int x5), some (.int v3)]) (st1 := [.int v3, .int x4]) (σ1 := σ4) zM_X1_openedBytes dX1_openedBytes_40 rfl rfl rfl rfl ?_
      refine zw_callI (as := [.int v3]) (rest := [.int x4]) zM_X1_openedBytes dX1_openedBytes_42 (zx_calS zC_1_100) zM_X1_packetBytes rfl rfl rfl rfl rfl rfl rfl h (fun v7 σ6 h => ?_)
      refine zw_go (pc1 := 46) (L1 := [some (.ref a0), some (.int x1), some (.int x2), some (.int (x3 + v5)), some (.int x4), some (.int x5), some (.int v3)]) (st1 := [.int (x4 + v7)]) (σ1 := σ6) zM_X1_openedBytes dX1_openedBytes_45 rfl rfl rfl rfl ?_
      refine zw_go (pc1 := 48) (L1 := [some (.ref a0), some (.int x1), some (.int x2), some (.int (x3 + v5)), some (.int (x4 + v7)), some (.int x5), some (.int v3)]) (st1 := []) (σ1 := σ6) zM_X1_openedBytes dX1_openedBytes_46 rfl rfl rfl rfl ?_
      refine zw_go (pc1 := 51) (L1 := [some (.ref a0), some (.int x1), some (.int x2), some (.int (x3 + v5)), some (.int (x4 + v7)), some (.int (x5 + Int32.ofInt 1)), some (.int v3)]) (st1 := []) (σ1 := σ6) zM_X1_openedBytes dX1_openedBytes_48 rfl rfl rfl rfl ?_
      refine zw_goto (tgt := 8) zM_X1_openedBytes dX1_openedBytes_51 rfl ?_
      exact zw_weak2 h ⟨rfl, rfl, rfl, rfl, rfl, rfl, trivial⟩
set_option maxHeartbeats 4000000 in
set_option maxRecDepth 100000 in
theorem vc_X1_openedBytes_54 (x2 : Int32) (x3 : Int32) (x4 : Int32) (σ : zx_S) (K : Int32 → zx_S → Prop) (h : ((¬ x4 = x2 → K (-1) σ) ∧ (x4 = x2 → K x3 σ))) : zwI 34 54 [none, none, some (.int x2), some (.int x3), some (.int x4), none, none] [] σ K := by
  refine zw_go (pc1 := 56) (L1 := [none, none, some (.int x2), some (.int x3), some (.int x4), none, none]) (st1 := [.int x4]) (σ1 := σ) zM_X1_openedBytes dX1_openedBytes_54 rfl rfl rfl rfl ?_
  refine zw_go (pc1 := 57) (L1 := [none, none, some (.int x2), some (.int x3), some (.int x4), none, none]) (st1 := [.int x2, .int x4]) (σ1 := σ) zM_X1_openedBytes dX1_openedBytes_56 rfl rfl rfl rfl ?_
  refine zw_icmp_ne (tgt := 64) zM_X1_openedBytes dX1_openedBytes_57 rfl rfl (fun q => ?_) (fun q => ?_)
  · replace h := h.1 q
    refine zw_iconst (v := (-1)) zM_X1_openedBytes dX1_openedBytes_64 (by decide) ?_
    exact zw_reti zM_X1_openedBytes dX1_openedBytes_65 rfl h
  · replace h := h.2 q
    refine zw_go (pc1 := 61) (L1 := [none, none, some (.int x2), some (.int x3), some (.int x4), none, none]) (st1 := [.int x3]) (σ1 := σ) zM_X1_openedBytes dX1_openedBytes_60 rfl rfl rfl rfl ?_
    refine zw_goto (tgt := 65) zM_X1_openedBytes dX1_openedBytes_61 rfl ?_
    exact zw_reti zM_X1_openedBytes dX1_openedBytes_65 rfl h
set_option maxHeartbeats 4000000 in
set_option maxRecDepth 100000 in
theorem vc_X1_opensTo_0 (x0 : Int32) (σ : zx_S) (K : Int32 → zx_S → Prop) (h : (((128 : Int32) ≤ x0 → ((¬ x0 = (128 : Int32) → K (257 - x0) σ) ∧ (x0 = (128 : Int32) → K 0 σ))) ∧ (¬ (128 : Int32) ≤ x0 → K (x0 + 1) σ))) : zwI 35 0 [some (.int x0)] [] σ K := by
  refine zw_go (pc1 := 1) (L1 := [some (.int x0)]) (st1 := [.int x0]) (σ1 := σ) zM_X1_opensTo dX1_opensTo_0 rfl rfl rfl rfl ?_
  refine zw_sipush (v := 128) zM_X1_opensTo dX1_opensTo_1 (by decide) ?_
  refine zw_icmp_ge (tgt := 13) zM_X1_opensTo dX1_opensTo_4 rfl rfl (fun q => ?_) (fun q => ?_)
  · replace h := h.1 q
    refine zw_go (pc1 := 14) (L1 := [some (.int x0)]) (st1 := [.int x0]) (σ1 := σ) zM_X1_opensTo dX1_opensTo_13 rfl rfl rfl rfl ?_
    refine zw_sipush (v := 128) zM_X1_opensTo dX1_opensTo_14 (by decide) ?_
    refine zw_icmp_ne (tgt := 24) zM_X1_opensTo dX1_opensTo_17 rfl rfl (fun q => ?_) (fun q => ?_)
    · replace h := h.1 q
      refine zw_sipush (v := 257) zM_X1_opensTo dX1_opensTo_24 (by decide) ?_
      refine zw_go (pc1 := 28) (L1 := [some (.int x0)]) (st1 := [.int x0, .int 257]) (σ1 := σ) zM_X1_opensTo dX1_opensTo_27 rfl rfl rfl rfl ?_
      refine zw_go (pc1 := 29) (L1 := [some (.int x0)]) (st1 := [.int (257 - x0)]) (σ1 := σ) zM_X1_opensTo dX1_opensTo_28 rfl rfl rfl rfl ?_
      exact zw_reti zM_X1_opensTo dX1_opensTo_29 rfl h
    · replace h := h.2 q
      refine zw_iconst (v := 0) zM_X1_opensTo dX1_opensTo_20 (by decide) ?_
      refine zw_goto (tgt := 29) zM_X1_opensTo dX1_opensTo_21 rfl ?_
      exact zw_reti zM_X1_opensTo dX1_opensTo_29 rfl h
  · replace h := h.2 q
    refine zw_go (pc1 := 8) (L1 := [some (.int x0)]) (st1 := [.int x0]) (σ1 := σ) zM_X1_opensTo dX1_opensTo_7 rfl rfl rfl rfl ?_
    refine zw_iconst (v := 1) zM_X1_opensTo dX1_opensTo_8 (by decide) ?_
    refine zw_go (pc1 := 10) (L1 := [some (.int x0)]) (st1 := [.int (x0 + 1)]) (σ1 := σ) zM_X1_opensTo dX1_opensTo_9 rfl rfl rfl rfl ?_
    refine zw_goto (tgt := 29) zM_X1_opensTo dX1_opensTo_10 rfl ?_
    exact zw_reti zM_X1_opensTo dX1_opensTo_29 rfl h
set_option maxHeartbeats 4000000 in
set_option maxRecDepth 100000 in
theorem vc_X1_ownerOf_0 (a0 : Nat) (x1 : Int32) (σ : zx_S) (K : Int32 → zx_S → Prop) (h : zK σ a0 = 14 ∧ zwI 42 0 [some (.ref a0), some (.int x1)] [] σ (fun v3 σ2 => zK σ2 a0 = 14 ∧ zwI 51 0 [some (.ref a0), some (.int (v3 + 3))] [] σ2 (fun v6 σ5 => K v6 σ5))) : zwI 36 0 [some (.ref a0), some (.int x1)] [] σ K := by
  refine zw_go (pc1 := 1) (L1 := [some (.ref a0), some (.int x1)]) (st1 := [.ref a0]) (σ1 := σ) zM_X1_ownerOf dX1_ownerOf_0 rfl rfl rfl rfl ?_
  refine zw_go (pc1 := 2) (L1 := [some (.ref a0), some (.int x1)]) (st1 := [.ref a0, .ref a0]) (σ1 := σ) zM_X1_ownerOf dX1_ownerOf_1 rfl rfl rfl rfl ?_
  refine zw_go (pc1 := 3) (L1 := [some (.ref a0), some (.int x1)]) (st1 := [.int x1, .ref a0, .ref a0]) (σ1 := σ) zM_X1_ownerOf dX1_ownerOf_2 rfl rfl rfl rfl ?_
  obtain ⟨hk1, h⟩ := h
  refine zw_callI (as := [.ref a0, .int x1]) (rest := [.ref a0]) zM_X1_ownerOf dX1_ownerOf_3 (zx_calV zC_1_68) zM_X1_rowOf rfl rfl rfl rfl rfl (zx_args0 hk1 rfl) rfl h (fun v3 σ2 h => ?_)
  refine zw_iconst (v := 3) zM_X1_ownerOf dX1_ownerOf_6 (by decide) ?_
  refine zw_go (pc1 := 8) (L1 := [some (.ref a0), some (.int x1)]) (st1 := [.int (v3 + 3), .ref a0]) (σ1 := σ2) zM_X1_ownerOf dX1_ownerOf_7 rfl rfl rfl rfl ?_
  obtain ⟨hk4, h⟩ := h
  refine zw_callI (as := [.ref a0, .int (v3 + 3)]) (rest := []) zM_X1_ownerOf dX1_ownerOf_8 (zx_calV zC_1_48) zM_X1_wordAt rfl rfl rfl rfl rfl (zx_args0 hk4 rfl) rfl h (fun v6 σ5 h => ?_)
  exact zw_reti zM_X1_ownerOf dX1_ownerOf_11 rfl h
set_option maxHeartbeats 4000000 in
set_option maxRecDepth 100000 in
theorem vc_X1_packetBytes_0 (x0 : Int32) (σ : zx_S) (K : Int32 → zx_S → Prop) (h : (((128 : Int32) ≤ x0 → ((¬ x0 = (128 : Int32) → K 2 σ) ∧ (x0 = (128 : Int32) → K 1 σ))) ∧ (¬ (128 : Int32) ≤ x0 → K (x0 + 2) σ))) : zwI 37 0 [some (.int x0)] [] σ K := by
  refine zw_go (pc1 := 1) (L1 := [some (.int x0)]) (st1 := [.int x0]) (σ1 := σ) zM_X1_packetBytes dX1_packetBytes_0 rfl rfl rfl rfl ?_
  refine zw_sipush (v := 128) zM_X1_packetBytes dX1_packetBytes_1 (by decide) ?_
  refine zw_icmp_ge (tgt := 13) zM_X1_packetBytes dX1_packetBytes_4 rfl rfl (fun q => ?_) (fun q => ?_)
  · replace h := h.1 q
    refine zw_go (pc1 := 14) (L1 := [some (.int x0)]) (st1 := [.int x0]) (σ1 := σ) zM_X1_packetBytes dX1_packetBytes_13 rfl rfl rfl rfl ?_
    refine zw_sipush (v := 128) zM_X1_packetBytes dX1_packetBytes_14 (by decide) ?_
    refine zw_icmp_ne (tgt := 24) zM_X1_packetBytes dX1_packetBytes_17 rfl rfl (fun q => ?_) (fun q => ?_)
    · replace h := h.1 q
      refine zw_iconst (v := 2) zM_X1_packetBytes dX1_packetBytes_24 (by decide) ?_
      exact zw_reti zM_X1_packetBytes dX1_packetBytes_25 rfl h
    · replace h := h.2 q
      refine zw_iconst (v := 1) zM_X1_packetBytes dX1_packetBytes_20 (by decide) ?_
      refine zw_goto (tgt := 25) zM_X1_packetBytes dX1_packetBytes_21 rfl ?_
      exact zw_reti zM_X1_packetBytes dX1_packetBytes_25 rfl h
  · replace h := h.2 q
    refine zw_go (pc1 := 8) (L1 := [some (.int x0)]) (st1 := [.int x0]) (σ1 := σ) zM_X1_packetBytes dX1_packetBytes_7 rfl rfl rfl rfl ?_
    refine zw_iconst (v := 2) zM_X1_packetBytes dX1_packetBytes_8 (by decide) ?_
    refine zw_go (pc1 := 10) (L1 := [some (.int x0)]) (st1 := [.int (x0 + 2)]) (σ1 := σ) zM_X1_packetBytes dX1_packetBytes_9 rfl rfl rfl rfl ?_
    refine zw_goto (tgt := 25) zM_X1_packetBytes dX1_packetBytes_10 rfl ?_
    exact zw_reti zM_X1_packetBytes dX1_packetBytes_25 rfl h
set_option maxHeartbeats 4000000 in
set_option maxRecDepth 100000 in
theorem vc_X1_putByte_0 (a0 : Nat) (x1 : Int32) (σ : zx_S) (K : zx_S → Prop) (h : zK σ a0 = 14 ∧ ∃ b2 : Nat, zR σ a0 0 = some b2 ∧ zK σ b2 = 1 ∧ (((Int32.ofNat (zN σ b2)) ≤ (zI σ a0 1) → K σ) ∧ (¬ (Int32.ofNat (zN σ b2)) ≤ (zI σ a0 1) → zx_in (zI σ a0 1) (zN σ b2) = true ∧ ∀ σ6 : zx_S, σ6 = zx_pI σ b2 (Int32.toNatClampNeg (zI σ a0 1)) (x1 &&& 255) → ∀ σ8 : zx_S, σ8 = zx_pI σ6 a0 1 ((zI σ6 a0 1) + 1) → K σ8))) : zwV 38 0 [some (.ref a0), some (.int x1)] [] σ K := by
  refine zw_go (pc1 := 1) (L1 := [some (.ref a0), some (.int x1)]) (st1 := [.ref a0]) (σ1 := σ) zM_X1_putByte dX1_putByte_0 rfl rfl rfl rfl ?_
  obtain ⟨hk1, h⟩ := h
  refine zw_getI zM_X1_putByte dX1_putByte_1 zF_1_15 rfl hk1 ?_
  refine zw_go (pc1 := 5) (L1 := [some (.ref a0), some (.int x1)]) (st1 := [.ref a0, .int (zI σ a0 1)]) (σ1 := σ) zM_X1_putByte dX1_putByte_4 rfl rfl rfl rfl ?_
  obtain ⟨b2, hr3, h⟩ := h
  refine zw_getR (a := b2) zM_X1_putByte dX1_putByte_5 zF_1_9 rfl hk1 hr3 ?_
  obtain ⟨hk4, h⟩ := h
  refine zw_alen zM_X1_putByte dX1_putByte_8 (Or.inl hk4) ?_
  refine zw_icmp_ge (tgt := 36) zM_X1_putByte dX1_putByte_9 rfl rfl (fun q => ?_) (fun q => ?_)
  · replace h := h.1 q
    exact zw_retv zM_X1_putByte dX1_putByte_36 rfl h
  · replace h := h.2 q
    refine zw_go (pc1 := 13) (L1 := [some (.ref a0), some (.int x1)]) (st1 := [.ref a0]) (σ1 := σ) zM_X1_putByte dX1_putByte_12 rfl rfl rfl rfl ?_
    refine zw_getR (a := b2) zM_X1_putByte dX1_putByte_13 zF_1_9 rfl hk1 hr3 ?_
    refine zw_go (pc1 := 17) (L1 := [some (.ref a0), some (.int x1)]) (st1 := [.ref a0, .ref b2]) (σ1 := σ) zM_X1_putByte dX1_putByte_16 rfl rfl rfl rfl ?_
    refine zw_getI zM_X1_putByte dX1_putByte_17 zF_1_15 rfl hk1 ?_
    refine zw_go (pc1 := 21) (L1 := [some (.ref a0), some (.int x1)]) (st1 := [.int x1, .int (zI σ a0 1), .ref b2]) (σ1 := σ) zM_X1_putByte dX1_putByte_20 rfl rfl rfl rfl ?_
    refine zw_sipush (v := 255) zM_X1_putByte dX1_putByte_21 (by decide) ?_
    refine zw_go (pc1 := 25) (L1 := [some (.ref a0), some (.int x1)]) (st1 := [.int (x1 &&& 255), .int (zI σ a0 1), .ref b2]) (σ1 := σ) zM_X1_putByte dX1_putByte_24 rfl rfl rfl rfl ?_
    obtain ⟨hi5, h⟩ := h
    obtain ⟨σ6, e7⟩ : ∃ z9 : zx_S, z9 = zx_pI σ b2 (Int32.toNatClampNeg (zI σ a0 1)) (x1 &&& 255) := ⟨_, rfl⟩
    replace h := h σ6 e7
    refine zw_iast zM_X1_putByte dX1_putByte_25 ⟨hk4, hi5⟩ e7 ?_
    refine zw_go (pc1 := 27) (L1 := [some (.ref a0), some (.int x1)]) (st1 := [.ref a0]) (σ1 := σ6) zM_X1_putByte dX1_putByte_26 rfl rfl rfl rfl ?_
    refine zw_go (pc1 := 28) (L1 := [some (.ref a0), some (.int x1)]) (st1 := [.ref a0, .ref a0]) (σ1 := σ6) zM_X1_putByte dX1_putByte_27 rfl rfl rfl rfl ?_
    refine zw_getI zM_X1_putByte dX1_putByte_28 zF_1_15 rfl (by rw [e7]; exact hk1) ?_
    refine zw_iconst (v := 1) zM_X1_putByte dX1_putByte_31 (by decide) ?_
    refine zw_go (pc1 := 33) (L1 := [some (.ref a0), some (.int x1)]) (st1 := [.int ((zI σ6 a0 1) + 1), .ref a0]) (σ1 := σ6) zM_X1_putByte dX1_putByte_32 rfl rfl rfl rfl ?_
    obtain ⟨σ8, e9⟩ : ∃ z9 : zx_S, z9 = zx_pI σ6 a0 1 ((zI σ6 a0 1) + 1) := ⟨_, rfl⟩
    replace h := h σ8 e9
    refine zw_putI zM_X1_putByte dX1_putByte_33 zF_1_15 rfl rfl (by rw [e7]; exact hk1) e9 ?_
    exact zw_retv zM_X1_putByte dX1_putByte_36 rfl h
set_option maxHeartbeats 4000000 in
set_option maxRecDepth 100000 in
theorem vc_X1_putInt_0 (a0 : Nat) (x1 : Int32) (σ : zx_S) (K : zx_S → Prop) (h : zK σ a0 = 14 ∧ zwV 40 0 [some (.ref a0), some (.int (x1 >>> (16 &&& 31)))] [] σ (fun σ2 => zK σ2 a0 = 14 ∧ zwV 40 0 [some (.ref a0), some (.int x1)] [] σ2 (fun σ4 => K σ4))) : zwV 39 0 [some (.ref a0), some (.int x1)] [] σ K := by
  refine zw_go (pc1 := 1) (L1 := [some (.ref a0), some (.int x1)]) (st1 := [.ref a0]) (σ1 := σ) zM_X1_putInt dX1_putInt_0 rfl rfl rfl rfl ?_
  refine zw_go (pc1 := 2) (L1 := [some (.ref a0), some (.int x1)]) (st1 := [.int x1, .ref a0]) (σ1 := σ) zM_X1_putInt dX1_putInt_1 rfl rfl rfl rfl ?_
  refine zw_bipush (v := 16) zM_X1_putInt dX1_putInt_2 (by decide) ?_
  refine zw_go (pc1 := 5) (L1 := [some (.ref a0), some (.int x1)]) (st1 := [.int (x1 >>> (16 &&& 31)), .ref a0]) (σ1 := σ) zM_X1_putInt dX1_putInt_4 rfl rfl rfl rfl ?_
  obtain ⟨hk1, h⟩ := h
  refine zw_callV (as := [.ref a0, .int (x1 >>> (16 &&& 31))]) (rest := []) zM_X1_putInt dX1_putInt_5 (zx_calV zC_1_23) zM_X1_putWord rfl rfl rfl rfl rfl (zx_args0 hk1 rfl) rfl h (fun σ2 h => ?_)
  refine zw_go (pc1 := 9) (L1 := [some (.ref a0), some (.int x1)]) (st1 := [.ref a0]) (σ1 := σ2) zM_X1_putInt dX1_putInt_8 rfl rfl rfl rfl ?_
  refine zw_go (pc1 := 10) (L1 := [some (.ref a0), some (.int x1)]) (st1 := [.int x1, .ref a0]) (σ1 := σ2) zM_X1_putInt dX1_putInt_9 rfl rfl rfl rfl ?_
  obtain ⟨hk3, h⟩ := h
  refine zw_callV (as := [.ref a0, .int x1]) (rest := []) zM_X1_putInt dX1_putInt_10 (zx_calV zC_1_23) zM_X1_putWord rfl rfl rfl rfl rfl (zx_args0 hk3 rfl) rfl h (fun σ4 h => ?_)
  exact zw_retv zM_X1_putInt dX1_putInt_13 rfl h
set_option maxHeartbeats 4000000 in
set_option maxRecDepth 100000 in
theorem vc_X1_putWord_0 (a0 : Nat) (x1 : Int32) (σ : zx_S) (K : zx_S → Prop) (h : zK σ a0 = 14 ∧ zwV 38 0 [some (.ref a0), some (.int (x1 >>> (8 &&& 31)))] [] σ (fun σ2 => zK σ2 a0 = 14 ∧ zwV 38 0 [some (.ref a0), some (.int x1)] [] σ2 (fun σ4 => K σ4))) : zwV 40 0 [some (.ref a0), some (.int x1)] [] σ K := by
  refine zw_go (pc1 := 1) (L1 := [some (.ref a0), some (.int x1)]) (st1 := [.ref a0]) (σ1 := σ) zM_X1_putWord dX1_putWord_0 rfl rfl rfl rfl ?_
  refine zw_go (pc1 := 2) (L1 := [some (.ref a0), some (.int x1)]) (st1 := [.int x1, .ref a0]) (σ1 := σ) zM_X1_putWord dX1_putWord_1 rfl rfl rfl rfl ?_
  refine zw_bipush (v := 8) zM_X1_putWord dX1_putWord_2 (by decide) ?_
  refine zw_go (pc1 := 5) (L1 := [some (.ref a0), some (.int x1)]) (st1 := [.int (x1 >>> (8 &&& 31)), .ref a0]) (σ1 := σ) zM_X1_putWord dX1_putWord_4 rfl rfl rfl rfl ?_
  obtain ⟨hk1, h⟩ := h
  refine zw_callV (as := [.ref a0, .int (x1 >>> (8 &&& 31))]) (rest := []) zM_X1_putWord dX1_putWord_5 (zx_calV zC_1_19) zM_X1_putByte rfl rfl rfl rfl rfl (zx_args0 hk1 rfl) rfl h (fun σ2 h => ?_)
  refine zw_go (pc1 := 9) (L1 := [some (.ref a0), some (.int x1)]) (st1 := [.ref a0]) (σ1 := σ2) zM_X1_putWord dX1_putWord_8 rfl rfl rfl rfl ?_
  refine zw_go (pc1 := 10) (L1 := [some (.ref a0), some (.int x1)]) (st1 := [.int x1, .ref a0]) (σ1 := σ2) zM_X1_putWord dX1_putWord_9 rfl rfl rfl rfl ?_
  obtain ⟨hk3, h⟩ := h
  refine zw_callV (as := [.ref a0, .int x1]) (rest := []) zM_X1_putWord dX1_putWord_10 (zx_calV zC_1_19) zM_X1_putByte rfl rfl rfl rfl rfl (zx_args0 hk3 rfl) rfl h (fun σ4 h => ?_)
  exact zw_retv zM_X1_putWord dX1_putWord_13 rfl h
set_option maxHeartbeats 4000000 in
set_option maxRecDepth 100000 in
theorem vc_X1_readHead_0 (a0 : Nat) (σ : zx_S) (K : zx_S → Prop) (h : zK σ a0 = 14 ∧ zwI 21 0 [some (.ref a0), some (.int 2)] [] σ (fun v3 σ2 => zK σ2 a0 = 14 ∧ ∀ σ5 : zx_S, σ5 = zx_pI σ2 a0 2 v3 → zwI 51 0 [some (.ref a0), some (.int 4)] [] σ5 (fun v8 σ7 => zK σ7 a0 = 14 ∧ ∀ σ10 : zx_S, σ10 = zx_pI σ7 a0 3 v8 → zwI 51 0 [some (.ref a0), some (.int 6)] [] σ10 (fun v13 σ12 => zK σ12 a0 = 14 ∧ ∀ σ15 : zx_S, σ15 = zx_pI σ12 a0 4 v13 → zwI 51 0 [some (.ref a0), some (.int 8)] [] σ15 (fun v18 σ17 => zK σ17 a0 = 14 ∧ ∀ σ20 : zx_S, σ20 = zx_pI σ17 a0 5 v18 → zwI 51 0 [some (.ref a0), some (.int 10)] [] σ20 (fun v23 σ22 => zK σ22 a0 = 14 ∧ ∀ σ25 : zx_S, σ25 = zx_pI σ22 a0 6 v23 → zwI 51 0 [some (.ref a0), some (.int 12)] [] σ25 (fun v28 σ27 => zK σ27 a0 = 14 ∧ ∀ σ30 : zx_S, σ30 = zx_pI σ27 a0 7 v28 → K σ30))))))) : zwV 41 0 [some (.ref a0)] [] σ K := by
  refine zw_go (pc1 := 1) (L1 := [some (.ref a0)]) (st1 := [.ref a0]) (σ1 := σ) zM_X1_readHead dX1_readHead_0 rfl rfl rfl rfl ?_
  refine zw_go (pc1 := 2) (L1 := [some (.ref a0)]) (st1 := [.ref a0, .ref a0]) (σ1 := σ) zM_X1_readHead dX1_readHead_1 rfl rfl rfl rfl ?_
  refine zw_iconst (v := 2) zM_X1_readHead dX1_readHead_2 (by decide) ?_
  obtain ⟨hk1, h⟩ := h
  refine zw_callI (as := [.ref a0, .int 2]) (rest := [.ref a0]) zM_X1_readHead dX1_readHead_3 (zx_calV zC_1_41) zM_X1_byteAt rfl rfl rfl rfl rfl (zx_args0 hk1 rfl) rfl h (fun v3 σ2 h => ?_)
  obtain ⟨hk4, h⟩ := h
  obtain ⟨σ5, e6⟩ : ∃ z9 : zx_S, z9 = zx_pI σ2 a0 2 v3 := ⟨_, rfl⟩
  replace h := h σ5 e6
  refine zw_putI zM_X1_readHead dX1_readHead_6 zF_1_45 rfl rfl hk4 e6 ?_
  refine zw_go (pc1 := 10) (L1 := [some (.ref a0)]) (st1 := [.ref a0]) (σ1 := σ5) zM_X1_readHead dX1_readHead_9 rfl rfl rfl rfl ?_
  refine zw_go (pc1 := 11) (L1 := [some (.ref a0)]) (st1 := [.ref a0, .ref a0]) (σ1 := σ5) zM_X1_readHead dX1_readHead_10 rfl rfl rfl rfl ?_
  refine zw_iconst (v := 4) zM_X1_readHead dX1_readHead_11 (by decide) ?_
  refine zw_callI (as := [.ref a0, .int 4]) (rest := [.ref a0]) zM_X1_readHead dX1_readHead_12 (zx_calV zC_1_48) zM_X1_wordAt rfl rfl rfl rfl rfl (zx_args0 (by rw [e6]; exact hk4) rfl) rfl h (fun v8 σ7 h => ?_)
  obtain ⟨hk9, h⟩ := h
  obtain ⟨σ10, e11⟩ : ∃ z9 : zx_S, z9 = zx_pI σ7 a0 3 v8 := ⟨_, rfl⟩
  replace h := h σ10 e11
  refine zw_putI zM_X1_readHead dX1_readHead_15 zF_1_51 rfl rfl hk9 e11 ?_
  refine zw_go (pc1 := 19) (L1 := [some (.ref a0)]) (st1 := [.ref a0]) (σ1 := σ10) zM_X1_readHead dX1_readHead_18 rfl rfl rfl rfl ?_
  refine zw_go (pc1 := 20) (L1 := [some (.ref a0)]) (st1 := [.ref a0, .ref a0]) (σ1 := σ10) zM_X1_readHead dX1_readHead_19 rfl rfl rfl rfl ?_
  refine zw_bipush (v := 6) zM_X1_readHead dX1_readHead_20 (by decide) ?_
  refine zw_callI (as := [.ref a0, .int 6]) (rest := [.ref a0]) zM_X1_readHead dX1_readHead_22 (zx_calV zC_1_48) zM_X1_wordAt rfl rfl rfl rfl rfl (zx_args0 (by rw [e11]; exact hk9) rfl) rfl h (fun v13 σ12 h => ?_)
  obtain ⟨hk14, h⟩ := h
  obtain ⟨σ15, e16⟩ : ∃ z9 : zx_S, z9 = zx_pI σ12 a0 4 v13 := ⟨_, rfl⟩
  replace h := h σ15 e16
  refine zw_putI zM_X1_readHead dX1_readHead_25 zF_1_54 rfl rfl hk14 e16 ?_
  refine zw_go (pc1 := 29) (L1 := [some (.ref a0)]) (st1 := [.ref a0]) (σ1 := σ15) zM_X1_readHead dX1_readHead_28 rfl rfl rfl rfl ?_
  refine zw_go (pc1 := 30) (L1 := [some (.ref a0)]) (st1 := [.ref a0, .ref a0]) (σ1 := σ15) zM_X1_readHead dX1_readHead_29 rfl rfl rfl rfl ?_
  refine zw_bipush (v := 8) zM_X1_readHead dX1_readHead_30 (by decide) ?_
  refine zw_callI (as := [.ref a0, .int 8]) (rest := [.ref a0]) zM_X1_readHead dX1_readHead_32 (zx_calV zC_1_48) zM_X1_wordAt rfl rfl rfl rfl rfl (zx_args0 (by rw [e16]; exact hk14) rfl) rfl h (fun v18 σ17 h => ?_)
  obtain ⟨hk19, h⟩ := h
  obtain ⟨σ20, e21⟩ : ∃ z9 : zx_S, z9 = zx_pI σ17 a0 5 v18 := ⟨_, rfl⟩
  replace h := h σ20 e21
  refine zw_putI zM_X1_readHead dX1_readHead_35 zF_1_57 rfl rfl hk19 e21 ?_
  refine zw_go (pc1 := 39) (L1 := [some (.ref a0)]) (st1 := [.ref a0]) (σ1 := σ20) zM_X1_readHead dX1_readHead_38 rfl rfl rfl rfl ?_
  refine zw_go (pc1 := 40) (L1 := [some (.ref a0)]) (st1 := [.ref a0, .ref a0]) (σ1 := σ20) zM_X1_readHead dX1_readHead_39 rfl rfl rfl rfl ?_
  refine zw_bipush (v := 10) zM_X1_readHead dX1_readHead_40 (by decide) ?_
  refine zw_callI (as := [.ref a0, .int 10]) (rest := [.ref a0]) zM_X1_readHead dX1_readHead_42 (zx_calV zC_1_48) zM_X1_wordAt rfl rfl rfl rfl rfl (zx_args0 (by rw [e21]; exact hk19) rfl) rfl h (fun v23 σ22 h => ?_)
  obtain ⟨hk24, h⟩ := h
  obtain ⟨σ25, e26⟩ : ∃ z9 : zx_S, z9 = zx_pI σ22 a0 6 v23 := ⟨_, rfl⟩
  replace h := h σ25 e26
  refine zw_putI zM_X1_readHead dX1_readHead_45 zF_1_60 rfl rfl hk24 e26 ?_
  refine zw_go (pc1 := 49) (L1 := [some (.ref a0)]) (st1 := [.ref a0]) (σ1 := σ25) zM_X1_readHead dX1_readHead_48 rfl rfl rfl rfl ?_
  refine zw_go (pc1 := 50) (L1 := [some (.ref a0)]) (st1 := [.ref a0, .ref a0]) (σ1 := σ25) zM_X1_readHead dX1_readHead_49 rfl rfl rfl rfl ?_
  refine zw_bipush (v := 12) zM_X1_readHead dX1_readHead_50 (by decide) ?_
  refine zw_callI (as := [.ref a0, .int 12]) (rest := [.ref a0]) zM_X1_readHead dX1_readHead_52 (zx_calV zC_1_48) zM_X1_wordAt rfl rfl rfl rfl rfl (zx_args0 (by rw [e26]; exact hk24) rfl) rfl h (fun v28 σ27 h => ?_)
  obtain ⟨hk29, h⟩ := h
  obtain ⟨σ30, e31⟩ : ∃ z9 : zx_S, z9 = zx_pI σ27 a0 7 v28 := ⟨_, rfl⟩
  replace h := h σ30 e31
  refine zw_putI zM_X1_readHead dX1_readHead_55 zF_1_63 rfl rfl hk29 e31 ?_
  exact zw_retv zM_X1_readHead dX1_readHead_58 rfl h
set_option maxHeartbeats 4000000 in
set_option maxRecDepth 100000 in
theorem vc_X1_rowOf_0 (a0 : Nat) (x1 : Int32) (σ : zx_S) (K : Int32 → zx_S → Prop) (h : zK σ a0 = 14 ∧ zwI 51 0 [some (.ref a0), some (.int ((zI σ a0 7) + (2 * (x1 - 1))))] [] σ (fun v3 σ2 => K ((zI σ a0 4) + v3) σ2)) : zwI 42 0 [some (.ref a0), some (.int x1)] [] σ K := by
  refine zw_go (pc1 := 1) (L1 := [some (.ref a0), some (.int x1)]) (st1 := [.ref a0]) (σ1 := σ) zM_X1_rowOf dX1_rowOf_0 rfl rfl rfl rfl ?_
  obtain ⟨hk1, h⟩ := h
  refine zw_getI zM_X1_rowOf dX1_rowOf_1 zF_1_54 rfl hk1 ?_
  refine zw_go (pc1 := 5) (L1 := [some (.ref a0), some (.int x1)]) (st1 := [.ref a0, .int (zI σ a0 4)]) (σ1 := σ) zM_X1_rowOf dX1_rowOf_4 rfl rfl rfl rfl ?_
  refine zw_go (pc1 := 6) (L1 := [some (.ref a0), some (.int x1)]) (st1 := [.ref a0, .ref a0, .int (zI σ a0 4)]) (σ1 := σ) zM_X1_rowOf dX1_rowOf_5 rfl rfl rfl rfl ?_
  refine zw_getI zM_X1_rowOf dX1_rowOf_6 zF_1_63 rfl hk1 ?_
  refine zw_iconst (v := 2) zM_X1_rowOf dX1_rowOf_9 (by decide) ?_
  refine zw_go (pc1 := 11) (L1 := [some (.ref a0), some (.int x1)]) (st1 := [.int x1, .int 2, .int (zI σ a0 7), .ref a0, .int (zI σ a0 4)]) (σ1 := σ) zM_X1_rowOf dX1_rowOf_10 rfl rfl rfl rfl ?_
  refine zw_iconst (v := 1) zM_X1_rowOf dX1_rowOf_11 (by decide) ?_
  refine zw_go (pc1 := 13) (L1 := [some (.ref a0), some (.int x1)]) (st1 := [.int (x1 - 1), .int 2, .int (zI σ a0 7), .ref a0, .int (zI σ a0 4)]) (σ1 := σ) zM_X1_rowOf dX1_rowOf_12 rfl rfl rfl rfl ?_
  refine zw_go (pc1 := 14) (L1 := [some (.ref a0), some (.int x1)]) (st1 := [.int (2 * (x1 - 1)), .int (zI σ a0 7), .ref a0, .int (zI σ a0 4)]) (σ1 := σ) zM_X1_rowOf dX1_rowOf_13 rfl rfl rfl rfl ?_
  refine zw_go (pc1 := 15) (L1 := [some (.ref a0), some (.int x1)]) (st1 := [.int ((zI σ a0 7) + (2 * (x1 - 1))), .ref a0, .int (zI σ a0 4)]) (σ1 := σ) zM_X1_rowOf dX1_rowOf_14 rfl rfl rfl rfl ?_
  refine zw_callI (as := [.ref a0, .int ((zI σ a0 7) + (2 * (x1 - 1)))]) (rest := [.int (zI σ a0 4)]) zM_X1_rowOf dX1_rowOf_15 (zx_calV zC_1_48) zM_X1_wordAt rfl rfl rfl rfl rfl (zx_args0 hk1 rfl) rfl h (fun v3 σ2 h => ?_)
  refine zw_go (pc1 := 19) (L1 := [some (.ref a0), some (.int x1)]) (st1 := [.int ((zI σ a0 4) + v3)]) (σ1 := σ2) zM_X1_rowOf dX1_rowOf_18 rfl rfl rfl rfl ?_
  exact zw_reti zM_X1_rowOf dX1_rowOf_19 rfl h
set_option maxHeartbeats 4000000 in
set_option maxRecDepth 100000 in
theorem vc_X1_setWord_0 (a0 : Nat) (x1 : Int32) (x2 : Int32) (σ : zx_S) (K : zx_S → Prop) (h : ((x1 < (0 : Int32) → K σ) ∧ (¬ x1 < (0 : Int32) → zK σ a0 = 14 ∧ (((zI σ a0 1) ≤ (x1 + 1) → K σ) ∧ (¬ (zI σ a0 1) ≤ (x1 + 1) → ∃ b2 : Nat, zR σ a0 0 = some b2 ∧ zK σ b2 = 1 ∧ zx_in x1 (zN σ b2) = true ∧ ∀ σ6 : zx_S, σ6 = zx_pI σ b2 (Int32.toNatClampNeg x1) ((x2 >>> (8 &&& 31)) &&& 255) → zx_in (x1 + 1) (zN σ6 b2) = true ∧ ∀ σ9 : zx_S, σ9 = zx_pI σ6 b2 (Int32.toNatClampNeg (x1 + 1)) (x2 &&& 255) → K σ9))))) : zwV 43 0 [some (.ref a0), some (.int x1), some (.int x2)] [] σ K := by
  refine zw_go (pc1 := 1) (L1 := [some (.ref a0), some (.int x1), some (.int x2)]) (st1 := [.int x1]) (σ1 := σ) zM_X1_setWord dX1_setWord_0 rfl rfl rfl rfl ?_
  refine zw_if_lt (tgt := 41) zM_X1_setWord dX1_setWord_1 rfl rfl (fun q => ?_) (fun q => ?_)
  · replace h := h.1 q
    exact zw_retv zM_X1_setWord dX1_setWord_41 rfl h
  · replace h := h.2 q
    refine zw_go (pc1 := 5) (L1 := [some (.ref a0), some (.int x1), some (.int x2)]) (st1 := [.int x1]) (σ1 := σ) zM_X1_setWord dX1_setWord_4 rfl rfl rfl rfl ?_
    refine zw_iconst (v := 1) zM_X1_setWord dX1_setWord_5 (by decide) ?_
    refine zw_go (pc1 := 7) (L1 := [some (.ref a0), some (.int x1), some (.int x2)]) (st1 := [.int (x1 + 1)]) (σ1 := σ) zM_X1_setWord dX1_setWord_6 rfl rfl rfl rfl ?_
    refine zw_go (pc1 := 8) (L1 := [some (.ref a0), some (.int x1), some (.int x2)]) (st1 := [.ref a0, .int (x1 + 1)]) (σ1 := σ) zM_X1_setWord dX1_setWord_7 rfl rfl rfl rfl ?_
    obtain ⟨hk1, h⟩ := h
    refine zw_getI zM_X1_setWord dX1_setWord_8 zF_1_15 rfl hk1 ?_
    refine zw_icmp_ge (tgt := 41) zM_X1_setWord dX1_setWord_11 rfl rfl (fun q => ?_) (fun q => ?_)
    · replace h := h.1 q
      exact zw_retv zM_X1_setWord dX1_setWord_41 rfl h
    · replace h := h.2 q
      refine zw_go (pc1 := 15) (L1 := [some (.ref a0), some (.int x1), some (.int x2)]) (st1 := [.ref a0]) (σ1 := σ) zM_X1_setWord dX1_setWord_14 rfl rfl rfl rfl ?_
      obtain ⟨b2, hr3, h⟩ := h
      refine zw_getR (a := b2) zM_X1_setWord dX1_setWord_15 zF_1_9 rfl hk1 hr3 ?_
      refine zw_go (pc1 := 19) (L1 := [some (.ref a0), some (.int x1), some (.int x2)]) (st1 := [.int x1, .ref b2]) (σ1 := σ) zM_X1_setWord dX1_setWord_18 rfl rfl rfl rfl ?_
      refine zw_go (pc1 := 20) (L1 := [some (.ref a0), some (.int x1), some (.int x2)]) (st1 := [.int x2, .int x1, .ref b2]) (σ1 := σ) zM_X1_setWord dX1_setWord_19 rfl rfl rfl rfl ?_
      refine zw_bipush (v := 8) zM_X1_setWord dX1_setWord_20 (by decide) ?_
      refine zw_go (pc1 := 23) (L1 := [some (.ref a0), some (.int x1), some (.int x2)]) (st1 := [.int (x2 >>> (8 &&& 31)), .int x1, .ref b2]) (σ1 := σ) zM_X1_setWord dX1_setWord_22 rfl rfl rfl rfl ?_
      refine zw_sipush (v := 255) zM_X1_setWord dX1_setWord_23 (by decide) ?_
      refine zw_go (pc1 := 27) (L1 := [some (.ref a0), some (.int x1), some (.int x2)]) (st1 := [.int ((x2 >>> (8 &&& 31)) &&& 255), .int x1, .ref b2]) (σ1 := σ) zM_X1_setWord dX1_setWord_26 rfl rfl rfl rfl ?_
      obtain ⟨hk4, h⟩ := h
      obtain ⟨hi5, h⟩ := h
      obtain ⟨σ6, e7⟩ : ∃ z9 : zx_S, z9 = zx_pI σ b2 (Int32.toNatClampNeg x1) ((x2 >>> (8 &&& 31)) &&& 255) := ⟨_, rfl⟩
      replace h := h σ6 e7
      refine zw_iast zM_X1_setWord dX1_setWord_27 ⟨hk4, hi5⟩ e7 ?_
      refine zw_go (pc1 := 29) (L1 := [some (.ref a0), some (.int x1), some (.int x2)]) (st1 := [.ref a0]) (σ1 := σ6) zM_X1_setWord dX1_setWord_28 rfl rfl rfl rfl ?_
      refine zw_getR (a := b2) zM_X1_setWord dX1_setWord_29 zF_1_9 rfl (by rw [e7]; exact hk1) (by rw [e7]; exact hr3) ?_
      refine zw_go (pc1 := 33) (L1 := [some (.ref a0), some (.int x1), some (.int x2)]) (st1 := [.int x1, .ref b2]) (σ1 := σ6) zM_X1_setWord dX1_setWord_32 rfl rfl rfl rfl ?_
      refine zw_iconst (v := 1) zM_X1_setWord dX1_setWord_33 (by decide) ?_
      refine zw_go (pc1 := 35) (L1 := [some (.ref a0), some (.int x1), some (.int x2)]) (st1 := [.int (x1 + 1), .ref b2]) (σ1 := σ6) zM_X1_setWord dX1_setWord_34 rfl rfl rfl rfl ?_
      refine zw_go (pc1 := 36) (L1 := [some (.ref a0), some (.int x1), some (.int x2)]) (st1 := [.int x2, .int (x1 + 1), .ref b2]) (σ1 := σ6) zM_X1_setWord dX1_setWord_35 rfl rfl rfl rfl ?_
      refine zw_sipush (v := 255) zM_X1_setWord dX1_setWord_36 (by decide) ?_
      refine zw_go (pc1 := 40) (L1 := [some (.ref a0), some (.int x1), some (.int x2)]) (st1 := [.int (x2 &&& 255), .int (x1 + 1), .ref b2]) (σ1 := σ6) zM_X1_setWord dX1_setWord_39 rfl rfl rfl rfl ?_
      obtain ⟨hi8, h⟩ := h
      obtain ⟨σ9, e10⟩ : ∃ z9 : zx_S, z9 = zx_pI σ6 b2 (Int32.toNatClampNeg (x1 + 1)) (x2 &&& 255) := ⟨_, rfl⟩
      replace h := h σ9 e10
      refine zw_iast zM_X1_setWord dX1_setWord_40 ⟨(by rw [e7]; exact hk4), hi8⟩ e10 ?_
      exact zw_retv zM_X1_setWord dX1_setWord_41 rfl h
set_option maxHeartbeats 4000000 in
set_option maxRecDepth 100000 in
theorem vc_X1_sizeOf_0 (a0 : Nat) (x1 : Int32) (σ : zx_S) (K : Int32 → zx_S → Prop) (h : zK σ a0 = 14 ∧ zwI 42 0 [some (.ref a0), some (.int x1)] [] σ (fun v3 σ2 => zK σ2 a0 = 14 ∧ zwI 21 0 [some (.ref a0), some (.int v3)] [] σ2 (fun v6 σ5 => ((¬ v6 = (2 : Int32) → ((¬ v6 = (1 : Int32) → K 0 σ5) ∧ (v6 = (1 : Int32) → zK σ5 a0 = 14 ∧ zwI 51 0 [some (.ref a0), some (.int (v3 + 8))] [] σ5 (fun v9 σ8 => K v9 σ8)))) ∧ (v6 = (2 : Int32) → zK σ5 a0 = 14 ∧ zwI 51 0 [some (.ref a0), some (.int (v3 + 6))] [] σ5 (fun v12 σ11 => K v12 σ11)))))) : zwI 44 0 [some (.ref a0), some (.int x1), none, none] [] σ K := by
  refine zw_go (pc1 := 1) (L1 := [some (.ref a0), some (.int x1), none, none]) (st1 := [.ref a0]) (σ1 := σ) zM_X1_sizeOf dX1_sizeOf_0 rfl rfl rfl rfl ?_
  refine zw_go (pc1 := 2) (L1 := [some (.ref a0), some (.int x1), none, none]) (st1 := [.int x1, .ref a0]) (σ1 := σ) zM_X1_sizeOf dX1_sizeOf_1 rfl rfl rfl rfl ?_
  obtain ⟨hk1, h⟩ := h
  refine zw_callI (as := [.ref a0, .int x1]) (rest := []) zM_X1_sizeOf dX1_sizeOf_2 (zx_calV zC_1_68) zM_X1_rowOf rfl rfl rfl rfl rfl (zx_args0 hk1 rfl) rfl h (fun v3 σ2 h => ?_)
  refine zw_go (pc1 := 6) (L1 := [some (.ref a0), some (.int x1), some (.int v3), none]) (st1 := []) (σ1 := σ2) zM_X1_sizeOf dX1_sizeOf_5 rfl rfl rfl rfl ?_
  refine zw_go (pc1 := 7) (L1 := [some (.ref a0), some (.int x1), some (.int v3), none]) (st1 := [.ref a0]) (σ1 := σ2) zM_X1_sizeOf dX1_sizeOf_6 rfl rfl rfl rfl ?_
  refine zw_go (pc1 := 8) (L1 := [some (.ref a0), some (.int x1), some (.int v3), none]) (st1 := [.int v3, .ref a0]) (σ1 := σ2) zM_X1_sizeOf dX1_sizeOf_7 rfl rfl rfl rfl ?_
  obtain ⟨hk4, h⟩ := h
  refine zw_callI (as := [.ref a0, .int v3]) (rest := []) zM_X1_sizeOf dX1_sizeOf_8 (zx_calV zC_1_41) zM_X1_byteAt rfl rfl rfl rfl rfl (zx_args0 hk4 rfl) rfl h (fun v6 σ5 h => ?_)
  refine zw_go (pc1 := 12) (L1 := [some (.ref a0), some (.int x1), some (.int v3), some (.int v6)]) (st1 := []) (σ1 := σ5) zM_X1_sizeOf dX1_sizeOf_11 rfl rfl rfl rfl ?_
  refine zw_go (pc1 := 13) (L1 := [some (.ref a0), some (.int x1), some (.int v3), some (.int v6)]) (st1 := [.int v6]) (σ1 := σ5) zM_X1_sizeOf dX1_sizeOf_12 rfl rfl rfl rfl ?_
  refine zw_iconst (v := 2) zM_X1_sizeOf dX1_sizeOf_13 (by decide) ?_
  refine zw_icmp_ne (tgt := 28) zM_X1_sizeOf dX1_sizeOf_14 rfl rfl (fun q => ?_) (fun q => ?_)
  · replace h := h.1 q
    refine zw_go (pc1 := 29) (L1 := [some (.ref a0), some (.int x1), some (.int v3), some (.int v6)]) (st1 := [.int v6]) (σ1 := σ5) zM_X1_sizeOf dX1_sizeOf_28 rfl rfl rfl rfl ?_
    refine zw_iconst (v := 1) zM_X1_sizeOf dX1_sizeOf_29 (by decide) ?_
    refine zw_icmp_ne (tgt := 44) zM_X1_sizeOf dX1_sizeOf_30 rfl rfl (fun q => ?_) (fun q => ?_)
    · replace h := h.1 q
      refine zw_iconst (v := 0) zM_X1_sizeOf dX1_sizeOf_44 (by decide) ?_
      exact zw_reti zM_X1_sizeOf dX1_sizeOf_45 rfl h
    · replace h := h.2 q
      refine zw_go (pc1 := 34) (L1 := [some (.ref a0), some (.int x1), some (.int v3), some (.int v6)]) (st1 := [.ref a0]) (σ1 := σ5) zM_X1_sizeOf dX1_sizeOf_33 rfl rfl rfl rfl ?_
      refine zw_go (pc1 := 35) (L1 := [some (.ref a0), some (.int x1), some (.int v3), some (.int v6)]) (st1 := [.int v3, .ref a0]) (σ1 := σ5) zM_X1_sizeOf dX1_sizeOf_34 rfl rfl rfl rfl ?_
      refine zw_bipush (v := 8) zM_X1_sizeOf dX1_sizeOf_35 (by decide) ?_
      refine zw_go (pc1 := 38) (L1 := [some (.ref a0), some (.int x1), some (.int v3), some (.int v6)]) (st1 := [.int (v3 + 8), .ref a0]) (σ1 := σ5) zM_X1_sizeOf dX1_sizeOf_37 rfl rfl rfl rfl ?_
      obtain ⟨hk7, h⟩ := h
      refine zw_callI (as := [.ref a0, .int (v3 + 8)]) (rest := []) zM_X1_sizeOf dX1_sizeOf_38 (zx_calV zC_1_48) zM_X1_wordAt rfl rfl rfl rfl rfl (zx_args0 hk7 rfl) rfl h (fun v9 σ8 h => ?_)
      refine zw_goto (tgt := 45) zM_X1_sizeOf dX1_sizeOf_41 rfl ?_
      exact zw_reti zM_X1_sizeOf dX1_sizeOf_45 rfl h
  · replace h := h.2 q
    refine zw_go (pc1 := 18) (L1 := [some (.ref a0), some (.int x1), some (.int v3), some (.int v6)]) (st1 := [.ref a0]) (σ1 := σ5) zM_X1_sizeOf dX1_sizeOf_17 rfl rfl rfl rfl ?_
    refine zw_go (pc1 := 19) (L1 := [some (.ref a0), some (.int x1), some (.int v3), some (.int v6)]) (st1 := [.int v3, .ref a0]) (σ1 := σ5) zM_X1_sizeOf dX1_sizeOf_18 rfl rfl rfl rfl ?_
    refine zw_bipush (v := 6) zM_X1_sizeOf dX1_sizeOf_19 (by decide) ?_
    refine zw_go (pc1 := 22) (L1 := [some (.ref a0), some (.int x1), some (.int v3), some (.int v6)]) (st1 := [.int (v3 + 6), .ref a0]) (σ1 := σ5) zM_X1_sizeOf dX1_sizeOf_21 rfl rfl rfl rfl ?_
    obtain ⟨hk10, h⟩ := h
    refine zw_callI (as := [.ref a0, .int (v3 + 6)]) (rest := []) zM_X1_sizeOf dX1_sizeOf_22 (zx_calV zC_1_48) zM_X1_wordAt rfl rfl rfl rfl rfl (zx_args0 hk10 rfl) rfl h (fun v12 σ11 h => ?_)
    refine zw_goto (tgt := 45) zM_X1_sizeOf dX1_sizeOf_25 rfl ?_
    exact zw_reti zM_X1_sizeOf dX1_sizeOf_45 rfl h
set_option maxHeartbeats 4000000 in
set_option maxRecDepth 100000 in
theorem vc_X1_storedBytes_0 (x0 : Int32) (σ : zx_S) (K : Int32 → zx_S → Prop) (h : ((x0 < (32768 : Int32) → K x0 σ) ∧ (¬ x0 < (32768 : Int32) → K (x0 - 32768) σ))) : zwI 45 0 [some (.int x0)] [] σ K := by
  refine zw_go (pc1 := 1) (L1 := [some (.int x0)]) (st1 := [.int x0]) (σ1 := σ) zM_X1_storedBytes dX1_storedBytes_0 rfl rfl rfl rfl ?_
  refine zw_ldc (v := 32768) zM_X1_storedBytes dX1_storedBytes_1 zK_1_90 ?_
  refine zw_icmp_lt (tgt := 13) zM_X1_storedBytes dX1_storedBytes_3 rfl rfl (fun q => ?_) (fun q => ?_)
  · replace h := h.1 q
    refine zw_go (pc1 := 14) (L1 := [some (.int x0)]) (st1 := [.int x0]) (σ1 := σ) zM_X1_storedBytes dX1_storedBytes_13 rfl rfl rfl rfl ?_
    exact zw_reti zM_X1_storedBytes dX1_storedBytes_14 rfl h
  · replace h := h.2 q
    refine zw_go (pc1 := 7) (L1 := [some (.int x0)]) (st1 := [.int x0]) (σ1 := σ) zM_X1_storedBytes dX1_storedBytes_6 rfl rfl rfl rfl ?_
    refine zw_ldc (v := 32768) zM_X1_storedBytes dX1_storedBytes_7 zK_1_90 ?_
    refine zw_go (pc1 := 10) (L1 := [some (.int x0)]) (st1 := [.int (x0 - 32768)]) (σ1 := σ) zM_X1_storedBytes dX1_storedBytes_9 rfl rfl rfl rfl ?_
    refine zw_goto (tgt := 14) zM_X1_storedBytes dX1_storedBytes_10 rfl ?_
    exact zw_reti zM_X1_storedBytes dX1_storedBytes_14 rfl h
set_option maxHeartbeats 4000000 in
set_option maxRecDepth 100000 in
theorem vc_X1_sum_0 (a0 : Nat) (σ : zx_S) (K : Int32 → zx_S → Prop) (h : zwI 46 4 [some (.ref a0), some (.long (Int64.ofNat 0)), none, some (.int 0)] [] σ K) : zwI 46 0 [some (.ref a0), none, none, none] [] σ K := by
  refine zw_go (pc1 := 1) (L1 := [some (.ref a0), none, none, none]) (st1 := [.long (Int64.ofNat 0)]) (σ1 := σ) zM_X1_sum dX1_sum_0 rfl rfl rfl rfl ?_
  refine zw_go (pc1 := 2) (L1 := [some (.ref a0), some (.long (Int64.ofNat 0)), none, none]) (st1 := []) (σ1 := σ) zM_X1_sum dX1_sum_1 rfl rfl rfl rfl ?_
  refine zw_iconst (v := 0) zM_X1_sum dX1_sum_2 (by decide) ?_
  refine zw_go (pc1 := 4) (L1 := [some (.ref a0), some (.long (Int64.ofNat 0)), none, some (.int 0)]) (st1 := []) (σ1 := σ) zM_X1_sum dX1_sum_3 rfl rfl rfl rfl ?_
  exact zw_weak2 h ⟨rfl, rfl, rfl, trivial⟩
set_option maxHeartbeats 4000000 in
set_option maxRecDepth 100000 in
theorem vc_X1_sum_4 (a0 : Nat) (w1 : Int64) (x3 : Int32) (σ : zx_S) (K : Int32 → zx_S → Prop) (h : zK σ a0 = 14 ∧ (((zI σ a0 1) ≤ x3 → K (Int64.toInt32 (w1 - w1 / 65521 * 65521)) σ) ∧ (¬ (zI σ a0 1) ≤ x3 → ((x3 < (16 : Int32) → zwI 46 24 [some (.ref a0), some (.long w1), none, some (.int x3)] [] σ K) ∧ (¬ x3 < (16 : Int32) → ((x3 < (18 : Int32) → zwI 46 39 [some (.ref a0), some (.long w1), none, some (.int x3)] [] σ K) ∧ (¬ x3 < (18 : Int32) → zwI 46 24 [some (.ref a0), some (.long w1), none, some (.int x3)] [] σ K))))))) : zwI 46 4 [some (.ref a0), some (.long w1), none, some (.int x3)] [] σ K := by
  refine zw_go (pc1 := 5) (L1 := [some (.ref a0), some (.long w1), none, some (.int x3)]) (st1 := [.int x3]) (σ1 := σ) zM_X1_sum dX1_sum_4 rfl rfl rfl rfl ?_
  refine zw_go (pc1 := 6) (L1 := [some (.ref a0), some (.long w1), none, some (.int x3)]) (st1 := [.ref a0, .int x3]) (σ1 := σ) zM_X1_sum dX1_sum_5 rfl rfl rfl rfl ?_
  obtain ⟨hk1, h⟩ := h
  refine zw_getI zM_X1_sum dX1_sum_6 zF_1_15 rfl hk1 ?_
  refine zw_icmp_ge (tgt := 45) zM_X1_sum dX1_sum_9 rfl rfl (fun q => ?_) (fun q => ?_)
  · replace h := h.1 q
    refine zw_go (pc1 := 46) (L1 := [some (.ref a0), some (.long w1), none, some (.int x3)]) (st1 := [.long w1]) (σ1 := σ) zM_X1_sum dX1_sum_45 rfl rfl rfl rfl ?_
    refine zw_ldc2 (v := 65521) zM_X1_sum dX1_sum_46 zJ_1_66 ?_
    refine zw_lrem zM_X1_sum dX1_sum_49 (by decide) ?_
    refine zw_go (pc1 := 51) (L1 := [some (.ref a0), some (.long w1), none, some (.int x3)]) (st1 := [.int (Int64.toInt32 (w1 - w1 / 65521 * 65521))]) (σ1 := σ) zM_X1_sum dX1_sum_50 rfl rfl rfl rfl ?_
    exact zw_reti zM_X1_sum dX1_sum_51 rfl h
  · replace h := h.2 q
    refine zw_go (pc1 := 13) (L1 := [some (.ref a0), some (.long w1), none, some (.int x3)]) (st1 := [.int x3]) (σ1 := σ) zM_X1_sum dX1_sum_12 rfl rfl rfl rfl ?_
    refine zw_bipush (v := 16) zM_X1_sum dX1_sum_13 (by decide) ?_
    refine zw_icmp_lt (tgt := 24) zM_X1_sum dX1_sum_15 rfl rfl (fun q => ?_) (fun q => ?_)
    · replace h := h.1 q
      exact zw_weak2 h ⟨rfl, rfl, rfl, trivial⟩
    · replace h := h.2 q
      refine zw_go (pc1 := 19) (L1 := [some (.ref a0), some (.long w1), none, some (.int x3)]) (st1 := [.int x3]) (σ1 := σ) zM_X1_sum dX1_sum_18 rfl rfl rfl rfl ?_
      refine zw_bipush (v := 18) zM_X1_sum dX1_sum_19 (by decide) ?_
      refine zw_icmp_lt (tgt := 39) zM_X1_sum dX1_sum_21 rfl rfl (fun q => ?_) (fun q => ?_)
      · replace h := h.1 q
        exact zw_weak2 h ⟨rfl, rfl, rfl, trivial⟩
      · replace h := h.2 q
        exact zw_weak2 h ⟨rfl, rfl, rfl, trivial⟩
set_option maxHeartbeats 4000000 in
set_option maxRecDepth 100000 in
theorem vc_X1_sum_24 (a0 : Nat) (w1 : Int64) (x3 : Int32) (σ : zx_S) (K : Int32 → zx_S → Prop) (h : zK σ a0 = 14 ∧ ∃ b2 : Nat, zR σ a0 0 = some b2 ∧ zK σ b2 = 1 ∧ zx_in x3 (zN σ b2) = true ∧ zwI 46 39 [some (.ref a0), some (.long (w1 + ((Int32.toInt64 (zI σ b2 (Int32.toNatClampNeg x3))) * (Int32.toInt64 (x3 + 1))))), none, some (.int x3)] [] σ K) : zwI 46 24 [some (.ref a0), some (.long w1), none, some (.int x3)] [] σ K := by
  refine zw_go (pc1 := 25) (L1 := [some (.ref a0), some (.long w1), none, some (.int x3)]) (st1 := [.long w1]) (σ1 := σ) zM_X1_sum dX1_sum_24 rfl rfl rfl rfl ?_
  refine zw_go (pc1 := 26) (L1 := [some (.ref a0), some (.long w1), none, some (.int x3)]) (st1 := [.ref a0, .long w1]) (σ1 := σ) zM_X1_sum dX1_sum_25 rfl rfl rfl rfl ?_
  obtain ⟨hk1, h⟩ := h
  obtain ⟨b2, hr3, h⟩ := h
  refine zw_getR (a := b2) zM_X1_sum dX1_sum_26 zF_1_9 rfl hk1 hr3 ?_
  refine zw_go (pc1 := 30) (L1 := [some (.ref a0), some (.long w1), none, some (.int x3)]) (st1 := [.int x3, .ref b2, .long w1]) (σ1 := σ) zM_X1_sum dX1_sum_29 rfl rfl rfl rfl ?_
  obtain ⟨hk4, h⟩ := h
  obtain ⟨hi5, h⟩ := h
  refine zw_iald zM_X1_sum dX1_sum_30 ⟨Or.inl hk4, hi5⟩ ?_
  refine zw_go (pc1 := 32) (L1 := [some (.ref a0), some (.long w1), none, some (.int x3)]) (st1 := [.long (Int32.toInt64 (zI σ b2 (Int32.toNatClampNeg x3))), .long w1]) (σ1 := σ) zM_X1_sum dX1_sum_31 rfl rfl rfl rfl ?_
  refine zw_go (pc1 := 33) (L1 := [some (.ref a0), some (.long w1), none, some (.int x3)]) (st1 := [.int x3, .long (Int32.toInt64 (zI σ b2 (Int32.toNatClampNeg x3))), .long w1]) (σ1 := σ) zM_X1_sum dX1_sum_32 rfl rfl rfl rfl ?_
  refine zw_iconst (v := 1) zM_X1_sum dX1_sum_33 (by decide) ?_
  refine zw_go (pc1 := 35) (L1 := [some (.ref a0), some (.long w1), none, some (.int x3)]) (st1 := [.int (x3 + 1), .long (Int32.toInt64 (zI σ b2 (Int32.toNatClampNeg x3))), .long w1]) (σ1 := σ) zM_X1_sum dX1_sum_34 rfl rfl rfl rfl ?_
  refine zw_go (pc1 := 36) (L1 := [some (.ref a0), some (.long w1), none, some (.int x3)]) (st1 := [.long (Int32.toInt64 (x3 + 1)), .long (Int32.toInt64 (zI σ b2 (Int32.toNatClampNeg x3))), .long w1]) (σ1 := σ) zM_X1_sum dX1_sum_35 rfl rfl rfl rfl ?_
  refine zw_go (pc1 := 37) (L1 := [some (.ref a0), some (.long w1), none, some (.int x3)]) (st1 := [.long ((Int32.toInt64 (zI σ b2 (Int32.toNatClampNeg x3))) * (Int32.toInt64 (x3 + 1))), .long w1]) (σ1 := σ) zM_X1_sum dX1_sum_36 rfl rfl rfl rfl ?_
  refine zw_go (pc1 := 38) (L1 := [some (.ref a0), some (.long w1), none, some (.int x3)]) (st1 := [.long (w1 + ((Int32.toInt64 (zI σ b2 (Int32.toNatClampNeg x3))) * (Int32.toInt64 (x3 + 1))))]) (σ1 := σ) zM_X1_sum dX1_sum_37 rfl rfl rfl rfl ?_
  refine zw_go (pc1 := 39) (L1 := [some (.ref a0), some (.long (w1 + ((Int32.toInt64 (zI σ b2 (Int32.toNatClampNeg x3))) * (Int32.toInt64 (x3 + 1))))), none, some (.int x3)]) (st1 := []) (σ1 := σ) zM_X1_sum dX1_sum_38 rfl rfl rfl rfl ?_
  exact zw_weak2 h ⟨rfl, rfl, rfl, trivial⟩
set_option maxHeartbeats 4000000 in
set_option maxRecDepth 100000 in
theorem vc_X1_sum_39 (a0 : Nat) (w1 : Int64) (x3 : Int32) (σ : zx_S) (K : Int32 → zx_S → Prop) (h : zwI 46 4 [some (.ref a0), some (.long w1), none, some (.int (x3 + Int32.ofInt 1))] [] σ K) : zwI 46 39 [some (.ref a0), some (.long w1), none, some (.int x3)] [] σ K := by
  refine zw_go (pc1 := 42) (L1 := [some (.ref a0), some (.long w1), none, some (.int (x3 + Int32.ofInt 1))]) (st1 := []) (σ1 := σ) zM_X1_sum dX1_sum_39 rfl rfl rfl rfl ?_
  refine zw_goto (tgt := 4) zM_X1_sum dX1_sum_42 rfl ?_
  exact zw_weak2 h ⟨rfl, rfl, rfl, trivial⟩
set_option maxHeartbeats 4000000 in
set_option maxRecDepth 100000 in
theorem vc_X1_tailBlocks_0 (a0 : Nat) (σ : zx_S) (K : Int32 → zx_S → Prop) (h : zK σ a0 = 14 ∧ K (((zI σ a0 7) - (zI σ a0 6)) / 5) σ) : zwI 47 0 [some (.ref a0)] [] σ K := by
  refine zw_go (pc1 := 1) (L1 := [some (.ref a0)]) (st1 := [.ref a0]) (σ1 := σ) zM_X1_tailBlocks dX1_tailBlocks_0 rfl rfl rfl rfl ?_
  obtain ⟨hk1, h⟩ := h
  refine zw_getI zM_X1_tailBlocks dX1_tailBlocks_1 zF_1_63 rfl hk1 ?_
  refine zw_go (pc1 := 5) (L1 := [some (.ref a0)]) (st1 := [.ref a0, .int (zI σ a0 7)]) (σ1 := σ) zM_X1_tailBlocks dX1_tailBlocks_4 rfl rfl rfl rfl ?_
  refine zw_getI zM_X1_tailBlocks dX1_tailBlocks_5 zF_1_60 rfl hk1 ?_
  refine zw_go (pc1 := 9) (L1 := [some (.ref a0)]) (st1 := [.int ((zI σ a0 7) - (zI σ a0 6))]) (σ1 := σ) zM_X1_tailBlocks dX1_tailBlocks_8 rfl rfl rfl rfl ?_
  refine zw_iconst (v := 5) zM_X1_tailBlocks dX1_tailBlocks_9 (by decide) ?_
  refine zw_div zM_X1_tailBlocks dX1_tailBlocks_10 (by decide) ?_
  exact zw_reti zM_X1_tailBlocks dX1_tailBlocks_11 rfl h
set_option maxHeartbeats 4000000 in
set_option maxRecDepth 100000 in
theorem vc_X1_tailRow_0 (a0 : Nat) (x1 : Int32) (σ : zx_S) (K : Int32 → zx_S → Prop) (h : zK σ a0 = 14 ∧ K ((zI σ a0 6) + (5 * x1)) σ) : zwI 48 0 [some (.ref a0), some (.int x1)] [] σ K := by
  refine zw_go (pc1 := 1) (L1 := [some (.ref a0), some (.int x1)]) (st1 := [.ref a0]) (σ1 := σ) zM_X1_tailRow dX1_tailRow_0 rfl rfl rfl rfl ?_
  obtain ⟨hk1, h⟩ := h
  refine zw_getI zM_X1_tailRow dX1_tailRow_1 zF_1_60 rfl hk1 ?_
  refine zw_iconst (v := 5) zM_X1_tailRow dX1_tailRow_4 (by decide) ?_
  refine zw_go (pc1 := 6) (L1 := [some (.ref a0), some (.int x1)]) (st1 := [.int x1, .int 5, .int (zI σ a0 6)]) (σ1 := σ) zM_X1_tailRow dX1_tailRow_5 rfl rfl rfl rfl ?_
  refine zw_go (pc1 := 7) (L1 := [some (.ref a0), some (.int x1)]) (st1 := [.int (5 * x1), .int (zI σ a0 6)]) (σ1 := σ) zM_X1_tailRow dX1_tailRow_6 rfl rfl rfl rfl ?_
  refine zw_go (pc1 := 8) (L1 := [some (.ref a0), some (.int x1)]) (st1 := [.int ((zI σ a0 6) + (5 * x1))]) (σ1 := σ) zM_X1_tailRow dX1_tailRow_7 rfl rfl rfl rfl ?_
  exact zw_reti zM_X1_tailRow dX1_tailRow_8 rfl h
set_option maxHeartbeats 4000000 in
set_option maxRecDepth 100000 in
theorem vc_X1_targetOf_0 (a0 : Nat) (x1 : Int32) (x2 : Int32) (σ : zx_S) (K : Int32 → zx_S → Prop) (h : zK σ a0 = 14 ∧ zwI 25 0 [some (.ref a0), some (.int x1)] [] σ (fun v3 σ2 => zK σ2 a0 = 14 ∧ zwI 44 0 [some (.ref a0), some (.int x1), none, none] [] σ2 (fun v6 σ5 => zwI 49 16 [some (.ref a0), none, some (.int x2), some (.int v3), some (.int v6), some (.int 0), none] [] σ5 K))) : zwI 49 0 [some (.ref a0), some (.int x1), some (.int x2), none, none, none, none] [] σ K := by
  refine zw_go (pc1 := 1) (L1 := [some (.ref a0), some (.int x1), some (.int x2), none, none, none, none]) (st1 := [.ref a0]) (σ1 := σ) zM_X1_targetOf dX1_targetOf_0 rfl rfl rfl rfl ?_
  refine zw_go (pc1 := 2) (L1 := [some (.ref a0), some (.int x1), some (.int x2), none, none, none, none]) (st1 := [.int x1, .ref a0]) (σ1 := σ) zM_X1_targetOf dX1_targetOf_1 rfl rfl rfl rfl ?_
  obtain ⟨hk1, h⟩ := h
  refine zw_callI (as := [.ref a0, .int x1]) (rest := []) zM_X1_targetOf dX1_targetOf_2 (zx_calV zC_1_71) zM_X1_firstNamePlace rfl rfl rfl rfl rfl (zx_args0 hk1 rfl) rfl h (fun v3 σ2 h => ?_)
  refine zw_go (pc1 := 6) (L1 := [some (.ref a0), some (.int x1), some (.int x2), some (.int v3), none, none, none]) (st1 := []) (σ1 := σ2) zM_X1_targetOf dX1_targetOf_5 rfl rfl rfl rfl ?_
  refine zw_go (pc1 := 7) (L1 := [some (.ref a0), some (.int x1), some (.int x2), some (.int v3), none, none, none]) (st1 := [.ref a0]) (σ1 := σ2) zM_X1_targetOf dX1_targetOf_6 rfl rfl rfl rfl ?_
  refine zw_go (pc1 := 8) (L1 := [some (.ref a0), some (.int x1), some (.int x2), some (.int v3), none, none, none]) (st1 := [.int x1, .ref a0]) (σ1 := σ2) zM_X1_targetOf dX1_targetOf_7 rfl rfl rfl rfl ?_
  obtain ⟨hk4, h⟩ := h
  refine zw_callI (as := [.ref a0, .int x1]) (rest := []) zM_X1_targetOf dX1_targetOf_8 (zx_calV zC_1_74) zM_X1_sizeOf rfl rfl rfl rfl rfl (zx_args0 hk4 rfl) rfl h (fun v6 σ5 h => ?_)
  refine zw_go (pc1 := 13) (L1 := [some (.ref a0), some (.int x1), some (.int x2), some (.int v3), some (.int v6), none, none]) (st1 := []) (σ1 := σ5) zM_X1_targetOf dX1_targetOf_11 rfl rfl rfl rfl ?_
  refine zw_iconst (v := 0) zM_X1_targetOf dX1_targetOf_13 (by decide) ?_
  refine zw_go (pc1 := 16) (L1 := [some (.ref a0), some (.int x1), some (.int x2), some (.int v3), some (.int v6), some (.int 0), none]) (st1 := []) (σ1 := σ5) zM_X1_targetOf dX1_targetOf_14 rfl rfl rfl rfl ?_
  exact zw_weak2 h ⟨rfl, rfl, rfl, rfl, rfl, trivial⟩
set_option maxHeartbeats 4000000 in
set_option maxRecDepth 100000 in
theorem vc_X1_targetOf_16 (a0 : Nat) (x2 : Int32) (x3 : Int32) (x4 : Int32) (x5 : Int32) (σ : zx_S) (K : Int32 → zx_S → Prop) (h : ((x4 ≤ x5 → K 0 σ) ∧ (¬ x4 ≤ x5 → zK σ a0 = 14 ∧ zwI 51 0 [some (.ref a0), some (.int (x3 + (4 * x5)))] [] σ (fun v3 σ2 => ((¬ v3 = x2 → zwI 49 16 [some (.ref a0), none, some (.int x2), some (.int x3), some (.int x4), some (.int (x5 + Int32.ofInt 1)), none] [] σ2 K) ∧ (v3 = x2 → zK σ2 a0 = 14 ∧ zwI 51 0 [some (.ref a0), some (.int ((x3 + (4 * x5)) + 2))] [] σ2 (fun v6 σ5 => K v6 σ5))))))) : zwI 49 16 [some (.ref a0), none, some (.int x2), some (.int x3), some (.int x4), some (.int x5), none] [] σ K := by
  refine zw_go (pc1 := 18) (L1 := [some (.ref a0), none, some (.int x2), some (.int x3), some (.int x4), some (.int x5), none]) (st1 := [.int x5]) (σ1 := σ) zM_X1_targetOf dX1_targetOf_16 rfl rfl rfl rfl ?_
  refine zw_go (pc1 := 20) (L1 := [some (.ref a0), none, some (.int x2), some (.int x3), some (.int x4), some (.int x5), none]) (st1 := [.int x4, .int x5]) (σ1 := σ) zM_X1_targetOf dX1_targetOf_18 rfl rfl rfl rfl ?_
  refine zw_icmp_ge (tgt := 56) zM_X1_targetOf dX1_targetOf_20 rfl rfl (fun q => ?_) (fun q => ?_)
  · replace h := h.1 q
    refine zw_iconst (v := 0) zM_X1_targetOf dX1_targetOf_56 (by decide) ?_
    exact zw_reti zM_X1_targetOf dX1_targetOf_57 rfl h
  · replace h := h.2 q
    refine zw_go (pc1 := 24) (L1 := [some (.ref a0), none, some (.int x2), some (.int x3), some (.int x4), some (.int x5), none]) (st1 := [.int x3]) (σ1 := σ) zM_X1_targetOf dX1_targetOf_23 rfl rfl rfl rfl ?_
    refine zw_iconst (v := 4) zM_X1_targetOf dX1_targetOf_24 (by decide) ?_
    refine zw_go (pc1 := 27) (L1 := [some (.ref a0), none, some (.int x2), some (.int x3), some (.int x4), some (.int x5), none]) (st1 := [.int x5, .int 4, .int x3]) (σ1 := σ) zM_X1_targetOf dX1_targetOf_25 rfl rfl rfl rfl ?_
    refine zw_go (pc1 := 28) (L1 := [some (.ref a0), none, some (.int x2), some (.int x3), some (.int x4), some (.int x5), none]) (st1 := [.int (4 * x5), .int x3]) (σ1 := σ) zM_X1_targetOf dX1_targetOf_27 rfl rfl rfl rfl ?_
    refine zw_go (pc1 := 29) (L1 := [some (.ref a0), none, some (.int x2), some (.int x3), some (.int x4), some (.int x5), none]) (st1 := [.int (x3 + (4 * x5))]) (σ1 := σ) zM_X1_targetOf dX1_targetOf_28 rfl rfl rfl rfl ?_
    refine zw_go (pc1 := 31) (L1 := [some (.ref a0), none, some (.int x2), some (.int x3), some (.int x4), some (.int x5), some (.int (x3 + (4 * x5)))]) (st1 := []) (σ1 := σ) zM_X1_targetOf dX1_targetOf_29 rfl rfl rfl rfl ?_
    refine zw_go (pc1 := 32) (L1 := [some (.ref a0), none, some (.int x2), some (.int x3), some (.int x4), some (.int x5), some (.int (x3 + (4 * x5)))]) (st1 := [.ref a0]) (σ1 := σ) zM_X1_targetOf dX1_targetOf_31 rfl rfl rfl rfl ?_
    refine zw_go (pc1 := 34) (L1 := [some (.ref a0), none, some (.int x2), some (.int x3), some (.int x4), some (.int x5), some (.int (x3 + (4 * x5)))]) (st1 := [.int (x3 + (4 * x5)), .ref a0]) (σ1 := σ) zM_X1_targetOf dX1_targetOf_32 rfl rfl rfl rfl ?_
    obtain ⟨hk1, h⟩ := h
    refine zw_callI (as := [.ref a0, .int (x3 + (4 * x5))]) (rest := []) zM_X1_targetOf dX1_targetOf_34 (zx_calV zC_1_48) zM_X1_wordAt rfl rfl rfl rfl rfl (zx_args0 hk1 rfl) rfl h (fun v3 σ2 h => ?_)
    refine zw_go (pc1 := 38) (L1 := [some (.ref a0), none, some (.int x2), some (.int x3), some (.int x4), some (.int x5), some (.int (x3 + (4 * x5)))]) (st1 := [.int x2, .int v3]) (σ1 := σ2) zM_X1_targetOf dX1_targetOf_37 rfl rfl rfl rfl ?_
    refine zw_icmp_ne (tgt := 50) zM_X1_targetOf dX1_targetOf_38 rfl rfl (fun q => ?_) (fun q => ?_)
    · replace h := h.1 q
      refine zw_go (pc1 := 53) (L1 := [some (.ref a0), none, some (.int x2), some (.int x3), some (.int x4), some (.int (x5 + Int32.ofInt 1)), some (.int (x3 + (4 * x5)))]) (st1 := []) (σ1 := σ2) zM_X1_targetOf dX1_targetOf_50 rfl rfl rfl rfl ?_
      refine zw_goto (tgt := 16) zM_X1_targetOf dX1_targetOf_53 rfl ?_
      exact zw_weak2 h ⟨rfl, rfl, rfl, rfl, rfl, trivial⟩
    · replace h := h.2 q
      refine zw_go (pc1 := 42) (L1 := [some (.ref a0), none, some (.int x2), some (.int x3), some (.int x4), some (.int x5), some (.int (x3 + (4 * x5)))]) (st1 := [.ref a0]) (σ1 := σ2) zM_X1_targetOf dX1_targetOf_41 rfl rfl rfl rfl ?_
      refine zw_go (pc1 := 44) (L1 := [some (.ref a0), none, some (.int x2), some (.int x3), some (.int x4), some (.int x5), some (.int (x3 + (4 * x5)))]) (st1 := [.int (x3 + (4 * x5)), .ref a0]) (σ1 := σ2) zM_X1_targetOf dX1_targetOf_42 rfl rfl rfl rfl ?_
      refine zw_iconst (v := 2) zM_X1_targetOf dX1_targetOf_44 (by decide) ?_
      refine zw_go (pc1 := 46) (L1 := [some (.ref a0), none, some (.int x2), some (.int x3), some (.int x4), some (.int x5), some (.int (x3 + (4 * x5)))]) (st1 := [.int ((x3 + (4 * x5)) + 2), .ref a0]) (σ1 := σ2) zM_X1_targetOf dX1_targetOf_45 rfl rfl rfl rfl ?_
      obtain ⟨hk4, h⟩ := h
      refine zw_callI (as := [.ref a0, .int ((x3 + (4 * x5)) + 2)]) (rest := []) zM_X1_targetOf dX1_targetOf_46 (zx_calV zC_1_48) zM_X1_wordAt rfl rfl rfl rfl rfl (zx_args0 hk4 rfl) rfl h (fun v6 σ5 h => ?_)
      exact zw_reti zM_X1_targetOf dX1_targetOf_49 rfl h
set_option maxHeartbeats 4000000 in
set_option maxRecDepth 100000 in
theorem vc_X1_wholeBlocks_0 (a0 : Nat) (x1 : Int32) (σ : zx_S) (K : Int32 → zx_S → Prop) (h : zK σ a0 = 14 ∧ (((1 : Int32) ≤ (zI σ a0 2) → ¬ (zI σ a0 2) = 0 ∧ K (x1 / (zI σ a0 2)) σ) ∧ (¬ (1 : Int32) ≤ (zI σ a0 2) → K 0 σ))) : zwI 50 0 [some (.ref a0), some (.int x1)] [] σ K := by
  refine zw_go (pc1 := 1) (L1 := [some (.ref a0), some (.int x1)]) (st1 := [.ref a0]) (σ1 := σ) zM_X1_wholeBlocks dX1_wholeBlocks_0 rfl rfl rfl rfl ?_
  obtain ⟨hk1, h⟩ := h
  refine zw_getI zM_X1_wholeBlocks dX1_wholeBlocks_1 zF_1_45 rfl hk1 ?_
  refine zw_iconst (v := 1) zM_X1_wholeBlocks dX1_wholeBlocks_4 (by decide) ?_
  refine zw_icmp_ge (tgt := 12) zM_X1_wholeBlocks dX1_wholeBlocks_5 rfl rfl (fun q => ?_) (fun q => ?_)
  · replace h := h.1 q
    refine zw_go (pc1 := 13) (L1 := [some (.ref a0), some (.int x1)]) (st1 := [.int x1]) (σ1 := σ) zM_X1_wholeBlocks dX1_wholeBlocks_12 rfl rfl rfl rfl ?_
    refine zw_go (pc1 := 14) (L1 := [some (.ref a0), some (.int x1)]) (st1 := [.ref a0, .int x1]) (σ1 := σ) zM_X1_wholeBlocks dX1_wholeBlocks_13 rfl rfl rfl rfl ?_
    refine zw_getI zM_X1_wholeBlocks dX1_wholeBlocks_14 zF_1_45 rfl hk1 ?_
    obtain ⟨hz2, h⟩ := h
    refine zw_div zM_X1_wholeBlocks dX1_wholeBlocks_17 hz2 ?_
    exact zw_reti zM_X1_wholeBlocks dX1_wholeBlocks_18 rfl h
  · replace h := h.2 q
    refine zw_iconst (v := 0) zM_X1_wholeBlocks dX1_wholeBlocks_8 (by decide) ?_
    refine zw_goto (tgt := 18) zM_X1_wholeBlocks dX1_wholeBlocks_9 rfl ?_
    exact zw_reti zM_X1_wholeBlocks dX1_wholeBlocks_18 rfl h
set_option maxHeartbeats 4000000 in
set_option maxRecDepth 100000 in
theorem vc_X1_wordAt_0 (a0 : Nat) (x1 : Int32) (σ : zx_S) (K : Int32 → zx_S → Prop) (h : ((x1 < (0 : Int32) → K 0 σ) ∧ (¬ x1 < (0 : Int32) → zK σ a0 = 14 ∧ ((x1 < ((zI σ a0 1) - 1) → ∃ b2 : Nat, zR σ a0 0 = some b2 ∧ zK σ b2 = 1 ∧ zx_in x1 (zN σ b2) = true ∧ zx_in (x1 + 1) (zN σ b2) = true ∧ K (((zI σ b2 (Int32.toNatClampNeg x1)) * 256) + (zI σ b2 (Int32.toNatClampNeg (x1 + 1)))) σ) ∧ (¬ x1 < ((zI σ a0 1) - 1) → K 0 σ))))) : zwI 51 0 [some (.ref a0), some (.int x1)] [] σ K := by
  refine zw_go (pc1 := 1) (L1 := [some (.ref a0), some (.int x1)]) (st1 := [.int x1]) (σ1 := σ) zM_X1_wordAt dX1_wordAt_0 rfl rfl rfl rfl ?_
  refine zw_if_lt (tgt := 14) zM_X1_wordAt dX1_wordAt_1 rfl rfl (fun q => ?_) (fun q => ?_)
  · replace h := h.1 q
    refine zw_iconst (v := 0) zM_X1_wordAt dX1_wordAt_14 (by decide) ?_
    refine zw_goto (tgt := 37) zM_X1_wordAt dX1_wordAt_15 rfl ?_
    exact zw_reti zM_X1_wordAt dX1_wordAt_37 rfl h
  · replace h := h.2 q
    refine zw_go (pc1 := 5) (L1 := [some (.ref a0), some (.int x1)]) (st1 := [.int x1]) (σ1 := σ) zM_X1_wordAt dX1_wordAt_4 rfl rfl rfl rfl ?_
    refine zw_go (pc1 := 6) (L1 := [some (.ref a0), some (.int x1)]) (st1 := [.ref a0, .int x1]) (σ1 := σ) zM_X1_wordAt dX1_wordAt_5 rfl rfl rfl rfl ?_
    obtain ⟨hk1, h⟩ := h
    refine zw_getI zM_X1_wordAt dX1_wordAt_6 zF_1_15 rfl hk1 ?_
    refine zw_iconst (v := 1) zM_X1_wordAt dX1_wordAt_9 (by decide) ?_
    refine zw_go (pc1 := 11) (L1 := [some (.ref a0), some (.int x1)]) (st1 := [.int ((zI σ a0 1) - 1), .int x1]) (σ1 := σ) zM_X1_wordAt dX1_wordAt_10 rfl rfl rfl rfl ?_
    refine zw_icmp_lt (tgt := 18) zM_X1_wordAt dX1_wordAt_11 rfl rfl (fun q => ?_) (fun q => ?_)
    · replace h := h.1 q
      refine zw_go (pc1 := 19) (L1 := [some (.ref a0), some (.int x1)]) (st1 := [.ref a0]) (σ1 := σ) zM_X1_wordAt dX1_wordAt_18 rfl rfl rfl rfl ?_
      obtain ⟨b2, hr3, h⟩ := h
      refine zw_getR (a := b2) zM_X1_wordAt dX1_wordAt_19 zF_1_9 rfl hk1 hr3 ?_
      refine zw_go (pc1 := 23) (L1 := [some (.ref a0), some (.int x1)]) (st1 := [.int x1, .ref b2]) (σ1 := σ) zM_X1_wordAt dX1_wordAt_22 rfl rfl rfl rfl ?_
      obtain ⟨hk4, h⟩ := h
      obtain ⟨hi5, h⟩ := h
      refine zw_iald zM_X1_wordAt dX1_wordAt_23 ⟨Or.inl hk4, hi5⟩ ?_
      refine zw_sipush (v := 256) zM_X1_wordAt dX1_wordAt_24 (by decide) ?_
      refine zw_go (pc1 := 28) (L1 := [some (.ref a0), some (.int x1)]) (st1 := [.int ((zI σ b2 (Int32.toNatClampNeg x1)) * 256)]) (σ1 := σ) zM_X1_wordAt dX1_wordAt_27 rfl rfl rfl rfl ?_
      refine zw_go (pc1 := 29) (L1 := [some (.ref a0), some (.int x1)]) (st1 := [.ref a0, .int ((zI σ b2 (Int32.toNatClampNeg x1)) * 256)]) (σ1 := σ) zM_X1_wordAt dX1_wordAt_28 rfl rfl rfl rfl ?_
      refine zw_getR (a := b2) zM_X1_wordAt dX1_wordAt_29 zF_1_9 rfl hk1 hr3 ?_
      refine zw_go (pc1 := 33) (L1 := [some (.ref a0), some (.int x1)]) (st1 := [.int x1, .ref b2, .int ((zI σ b2 (Int32.toNatClampNeg x1)) * 256)]) (σ1 := σ) zM_X1_wordAt dX1_wordAt_32 rfl rfl rfl rfl ?_
      refine zw_iconst (v := 1) zM_X1_wordAt dX1_wordAt_33 (by decide) ?_
      refine zw_go (pc1 := 35) (L1 := [some (.ref a0), some (.int x1)]) (st1 := [.int (x1 + 1), .ref b2, .int ((zI σ b2 (Int32.toNatClampNeg x1)) * 256)]) (σ1 := σ) zM_X1_wordAt dX1_wordAt_34 rfl rfl rfl rfl ?_
      obtain ⟨hi6, h⟩ := h
      refine zw_iald zM_X1_wordAt dX1_wordAt_35 ⟨Or.inl hk4, hi6⟩ ?_
      refine zw_go (pc1 := 37) (L1 := [some (.ref a0), some (.int x1)]) (st1 := [.int (((zI σ b2 (Int32.toNatClampNeg x1)) * 256) + (zI σ b2 (Int32.toNatClampNeg (x1 + 1))))]) (σ1 := σ) zM_X1_wordAt dX1_wordAt_36 rfl rfl rfl rfl ?_
      exact zw_reti zM_X1_wordAt dX1_wordAt_37 rfl h
    · replace h := h.2 q
      refine zw_iconst (v := 0) zM_X1_wordAt dX1_wordAt_14 (by decide) ?_
      refine zw_goto (tgt := 37) zM_X1_wordAt dX1_wordAt_15 rfl ?_
      exact zw_reti zM_X1_wordAt dX1_wordAt_37 rfl h
