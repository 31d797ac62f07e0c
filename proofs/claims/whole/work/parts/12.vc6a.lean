set_option maxHeartbeats 4000000 in
set_option maxRecDepth 100000 in
theorem vc_X6_addBelow_0 (a0 : Nat) (x1 : Int32) (x2 : Int32) (x3 : Int32) (σ : zx_S) (K : Int32 → zx_S → Prop) (h : zK σ a0 = 19 ∧ ∃ b2 : Nat, zR σ a0 0 = some b2 ∧ zK σ b2 = 18 ∧ zwI 101 0 [some (.ref b2), some (.int x1)] [] σ (fun v6 σ5 => ((¬ v6 = (0 : Int32) → zwI 124 0 [some (.int x2)] [] σ5 (fun v8 σ7 => ((¬ v8 = (0 : Int32) → zK σ7 a0 = 19 ∧ ∃ b10 : Nat, zR σ7 a0 0 = some b10 ∧ zK σ7 b10 = 18 ∧ zwI 107 0 [some (.ref b10), some (.int x1), some (.int x2), none, none] [] σ7 (fun v14 σ13 => ((¬ v14 = (0 : Int32) → zK σ13 a0 = 19 ∧ ∃ b16 : Nat, zR σ13 a0 0 = some b16 ∧ zK σ13 b16 = 18 ∧ (((zI σ13 b16 9) < (32 : Int32) → zwI 97 0 [some (.ref b16), some (.int x1), some (.int x2), some (.int x3), none] [] σ13 (fun v20 σ19 => K v20 σ19)) ∧ (¬ (zI σ13 b16 9) < (32 : Int32) → K (-4) σ13))) ∧ (v14 = (0 : Int32) → K (-3) σ13)))) ∧ (v8 = (0 : Int32) → K (-2) σ7)))) ∧ (v6 = (0 : Int32) → K (-1) σ5)))) : zwI 108 0 [some (.ref a0), some (.int x1), some (.int x2), some (.int x3)] [] σ K := by
  refine zw_go (pc1 := 1) (L1 := [some (.ref a0), some (.int x1), some (.int x2), some (.int x3)]) (st1 := [.ref a0]) (σ1 := σ) zM_X6_addBelow dX6_addBelow_0 rfl rfl rfl rfl ?_
  obtain ⟨hk1, h⟩ := h
  obtain ⟨b2, hr3, h⟩ := h
  refine zw_getR (a := b2) zM_X6_addBelow dX6_addBelow_1 zF_6_12 rfl hk1 hr3 ?_
  refine zw_go (pc1 := 5) (L1 := [some (.ref a0), some (.int x1), some (.int x2), some (.int x3)]) (st1 := [.int x1, .ref b2]) (σ1 := σ) zM_X6_addBelow dX6_addBelow_4 rfl rfl rfl rfl ?_
  obtain ⟨hk4, h⟩ := h
  refine zw_callI (as := [.ref b2, .int x1]) (rest := []) zM_X6_addBelow dX6_addBelow_5 (zx_calV zC_6_54) zM_X5_hasNode rfl rfl rfl rfl rfl (zx_args0 hk4 rfl) rfl h (fun v6 σ5 h => ?_)
  refine zw_if_ne (tgt := 13) zM_X6_addBelow dX6_addBelow_8 rfl rfl (fun q => ?_) (fun q => ?_)
  · replace h := h.1 q
    refine zw_go (pc1 := 14) (L1 := [some (.ref a0), some (.int x1), some (.int x2), some (.int x3)]) (st1 := [.int x2]) (σ1 := σ5) zM_X6_addBelow dX6_addBelow_13 rfl rfl rfl rfl ?_
    refine zw_callI (as := [.int x2]) (rest := []) zM_X6_addBelow dX6_addBelow_14 (zx_calS zC_6_58) zM_X6_isName rfl rfl rfl rfl rfl rfl rfl h (fun v8 σ7 h => ?_)
    refine zw_if_ne (tgt := 23) zM_X6_addBelow dX6_addBelow_17 rfl rfl (fun q => ?_) (fun q => ?_)
    · replace h := h.1 q
      refine zw_go (pc1 := 24) (L1 := [some (.ref a0), some (.int x1), some (.int x2), some (.int x3)]) (st1 := [.ref a0]) (σ1 := σ7) zM_X6_addBelow dX6_addBelow_23 rfl rfl rfl rfl ?_
      obtain ⟨hk9, h⟩ := h
      obtain ⟨b10, hr11, h⟩ := h
      refine zw_getR (a := b10) zM_X6_addBelow dX6_addBelow_24 zF_6_12 rfl hk9 hr11 ?_
      refine zw_go (pc1 := 28) (L1 := [some (.ref a0), some (.int x1), some (.int x2), some (.int x3)]) (st1 := [.int x1, .ref b10]) (σ1 := σ7) zM_X6_addBelow dX6_addBelow_27 rfl rfl rfl rfl ?_
      refine zw_go (pc1 := 29) (L1 := [some (.ref a0), some (.int x1), some (.int x2), some (.int x3)]) (st1 := [.int x2, .int x1, .ref b10]) (σ1 := σ7) zM_X6_addBelow dX6_addBelow_28 rfl rfl rfl rfl ?_
      obtain ⟨hk12, h⟩ := h
      refine zw_callI (as := [.ref b10, .int x1, .int x2]) (rest := []) zM_X6_addBelow dX6_addBelow_29 (zx_calV zC_6_61) zM_X5_takesName rfl rfl rfl rfl rfl (zx_args0 hk12 rfl) rfl h (fun v14 σ13 h => ?_)
      refine zw_if_ne (tgt := 38) zM_X6_addBelow dX6_addBelow_32 rfl rfl (fun q => ?_) (fun q => ?_)
      · replace h := h.1 q
        refine zw_go (pc1 := 39) (L1 := [some (.ref a0), some (.int x1), some (.int x2), some (.int x3)]) (st1 := [.ref a0]) (σ1 := σ13) zM_X6_addBelow dX6_addBelow_38 rfl rfl rfl rfl ?_
        obtain ⟨hk15, h⟩ := h
        obtain ⟨b16, hr17, h⟩ := h
        refine zw_getR (a := b16) zM_X6_addBelow dX6_addBelow_39 zF_6_12 rfl hk15 hr17 ?_
        obtain ⟨hk18, h⟩ := h
        refine zw_getI zM_X6_addBelow dX6_addBelow_42 zF_6_90 rfl hk18 ?_
        refine zw_bipush (v := 32) zM_X6_addBelow dX6_addBelow_45 (by decide) ?_
        refine zw_icmp_lt (tgt := 53) zM_X6_addBelow dX6_addBelow_47 rfl rfl (fun q => ?_) (fun q => ?_)
        · replace h := h.1 q
          refine zw_go (pc1 := 54) (L1 := [some (.ref a0), some (.int x1), some (.int x2), some (.int x3)]) (st1 := [.ref a0]) (σ1 := σ13) zM_X6_addBelow dX6_addBelow_53 rfl rfl rfl rfl ?_
          refine zw_getR (a := b16) zM_X6_addBelow dX6_addBelow_54 zF_6_12 rfl hk15 hr17 ?_
          refine zw_go (pc1 := 58) (L1 := [some (.ref a0), some (.int x1), some (.int x2), some (.int x3)]) (st1 := [.int x1, .ref b16]) (σ1 := σ13) zM_X6_addBelow dX6_addBelow_57 rfl rfl rfl rfl ?_
          refine zw_go (pc1 := 59) (L1 := [some (.ref a0), some (.int x1), some (.int x2), some (.int x3)]) (st1 := [.int x2, .int x1, .ref b16]) (σ1 := σ13) zM_X6_addBelow dX6_addBelow_58 rfl rfl rfl rfl ?_
          refine zw_go (pc1 := 60) (L1 := [some (.ref a0), some (.int x1), some (.int x2), some (.int x3)]) (st1 := [.int x3, .int x2, .int x1, .ref b16]) (σ1 := σ13) zM_X6_addBelow dX6_addBelow_59 rfl rfl rfl rfl ?_
          refine zw_callI (as := [.ref b16, .int x1, .int x2, .int x3]) (rest := []) zM_X6_addBelow dX6_addBelow_60 (zx_calV zC_6_208) zM_X5_addNode rfl rfl rfl rfl rfl (zx_args0 hk18 rfl) rfl h (fun v20 σ19 h => ?_)
          exact zw_reti zM_X6_addBelow dX6_addBelow_63 rfl h
        · replace h := h.2 q
          refine zw_bipush (v := (-4)) zM_X6_addBelow dX6_addBelow_50 (by decide) ?_
          exact zw_reti zM_X6_addBelow dX6_addBelow_52 rfl h
      · replace h := h.2 q
        refine zw_bipush (v := (-3)) zM_X6_addBelow dX6_addBelow_35 (by decide) ?_
        exact zw_reti zM_X6_addBelow dX6_addBelow_37 rfl h
    · replace h := h.2 q
      refine zw_bipush (v := (-2)) zM_X6_addBelow dX6_addBelow_20 (by decide) ?_
      exact zw_reti zM_X6_addBelow dX6_addBelow_22 rfl h
  · replace h := h.2 q
    refine zw_iconst (v := (-1)) zM_X6_addBelow dX6_addBelow_11 (by decide) ?_
    exact zw_reti zM_X6_addBelow dX6_addBelow_12 rfl h
set_option maxHeartbeats 4000000 in
set_option maxRecDepth 100000 in
theorem vc_X6_bare_0 (a0 : Nat) (σ : zx_S) (K : Int32 → zx_S → Prop) (h : zK σ a0 = 19 ∧ ∃ b2 : Nat, zR σ a0 5 = some b2 ∧ zK σ b2 = 16 ∧ zwI 86 0 [some (.ref b2), none] [] σ (fun v6 σ5 => K v6 σ5)) : zwI 109 0 [some (.ref a0)] [] σ K := by
  refine zw_go (pc1 := 1) (L1 := [some (.ref a0)]) (st1 := [.ref a0]) (σ1 := σ) zM_X6_bare dX6_bare_0 rfl rfl rfl rfl ?_
  obtain ⟨hk1, h⟩ := h
  obtain ⟨b2, hr3, h⟩ := h
  refine zw_getR (a := b2) zM_X6_bare dX6_bare_1 zF_6_46 rfl hk1 hr3 ?_
  obtain ⟨hk4, h⟩ := h
  refine zw_callI (as := [.ref b2]) (rest := []) zM_X6_bare dX6_bare_4 (zx_calV zC_6_173) zM_X3_takeAway rfl rfl rfl rfl rfl (zx_args0 hk4 rfl) rfl h (fun v6 σ5 h => ?_)
  exact zw_reti zM_X6_bare dX6_bare_7 rfl h
set_option maxHeartbeats 4000000 in
set_option maxRecDepth 100000 in
theorem vc_X6_build_0 (a0 : Nat) (x1 : Int32) (σ : zx_S) (K : Int32 → zx_S → Prop) (h : zwI 123 0 [some (.int x1)] [] σ (fun v2 σ1 => ((¬ v2 = (0 : Int32) → zK σ1 a0 = 19 ∧ (((zI σ1 a0 6) < (3 : Int32) → ∃ b4 : Nat, zR σ1 a0 3 = some b4 ∧ ∃ b6 : Nat, zR σ1 a0 0 = some b6 ∧ ∃ b8 : Nat, zR σ1 a0 1 = some b8 ∧ zK σ1 b8 = 3 ∧ zx_in (zI σ1 a0 6) (zN σ1 b8) = true ∧ ∃ b12 : Nat, zR σ1 b8 (Int32.toNatClampNeg (zI σ1 a0 6)) = some b12 ∧ zK σ1 b4 = 13 ∧ zwV 3 0 [some (.ref b4), some (.ref b6), some (.int x1), some (.ref b12)] [] σ1 (fun σ15 => zK σ15 a0 = 19 ∧ ∀ σ17 : zx_S, σ17 = zx_pI σ15 a0 6 ((zI σ15 a0 6) + 1) → K ((zI σ17 a0 6) - 1) σ17)) ∧ (¬ (zI σ1 a0 6) < (3 : Int32) → K (-4) σ1))) ∧ (v2 = (0 : Int32) → K (-2) σ1)))) : zwI 110 0 [some (.ref a0), some (.int x1)] [] σ K := by
  refine zw_go (pc1 := 1) (L1 := [some (.ref a0), some (.int x1)]) (st1 := [.int x1]) (σ1 := σ) zM_X6_build dX6_build_0 rfl rfl rfl rfl ?_
  refine zw_callI (as := [.int x1]) (rest := []) zM_X6_build dX6_build_1 (zx_calS zC_6_97) zM_X6_isBlock rfl rfl rfl rfl rfl rfl rfl h (fun v2 σ1 h => ?_)
  refine zw_if_ne (tgt := 10) zM_X6_build dX6_build_4 rfl rfl (fun q => ?_) (fun q => ?_)
  · replace h := h.1 q
    refine zw_go (pc1 := 11) (L1 := [some (.ref a0), some (.int x1)]) (st1 := [.ref a0]) (σ1 := σ1) zM_X6_build dX6_build_10 rfl rfl rfl rfl ?_
    obtain ⟨hk3, h⟩ := h
    refine zw_getI zM_X6_build dX6_build_11 zF_6_100 rfl hk3 ?_
    refine zw_iconst (v := 3) zM_X6_build dX6_build_14 (by decide) ?_
    refine zw_icmp_lt (tgt := 21) zM_X6_build dX6_build_15 rfl rfl (fun q => ?_) (fun q => ?_)
    · replace h := h.1 q
      refine zw_go (pc1 := 22) (L1 := [some (.ref a0), some (.int x1)]) (st1 := [.ref a0]) (σ1 := σ1) zM_X6_build dX6_build_21 rfl rfl rfl rfl ?_
      obtain ⟨b4, hr5, h⟩ := h
      refine zw_getR (a := b4) zM_X6_build dX6_build_22 zF_6_32 rfl hk3 hr5 ?_
      refine zw_go (pc1 := 26) (L1 := [some (.ref a0), some (.int x1)]) (st1 := [.ref a0, .ref b4]) (σ1 := σ1) zM_X6_build dX6_build_25 rfl rfl rfl rfl ?_
      obtain ⟨b6, hr7, h⟩ := h
      refine zw_getR (a := b6) zM_X6_build dX6_build_26 zF_6_12 rfl hk3 hr7 ?_
      refine zw_go (pc1 := 30) (L1 := [some (.ref a0), some (.int x1)]) (st1 := [.int x1, .ref b6, .ref b4]) (σ1 := σ1) zM_X6_build dX6_build_29 rfl rfl rfl rfl ?_
      refine zw_go (pc1 := 31) (L1 := [some (.ref a0), some (.int x1)]) (st1 := [.ref a0, .int x1, .ref b6, .ref b4]) (σ1 := σ1) zM_X6_build dX6_build_30 rfl rfl rfl rfl ?_
      obtain ⟨b8, hr9, h⟩ := h
      refine zw_getR (a := b8) zM_X6_build dX6_build_31 zF_6_18 rfl hk3 hr9 ?_
      refine zw_go (pc1 := 35) (L1 := [some (.ref a0), some (.int x1)]) (st1 := [.ref a0, .ref b8, .int x1, .ref b6, .ref b4]) (σ1 := σ1) zM_X6_build dX6_build_34 rfl rfl rfl rfl ?_
      refine zw_getI zM_X6_build dX6_build_35 zF_6_100 rfl hk3 ?_
      obtain ⟨hk10, h⟩ := h
      obtain ⟨hi11, b12, hr13, h⟩ := h
      refine zw_aald zM_X6_build dX6_build_38 ⟨hk10, hi11⟩ hr13 ?_
      obtain ⟨hk14, h⟩ := h
      refine zw_callV (as := [.ref b4, .ref b6, .int x1, .ref b12]) (rest := []) zM_X6_build dX6_build_39 (zx_calV zC_6_103) zM_X0_become rfl rfl rfl rfl rfl (zx_args0 hk14 rfl) rfl h (fun σ15 h => ?_)
      refine zw_go (pc1 := 43) (L1 := [some (.ref a0), some (.int x1)]) (st1 := [.ref a0]) (σ1 := σ15) zM_X6_build dX6_build_42 rfl rfl rfl rfl ?_
      refine zw_go (pc1 := 44) (L1 := [some (.ref a0), some (.int x1)]) (st1 := [.ref a0, .ref a0]) (σ1 := σ15) zM_X6_build dX6_build_43 rfl rfl rfl rfl ?_
      obtain ⟨hk16, h⟩ := h
      refine zw_getI zM_X6_build dX6_build_44 zF_6_100 rfl hk16 ?_
      refine zw_iconst (v := 1) zM_X6_build dX6_build_47 (by decide) ?_
      refine zw_go (pc1 := 49) (L1 := [some (.ref a0), some (.int x1)]) (st1 := [.int ((zI σ15 a0 6) + 1), .ref a0]) (σ1 := σ15) zM_X6_build dX6_build_48 rfl rfl rfl rfl ?_
      obtain ⟨σ17, e18⟩ : ∃ z9 : zx_S, z9 = zx_pI σ15 a0 6 ((zI σ15 a0 6) + 1) := ⟨_, rfl⟩
      replace h := h σ17 e18
      refine zw_putI zM_X6_build dX6_build_49 zF_6_100 rfl rfl hk16 e18 ?_
      refine zw_go (pc1 := 53) (L1 := [some (.ref a0), some (.int x1)]) (st1 := [.ref a0]) (σ1 := σ17) zM_X6_build dX6_build_52 rfl rfl rfl rfl ?_
      refine zw_getI zM_X6_build dX6_build_53 zF_6_100 rfl (by rw [e18]; exact hk16) ?_
      refine zw_iconst (v := 1) zM_X6_build dX6_build_56 (by decide) ?_
      refine zw_go (pc1 := 58) (L1 := [some (.ref a0), some (.int x1)]) (st1 := [.int ((zI σ17 a0 6) - 1)]) (σ1 := σ17) zM_X6_build dX6_build_57 rfl rfl rfl rfl ?_
      exact zw_reti zM_X6_build dX6_build_58 rfl h
    · replace h := h.2 q
      refine zw_bipush (v := (-4)) zM_X6_build dX6_build_18 (by decide) ?_
      exact zw_reti zM_X6_build dX6_build_20 rfl h
  · replace h := h.2 q
    refine zw_bipush (v := (-2)) zM_X6_build dX6_build_7 (by decide) ?_
    exact zw_reti zM_X6_build dX6_build_9 rfl h
set_option maxHeartbeats 4000000 in
set_option maxRecDepth 100000 in
theorem vc_X6_clear_0 (a0 : Nat) (σ : zx_S) (K : Int32 → zx_S → Prop) (h : zK σ a0 = 19 ∧ ∃ b2 : Nat, zR σ a0 0 = some b2 ∧ zK σ b2 = 18 ∧ zwV 105 0 [some (.ref b2)] [] σ (fun σ5 => K (zI σ b2 9) σ5)) : zwI 111 0 [some (.ref a0), none] [] σ K := by
  refine zw_go (pc1 := 1) (L1 := [some (.ref a0), none]) (st1 := [.ref a0]) (σ1 := σ) zM_X6_clear dX6_clear_0 rfl rfl rfl rfl ?_
  obtain ⟨hk1, h⟩ := h
  obtain ⟨b2, hr3, h⟩ := h
  refine zw_getR (a := b2) zM_X6_clear dX6_clear_1 zF_6_12 rfl hk1 hr3 ?_
  obtain ⟨hk4, h⟩ := h
  refine zw_getI zM_X6_clear dX6_clear_4 zF_6_90 rfl hk4 ?_
  refine zw_go (pc1 := 8) (L1 := [some (.ref a0), some (.int (zI σ b2 9))]) (st1 := []) (σ1 := σ) zM_X6_clear dX6_clear_7 rfl rfl rfl rfl ?_
  refine zw_go (pc1 := 9) (L1 := [some (.ref a0), some (.int (zI σ b2 9))]) (st1 := [.ref a0]) (σ1 := σ) zM_X6_clear dX6_clear_8 rfl rfl rfl rfl ?_
  refine zw_getR (a := b2) zM_X6_clear dX6_clear_9 zF_6_12 rfl hk1 hr3 ?_
  refine zw_callV (as := [.ref b2]) (rest := []) zM_X6_clear dX6_clear_12 (zx_calV zC_6_94) zM_X5_reset rfl rfl rfl rfl rfl (zx_args0 hk4 rfl) rfl h (fun σ5 h => ?_)
  refine zw_go (pc1 := 16) (L1 := [some (.ref a0), some (.int (zI σ b2 9))]) (st1 := [.int (zI σ b2 9)]) (σ1 := σ5) zM_X6_clear dX6_clear_15 rfl rfl rfl rfl ?_
  exact zw_reti zM_X6_clear dX6_clear_16 rfl h
set_option maxHeartbeats 4000000 in
set_option maxRecDepth 100000 in
theorem vc_X6_count_0 (a0 : Nat) (x1 : Int32) (σ : zx_S) (K : Int32 → zx_S → Prop) (h : ((x1 = 0 → zK σ a0 = 19 ∧ ∃ b2 : Nat, zR σ a0 0 = some b2 ∧ zK σ b2 = 18 ∧ K (zI σ b2 9) σ) ∧ (¬ x1 = 0 → ((x1 = 1 → zK σ a0 = 19 ∧ K (zI σ a0 6) σ) ∧ (¬ x1 = 1 → ((x1 = 2 → zK σ a0 = 19 ∧ ∃ b9 : Nat, zR σ a0 5 = some b9 ∧ zK σ b9 = 16 ∧ K (zI σ b9 10) σ) ∧ (¬ x1 = 2 → ((x1 = 3 → zK σ a0 = 19 ∧ ∃ b14 : Nat, zR σ a0 5 = some b14 ∧ zK σ b14 = 16 ∧ K (zI σ b14 11) σ) ∧ (¬ x1 = 3 → ((x1 = 4 → zK σ a0 = 19 ∧ ∃ b19 : Nat, zR σ a0 2 = some b19 ∧ zK σ b19 = 14 ∧ K (zI σ b19 1) σ) ∧ (¬ x1 = 4 → K (-2) σ))))))))))) : zwI 112 0 [some (.ref a0), some (.int x1)] [] σ K := by
  refine zw_go (pc1 := 1) (L1 := [some (.ref a0), some (.int x1)]) (st1 := [.int x1]) (σ1 := σ) zM_X6_count dX6_count_0 rfl rfl rfl rfl ?_
  by_cases hs5 : x1 = 0
  · replace h := h.1 hs5
    refine zw_sw (tgt := 36) zM_X6_count dX6_count_1 (zx_sw_in hs5 rfl) rfl ?_
    refine zw_go (pc1 := 37) (L1 := [some (.ref a0), some (.int x1)]) (st1 := [.ref a0]) (σ1 := σ) zM_X6_count dX6_count_36 rfl rfl rfl rfl ?_
    obtain ⟨hk1, h⟩ := h
    obtain ⟨b2, hr3, h⟩ := h
    refine zw_getR (a := b2) zM_X6_count dX6_count_37 zF_6_12 rfl hk1 hr3 ?_
    obtain ⟨hk4, h⟩ := h
    refine zw_getI zM_X6_count dX6_count_40 zF_6_90 rfl hk4 ?_
    exact zw_reti zM_X6_count dX6_count_43 rfl h
  · replace h := h.2 hs5
    by_cases hs7 : x1 = 1
    · replace h := h.1 hs7
      refine zw_sw (tgt := 44) zM_X6_count dX6_count_1 (zx_sw_in hs7 rfl) rfl ?_
      refine zw_go (pc1 := 45) (L1 := [some (.ref a0), some (.int x1)]) (st1 := [.ref a0]) (σ1 := σ) zM_X6_count dX6_count_44 rfl rfl rfl rfl ?_
      obtain ⟨hk6, h⟩ := h
      refine zw_getI zM_X6_count dX6_count_45 zF_6_100 rfl hk6 ?_
      exact zw_reti zM_X6_count dX6_count_48 rfl h
    · replace h := h.2 hs7
      by_cases hs12 : x1 = 2
      · replace h := h.1 hs12
        refine zw_sw (tgt := 49) zM_X6_count dX6_count_1 (zx_sw_in hs12 rfl) rfl ?_
        refine zw_go (pc1 := 50) (L1 := [some (.ref a0), some (.int x1)]) (st1 := [.ref a0]) (σ1 := σ) zM_X6_count dX6_count_49 rfl rfl rfl rfl ?_
        obtain ⟨hk8, h⟩ := h
        obtain ⟨b9, hr10, h⟩ := h
        refine zw_getR (a := b9) zM_X6_count dX6_count_50 zF_6_46 rfl hk8 hr10 ?_
        obtain ⟨hk11, h⟩ := h
        refine zw_getI zM_X6_count dX6_count_53 zF_6_202 rfl hk11 ?_
        exact zw_reti zM_X6_count dX6_count_56 rfl h
      · replace h := h.2 hs12
        by_cases hs17 : x1 = 3
        · replace h := h.1 hs17
          refine zw_sw (tgt := 57) zM_X6_count dX6_count_1 (zx_sw_in hs17 rfl) rfl ?_
          refine zw_go (pc1 := 58) (L1 := [some (.ref a0), some (.int x1)]) (st1 := [.ref a0]) (σ1 := σ) zM_X6_count dX6_count_57 rfl rfl rfl rfl ?_
          obtain ⟨hk13, h⟩ := h
          obtain ⟨b14, hr15, h⟩ := h
          refine zw_getR (a := b14) zM_X6_count dX6_count_58 zF_6_46 rfl hk13 hr15 ?_
          obtain ⟨hk16, h⟩ := h
          refine zw_getI zM_X6_count dX6_count_61 zF_6_205 rfl hk16 ?_
          exact zw_reti zM_X6_count dX6_count_64 rfl h
        · replace h := h.2 hs17
          by_cases hs22 : x1 = 4
          · replace h := h.1 hs22
            refine zw_sw (tgt := 65) zM_X6_count dX6_count_1 (zx_sw_in hs22 rfl) rfl ?_
            refine zw_go (pc1 := 66) (L1 := [some (.ref a0), some (.int x1)]) (st1 := [.ref a0]) (σ1 := σ) zM_X6_count dX6_count_65 rfl rfl rfl rfl ?_
            obtain ⟨hk18, h⟩ := h
            obtain ⟨b19, hr20, h⟩ := h
            refine zw_getR (a := b19) zM_X6_count dX6_count_66 zF_6_25 rfl hk18 hr20 ?_
            obtain ⟨hk21, h⟩ := h
            refine zw_getI zM_X6_count dX6_count_69 zF_6_107 rfl hk21 ?_
            exact zw_reti zM_X6_count dX6_count_72 rfl h
          · replace h := h.2 hs22
            have n0 := zx_ne (n := 0) hs5 (by decide)
            have n1 := zx_ne (n := 1) hs7 (by decide)
            have n2 := zx_ne (n := 2) hs12 (by decide)
            have n3 := zx_ne (n := 3) hs17 (by decide)
            have n4 := zx_ne (n := 4) hs22 (by decide)
            refine zw_sw (tgt := 73) zM_X6_count dX6_count_1 (zx_sw_out (by omega)) rfl ?_
            refine zw_bipush (v := (-2)) zM_X6_count dX6_count_73 (by decide) ?_
            exact zw_reti zM_X6_count dX6_count_75 rfl h
set_option maxHeartbeats 4000000 in
set_option maxRecDepth 100000 in
theorem vc_X6_data_0 (a0 : Nat) (x1 : Int32) (x2 : Int32) (x3 : Int32) (σ : zx_S) (K : Int32 → zx_S → Prop) (h : zK σ a0 = 19 ∧ ∃ b2 : Nat, zR σ a0 0 = some b2 ∧ zK σ b2 = 18 ∧ zwI 101 0 [some (.ref b2), some (.int x1)] [] σ (fun v6 σ5 => ((¬ v6 = (0 : Int32) → ((x2 < (0 : Int32) → K (-2) σ5) ∧ (¬ x2 < (0 : Int32) → (((255 : Int32) < x2 → K (-2) σ5) ∧ (¬ (255 : Int32) < x2 → ((x3 < (1 : Int32) → K (-2) σ5) ∧ (¬ x3 < (1 : Int32) → ((x3 ≤ (100 : Int32) → zK σ5 a0 = 19 ∧ ∃ b8 : Nat, zR σ5 a0 0 = some b8 ∧ zK σ5 b8 = 18 ∧ ∃ b11 : Nat, zR σ5 b8 0 = some b11 ∧ zK σ5 b11 = 1 ∧ zx_in x1 (zN σ5 b11) = true ∧ (((zI σ5 b11 (Int32.toNatClampNeg x1)) = (2 : Int32) → ∃ b15 : Nat, zR σ5 b8 5 = some b15 ∧ zK σ5 b15 = 1 ∧ zx_in x1 (zN σ5 b15) = true ∧ ((((zI σ5 b15 (Int32.toNatClampNeg x1)) + x3) ≤ (100 : Int32) → zwI 98 0 [some (.ref b8), some (.int x1), some (.int x2), some (.int x3), none] [] σ5 (fun v20 σ19 => K v20 σ19)) ∧ (¬ ((zI σ5 b15 (Int32.toNatClampNeg x1)) + x3) ≤ (100 : Int32) → K (-4) σ5))) ∧ (¬ (zI σ5 b11 (Int32.toNatClampNeg x1)) = (2 : Int32) → K (-3) σ5))) ∧ (¬ x3 ≤ (100 : Int32) → K (-2) σ5))))))))) ∧ (v6 = (0 : Int32) → K (-1) σ5)))) : zwI 113 0 [some (.ref a0), some (.int x1), some (.int x2), some (.int x3)] [] σ K := by
  refine zw_go (pc1 := 1) (L1 := [some (.ref a0), some (.int x1), some (.int x2), some (.int x3)]) (st1 := [.ref a0]) (σ1 := σ) zM_X6_data dX6_data_0 rfl rfl rfl rfl ?_
  obtain ⟨hk1, h⟩ := h
  obtain ⟨b2, hr3, h⟩ := h
  refine zw_getR (a := b2) zM_X6_data dX6_data_1 zF_6_12 rfl hk1 hr3 ?_
  refine zw_go (pc1 := 5) (L1 := [some (.ref a0), some (.int x1), some (.int x2), some (.int x3)]) (st1 := [.int x1, .ref b2]) (σ1 := σ) zM_X6_data dX6_data_4 rfl rfl rfl rfl ?_
  obtain ⟨hk4, h⟩ := h
  refine zw_callI (as := [.ref b2, .int x1]) (rest := []) zM_X6_data dX6_data_5 (zx_calV zC_6_54) zM_X5_hasNode rfl rfl rfl rfl rfl (zx_args0 hk4 rfl) rfl h (fun v6 σ5 h => ?_)
  refine zw_if_ne (tgt := 13) zM_X6_data dX6_data_8 rfl rfl (fun q => ?_) (fun q => ?_)
  · replace h := h.1 q
    refine zw_go (pc1 := 14) (L1 := [some (.ref a0), some (.int x1), some (.int x2), some (.int x3)]) (st1 := [.int x2]) (σ1 := σ5) zM_X6_data dX6_data_13 rfl rfl rfl rfl ?_
    refine zw_if_lt (tgt := 35) zM_X6_data dX6_data_14 rfl rfl (fun q => ?_) (fun q => ?_)
    · replace h := h.1 q
      refine zw_bipush (v := (-2)) zM_X6_data dX6_data_35 (by decide) ?_
      exact zw_reti zM_X6_data dX6_data_37 rfl h
    · replace h := h.2 q
      refine zw_go (pc1 := 18) (L1 := [some (.ref a0), some (.int x1), some (.int x2), some (.int x3)]) (st1 := [.int x2]) (σ1 := σ5) zM_X6_data dX6_data_17 rfl rfl rfl rfl ?_
      refine zw_sipush (v := 255) zM_X6_data dX6_data_18 (by decide) ?_
      refine zw_icmp_gt (tgt := 35) zM_X6_data dX6_data_21 rfl rfl (fun q => ?_) (fun q => ?_)
      · replace h := h.1 q
        refine zw_bipush (v := (-2)) zM_X6_data dX6_data_35 (by decide) ?_
        exact zw_reti zM_X6_data dX6_data_37 rfl h
      · replace h := h.2 q
        refine zw_go (pc1 := 25) (L1 := [some (.ref a0), some (.int x1), some (.int x2), some (.int x3)]) (st1 := [.int x3]) (σ1 := σ5) zM_X6_data dX6_data_24 rfl rfl rfl rfl ?_
        refine zw_iconst (v := 1) zM_X6_data dX6_data_25 (by decide) ?_
        refine zw_icmp_lt (tgt := 35) zM_X6_data dX6_data_26 rfl rfl (fun q => ?_) (fun q => ?_)
        · replace h := h.1 q
          refine zw_bipush (v := (-2)) zM_X6_data dX6_data_35 (by decide) ?_
          exact zw_reti zM_X6_data dX6_data_37 rfl h
        · replace h := h.2 q
          refine zw_go (pc1 := 30) (L1 := [some (.ref a0), some (.int x1), some (.int x2), some (.int x3)]) (st1 := [.int x3]) (σ1 := σ5) zM_X6_data dX6_data_29 rfl rfl rfl rfl ?_
          refine zw_bipush (v := 100) zM_X6_data dX6_data_30 (by decide) ?_
          refine zw_icmp_le (tgt := 38) zM_X6_data dX6_data_32 rfl rfl (fun q => ?_) (fun q => ?_)
          · replace h := h.1 q
            refine zw_go (pc1 := 39) (L1 := [some (.ref a0), some (.int x1), some (.int x2), some (.int x3)]) (st1 := [.ref a0]) (σ1 := σ5) zM_X6_data dX6_data_38 rfl rfl rfl rfl ?_
            obtain ⟨hk7, h⟩ := h
            obtain ⟨b8, hr9, h⟩ := h
            refine zw_getR (a := b8) zM_X6_data dX6_data_39 zF_6_12 rfl hk7 hr9 ?_
            obtain ⟨hk10, h⟩ := h
            obtain ⟨b11, hr12, h⟩ := h
            refine zw_getR (a := b11) zM_X6_data dX6_data_42 zF_6_65 rfl hk10 hr12 ?_
            refine zw_go (pc1 := 46) (L1 := [some (.ref a0), some (.int x1), some (.int x2), some (.int x3)]) (st1 := [.int x1, .ref b11]) (σ1 := σ5) zM_X6_data dX6_data_45 rfl rfl rfl rfl ?_
            obtain ⟨hk13, h⟩ := h
            obtain ⟨hi14, h⟩ := h
            refine zw_iald zM_X6_data dX6_data_46 ⟨Or.inl hk13, hi14⟩ ?_
            refine zw_iconst (v := 2) zM_X6_data dX6_data_47 (by decide) ?_
            refine zw_icmp_eq (tgt := 54) zM_X6_data dX6_data_48 rfl rfl (fun q => ?_) (fun q => ?_)
            · replace h := h.1 q
              refine zw_go (pc1 := 55) (L1 := [some (.ref a0), some (.int x1), some (.int x2), some (.int x3)]) (st1 := [.ref a0]) (σ1 := σ5) zM_X6_data dX6_data_54 rfl rfl rfl rfl ?_
              refine zw_getR (a := b8) zM_X6_data dX6_data_55 zF_6_12 rfl hk7 hr9 ?_
              obtain ⟨b15, hr16, h⟩ := h
              refine zw_getR (a := b15) zM_X6_data dX6_data_58 zF_6_75 rfl hk10 hr16 ?_
              refine zw_go (pc1 := 62) (L1 := [some (.ref a0), some (.int x1), some (.int x2), some (.int x3)]) (st1 := [.int x1, .ref b15]) (σ1 := σ5) zM_X6_data dX6_data_61 rfl rfl rfl rfl ?_
              obtain ⟨hk17, h⟩ := h
              obtain ⟨hi18, h⟩ := h
              refine zw_iald zM_X6_data dX6_data_62 ⟨Or.inl hk17, hi18⟩ ?_
              refine zw_go (pc1 := 64) (L1 := [some (.ref a0), some (.int x1), some (.int x2), some (.int x3)]) (st1 := [.int x3, .int (zI σ5 b15 (Int32.toNatClampNeg x1))]) (σ1 := σ5) zM_X6_data dX6_data_63 rfl rfl rfl rfl ?_
              refine zw_go (pc1 := 65) (L1 := [some (.ref a0), some (.int x1), some (.int x2), some (.int x3)]) (st1 := [.int ((zI σ5 b15 (Int32.toNatClampNeg x1)) + x3)]) (σ1 := σ5) zM_X6_data dX6_data_64 rfl rfl rfl rfl ?_
              refine zw_bipush (v := 100) zM_X6_data dX6_data_65 (by decide) ?_
              refine zw_icmp_le (tgt := 73) zM_X6_data dX6_data_67 rfl rfl (fun q => ?_) (fun q => ?_)
              · replace h := h.1 q
                refine zw_go (pc1 := 74) (L1 := [some (.ref a0), some (.int x1), some (.int x2), some (.int x3)]) (st1 := [.ref a0]) (σ1 := σ5) zM_X6_data dX6_data_73 rfl rfl rfl rfl ?_
                refine zw_getR (a := b8) zM_X6_data dX6_data_74 zF_6_12 rfl hk7 hr9 ?_
                refine zw_go (pc1 := 78) (L1 := [some (.ref a0), some (.int x1), some (.int x2), some (.int x3)]) (st1 := [.int x1, .ref b8]) (σ1 := σ5) zM_X6_data dX6_data_77 rfl rfl rfl rfl ?_
                refine zw_go (pc1 := 79) (L1 := [some (.ref a0), some (.int x1), some (.int x2), some (.int x3)]) (st1 := [.int x2, .int x1, .ref b8]) (σ1 := σ5) zM_X6_data dX6_data_78 rfl rfl rfl rfl ?_
                refine zw_go (pc1 := 80) (L1 := [some (.ref a0), some (.int x1), some (.int x2), some (.int x3)]) (st1 := [.int x3, .int x2, .int x1, .ref b8]) (σ1 := σ5) zM_X6_data dX6_data_79 rfl rfl rfl rfl ?_
                refine zw_callI (as := [.ref b8, .int x1, .int x2, .int x3]) (rest := []) zM_X6_data dX6_data_80 (zx_calV zC_6_78) zM_X5_append rfl rfl rfl rfl rfl (zx_args0 hk10 rfl) rfl h (fun v20 σ19 h => ?_)
                exact zw_reti zM_X6_data dX6_data_83 rfl h
              · replace h := h.2 q
                refine zw_bipush (v := (-4)) zM_X6_data dX6_data_70 (by decide) ?_
                exact zw_reti zM_X6_data dX6_data_72 rfl h
            · replace h := h.2 q
              refine zw_bipush (v := (-3)) zM_X6_data dX6_data_51 (by decide) ?_
              exact zw_reti zM_X6_data dX6_data_53 rfl h
          · replace h := h.2 q
            refine zw_bipush (v := (-2)) zM_X6_data dX6_data_35 (by decide) ?_
            exact zw_reti zM_X6_data dX6_data_37 rfl h
  · replace h := h.2 q
    refine zw_iconst (v := (-1)) zM_X6_data dX6_data_11 (by decide) ?_
    exact zw_reti zM_X6_data dX6_data_12 rfl h
set_option maxHeartbeats 4000000 in
set_option maxRecDepth 100000 in
theorem vc_X6_drop_0 (a0 : Nat) (σ : zx_S) (K : Int32 → zx_S → Prop) (h : zK σ a0 = 19 ∧ (((zI σ a0 6) = (0 : Int32) → K (-3) σ) ∧ (¬ (zI σ a0 6) = (0 : Int32) → ∃ b2 : Nat, zR σ a0 5 = some b2 ∧ zK σ b2 = 16 ∧ zwI 74 0 [some (.ref b2), some (.int ((zI σ a0 6) - 1)), none] [] σ (fun v6 σ5 => ((v6 = (0 : Int32) → zK σ5 a0 = 19 ∧ ∀ σ8 : zx_S, σ8 = zx_pI σ5 a0 6 ((zI σ5 a0 6) - 1) → K (zI σ8 a0 6) σ8) ∧ (¬ v6 = (0 : Int32) → K (-3) σ5)))))) : zwI 114 0 [some (.ref a0)] [] σ K := by
  refine zw_go (pc1 := 1) (L1 := [some (.ref a0)]) (st1 := [.ref a0]) (σ1 := σ) zM_X6_drop dX6_drop_0 rfl rfl rfl rfl ?_
  obtain ⟨hk1, h⟩ := h
  refine zw_getI zM_X6_drop dX6_drop_1 zF_6_100 rfl hk1 ?_
  refine zw_if_eq (tgt := 23) zM_X6_drop dX6_drop_4 rfl rfl (fun q => ?_) (fun q => ?_)
  · replace h := h.1 q
    refine zw_bipush (v := (-3)) zM_X6_drop dX6_drop_23 (by decide) ?_
    exact zw_reti zM_X6_drop dX6_drop_25 rfl h
  · replace h := h.2 q
    refine zw_go (pc1 := 8) (L1 := [some (.ref a0)]) (st1 := [.ref a0]) (σ1 := σ) zM_X6_drop dX6_drop_7 rfl rfl rfl rfl ?_
    obtain ⟨b2, hr3, h⟩ := h
    refine zw_getR (a := b2) zM_X6_drop dX6_drop_8 zF_6_46 rfl hk1 hr3 ?_
    refine zw_go (pc1 := 12) (L1 := [some (.ref a0)]) (st1 := [.ref a0, .ref b2]) (σ1 := σ) zM_X6_drop dX6_drop_11 rfl rfl rfl rfl ?_
    refine zw_getI zM_X6_drop dX6_drop_12 zF_6_100 rfl hk1 ?_
    refine zw_iconst (v := 1) zM_X6_drop dX6_drop_15 (by decide) ?_
    refine zw_go (pc1 := 17) (L1 := [some (.ref a0)]) (st1 := [.int ((zI σ a0 6) - 1), .ref b2]) (σ1 := σ) zM_X6_drop dX6_drop_16 rfl rfl rfl rfl ?_
    obtain ⟨hk4, h⟩ := h
    refine zw_callI (as := [.ref b2, .int ((zI σ a0 6) - 1)]) (rest := []) zM_X6_drop dX6_drop_17 (zx_calV zC_6_121) zM_X3_isLaid rfl rfl rfl rfl rfl (zx_args0 hk4 rfl) rfl h (fun v6 σ5 h => ?_)
    refine zw_if_eq (tgt := 26) zM_X6_drop dX6_drop_20 rfl rfl (fun q => ?_) (fun q => ?_)
    · replace h := h.1 q
      refine zw_go (pc1 := 27) (L1 := [some (.ref a0)]) (st1 := [.ref a0]) (σ1 := σ5) zM_X6_drop dX6_drop_26 rfl rfl rfl rfl ?_
      refine zw_go (pc1 := 28) (L1 := [some (.ref a0)]) (st1 := [.ref a0, .ref a0]) (σ1 := σ5) zM_X6_drop dX6_drop_27 rfl rfl rfl rfl ?_
      obtain ⟨hk7, h⟩ := h
      refine zw_getI zM_X6_drop dX6_drop_28 zF_6_100 rfl hk7 ?_
      refine zw_iconst (v := 1) zM_X6_drop dX6_drop_31 (by decide) ?_
      refine zw_go (pc1 := 33) (L1 := [some (.ref a0)]) (st1 := [.int ((zI σ5 a0 6) - 1), .ref a0]) (σ1 := σ5) zM_X6_drop dX6_drop_32 rfl rfl rfl rfl ?_
      obtain ⟨σ8, e9⟩ : ∃ z9 : zx_S, z9 = zx_pI σ5 a0 6 ((zI σ5 a0 6) - 1) := ⟨_, rfl⟩
      replace h := h σ8 e9
      refine zw_putI zM_X6_drop dX6_drop_33 zF_6_100 rfl rfl hk7 e9 ?_
      refine zw_go (pc1 := 37) (L1 := [some (.ref a0)]) (st1 := [.ref a0]) (σ1 := σ8) zM_X6_drop dX6_drop_36 rfl rfl rfl rfl ?_
      refine zw_getI zM_X6_drop dX6_drop_37 zF_6_100 rfl (by rw [e9]; exact hk7) ?_
      exact zw_reti zM_X6_drop dX6_drop_40 rfl h
    · replace h := h.2 q
      refine zw_bipush (v := (-3)) zM_X6_drop dX6_drop_23 (by decide) ?_
      exact zw_reti zM_X6_drop dX6_drop_25 rfl h
set_option maxHeartbeats 4000000 in
set_option maxRecDepth 100000 in
theorem vc_X6_end_0 (a0 : Nat) (x1 : Int32) (σ : zx_S) (K : Int32 → zx_S → Prop) (h : ((x1 < (0 : Int32) → K (-2) σ) ∧ (¬ x1 < (0 : Int32) → zK σ a0 = 19 ∧ ∃ b2 : Nat, zR σ a0 2 = some b2 ∧ zK σ b2 = 14 ∧ ((x1 ≤ (zI σ b2 1) → ∀ σ5 : zx_S, σ5 = zx_pI σ b2 1 x1 → K x1 σ5) ∧ (¬ x1 ≤ (zI σ b2 1) → K (-2) σ))))) : zwI 115 0 [some (.ref a0), some (.int x1)] [] σ K := by
  refine zw_go (pc1 := 1) (L1 := [some (.ref a0), some (.int x1)]) (st1 := [.int x1]) (σ1 := σ) zM_X6_end dX6_end_0 rfl rfl rfl rfl ?_
  refine zw_if_lt (tgt := 15) zM_X6_end dX6_end_1 rfl rfl (fun q => ?_) (fun q => ?_)
  · replace h := h.1 q
    refine zw_bipush (v := (-2)) zM_X6_end dX6_end_15 (by decide) ?_
    exact zw_reti zM_X6_end dX6_end_17 rfl h
  · replace h := h.2 q
    refine zw_go (pc1 := 5) (L1 := [some (.ref a0), some (.int x1)]) (st1 := [.int x1]) (σ1 := σ) zM_X6_end dX6_end_4 rfl rfl rfl rfl ?_
    refine zw_go (pc1 := 6) (L1 := [some (.ref a0), some (.int x1)]) (st1 := [.ref a0, .int x1]) (σ1 := σ) zM_X6_end dX6_end_5 rfl rfl rfl rfl ?_
    obtain ⟨hk1, h⟩ := h
    obtain ⟨b2, hr3, h⟩ := h
    refine zw_getR (a := b2) zM_X6_end dX6_end_6 zF_6_25 rfl hk1 hr3 ?_
    obtain ⟨hk4, h⟩ := h
    refine zw_getI zM_X6_end dX6_end_9 zF_6_107 rfl hk4 ?_
    refine zw_icmp_le (tgt := 18) zM_X6_end dX6_end_12 rfl rfl (fun q => ?_) (fun q => ?_)
    · replace h := h.1 q
      refine zw_go (pc1 := 19) (L1 := [some (.ref a0), some (.int x1)]) (st1 := [.ref a0]) (σ1 := σ) zM_X6_end dX6_end_18 rfl rfl rfl rfl ?_
      refine zw_getR (a := b2) zM_X6_end dX6_end_19 zF_6_25 rfl hk1 hr3 ?_
      refine zw_go (pc1 := 23) (L1 := [some (.ref a0), some (.int x1)]) (st1 := [.int x1, .ref b2]) (σ1 := σ) zM_X6_end dX6_end_22 rfl rfl rfl rfl ?_
      obtain ⟨σ5, e6⟩ : ∃ z9 : zx_S, z9 = zx_pI σ b2 1 x1 := ⟨_, rfl⟩
      replace h := h σ5 e6
      refine zw_putI zM_X6_end dX6_end_23 zF_6_107 rfl rfl hk4 e6 ?_
      refine zw_go (pc1 := 27) (L1 := [some (.ref a0), some (.int x1)]) (st1 := [.int x1]) (σ1 := σ5) zM_X6_end dX6_end_26 rfl rfl rfl rfl ?_
      exact zw_reti zM_X6_end dX6_end_27 rfl h
    · replace h := h.2 q
      refine zw_bipush (v := (-2)) zM_X6_end dX6_end_15 (by decide) ?_
      exact zw_reti zM_X6_end dX6_end_17 rfl h
set_option maxHeartbeats 4000000 in
set_option maxRecDepth 100000 in
theorem vc_X6_feed_0 (a0 : Nat) (x1 : Int32) (x2 : Int32) (x3 : Int32) (x4 : Int32) (x5 : Int32) (σ : zx_S) (K : Int32 → zx_S → Prop) (h : zK σ a0 = 19 ∧ ∃ b2 : Nat, zR σ a0 2 = some b2 ∧ zK σ b2 = 14 ∧ ((((zI σ b2 1) + 20) ≤ (4000 : Int32) → zwV 39 0 [some (.ref b2), some (.int x1)] [] σ (fun σ5 => zK σ5 a0 = 19 ∧ ∃ b7 : Nat, zR σ5 a0 2 = some b7 ∧ zK σ5 b7 = 14 ∧ zwV 39 0 [some (.ref b7), some (.int x2)] [] σ5 (fun σ10 => zK σ10 a0 = 19 ∧ ∃ b12 : Nat, zR σ10 a0 2 = some b12 ∧ zK σ10 b12 = 14 ∧ zwV 39 0 [some (.ref b12), some (.int x3)] [] σ10 (fun σ15 => zK σ15 a0 = 19 ∧ ∃ b17 : Nat, zR σ15 a0 2 = some b17 ∧ zK σ15 b17 = 14 ∧ zwV 39 0 [some (.ref b17), some (.int x4)] [] σ15 (fun σ20 => zK σ20 a0 = 19 ∧ ∃ b22 : Nat, zR σ20 a0 2 = some b22 ∧ zK σ20 b22 = 14 ∧ zwV 39 0 [some (.ref b22), some (.int x5)] [] σ20 (fun σ25 => zK σ25 a0 = 19 ∧ ∃ b27 : Nat, zR σ25 a0 2 = some b27 ∧ zK σ25 b27 = 14 ∧ K (zI σ25 b27 1) σ25)))))) ∧ (¬ ((zI σ b2 1) + 20) ≤ (4000 : Int32) → K (-4) σ))) : zwI 116 0 [some (.ref a0), some (.int x1), some (.int x2), some (.int x3), some (.int x4), some (.int x5)] [] σ K := by
  refine zw_go (pc1 := 1) (L1 := [some (.ref a0), some (.int x1), some (.int x2), some (.int x3), some (.int x4), some (.int x5)]) (st1 := [.ref a0]) (σ1 := σ) zM_X6_feed dX6_feed_0 rfl rfl rfl rfl ?_
  obtain ⟨hk1, h⟩ := h
  obtain ⟨b2, hr3, h⟩ := h
  refine zw_getR (a := b2) zM_X6_feed dX6_feed_1 zF_6_25 rfl hk1 hr3 ?_
  obtain ⟨hk4, h⟩ := h
  refine zw_getI zM_X6_feed dX6_feed_4 zF_6_107 rfl hk4 ?_
  refine zw_bipush (v := 20) zM_X6_feed dX6_feed_7 (by decide) ?_
  refine zw_go (pc1 := 10) (L1 := [some (.ref a0), some (.int x1), some (.int x2), some (.int x3), some (.int x4), some (.int x5)]) (st1 := [.int ((zI σ b2 1) + 20)]) (σ1 := σ) zM_X6_feed dX6_feed_9 rfl rfl rfl rfl ?_
  refine zw_sipush (v := 4000) zM_X6_feed dX6_feed_10 (by decide) ?_
  refine zw_icmp_le (tgt := 19) zM_X6_feed dX6_feed_13 rfl rfl (fun q => ?_) (fun q => ?_)
  · replace h := h.1 q
    refine zw_go (pc1 := 20) (L1 := [some (.ref a0), some (.int x1), some (.int x2), some (.int x3), some (.int x4), some (.int x5)]) (st1 := [.ref a0]) (σ1 := σ) zM_X6_feed dX6_feed_19 rfl rfl rfl rfl ?_
    refine zw_getR (a := b2) zM_X6_feed dX6_feed_20 zF_6_25 rfl hk1 hr3 ?_
    refine zw_go (pc1 := 24) (L1 := [some (.ref a0), some (.int x1), some (.int x2), some (.int x3), some (.int x4), some (.int x5)]) (st1 := [.int x1, .ref b2]) (σ1 := σ) zM_X6_feed dX6_feed_23 rfl rfl rfl rfl ?_
    refine zw_callV (as := [.ref b2, .int x1]) (rest := []) zM_X6_feed dX6_feed_24 (zx_calV zC_6_110) zM_X1_putInt rfl rfl rfl rfl rfl (zx_args0 hk4 rfl) rfl h (fun σ5 h => ?_)
    refine zw_go (pc1 := 28) (L1 := [some (.ref a0), some (.int x1), some (.int x2), some (.int x3), some (.int x4), some (.int x5)]) (st1 := [.ref a0]) (σ1 := σ5) zM_X6_feed dX6_feed_27 rfl rfl rfl rfl ?_
    obtain ⟨hk6, h⟩ := h
    obtain ⟨b7, hr8, h⟩ := h
    refine zw_getR (a := b7) zM_X6_feed dX6_feed_28 zF_6_25 rfl hk6 hr8 ?_
    refine zw_go (pc1 := 32) (L1 := [some (.ref a0), some (.int x1), some (.int x2), some (.int x3), some (.int x4), some (.int x5)]) (st1 := [.int x2, .ref b7]) (σ1 := σ5) zM_X6_feed dX6_feed_31 rfl rfl rfl rfl ?_
    obtain ⟨hk9, h⟩ := h
    refine zw_callV (as := [.ref b7, .int x2]) (rest := []) zM_X6_feed dX6_feed_32 (zx_calV zC_6_110) zM_X1_putInt rfl rfl rfl rfl rfl (zx_args0 hk9 rfl) rfl h (fun σ10 h => ?_)
    refine zw_go (pc1 := 36) (L1 := [some (.ref a0), some (.int x1), some (.int x2), some (.int x3), some (.int x4), some (.int x5)]) (st1 := [.ref a0]) (σ1 := σ10) zM_X6_feed dX6_feed_35 rfl rfl rfl rfl ?_
    obtain ⟨hk11, h⟩ := h
    obtain ⟨b12, hr13, h⟩ := h
    refine zw_getR (a := b12) zM_X6_feed dX6_feed_36 zF_6_25 rfl hk11 hr13 ?_
    refine zw_go (pc1 := 40) (L1 := [some (.ref a0), some (.int x1), some (.int x2), some (.int x3), some (.int x4), some (.int x5)]) (st1 := [.int x3, .ref b12]) (σ1 := σ10) zM_X6_feed dX6_feed_39 rfl rfl rfl rfl ?_
    obtain ⟨hk14, h⟩ := h
    refine zw_callV (as := [.ref b12, .int x3]) (rest := []) zM_X6_feed dX6_feed_40 (zx_calV zC_6_110) zM_X1_putInt rfl rfl rfl rfl rfl (zx_args0 hk14 rfl) rfl h (fun σ15 h => ?_)
    refine zw_go (pc1 := 44) (L1 := [some (.ref a0), some (.int x1), some (.int x2), some (.int x3), some (.int x4), some (.int x5)]) (st1 := [.ref a0]) (σ1 := σ15) zM_X6_feed dX6_feed_43 rfl rfl rfl rfl ?_
    obtain ⟨hk16, h⟩ := h
    obtain ⟨b17, hr18, h⟩ := h
    refine zw_getR (a := b17) zM_X6_feed dX6_feed_44 zF_6_25 rfl hk16 hr18 ?_
    refine zw_go (pc1 := 49) (L1 := [some (.ref a0), some (.int x1), some (.int x2), some (.int x3), some (.int x4), some (.int x5)]) (st1 := [.int x4, .ref b17]) (σ1 := σ15) zM_X6_feed dX6_feed_47 rfl rfl rfl rfl ?_
    obtain ⟨hk19, h⟩ := h
    refine zw_callV (as := [.ref b17, .int x4]) (rest := []) zM_X6_feed dX6_feed_49 (zx_calV zC_6_110) zM_X1_putInt rfl rfl rfl rfl rfl (zx_args0 hk19 rfl) rfl h (fun σ20 h => ?_)
    refine zw_go (pc1 := 53) (L1 := [some (.ref a0), some (.int x1), some (.int x2), some (.int x3), some (.int x4), some (.int x5)]) (st1 := [.ref a0]) (σ1 := σ20) zM_X6_feed dX6_feed_52 rfl rfl rfl rfl ?_
    obtain ⟨hk21, h⟩ := h
    obtain ⟨b22, hr23, h⟩ := h
    refine zw_getR (a := b22) zM_X6_feed dX6_feed_53 zF_6_25 rfl hk21 hr23 ?_
    refine zw_go (pc1 := 58) (L1 := [some (.ref a0), some (.int x1), some (.int x2), some (.int x3), some (.int x4), some (.int x5)]) (st1 := [.int x5, .ref b22]) (σ1 := σ20) zM_X6_feed dX6_feed_56 rfl rfl rfl rfl ?_
    obtain ⟨hk24, h⟩ := h
    refine zw_callV (as := [.ref b22, .int x5]) (rest := []) zM_X6_feed dX6_feed_58 (zx_calV zC_6_110) zM_X1_putInt rfl rfl rfl rfl rfl (zx_args0 hk24 rfl) rfl h (fun σ25 h => ?_)
    refine zw_go (pc1 := 62) (L1 := [some (.ref a0), some (.int x1), some (.int x2), some (.int x3), some (.int x4), some (.int x5)]) (st1 := [.ref a0]) (σ1 := σ25) zM_X6_feed dX6_feed_61 rfl rfl rfl rfl ?_
    obtain ⟨hk26, h⟩ := h
    obtain ⟨b27, hr28, h⟩ := h
    refine zw_getR (a := b27) zM_X6_feed dX6_feed_62 zF_6_25 rfl hk26 hr28 ?_
    obtain ⟨hk29, h⟩ := h
    refine zw_getI zM_X6_feed dX6_feed_65 zF_6_107 rfl hk29 ?_
    exact zw_reti zM_X6_feed dX6_feed_68 rfl h
  · replace h := h.2 q
    refine zw_bipush (v := (-4)) zM_X6_feed dX6_feed_16 (by decide) ?_
    exact zw_reti zM_X6_feed dX6_feed_18 rfl h
set_option maxHeartbeats 4000000 in
set_option maxRecDepth 100000 in
theorem vc_X6_file_0 (a0 : Nat) (x1 : Int32) (x2 : Int32) (σ : zx_S) (K : Int32 → zx_S → Prop) (h : zK σ a0 = 19 ∧ zwI 108 0 [some (.ref a0), some (.int x1), some (.int x2), some (.int 2)] [] σ (fun v3 σ2 => K v3 σ2)) : zwI 117 0 [some (.ref a0), some (.int x1), some (.int x2)] [] σ K := by
  refine zw_go (pc1 := 1) (L1 := [some (.ref a0), some (.int x1), some (.int x2)]) (st1 := [.ref a0]) (σ1 := σ) zM_X6_file dX6_file_0 rfl rfl rfl rfl ?_
  refine zw_go (pc1 := 2) (L1 := [some (.ref a0), some (.int x1), some (.int x2)]) (st1 := [.int x1, .ref a0]) (σ1 := σ) zM_X6_file dX6_file_1 rfl rfl rfl rfl ?_
  refine zw_go (pc1 := 3) (L1 := [some (.ref a0), some (.int x1), some (.int x2)]) (st1 := [.int x2, .int x1, .ref a0]) (σ1 := σ) zM_X6_file dX6_file_2 rfl rfl rfl rfl ?_
  refine zw_iconst (v := 2) zM_X6_file dX6_file_3 (by decide) ?_
  obtain ⟨hk1, h⟩ := h
  refine zw_callI (as := [.ref a0, .int x1, .int x2, .int 2]) (rest := []) zM_X6_file dX6_file_4 (zx_calV zC_6_50) zM_X6_addBelow rfl rfl rfl rfl rfl (zx_args0 hk1 rfl) rfl h (fun v3 σ2 h => ?_)
  exact zw_reti zM_X6_file dX6_file_7 rfl h
set_option maxHeartbeats 4000000 in
set_option maxRecDepth 100000 in
theorem vc_X6_folder_0 (a0 : Nat) (x1 : Int32) (x2 : Int32) (σ : zx_S) (K : Int32 → zx_S → Prop) (h : zK σ a0 = 19 ∧ zwI 108 0 [some (.ref a0), some (.int x1), some (.int x2), some (.int 1)] [] σ (fun v3 σ2 => K v3 σ2)) : zwI 118 0 [some (.ref a0), some (.int x1), some (.int x2)] [] σ K := by
  refine zw_go (pc1 := 1) (L1 := [some (.ref a0), some (.int x1), some (.int x2)]) (st1 := [.ref a0]) (σ1 := σ) zM_X6_folder dX6_folder_0 rfl rfl rfl rfl ?_
  refine zw_go (pc1 := 2) (L1 := [some (.ref a0), some (.int x1), some (.int x2)]) (st1 := [.int x1, .ref a0]) (σ1 := σ) zM_X6_folder dX6_folder_1 rfl rfl rfl rfl ?_
  refine zw_go (pc1 := 3) (L1 := [some (.ref a0), some (.int x1), some (.int x2)]) (st1 := [.int x2, .int x1, .ref a0]) (σ1 := σ) zM_X6_folder dX6_folder_2 rfl rfl rfl rfl ?_
  refine zw_iconst (v := 1) zM_X6_folder dX6_folder_3 (by decide) ?_
  obtain ⟨hk1, h⟩ := h
  refine zw_callI (as := [.ref a0, .int x1, .int x2, .int 1]) (rest := []) zM_X6_folder dX6_folder_4 (zx_calV zC_6_50) zM_X6_addBelow rfl rfl rfl rfl rfl (zx_args0 hk1 rfl) rfl h (fun v3 σ2 h => ?_)
  exact zw_reti zM_X6_folder dX6_folder_7 rfl h
set_option maxHeartbeats 4000000 in
set_option maxRecDepth 100000 in
theorem vc_X6_hasImage_0 (a0 : Nat) (x1 : Int32) (σ : zx_S) (K : Int32 → zx_S → Prop) (h : ((x1 < (0 : Int32) → K 0 σ) ∧ (¬ x1 < (0 : Int32) → zK σ a0 = 19 ∧ (((zI σ a0 6) ≤ x1 → K 0 σ) ∧ (¬ (zI σ a0 6) ≤ x1 → K 1 σ))))) : zwI 119 0 [some (.ref a0), some (.int x1)] [] σ K := by
  refine zw_go (pc1 := 1) (L1 := [some (.ref a0), some (.int x1)]) (st1 := [.int x1]) (σ1 := σ) zM_X6_hasImage dX6_hasImage_0 rfl rfl rfl rfl ?_
  refine zw_if_lt (tgt := 16) zM_X6_hasImage dX6_hasImage_1 rfl rfl (fun q => ?_) (fun q => ?_)
  · replace h := h.1 q
    refine zw_iconst (v := 0) zM_X6_hasImage dX6_hasImage_16 (by decide) ?_
    exact zw_retz zM_X6_hasImage dX6_hasImage_17 rfl (by decide) h
  · replace h := h.2 q
    refine zw_go (pc1 := 5) (L1 := [some (.ref a0), some (.int x1)]) (st1 := [.int x1]) (σ1 := σ) zM_X6_hasImage dX6_hasImage_4 rfl rfl rfl rfl ?_
    refine zw_go (pc1 := 6) (L1 := [some (.ref a0), some (.int x1)]) (st1 := [.ref a0, .int x1]) (σ1 := σ) zM_X6_hasImage dX6_hasImage_5 rfl rfl rfl rfl ?_
    obtain ⟨hk1, h⟩ := h
    refine zw_getI zM_X6_hasImage dX6_hasImage_6 zF_6_100 rfl hk1 ?_
    refine zw_icmp_ge (tgt := 16) zM_X6_hasImage dX6_hasImage_9 rfl rfl (fun q => ?_) (fun q => ?_)
    · replace h := h.1 q
      refine zw_iconst (v := 0) zM_X6_hasImage dX6_hasImage_16 (by decide) ?_
      exact zw_retz zM_X6_hasImage dX6_hasImage_17 rfl (by decide) h
    · replace h := h.2 q
      refine zw_iconst (v := 1) zM_X6_hasImage dX6_hasImage_12 (by decide) ?_
      refine zw_goto (tgt := 17) zM_X6_hasImage dX6_hasImage_13 rfl ?_
      exact zw_retz zM_X6_hasImage dX6_hasImage_17 rfl (by decide) h
set_option maxHeartbeats 4000000 in
set_option maxRecDepth 100000 in
theorem vc_X6_hide_0 (a0 : Nat) (x1 : Int32) (x2 : Int32) (σ : zx_S) (K : Int32 → zx_S → Prop) (h : zK σ a0 = 19 ∧ zwI 108 0 [some (.ref a0), some (.int x1), some (.int x2), some (.int 3)] [] σ (fun v3 σ2 => K v3 σ2)) : zwI 120 0 [some (.ref a0), some (.int x1), some (.int x2)] [] σ K := by
  refine zw_go (pc1 := 1) (L1 := [some (.ref a0), some (.int x1), some (.int x2)]) (st1 := [.ref a0]) (σ1 := σ) zM_X6_hide dX6_hide_0 rfl rfl rfl rfl ?_
  refine zw_go (pc1 := 2) (L1 := [some (.ref a0), some (.int x1), some (.int x2)]) (st1 := [.int x1, .ref a0]) (σ1 := σ) zM_X6_hide dX6_hide_1 rfl rfl rfl rfl ?_
  refine zw_go (pc1 := 3) (L1 := [some (.ref a0), some (.int x1), some (.int x2)]) (st1 := [.int x2, .int x1, .ref a0]) (σ1 := σ) zM_X6_hide dX6_hide_2 rfl rfl rfl rfl ?_
  refine zw_iconst (v := 3) zM_X6_hide dX6_hide_3 (by decide) ?_
  obtain ⟨hk1, h⟩ := h
  refine zw_callI (as := [.ref a0, .int x1, .int x2, .int 3]) (rest := []) zM_X6_hide dX6_hide_4 (zx_calV zC_6_50) zM_X6_addBelow rfl rfl rfl rfl rfl (zx_args0 hk1 rfl) rfl h (fun v3 σ2 h => ?_)
  exact zw_reti zM_X6_hide dX6_hide_7 rfl h
set_option maxHeartbeats 4000000 in
set_option maxRecDepth 100000 in
theorem vc_X6_image_0 (a0 : Nat) (x1 : Int32) (x2 : Int32) (σ : zx_S) (K : Int32 → zx_S → Prop) (h : zK σ a0 = 19 ∧ zwI 119 0 [some (.ref a0), some (.int x1)] [] σ (fun v3 σ2 => ((¬ v3 = (0 : Int32) → zK σ2 a0 = 19 ∧ ∃ b5 : Nat, zR σ2 a0 1 = some b5 ∧ zK σ2 b5 = 3 ∧ zx_in x1 (zN σ2 b5) = true ∧ ∃ b9 : Nat, zR σ2 b5 (Int32.toNatClampNeg x1) = some b9 ∧ ((x2 = 0 → zK σ2 b9 = 14 ∧ K (zI σ2 b9 1) σ2) ∧ (¬ x2 = 0 → ((x2 = 1 → zK σ2 b9 = 14 ∧ K (zI σ2 b9 2) σ2) ∧ (¬ x2 = 1 → ((x2 = 2 → zK σ2 b9 = 14 ∧ K (zI σ2 b9 3) σ2) ∧ (¬ x2 = 2 → ((x2 = 3 → zK σ2 b9 = 14 ∧ zwI 47 0 [some (.ref b9)] [] σ2 (fun v19 σ18 => K v19 σ18)) ∧ (¬ x2 = 3 → ((x2 = 4 → zK σ2 b9 = 14 ∧ K ((zI σ2 b9 4) - 18) σ2) ∧ (¬ x2 = 4 → K (-2) σ2))))))))))) ∧ (v3 = (0 : Int32) → K (-1) σ2)))) : zwI 121 0 [some (.ref a0), some (.int x1), some (.int x2), none] [] σ K := by
  refine zw_go (pc1 := 1) (L1 := [some (.ref a0), some (.int x1), some (.int x2), none]) (st1 := [.ref a0]) (σ1 := σ) zM_X6_image dX6_image_0 rfl rfl rfl rfl ?_
  refine zw_go (pc1 := 2) (L1 := [some (.ref a0), some (.int x1), some (.int x2), none]) (st1 := [.int x1, .ref a0]) (σ1 := σ) zM_X6_image dX6_image_1 rfl rfl rfl rfl ?_
  obtain ⟨hk1, h⟩ := h
  refine zw_callI (as := [.ref a0, .int x1]) (rest := []) zM_X6_image dX6_image_2 (zx_calV zC_6_124) zM_X6_hasImage rfl rfl rfl rfl rfl (zx_args0 hk1 rfl) rfl h (fun v3 σ2 h => ?_)
  refine zw_if_ne (tgt := 10) zM_X6_image dX6_image_5 rfl rfl (fun q => ?_) (fun q => ?_)
  · replace h := h.1 q
    refine zw_go (pc1 := 11) (L1 := [some (.ref a0), some (.int x1), some (.int x2), none]) (st1 := [.ref a0]) (σ1 := σ2) zM_X6_image dX6_image_10 rfl rfl rfl rfl ?_
    obtain ⟨hk4, h⟩ := h
    obtain ⟨b5, hr6, h⟩ := h
    refine zw_getR (a := b5) zM_X6_image dX6_image_11 zF_6_18 rfl hk4 hr6 ?_
    refine zw_go (pc1 := 15) (L1 := [some (.ref a0), some (.int x1), some (.int x2), none]) (st1 := [.int x1, .ref b5]) (σ1 := σ2) zM_X6_image dX6_image_14 rfl rfl rfl rfl ?_
    obtain ⟨hk7, h⟩ := h
    obtain ⟨hi8, b9, hr10, h⟩ := h
    refine zw_aald zM_X6_image dX6_image_15 ⟨hk7, hi8⟩ hr10 ?_
    refine zw_go (pc1 := 17) (L1 := [some (.ref a0), some (.int x1), some (.int x2), some (.ref b9)]) (st1 := []) (σ1 := σ2) zM_X6_image dX6_image_16 rfl rfl rfl rfl ?_
    refine zw_go (pc1 := 18) (L1 := [some (.ref a0), some (.int x1), some (.int x2), some (.ref b9)]) (st1 := [.int x2]) (σ1 := σ2) zM_X6_image dX6_image_17 rfl rfl rfl rfl ?_
    by_cases hs12 : x2 = 0
    · replace h := h.1 hs12
      refine zw_sw (tgt := 52) zM_X6_image dX6_image_18 (zx_sw_in hs12 rfl) rfl ?_
      refine zw_go (pc1 := 53) (L1 := [some (.ref a0), some (.int x1), some (.int x2), some (.ref b9)]) (st1 := [.ref b9]) (σ1 := σ2) zM_X6_image dX6_image_52 rfl rfl rfl rfl ?_
      obtain ⟨hk11, h⟩ := h
      refine zw_getI zM_X6_image dX6_image_53 zF_6_107 rfl hk11 ?_
      exact zw_reti zM_X6_image dX6_image_56 rfl h
    · replace h := h.2 hs12
      by_cases hs14 : x2 = 1
      · replace h := h.1 hs14
        refine zw_sw (tgt := 57) zM_X6_image dX6_image_18 (zx_sw_in hs14 rfl) rfl ?_
        refine zw_go (pc1 := 58) (L1 := [some (.ref a0), some (.int x1), some (.int x2), some (.ref b9)]) (st1 := [.ref b9]) (σ1 := σ2) zM_X6_image dX6_image_57 rfl rfl rfl rfl ?_
        obtain ⟨hk13, h⟩ := h
        refine zw_getI zM_X6_image dX6_image_58 zF_6_134 rfl hk13 ?_
        exact zw_reti zM_X6_image dX6_image_61 rfl h
      · replace h := h.2 hs14
        by_cases hs16 : x2 = 2
        · replace h := h.1 hs16
          refine zw_sw (tgt := 62) zM_X6_image dX6_image_18 (zx_sw_in hs16 rfl) rfl ?_
          refine zw_go (pc1 := 63) (L1 := [some (.ref a0), some (.int x1), some (.int x2), some (.ref b9)]) (st1 := [.ref b9]) (σ1 := σ2) zM_X6_image dX6_image_62 rfl rfl rfl rfl ?_
          obtain ⟨hk15, h⟩ := h
          refine zw_getI zM_X6_image dX6_image_63 zF_6_137 rfl hk15 ?_
          exact zw_reti zM_X6_image dX6_image_66 rfl h
        · replace h := h.2 hs16
          by_cases hs20 : x2 = 3
          · replace h := h.1 hs20
            refine zw_sw (tgt := 67) zM_X6_image dX6_image_18 (zx_sw_in hs20 rfl) rfl ?_
            refine zw_go (pc1 := 68) (L1 := [some (.ref a0), some (.int x1), some (.int x2), some (.ref b9)]) (st1 := [.ref b9]) (σ1 := σ2) zM_X6_image dX6_image_67 rfl rfl rfl rfl ?_
            obtain ⟨hk17, h⟩ := h
            refine zw_callI (as := [.ref b9]) (rest := []) zM_X6_image dX6_image_68 (zx_calV zC_6_140) zM_X1_tailBlocks rfl rfl rfl rfl rfl (zx_args0 hk17 rfl) rfl h (fun v19 σ18 h => ?_)
            exact zw_reti zM_X6_image dX6_image_71 rfl h
          · replace h := h.2 hs20
            by_cases hs22 : x2 = 4
            · replace h := h.1 hs22
              refine zw_sw (tgt := 72) zM_X6_image dX6_image_18 (zx_sw_in hs22 rfl) rfl ?_
              refine zw_go (pc1 := 73) (L1 := [some (.ref a0), some (.int x1), some (.int x2), some (.ref b9)]) (st1 := [.ref b9]) (σ1 := σ2) zM_X6_image dX6_image_72 rfl rfl rfl rfl ?_
              obtain ⟨hk21, h⟩ := h
              refine zw_getI zM_X6_image dX6_image_73 zF_6_144 rfl hk21 ?_
              refine zw_bipush (v := 18) zM_X6_image dX6_image_76 (by decide) ?_
              refine zw_go (pc1 := 79) (L1 := [some (.ref a0), some (.int x1), some (.int x2), some (.ref b9)]) (st1 := [.int ((zI σ2 b9 4) - 18)]) (σ1 := σ2) zM_X6_image dX6_image_78 rfl rfl rfl rfl ?_
              exact zw_reti zM_X6_image dX6_image_79 rfl h
            · replace h := h.2 hs22
              have n0 := zx_ne (n := 0) hs12 (by decide)
              have n1 := zx_ne (n := 1) hs14 (by decide)
              have n2 := zx_ne (n := 2) hs16 (by decide)
              have n3 := zx_ne (n := 3) hs20 (by decide)
              have n4 := zx_ne (n := 4) hs22 (by decide)
              refine zw_sw (tgt := 80) zM_X6_image dX6_image_18 (zx_sw_out (by omega)) rfl ?_
              refine zw_bipush (v := (-2)) zM_X6_image dX6_image_80 (by decide) ?_
              exact zw_reti zM_X6_image dX6_image_82 rfl h
  · replace h := h.2 q
    refine zw_iconst (v := (-1)) zM_X6_image dX6_image_8 (by decide) ?_
    exact zw_reti zM_X6_image dX6_image_9 rfl h
set_option maxHeartbeats 4000000 in
set_option maxRecDepth 100000 in
theorem vc_X6_init_0 (a0 : Nat) (σ : zx_S) (K : zx_S → Prop) (h : ∀ σ1 : zx_S, σ1 = zx_nw σ 18 0 11 → zwV 103 0 [some (.ref (zn σ))] [] σ1 (fun σ3 => zK σ3 a0 = 19 ∧ ∀ σ5 : zx_S, σ5 = zx_pR σ3 a0 0 (some (zn σ)) → ∀ σ7 : zx_S, σ7 = zx_nw σ5 3 (Int32.toNatClampNeg 3) (Int32.toNatClampNeg 3) → zK σ7 a0 = 19 ∧ ∀ σ10 : zx_S, σ10 = zx_pR σ7 a0 1 (some (zn σ5)) → zwV 122 25 [some (.ref a0), some (.int 0)] [] σ10 K)) : zwV 122 0 [some (.ref a0), none] [] σ K := by
  refine zw_go (pc1 := 1) (L1 := [some (.ref a0), none]) (st1 := [.ref a0]) (σ1 := σ) zM_X6_init dX6_init_0 rfl rfl rfl rfl ?_
  refine zw_obj zM_X6_init dX6_init_1 zC_6_3 (by decide) rfl ?_
  refine zw_go (pc1 := 5) (L1 := [some (.ref a0), none]) (st1 := [.ref a0]) (σ1 := σ) zM_X6_init dX6_init_4 rfl rfl rfl rfl ?_
  obtain ⟨σ1, e2⟩ : ∃ z9 : zx_S, z9 = zx_nw σ 18 0 11 := ⟨_, rfl⟩
  replace h := h σ1 e2
  refine zw_new zM_X6_init dX6_init_5 zN_6_9 rfl e2 ?_
  refine zw_go (pc1 := 9) (L1 := [some (.ref a0), none]) (st1 := [.ref (zn σ), .ref (zn σ), .ref a0]) (σ1 := σ1) zM_X6_init dX6_init_8 rfl rfl rfl rfl ?_
  refine zw_callV (as := [.ref (zn σ)]) (rest := [.ref (zn σ), .ref a0]) zM_X6_init dX6_init_9 (zx_calI zC_6_11) zM_X5_init rfl rfl rfl rfl rfl rfl rfl h (fun σ3 h => ?_)
  obtain ⟨hk4, h⟩ := h
  obtain ⟨σ5, e6⟩ : ∃ z9 : zx_S, z9 = zx_pR σ3 a0 0 (some (zn σ)) := ⟨_, rfl⟩
  replace h := h σ5 e6
  refine zw_putR zM_X6_init dX6_init_12 zF_6_12 rfl rfl (by decide) hk4 e6 ?_
  refine zw_go (pc1 := 16) (L1 := [some (.ref a0), none]) (st1 := [.ref a0]) (σ1 := σ5) zM_X6_init dX6_init_15 rfl rfl rfl rfl ?_
  refine zw_iconst (v := 3) zM_X6_init dX6_init_16 (by decide) ?_
  obtain ⟨σ7, e8⟩ : ∃ z9 : zx_S, z9 = zx_nw σ5 3 (Int32.toNatClampNeg 3) (Int32.toNatClampNeg 3) := ⟨_, rfl⟩
  replace h := h σ7 e8
  refine zw_newO zM_X6_init dX6_init_17 zA_6_16 (by decide) e8 ?_
  obtain ⟨hk9, h⟩ := h
  obtain ⟨σ10, e11⟩ : ∃ z9 : zx_S, z9 = zx_pR σ7 a0 1 (some (zn σ5)) := ⟨_, rfl⟩
  replace h := h σ10 e11
  refine zw_putR zM_X6_init dX6_init_20 zF_6_18 rfl rfl (by decide) hk9 e11 ?_
  refine zw_iconst (v := 0) zM_X6_init dX6_init_23 (by decide) ?_
  refine zw_go (pc1 := 25) (L1 := [some (.ref a0), some (.int 0)]) (st1 := []) (σ1 := σ10) zM_X6_init dX6_init_24 rfl rfl rfl rfl ?_
  exact zw_weak2 h ⟨rfl, rfl, trivial⟩
set_option maxHeartbeats 4000000 in
set_option maxRecDepth 100000 in
theorem vc_X6_init_25 (a0 : Nat) (x1 : Int32) (σ : zx_S) (K : zx_S → Prop) (h : (((3 : Int32) ≤ x1 → ∀ σ1 : zx_S, σ1 = zx_nw σ 14 0 8 → zwV 29 0 [some (.ref (zn σ)), some (.int 4000)] [] σ1 (fun σ3 => zK σ3 a0 = 19 ∧ ∀ σ5 : zx_S, σ5 = zx_pR σ3 a0 2 (some (zn σ)) → ∀ σ7 : zx_S, σ7 = zx_nw σ5 13 0 16 → zwV 8 0 [some (.ref (zn σ5))] [] σ7 (fun σ9 => zK σ9 a0 = 19 ∧ ∀ σ11 : zx_S, σ11 = zx_pR σ9 a0 3 (some (zn σ5)) → ∀ σ13 : zx_S, σ13 = zx_nw σ11 15 0 1 → zwV 60 0 [some (.ref (zn σ11))] [] σ13 (fun σ15 => zK σ15 a0 = 19 ∧ ∀ σ17 : zx_S, σ17 = zx_pR σ15 a0 4 (some (zn σ11)) → ∀ σ19 : zx_S, σ19 = zx_nw σ17 16 0 12 → zwV 73 0 [some (.ref (zn σ17)), none, none] [] σ19 (fun σ21 => zK σ21 a0 = 19 ∧ ∀ σ23 : zx_S, σ23 = zx_pR σ21 a0 5 (some (zn σ17)) → K σ23))))) ∧ (¬ (3 : Int32) ≤ x1 → zK σ a0 = 19 ∧ ∃ b26 : Nat, zR σ a0 1 = some b26 ∧ ∀ σ28 : zx_S, σ28 = zx_nw σ 14 0 8 → zwV 29 0 [some (.ref (zn σ)), some (.int 5581)] [] σ28 (fun σ30 => zK σ30 b26 = 3 ∧ zK σ30 (zn σ) = 14 ∧ zx_in x1 (zN σ30 b26) = true ∧ ∀ σ34 : zx_S, σ34 = zx_pR σ30 b26 (Int32.toNatClampNeg x1) (some (zn σ)) → zwV 122 25 [some (.ref a0), some (.int (x1 + Int32.ofInt 1))] [] σ34 K)))) : zwV 122 25 [some (.ref a0), some (.int x1)] [] σ K := by
  refine zw_go (pc1 := 26) (L1 := [some (.ref a0), some (.int x1)]) (st1 := [.int x1]) (σ1 := σ) zM_X6_init dX6_init_25 rfl rfl rfl rfl ?_
  refine zw_iconst (v := 3) zM_X6_init dX6_init_26 (by decide) ?_
  refine zw_icmp_ge (tgt := 52) zM_X6_init dX6_init_27 rfl rfl (fun q => ?_) (fun q => ?_)
  · replace h := h.1 q
    refine zw_go (pc1 := 53) (L1 := [some (.ref a0), some (.int x1)]) (st1 := [.ref a0]) (σ1 := σ) zM_X6_init dX6_init_52 rfl rfl rfl rfl ?_
    obtain ⟨σ1, e2⟩ : ∃ z9 : zx_S, z9 = zx_nw σ 14 0 8 := ⟨_, rfl⟩
    replace h := h σ1 e2
    refine zw_new zM_X6_init dX6_init_53 zN_6_16 rfl e2 ?_
    refine zw_go (pc1 := 57) (L1 := [some (.ref a0), some (.int x1)]) (st1 := [.ref (zn σ), .ref (zn σ), .ref a0]) (σ1 := σ1) zM_X6_init dX6_init_56 rfl rfl rfl rfl ?_
    refine zw_sipush (v := 4000) zM_X6_init dX6_init_57 (by decide) ?_
    refine zw_callV (as := [.ref (zn σ), .int 4000]) (rest := [.ref (zn σ), .ref a0]) zM_X6_init dX6_init_60 (zx_calI zC_6_22) zM_X1_init rfl rfl rfl rfl rfl rfl rfl h (fun σ3 h => ?_)
    obtain ⟨hk4, h⟩ := h
    obtain ⟨σ5, e6⟩ : ∃ z9 : zx_S, z9 = zx_pR σ3 a0 2 (some (zn σ)) := ⟨_, rfl⟩
    replace h := h σ5 e6
    refine zw_putR zM_X6_init dX6_init_63 zF_6_25 rfl rfl (by decide) hk4 e6 ?_
    refine zw_go (pc1 := 67) (L1 := [some (.ref a0), some (.int x1)]) (st1 := [.ref a0]) (σ1 := σ5) zM_X6_init dX6_init_66 rfl rfl rfl rfl ?_
    obtain ⟨σ7, e8⟩ : ∃ z9 : zx_S, z9 = zx_nw σ5 13 0 16 := ⟨_, rfl⟩
    replace h := h σ7 e8
    refine zw_new zM_X6_init dX6_init_67 zN_6_29 rfl e8 ?_
    refine zw_go (pc1 := 71) (L1 := [some (.ref a0), some (.int x1)]) (st1 := [.ref (zn σ5), .ref (zn σ5), .ref a0]) (σ1 := σ7) zM_X6_init dX6_init_70 rfl rfl rfl rfl ?_
    refine zw_callV (as := [.ref (zn σ5)]) (rest := [.ref (zn σ5), .ref a0]) zM_X6_init dX6_init_71 (zx_calI zC_6_31) zM_X0_init rfl rfl rfl rfl rfl rfl rfl h (fun σ9 h => ?_)
    obtain ⟨hk10, h⟩ := h
    obtain ⟨σ11, e12⟩ : ∃ z9 : zx_S, z9 = zx_pR σ9 a0 3 (some (zn σ5)) := ⟨_, rfl⟩
    replace h := h σ11 e12
    refine zw_putR zM_X6_init dX6_init_74 zF_6_32 rfl rfl (by decide) hk10 e12 ?_
    refine zw_go (pc1 := 78) (L1 := [some (.ref a0), some (.int x1)]) (st1 := [.ref a0]) (σ1 := σ11) zM_X6_init dX6_init_77 rfl rfl rfl rfl ?_
    obtain ⟨σ13, e14⟩ : ∃ z9 : zx_S, z9 = zx_nw σ11 15 0 1 := ⟨_, rfl⟩
    replace h := h σ13 e14
    refine zw_new zM_X6_init dX6_init_78 zN_6_36 rfl e14 ?_
    refine zw_go (pc1 := 82) (L1 := [some (.ref a0), some (.int x1)]) (st1 := [.ref (zn σ11), .ref (zn σ11), .ref a0]) (σ1 := σ13) zM_X6_init dX6_init_81 rfl rfl rfl rfl ?_
    refine zw_callV (as := [.ref (zn σ11)]) (rest := [.ref (zn σ11), .ref a0]) zM_X6_init dX6_init_82 (zx_calI zC_6_38) zM_X2_init rfl rfl rfl rfl rfl rfl rfl h (fun σ15 h => ?_)
    obtain ⟨hk16, h⟩ := h
    obtain ⟨σ17, e18⟩ : ∃ z9 : zx_S, z9 = zx_pR σ15 a0 4 (some (zn σ11)) := ⟨_, rfl⟩
    replace h := h σ17 e18
    refine zw_putR zM_X6_init dX6_init_85 zF_6_39 rfl rfl (by decide) hk16 e18 ?_
    refine zw_go (pc1 := 89) (L1 := [some (.ref a0), some (.int x1)]) (st1 := [.ref a0]) (σ1 := σ17) zM_X6_init dX6_init_88 rfl rfl rfl rfl ?_
    obtain ⟨σ19, e20⟩ : ∃ z9 : zx_S, z9 = zx_nw σ17 16 0 12 := ⟨_, rfl⟩
    replace h := h σ19 e20
    refine zw_new zM_X6_init dX6_init_89 zN_6_43 rfl e20 ?_
    refine zw_go (pc1 := 93) (L1 := [some (.ref a0), some (.int x1)]) (st1 := [.ref (zn σ17), .ref (zn σ17), .ref a0]) (σ1 := σ19) zM_X6_init dX6_init_92 rfl rfl rfl rfl ?_
    refine zw_callV (as := [.ref (zn σ17)]) (rest := [.ref (zn σ17), .ref a0]) zM_X6_init dX6_init_93 (zx_calI zC_6_45) zM_X3_init rfl rfl rfl rfl rfl rfl rfl h (fun σ21 h => ?_)
    obtain ⟨hk22, h⟩ := h
    obtain ⟨σ23, e24⟩ : ∃ z9 : zx_S, z9 = zx_pR σ21 a0 5 (some (zn σ17)) := ⟨_, rfl⟩
    replace h := h σ23 e24
    refine zw_putR zM_X6_init dX6_init_96 zF_6_46 rfl rfl (by decide) hk22 e24 ?_
    exact zw_retv zM_X6_init dX6_init_99 rfl h
  · replace h := h.2 q
    refine zw_go (pc1 := 31) (L1 := [some (.ref a0), some (.int x1)]) (st1 := [.ref a0]) (σ1 := σ) zM_X6_init dX6_init_30 rfl rfl rfl rfl ?_
    obtain ⟨hk25, h⟩ := h
    obtain ⟨b26, hr27, h⟩ := h
    refine zw_getR (a := b26) zM_X6_init dX6_init_31 zF_6_18 rfl hk25 hr27 ?_
    refine zw_go (pc1 := 35) (L1 := [some (.ref a0), some (.int x1)]) (st1 := [.int x1, .ref b26]) (σ1 := σ) zM_X6_init dX6_init_34 rfl rfl rfl rfl ?_
    obtain ⟨σ28, e29⟩ : ∃ z9 : zx_S, z9 = zx_nw σ 14 0 8 := ⟨_, rfl⟩
    replace h := h σ28 e29
    refine zw_new zM_X6_init dX6_init_35 zN_6_16 rfl e29 ?_
    refine zw_go (pc1 := 39) (L1 := [some (.ref a0), some (.int x1)]) (st1 := [.ref (zn σ), .ref (zn σ), .int x1, .ref b26]) (σ1 := σ28) zM_X6_init dX6_init_38 rfl rfl rfl rfl ?_
    refine zw_sipush (v := 5581) zM_X6_init dX6_init_39 (by decide) ?_
    refine zw_callV (as := [.ref (zn σ), .int 5581]) (rest := [.ref (zn σ), .int x1, .ref b26]) zM_X6_init dX6_init_42 (zx_calI zC_6_22) zM_X1_init rfl rfl rfl rfl rfl rfl rfl h (fun σ30 h => ?_)
    obtain ⟨hk31, h⟩ := h
    obtain ⟨hk32, h⟩ := h
    obtain ⟨hi33, h⟩ := h
    obtain ⟨σ34, e35⟩ : ∃ z9 : zx_S, z9 = zx_pR σ30 b26 (Int32.toNatClampNeg x1) (some (zn σ)) := ⟨_, rfl⟩
    replace h := h σ34 e35
    refine zw_aast zM_X6_init dX6_init_45 ⟨hk31, hk32, hi33⟩ e35 ?_
    refine zw_go (pc1 := 49) (L1 := [some (.ref a0), some (.int (x1 + Int32.ofInt 1))]) (st1 := []) (σ1 := σ34) zM_X6_init dX6_init_46 rfl rfl rfl rfl ?_
    refine zw_goto (tgt := 25) zM_X6_init dX6_init_49 rfl ?_
    exact zw_weak2 h ⟨rfl, rfl, trivial⟩
set_option maxHeartbeats 4000000 in
set_option maxRecDepth 100000 in
theorem vc_X6_isBlock_0 (x0 : Int32) (σ : zx_S) (K : Int32 → zx_S → Prop) (h : ((x0 = (8 : Int32) → K 1 σ) ∧ (¬ x0 = (8 : Int32) → ((x0 = (16 : Int32) → K 1 σ) ∧ (¬ x0 = (16 : Int32) → ((¬ x0 = (32 : Int32) → K 0 σ) ∧ (x0 = (32 : Int32) → K 1 σ))))))) : zwI 123 0 [some (.int x0)] [] σ K := by
  refine zw_go (pc1 := 1) (L1 := [some (.int x0)]) (st1 := [.int x0]) (σ1 := σ) zM_X6_isBlock dX6_isBlock_0 rfl rfl rfl rfl ?_
  refine zw_bipush (v := 8) zM_X6_isBlock dX6_isBlock_1 (by decide) ?_
  refine zw_icmp_eq (tgt := 18) zM_X6_isBlock dX6_isBlock_3 rfl rfl (fun q => ?_) (fun q => ?_)
  · replace h := h.1 q
    refine zw_iconst (v := 1) zM_X6_isBlock dX6_isBlock_18 (by decide) ?_
    refine zw_goto (tgt := 23) zM_X6_isBlock dX6_isBlock_19 rfl ?_
    exact zw_retz zM_X6_isBlock dX6_isBlock_23 rfl (by decide) h
  · replace h := h.2 q
    refine zw_go (pc1 := 7) (L1 := [some (.int x0)]) (st1 := [.int x0]) (σ1 := σ) zM_X6_isBlock dX6_isBlock_6 rfl rfl rfl rfl ?_
    refine zw_bipush (v := 16) zM_X6_isBlock dX6_isBlock_7 (by decide) ?_
    refine zw_icmp_eq (tgt := 18) zM_X6_isBlock dX6_isBlock_9 rfl rfl (fun q => ?_) (fun q => ?_)
    · replace h := h.1 q
      refine zw_iconst (v := 1) zM_X6_isBlock dX6_isBlock_18 (by decide) ?_
      refine zw_goto (tgt := 23) zM_X6_isBlock dX6_isBlock_19 rfl ?_
      exact zw_retz zM_X6_isBlock dX6_isBlock_23 rfl (by decide) h
    · replace h := h.2 q
      refine zw_go (pc1 := 13) (L1 := [some (.int x0)]) (st1 := [.int x0]) (σ1 := σ) zM_X6_isBlock dX6_isBlock_12 rfl rfl rfl rfl ?_
      refine zw_bipush (v := 32) zM_X6_isBlock dX6_isBlock_13 (by decide) ?_
      refine zw_icmp_ne (tgt := 22) zM_X6_isBlock dX6_isBlock_15 rfl rfl (fun q => ?_) (fun q => ?_)
      · replace h := h.1 q
        refine zw_iconst (v := 0) zM_X6_isBlock dX6_isBlock_22 (by decide) ?_
        exact zw_retz zM_X6_isBlock dX6_isBlock_23 rfl (by decide) h
      · replace h := h.2 q
        refine zw_iconst (v := 1) zM_X6_isBlock dX6_isBlock_18 (by decide) ?_
        refine zw_goto (tgt := 23) zM_X6_isBlock dX6_isBlock_19 rfl ?_
        exact zw_retz zM_X6_isBlock dX6_isBlock_23 rfl (by decide) h
set_option maxHeartbeats 4000000 in
set_option maxRecDepth 100000 in
theorem vc_X6_isName_0 (x0 : Int32) (σ : zx_S) (K : Int32 → zx_S → Prop) (h : ((x0 < (1 : Int32) → K 0 σ) ∧ (¬ x0 < (1 : Int32) → (((999 : Int32) < x0 → K 0 σ) ∧ (¬ (999 : Int32) < x0 → K 1 σ))))) : zwI 124 0 [some (.int x0)] [] σ K := by
  refine zw_go (pc1 := 1) (L1 := [some (.int x0)]) (st1 := [.int x0]) (σ1 := σ) zM_X6_isName dX6_isName_0 rfl rfl rfl rfl ?_
  refine zw_iconst (v := 1) zM_X6_isName dX6_isName_1 (by decide) ?_
  refine zw_icmp_lt (tgt := 16) zM_X6_isName dX6_isName_2 rfl rfl (fun q => ?_) (fun q => ?_)
  · replace h := h.1 q
    refine zw_iconst (v := 0) zM_X6_isName dX6_isName_16 (by decide) ?_
    exact zw_retz zM_X6_isName dX6_isName_17 rfl (by decide) h
  · replace h := h.2 q
    refine zw_go (pc1 := 6) (L1 := [some (.int x0)]) (st1 := [.int x0]) (σ1 := σ) zM_X6_isName dX6_isName_5 rfl rfl rfl rfl ?_
    refine zw_sipush (v := 999) zM_X6_isName dX6_isName_6 (by decide) ?_
    refine zw_icmp_gt (tgt := 16) zM_X6_isName dX6_isName_9 rfl rfl (fun q => ?_) (fun q => ?_)
    · replace h := h.1 q
      refine zw_iconst (v := 0) zM_X6_isName dX6_isName_16 (by decide) ?_
      exact zw_retz zM_X6_isName dX6_isName_17 rfl (by decide) h
    · replace h := h.2 q
      refine zw_iconst (v := 1) zM_X6_isName dX6_isName_12 (by decide) ?_
      refine zw_goto (tgt := 17) zM_X6_isName dX6_isName_13 rfl ?_
      exact zw_retz zM_X6_isName dX6_isName_17 rfl (by decide) h
set_option maxHeartbeats 4000000 in
set_option maxRecDepth 100000 in
theorem vc_X6_isWord_0 (x0 : Int32) (σ : zx_S) (K : Int32 → zx_S → Prop) (h : ((x0 < (0 : Int32) → K 0 σ) ∧ (¬ x0 < (0 : Int32) → (((65535 : Int32) < x0 → K 0 σ) ∧ (¬ (65535 : Int32) < x0 → K 1 σ))))) : zwI 125 0 [some (.int x0)] [] σ K := by
  refine zw_go (pc1 := 1) (L1 := [some (.int x0)]) (st1 := [.int x0]) (σ1 := σ) zM_X6_isWord dX6_isWord_0 rfl rfl rfl rfl ?_
  refine zw_if_lt (tgt := 14) zM_X6_isWord dX6_isWord_1 rfl rfl (fun q => ?_) (fun q => ?_)
  · replace h := h.1 q
    refine zw_iconst (v := 0) zM_X6_isWord dX6_isWord_14 (by decide) ?_
    exact zw_retz zM_X6_isWord dX6_isWord_15 rfl (by decide) h
  · replace h := h.2 q
    refine zw_go (pc1 := 5) (L1 := [some (.int x0)]) (st1 := [.int x0]) (σ1 := σ) zM_X6_isWord dX6_isWord_4 rfl rfl rfl rfl ?_
    refine zw_ldc (v := 65535) zM_X6_isWord dX6_isWord_5 zK_6_211 ?_
    refine zw_icmp_gt (tgt := 14) zM_X6_isWord dX6_isWord_7 rfl rfl (fun q => ?_) (fun q => ?_)
    · replace h := h.1 q
      refine zw_iconst (v := 0) zM_X6_isWord dX6_isWord_14 (by decide) ?_
      exact zw_retz zM_X6_isWord dX6_isWord_15 rfl (by decide) h
    · replace h := h.2 q
      refine zw_iconst (v := 1) zM_X6_isWord dX6_isWord_10 (by decide) ?_
      refine zw_goto (tgt := 15) zM_X6_isWord dX6_isWord_11 rfl ?_
      exact zw_retz zM_X6_isWord dX6_isWord_15 rfl (by decide) h
set_option maxHeartbeats 4000000 in
set_option maxRecDepth 100000 in
theorem vc_X6_link_0 (a0 : Nat) (x1 : Int32) (x2 : Int32) (x3 : Int32) (σ : zx_S) (K : Int32 → zx_S → Prop) (h : zK σ a0 = 19 ∧ ∃ b2 : Nat, zR σ a0 0 = some b2 ∧ zK σ b2 = 18 ∧ zwI 101 0 [some (.ref b2), some (.int x1)] [] σ (fun v6 σ5 => ((v6 = (0 : Int32) → K (-1) σ5) ∧ (¬ v6 = (0 : Int32) → zK σ5 a0 = 19 ∧ ∃ b8 : Nat, zR σ5 a0 0 = some b8 ∧ zK σ5 b8 = 18 ∧ zwI 101 0 [some (.ref b8), some (.int x3)] [] σ5 (fun v12 σ11 => ((¬ v12 = (0 : Int32) → zwI 124 0 [some (.int x2)] [] σ11 (fun v14 σ13 => ((¬ v14 = (0 : Int32) → zK σ13 a0 = 19 ∧ ∃ b16 : Nat, zR σ13 a0 0 = some b16 ∧ zK σ13 b16 = 18 ∧ zwI 107 0 [some (.ref b16), some (.int x1), some (.int x2), none, none] [] σ13 (fun v20 σ19 => ((v20 = (0 : Int32) → K (-3) σ19) ∧ (¬ v20 = (0 : Int32) → zK σ19 a0 = 19 ∧ ∃ b22 : Nat, zR σ19 a0 0 = some b22 ∧ zK σ19 b22 = 18 ∧ ∃ b25 : Nat, zR σ19 b22 0 = some b25 ∧ zK σ19 b25 = 1 ∧ zx_in x3 (zN σ19 b25) = true ∧ (((zI σ19 b25 (Int32.toNatClampNeg x3)) = (2 : Int32) → ∃ b29 : Nat, zR σ19 b22 3 = some b29 ∧ zK σ19 b29 = 1 ∧ zx_in x3 (zN σ19 b29) = true ∧ (((zI σ19 b29 (Int32.toNatClampNeg x3)) < (9 : Int32) → zwI 96 0 [some (.ref b22), some (.int x1), some (.int x2), some (.int x3), none, none, none] [] σ19 (fun v34 σ33 => K v34 σ33)) ∧ (¬ (zI σ19 b29 (Int32.toNatClampNeg x3)) < (9 : Int32) → K (-4) σ19))) ∧ (¬ (zI σ19 b25 (Int32.toNatClampNeg x3)) = (2 : Int32) → K (-3) σ19)))))) ∧ (v14 = (0 : Int32) → K (-2) σ13)))) ∧ (v12 = (0 : Int32) → K (-1) σ11))))))) : zwI 126 0 [some (.ref a0), some (.int x1), some (.int x2), some (.int x3)] [] σ K := by
  refine zw_go (pc1 := 1) (L1 := [some (.ref a0), some (.int x1), some (.int x2), some (.int x3)]) (st1 := [.ref a0]) (σ1 := σ) zM_X6_link dX6_link_0 rfl rfl rfl rfl ?_
  obtain ⟨hk1, h⟩ := h
  obtain ⟨b2, hr3, h⟩ := h
  refine zw_getR (a := b2) zM_X6_link dX6_link_1 zF_6_12 rfl hk1 hr3 ?_
  refine zw_go (pc1 := 5) (L1 := [some (.ref a0), some (.int x1), some (.int x2), some (.int x3)]) (st1 := [.int x1, .ref b2]) (σ1 := σ) zM_X6_link dX6_link_4 rfl rfl rfl rfl ?_
  obtain ⟨hk4, h⟩ := h
  refine zw_callI (as := [.ref b2, .int x1]) (rest := []) zM_X6_link dX6_link_5 (zx_calV zC_6_54) zM_X5_hasNode rfl rfl rfl rfl rfl (zx_args0 hk4 rfl) rfl h (fun v6 σ5 h => ?_)
  refine zw_if_eq (tgt := 22) zM_X6_link dX6_link_8 rfl rfl (fun q => ?_) (fun q => ?_)
  · replace h := h.1 q
    refine zw_iconst (v := (-1)) zM_X6_link dX6_link_22 (by decide) ?_
    exact zw_reti zM_X6_link dX6_link_23 rfl h
  · replace h := h.2 q
    refine zw_go (pc1 := 12) (L1 := [some (.ref a0), some (.int x1), some (.int x2), some (.int x3)]) (st1 := [.ref a0]) (σ1 := σ5) zM_X6_link dX6_link_11 rfl rfl rfl rfl ?_
    obtain ⟨hk7, h⟩ := h
    obtain ⟨b8, hr9, h⟩ := h
    refine zw_getR (a := b8) zM_X6_link dX6_link_12 zF_6_12 rfl hk7 hr9 ?_
    refine zw_go (pc1 := 16) (L1 := [some (.ref a0), some (.int x1), some (.int x2), some (.int x3)]) (st1 := [.int x3, .ref b8]) (σ1 := σ5) zM_X6_link dX6_link_15 rfl rfl rfl rfl ?_
    obtain ⟨hk10, h⟩ := h
    refine zw_callI (as := [.ref b8, .int x3]) (rest := []) zM_X6_link dX6_link_16 (zx_calV zC_6_54) zM_X5_hasNode rfl rfl rfl rfl rfl (zx_args0 hk10 rfl) rfl h (fun v12 σ11 h => ?_)
    refine zw_if_ne (tgt := 24) zM_X6_link dX6_link_19 rfl rfl (fun q => ?_) (fun q => ?_)
    · replace h := h.1 q
      refine zw_go (pc1 := 25) (L1 := [some (.ref a0), some (.int x1), some (.int x2), some (.int x3)]) (st1 := [.int x2]) (σ1 := σ11) zM_X6_link dX6_link_24 rfl rfl rfl rfl ?_
      refine zw_callI (as := [.int x2]) (rest := []) zM_X6_link dX6_link_25 (zx_calS zC_6_58) zM_X6_isName rfl rfl rfl rfl rfl rfl rfl h (fun v14 σ13 h => ?_)
      refine zw_if_ne (tgt := 34) zM_X6_link dX6_link_28 rfl rfl (fun q => ?_) (fun q => ?_)
      · replace h := h.1 q
        refine zw_go (pc1 := 35) (L1 := [some (.ref a0), some (.int x1), some (.int x2), some (.int x3)]) (st1 := [.ref a0]) (σ1 := σ13) zM_X6_link dX6_link_34 rfl rfl rfl rfl ?_
        obtain ⟨hk15, h⟩ := h
        obtain ⟨b16, hr17, h⟩ := h
        refine zw_getR (a := b16) zM_X6_link dX6_link_35 zF_6_12 rfl hk15 hr17 ?_
        refine zw_go (pc1 := 39) (L1 := [some (.ref a0), some (.int x1), some (.int x2), some (.int x3)]) (st1 := [.int x1, .ref b16]) (σ1 := σ13) zM_X6_link dX6_link_38 rfl rfl rfl rfl ?_
        refine zw_go (pc1 := 40) (L1 := [some (.ref a0), some (.int x1), some (.int x2), some (.int x3)]) (st1 := [.int x2, .int x1, .ref b16]) (σ1 := σ13) zM_X6_link dX6_link_39 rfl rfl rfl rfl ?_
        obtain ⟨hk18, h⟩ := h
        refine zw_callI (as := [.ref b16, .int x1, .int x2]) (rest := []) zM_X6_link dX6_link_40 (zx_calV zC_6_61) zM_X5_takesName rfl rfl rfl rfl rfl (zx_args0 hk18 rfl) rfl h (fun v20 σ19 h => ?_)
        refine zw_if_eq (tgt := 59) zM_X6_link dX6_link_43 rfl rfl (fun q => ?_) (fun q => ?_)
        · replace h := h.1 q
          refine zw_bipush (v := (-3)) zM_X6_link dX6_link_59 (by decide) ?_
          exact zw_reti zM_X6_link dX6_link_61 rfl h
        · replace h := h.2 q
          refine zw_go (pc1 := 47) (L1 := [some (.ref a0), some (.int x1), some (.int x2), some (.int x3)]) (st1 := [.ref a0]) (σ1 := σ19) zM_X6_link dX6_link_46 rfl rfl rfl rfl ?_
          obtain ⟨hk21, h⟩ := h
          obtain ⟨b22, hr23, h⟩ := h
          refine zw_getR (a := b22) zM_X6_link dX6_link_47 zF_6_12 rfl hk21 hr23 ?_
          obtain ⟨hk24, h⟩ := h
          obtain ⟨b25, hr26, h⟩ := h
          refine zw_getR (a := b25) zM_X6_link dX6_link_50 zF_6_65 rfl hk24 hr26 ?_
          refine zw_go (pc1 := 54) (L1 := [some (.ref a0), some (.int x1), some (.int x2), some (.int x3)]) (st1 := [.int x3, .ref b25]) (σ1 := σ19) zM_X6_link dX6_link_53 rfl rfl rfl rfl ?_
          obtain ⟨hk27, h⟩ := h
          obtain ⟨hi28, h⟩ := h
          refine zw_iald zM_X6_link dX6_link_54 ⟨Or.inl hk27, hi28⟩ ?_
          refine zw_iconst (v := 2) zM_X6_link dX6_link_55 (by decide) ?_
          refine zw_icmp_eq (tgt := 62) zM_X6_link dX6_link_56 rfl rfl (fun q => ?_) (fun q => ?_)
          · replace h := h.1 q
            refine zw_go (pc1 := 63) (L1 := [some (.ref a0), some (.int x1), some (.int x2), some (.int x3)]) (st1 := [.ref a0]) (σ1 := σ19) zM_X6_link dX6_link_62 rfl rfl rfl rfl ?_
            refine zw_getR (a := b22) zM_X6_link dX6_link_63 zF_6_12 rfl hk21 hr23 ?_
            obtain ⟨b29, hr30, h⟩ := h
            refine zw_getR (a := b29) zM_X6_link dX6_link_66 zF_6_69 rfl hk24 hr30 ?_
            refine zw_go (pc1 := 70) (L1 := [some (.ref a0), some (.int x1), some (.int x2), some (.int x3)]) (st1 := [.int x3, .ref b29]) (σ1 := σ19) zM_X6_link dX6_link_69 rfl rfl rfl rfl ?_
            obtain ⟨hk31, h⟩ := h
            obtain ⟨hi32, h⟩ := h
            refine zw_iald zM_X6_link dX6_link_70 ⟨Or.inl hk31, hi32⟩ ?_
            refine zw_bipush (v := 9) zM_X6_link dX6_link_71 (by decide) ?_
            refine zw_icmp_lt (tgt := 79) zM_X6_link dX6_link_73 rfl rfl (fun q => ?_) (fun q => ?_)
            · replace h := h.1 q
              refine zw_go (pc1 := 80) (L1 := [some (.ref a0), some (.int x1), some (.int x2), some (.int x3)]) (st1 := [.ref a0]) (σ1 := σ19) zM_X6_link dX6_link_79 rfl rfl rfl rfl ?_
              refine zw_getR (a := b22) zM_X6_link dX6_link_80 zF_6_12 rfl hk21 hr23 ?_
              refine zw_go (pc1 := 84) (L1 := [some (.ref a0), some (.int x1), some (.int x2), some (.int x3)]) (st1 := [.int x1, .ref b22]) (σ1 := σ19) zM_X6_link dX6_link_83 rfl rfl rfl rfl ?_
              refine zw_go (pc1 := 85) (L1 := [some (.ref a0), some (.int x1), some (.int x2), some (.int x3)]) (st1 := [.int x2, .int x1, .ref b22]) (σ1 := σ19) zM_X6_link dX6_link_84 rfl rfl rfl rfl ?_
              refine zw_go (pc1 := 86) (L1 := [some (.ref a0), some (.int x1), some (.int x2), some (.int x3)]) (st1 := [.int x3, .int x2, .int x1, .ref b22]) (σ1 := σ19) zM_X6_link dX6_link_85 rfl rfl rfl rfl ?_
              refine zw_callI (as := [.ref b22, .int x1, .int x2, .int x3]) (rest := []) zM_X6_link dX6_link_86 (zx_calV zC_6_72) zM_X5_addName rfl rfl rfl rfl rfl (zx_args0 hk24 rfl) rfl h (fun v34 σ33 h => ?_)
              exact zw_reti zM_X6_link dX6_link_89 rfl h
            · replace h := h.2 q
              refine zw_bipush (v := (-4)) zM_X6_link dX6_link_76 (by decide) ?_
              exact zw_reti zM_X6_link dX6_link_78 rfl h
          · replace h := h.2 q
            refine zw_bipush (v := (-3)) zM_X6_link dX6_link_59 (by decide) ?_
            exact zw_reti zM_X6_link dX6_link_61 rfl h
      · replace h := h.2 q
        refine zw_bipush (v := (-2)) zM_X6_link dX6_link_31 (by decide) ?_
        exact zw_reti zM_X6_link dX6_link_33 rfl h
    · replace h := h.2 q
      refine zw_iconst (v := (-1)) zM_X6_link dX6_link_22 (by decide) ?_
      exact zw_reti zM_X6_link dX6_link_23 rfl h
set_option maxHeartbeats 4000000 in
set_option maxRecDepth 100000 in
theorem vc_X6_list_0 (a0 : Nat) (x1 : Int32) (x2 : Int32) (σ : zx_S) (K : Int32 → zx_S → Prop) (h : zK σ a0 = 19 ∧ ∃ b2 : Nat, zR σ a0 5 = some b2 ∧ zK σ b2 = 16 ∧ zwI 71 0 [some (.ref b2), some (.int x1)] [] σ (fun v6 σ5 => ((¬ v6 = (0 : Int32) → (((0 : Int32) ≤ x2 → zK σ5 a0 = 19 ∧ ∃ b8 : Nat, zR σ5 a0 5 = some b8 ∧ zK σ5 b8 = 16 ∧ zwI 75 0 [some (.ref b8), some (.int x1)] [] σ5 (fun v12 σ11 => ((v12 = (1 : Int32) → zK σ11 a0 = 19 ∧ ∃ b14 : Nat, zR σ11 a0 5 = some b14 ∧ zK σ11 b14 = 16 ∧ zwI 79 0 [some (.ref b14), some (.int x1), some (.int x2), none, none] [] σ11 (fun v18 σ17 => K v18 σ17)) ∧ (¬ v12 = (1 : Int32) → K (-3) σ11)))) ∧ (¬ (0 : Int32) ≤ x2 → K (-2) σ5))) ∧ (v6 = (0 : Int32) → K (-1) σ5)))) : zwI 127 0 [some (.ref a0), some (.int x1), some (.int x2)] [] σ K := by
  refine zw_go (pc1 := 1) (L1 := [some (.ref a0), some (.int x1), some (.int x2)]) (st1 := [.ref a0]) (σ1 := σ) zM_X6_list dX6_list_0 rfl rfl rfl rfl ?_
  obtain ⟨hk1, h⟩ := h
  obtain ⟨b2, hr3, h⟩ := h
  refine zw_getR (a := b2) zM_X6_list dX6_list_1 zF_6_46 rfl hk1 hr3 ?_
  refine zw_go (pc1 := 5) (L1 := [some (.ref a0), some (.int x1), some (.int x2)]) (st1 := [.int x1, .ref b2]) (σ1 := σ) zM_X6_list dX6_list_4 rfl rfl rfl rfl ?_
  obtain ⟨hk4, h⟩ := h
  refine zw_callI (as := [.ref b2, .int x1]) (rest := []) zM_X6_list dX6_list_5 (zx_calV zC_6_176) zM_X3_hasView rfl rfl rfl rfl rfl (zx_args0 hk4 rfl) rfl h (fun v6 σ5 h => ?_)
  refine zw_if_ne (tgt := 13) zM_X6_list dX6_list_8 rfl rfl (fun q => ?_) (fun q => ?_)
  · replace h := h.1 q
    refine zw_go (pc1 := 14) (L1 := [some (.ref a0), some (.int x1), some (.int x2)]) (st1 := [.int x2]) (σ1 := σ5) zM_X6_list dX6_list_13 rfl rfl rfl rfl ?_
    refine zw_if_ge (tgt := 20) zM_X6_list dX6_list_14 rfl rfl (fun q => ?_) (fun q => ?_)
    · replace h := h.1 q
      refine zw_go (pc1 := 21) (L1 := [some (.ref a0), some (.int x1), some (.int x2)]) (st1 := [.ref a0]) (σ1 := σ5) zM_X6_list dX6_list_20 rfl rfl rfl rfl ?_
      obtain ⟨hk7, h⟩ := h
      obtain ⟨b8, hr9, h⟩ := h
      refine zw_getR (a := b8) zM_X6_list dX6_list_21 zF_6_46 rfl hk7 hr9 ?_
      refine zw_go (pc1 := 25) (L1 := [some (.ref a0), some (.int x1), some (.int x2)]) (st1 := [.int x1, .ref b8]) (σ1 := σ5) zM_X6_list dX6_list_24 rfl rfl rfl rfl ?_
      obtain ⟨hk10, h⟩ := h
      refine zw_callI (as := [.ref b8, .int x1]) (rest := []) zM_X6_list dX6_list_25 (zx_calV zC_6_179) zM_X3_kindOf rfl rfl rfl rfl rfl (zx_args0 hk10 rfl) rfl h (fun v12 σ11 h => ?_)
      refine zw_iconst (v := 1) zM_X6_list dX6_list_28 (by decide) ?_
      refine zw_icmp_eq (tgt := 35) zM_X6_list dX6_list_29 rfl rfl (fun q => ?_) (fun q => ?_)
      · replace h := h.1 q
        refine zw_go (pc1 := 36) (L1 := [some (.ref a0), some (.int x1), some (.int x2)]) (st1 := [.ref a0]) (σ1 := σ11) zM_X6_list dX6_list_35 rfl rfl rfl rfl ?_
        obtain ⟨hk13, h⟩ := h
        obtain ⟨b14, hr15, h⟩ := h
        refine zw_getR (a := b14) zM_X6_list dX6_list_36 zF_6_46 rfl hk13 hr15 ?_
        refine zw_go (pc1 := 40) (L1 := [some (.ref a0), some (.int x1), some (.int x2)]) (st1 := [.int x1, .ref b14]) (σ1 := σ11) zM_X6_list dX6_list_39 rfl rfl rfl rfl ?_
        refine zw_go (pc1 := 41) (L1 := [some (.ref a0), some (.int x1), some (.int x2)]) (st1 := [.int x2, .int x1, .ref b14]) (σ1 := σ11) zM_X6_list dX6_list_40 rfl rfl rfl rfl ?_
        obtain ⟨hk16, h⟩ := h
        refine zw_callI (as := [.ref b14, .int x1, .int x2]) (rest := []) zM_X6_list dX6_list_41 (zx_calV zC_6_184) zM_X3_nameBelow rfl rfl rfl rfl rfl (zx_args0 hk16 rfl) rfl h (fun v18 σ17 h => ?_)
        exact zw_reti zM_X6_list dX6_list_44 rfl h
      · replace h := h.2 q
        refine zw_bipush (v := (-3)) zM_X6_list dX6_list_32 (by decide) ?_
        exact zw_reti zM_X6_list dX6_list_34 rfl h
    · replace h := h.2 q
      refine zw_bipush (v := (-2)) zM_X6_list dX6_list_17 (by decide) ?_
      exact zw_reti zM_X6_list dX6_list_19 rfl h
  · replace h := h.2 q
    refine zw_iconst (v := (-1)) zM_X6_list dX6_list_11 (by decide) ?_
    exact zw_reti zM_X6_list dX6_list_12 rfl h
set_option maxHeartbeats 4000000 in
set_option maxRecDepth 100000 in
theorem vc_X6_load_0 (a0 : Nat) (σ : zx_S) (K : Int32 → zx_S → Prop) (h : zK σ a0 = 19 ∧ (((zI σ a0 6) < (3 : Int32) → ∃ b2 : Nat, zR σ a0 4 = some b2 ∧ ∃ b4 : Nat, zR σ a0 2 = some b4 ∧ zK σ b2 = 15 ∧ zwI 59 0 [some (.ref b2), some (.ref b4)] [] σ (fun v8 σ7 => ((¬ v8 = (0 : Int32) → zwI 128 53 [some (.ref a0), some (.int v8)] [] σ7 K) ∧ (v8 = (0 : Int32) → zK σ7 a0 = 19 ∧ ∃ b10 : Nat, zR σ7 a0 1 = some b10 ∧ zK σ7 b10 = 3 ∧ zx_in (zI σ7 a0 6) (zN σ7 b10) = true ∧ ∃ b14 : Nat, zR σ7 b10 (Int32.toNatClampNeg (zI σ7 a0 6)) = some b14 ∧ ∃ b16 : Nat, zR σ7 a0 2 = some b16 ∧ zK σ7 b14 = 14 ∧ zwV 23 0 [some (.ref b14), some (.ref b16)] [] σ7 (fun σ19 => zK σ19 a0 = 19 ∧ ∀ σ21 : zx_S, σ21 = zx_pI σ19 a0 6 ((zI σ19 a0 6) + 1) → zwI 128 53 [some (.ref a0), some (.int v8)] [] σ21 K))))) ∧ (¬ (zI σ a0 6) < (3 : Int32) → K (-4) σ))) : zwI 128 0 [some (.ref a0), none] [] σ K := by
  refine zw_go (pc1 := 1) (L1 := [some (.ref a0), none]) (st1 := [.ref a0]) (σ1 := σ) zM_X6_load dX6_load_0 rfl rfl rfl rfl ?_
  obtain ⟨hk1, h⟩ := h
  refine zw_getI zM_X6_load dX6_load_1 zF_6_100 rfl hk1 ?_
  refine zw_iconst (v := 3) zM_X6_load dX6_load_4 (by decide) ?_
  refine zw_icmp_lt (tgt := 11) zM_X6_load dX6_load_5 rfl rfl (fun q => ?_) (fun q => ?_)
  · replace h := h.1 q
    refine zw_go (pc1 := 12) (L1 := [some (.ref a0), none]) (st1 := [.ref a0]) (σ1 := σ) zM_X6_load dX6_load_11 rfl rfl rfl rfl ?_
    obtain ⟨b2, hr3, h⟩ := h
    refine zw_getR (a := b2) zM_X6_load dX6_load_12 zF_6_39 rfl hk1 hr3 ?_
    refine zw_go (pc1 := 16) (L1 := [some (.ref a0), none]) (st1 := [.ref a0, .ref b2]) (σ1 := σ) zM_X6_load dX6_load_15 rfl rfl rfl rfl ?_
    obtain ⟨b4, hr5, h⟩ := h
    refine zw_getR (a := b4) zM_X6_load dX6_load_16 zF_6_25 rfl hk1 hr5 ?_
    obtain ⟨hk6, h⟩ := h
    refine zw_callI (as := [.ref b2, .ref b4]) (rest := []) zM_X6_load dX6_load_19 (zx_calV zC_6_113) zM_X2_firstFault rfl rfl rfl rfl rfl (zx_args0 hk6 rfl) rfl h (fun v8 σ7 h => ?_)
    refine zw_go (pc1 := 23) (L1 := [some (.ref a0), some (.int v8)]) (st1 := []) (σ1 := σ7) zM_X6_load dX6_load_22 rfl rfl rfl rfl ?_
    refine zw_go (pc1 := 24) (L1 := [some (.ref a0), some (.int v8)]) (st1 := [.int v8]) (σ1 := σ7) zM_X6_load dX6_load_23 rfl rfl rfl rfl ?_
    refine zw_if_ne (tgt := 53) zM_X6_load dX6_load_24 rfl rfl (fun q => ?_) (fun q => ?_)
    · replace h := h.1 q
      exact zw_weak2 h ⟨rfl, rfl, trivial⟩
    · replace h := h.2 q
      refine zw_go (pc1 := 28) (L1 := [some (.ref a0), some (.int v8)]) (st1 := [.ref a0]) (σ1 := σ7) zM_X6_load dX6_load_27 rfl rfl rfl rfl ?_
      obtain ⟨hk9, h⟩ := h
      obtain ⟨b10, hr11, h⟩ := h
      refine zw_getR (a := b10) zM_X6_load dX6_load_28 zF_6_18 rfl hk9 hr11 ?_
      refine zw_go (pc1 := 32) (L1 := [some (.ref a0), some (.int v8)]) (st1 := [.ref a0, .ref b10]) (σ1 := σ7) zM_X6_load dX6_load_31 rfl rfl rfl rfl ?_
      refine zw_getI zM_X6_load dX6_load_32 zF_6_100 rfl hk9 ?_
      obtain ⟨hk12, h⟩ := h
      obtain ⟨hi13, b14, hr15, h⟩ := h
      refine zw_aald zM_X6_load dX6_load_35 ⟨hk12, hi13⟩ hr15 ?_
      refine zw_go (pc1 := 37) (L1 := [some (.ref a0), some (.int v8)]) (st1 := [.ref a0, .ref b14]) (σ1 := σ7) zM_X6_load dX6_load_36 rfl rfl rfl rfl ?_
      obtain ⟨b16, hr17, h⟩ := h
      refine zw_getR (a := b16) zM_X6_load dX6_load_37 zF_6_25 rfl hk9 hr17 ?_
      obtain ⟨hk18, h⟩ := h
      refine zw_callV (as := [.ref b14, .ref b16]) (rest := []) zM_X6_load dX6_load_40 (zx_calV zC_6_117) zM_X1_copyFrom rfl rfl rfl rfl rfl (zx_args0 hk18 rfl) rfl h (fun σ19 h => ?_)
      refine zw_go (pc1 := 44) (L1 := [some (.ref a0), some (.int v8)]) (st1 := [.ref a0]) (σ1 := σ19) zM_X6_load dX6_load_43 rfl rfl rfl rfl ?_
      refine zw_go (pc1 := 45) (L1 := [some (.ref a0), some (.int v8)]) (st1 := [.ref a0, .ref a0]) (σ1 := σ19) zM_X6_load dX6_load_44 rfl rfl rfl rfl ?_
      obtain ⟨hk20, h⟩ := h
      refine zw_getI zM_X6_load dX6_load_45 zF_6_100 rfl hk20 ?_
      refine zw_iconst (v := 1) zM_X6_load dX6_load_48 (by decide) ?_
      refine zw_go (pc1 := 50) (L1 := [some (.ref a0), some (.int v8)]) (st1 := [.int ((zI σ19 a0 6) + 1), .ref a0]) (σ1 := σ19) zM_X6_load dX6_load_49 rfl rfl rfl rfl ?_
      obtain ⟨σ21, e22⟩ : ∃ z9 : zx_S, z9 = zx_pI σ19 a0 6 ((zI σ19 a0 6) + 1) := ⟨_, rfl⟩
      replace h := h σ21 e22
      refine zw_putI zM_X6_load dX6_load_50 zF_6_100 rfl rfl hk20 e22 ?_
      exact zw_weak2 h ⟨rfl, rfl, trivial⟩
  · replace h := h.2 q
    refine zw_bipush (v := (-4)) zM_X6_load dX6_load_8 (by decide) ?_
    exact zw_reti zM_X6_load dX6_load_10 rfl h
set_option maxHeartbeats 4000000 in
set_option maxRecDepth 100000 in
theorem vc_X6_load_53 (a0 : Nat) (x1 : Int32) (σ : zx_S) (K : Int32 → zx_S → Prop) (h : zK σ a0 = 19 ∧ ∃ b2 : Nat, zR σ a0 2 = some b2 ∧ zK σ b2 = 14 ∧ ∀ σ5 : zx_S, σ5 = zx_pI σ b2 1 0 → ((¬ x1 = (0 : Int32) → K ((-10) - x1) σ5) ∧ (x1 = (0 : Int32) → K ((zI σ5 a0 6) - 1) σ5))) : zwI 128 53 [some (.ref a0), some (.int x1)] [] σ K := by
  refine zw_go (pc1 := 54) (L1 := [some (.ref a0), some (.int x1)]) (st1 := [.ref a0]) (σ1 := σ) zM_X6_load dX6_load_53 rfl rfl rfl rfl ?_
  obtain ⟨hk1, h⟩ := h
  obtain ⟨b2, hr3, h⟩ := h
  refine zw_getR (a := b2) zM_X6_load dX6_load_54 zF_6_25 rfl hk1 hr3 ?_
  refine zw_iconst (v := 0) zM_X6_load dX6_load_57 (by decide) ?_
  obtain ⟨hk4, h⟩ := h
  obtain ⟨σ5, e6⟩ : ∃ z9 : zx_S, z9 = zx_pI σ b2 1 0 := ⟨_, rfl⟩
  replace h := h σ5 e6
  refine zw_putI zM_X6_load dX6_load_58 zF_6_107 rfl rfl hk4 e6 ?_
  refine zw_go (pc1 := 62) (L1 := [some (.ref a0), some (.int x1)]) (st1 := [.int x1]) (σ1 := σ5) zM_X6_load dX6_load_61 rfl rfl rfl rfl ?_
  refine zw_if_ne (tgt := 74) zM_X6_load dX6_load_62 rfl rfl (fun q => ?_) (fun q => ?_)
  · replace h := h.1 q
    refine zw_bipush (v := (-10)) zM_X6_load dX6_load_74 (by decide) ?_
    refine zw_go (pc1 := 77) (L1 := [some (.ref a0), some (.int x1)]) (st1 := [.int x1, .int (-10)]) (σ1 := σ5) zM_X6_load dX6_load_76 rfl rfl rfl rfl ?_
    refine zw_go (pc1 := 78) (L1 := [some (.ref a0), some (.int x1)]) (st1 := [.int ((-10) - x1)]) (σ1 := σ5) zM_X6_load dX6_load_77 rfl rfl rfl rfl ?_
    exact zw_reti zM_X6_load dX6_load_78 rfl h
  · replace h := h.2 q
    refine zw_go (pc1 := 66) (L1 := [some (.ref a0), some (.int x1)]) (st1 := [.ref a0]) (σ1 := σ5) zM_X6_load dX6_load_65 rfl rfl rfl rfl ?_
    refine zw_getI zM_X6_load dX6_load_66 zF_6_100 rfl (by rw [e6]; exact hk1) ?_
    refine zw_iconst (v := 1) zM_X6_load dX6_load_69 (by decide) ?_
    refine zw_go (pc1 := 71) (L1 := [some (.ref a0), some (.int x1)]) (st1 := [.int ((zI σ5 a0 6) - 1)]) (σ1 := σ5) zM_X6_load dX6_load_70 rfl rfl rfl rfl ?_
    refine zw_goto (tgt := 78) zM_X6_load dX6_load_71 rfl ?_
    exact zw_reti zM_X6_load dX6_load_78 rfl h
set_option maxHeartbeats 4000000 in
set_option maxRecDepth 100000 in
theorem vc_X6_look_0 (a0 : Nat) (x1 : Int32) (x2 : Int32) (σ : zx_S) (K : Int32 → zx_S → Prop) (h : zK σ a0 = 19 ∧ ∃ b2 : Nat, zR σ a0 5 = some b2 ∧ zK σ b2 = 16 ∧ zwI 71 0 [some (.ref b2), some (.int x1)] [] σ (fun v6 σ5 => ((¬ v6 = (0 : Int32) → zwI 124 0 [some (.int x2)] [] σ5 (fun v8 σ7 => ((¬ v8 = (0 : Int32) → zK σ7 a0 = 19 ∧ ∃ b10 : Nat, zR σ7 a0 5 = some b10 ∧ zK σ7 b10 = 16 ∧ zwI 75 0 [some (.ref b10), some (.int x1)] [] σ7 (fun v14 σ13 => ((v14 = (1 : Int32) → zK σ13 a0 = 19 ∧ ∃ b16 : Nat, zR σ13 a0 5 = some b16 ∧ zK σ13 b16 = 16 ∧ zwI 77 0 [some (.ref b16), some (.int x1), some (.int x2), none] [] σ13 (fun v20 σ19 => K v20 σ19)) ∧ (¬ v14 = (1 : Int32) → K (-3) σ13)))) ∧ (v8 = (0 : Int32) → K (-2) σ7)))) ∧ (v6 = (0 : Int32) → K (-1) σ5)))) : zwI 129 0 [some (.ref a0), some (.int x1), some (.int x2)] [] σ K := by
  refine zw_go (pc1 := 1) (L1 := [some (.ref a0), some (.int x1), some (.int x2)]) (st1 := [.ref a0]) (σ1 := σ) zM_X6_look dX6_look_0 rfl rfl rfl rfl ?_
  obtain ⟨hk1, h⟩ := h
  obtain ⟨b2, hr3, h⟩ := h
  refine zw_getR (a := b2) zM_X6_look dX6_look_1 zF_6_46 rfl hk1 hr3 ?_
  refine zw_go (pc1 := 5) (L1 := [some (.ref a0), some (.int x1), some (.int x2)]) (st1 := [.int x1, .ref b2]) (σ1 := σ) zM_X6_look dX6_look_4 rfl rfl rfl rfl ?_
  obtain ⟨hk4, h⟩ := h
  refine zw_callI (as := [.ref b2, .int x1]) (rest := []) zM_X6_look dX6_look_5 (zx_calV zC_6_176) zM_X3_hasView rfl rfl rfl rfl rfl (zx_args0 hk4 rfl) rfl h (fun v6 σ5 h => ?_)
  refine zw_if_ne (tgt := 13) zM_X6_look dX6_look_8 rfl rfl (fun q => ?_) (fun q => ?_)
  · replace h := h.1 q
    refine zw_go (pc1 := 14) (L1 := [some (.ref a0), some (.int x1), some (.int x2)]) (st1 := [.int x2]) (σ1 := σ5) zM_X6_look dX6_look_13 rfl rfl rfl rfl ?_
    refine zw_callI (as := [.int x2]) (rest := []) zM_X6_look dX6_look_14 (zx_calS zC_6_58) zM_X6_isName rfl rfl rfl rfl rfl rfl rfl h (fun v8 σ7 h => ?_)
    refine zw_if_ne (tgt := 23) zM_X6_look dX6_look_17 rfl rfl (fun q => ?_) (fun q => ?_)
    · replace h := h.1 q
      refine zw_go (pc1 := 24) (L1 := [some (.ref a0), some (.int x1), some (.int x2)]) (st1 := [.ref a0]) (σ1 := σ7) zM_X6_look dX6_look_23 rfl rfl rfl rfl ?_
      obtain ⟨hk9, h⟩ := h
      obtain ⟨b10, hr11, h⟩ := h
      refine zw_getR (a := b10) zM_X6_look dX6_look_24 zF_6_46 rfl hk9 hr11 ?_
      refine zw_go (pc1 := 28) (L1 := [some (.ref a0), some (.int x1), some (.int x2)]) (st1 := [.int x1, .ref b10]) (σ1 := σ7) zM_X6_look dX6_look_27 rfl rfl rfl rfl ?_
      obtain ⟨hk12, h⟩ := h
      refine zw_callI (as := [.ref b10, .int x1]) (rest := []) zM_X6_look dX6_look_28 (zx_calV zC_6_179) zM_X3_kindOf rfl rfl rfl rfl rfl (zx_args0 hk12 rfl) rfl h (fun v14 σ13 h => ?_)
      refine zw_iconst (v := 1) zM_X6_look dX6_look_31 (by decide) ?_
      refine zw_icmp_eq (tgt := 38) zM_X6_look dX6_look_32 rfl rfl (fun q => ?_) (fun q => ?_)
      · replace h := h.1 q
        refine zw_go (pc1 := 39) (L1 := [some (.ref a0), some (.int x1), some (.int x2)]) (st1 := [.ref a0]) (σ1 := σ13) zM_X6_look dX6_look_38 rfl rfl rfl rfl ?_
        obtain ⟨hk15, h⟩ := h
        obtain ⟨b16, hr17, h⟩ := h
        refine zw_getR (a := b16) zM_X6_look dX6_look_39 zF_6_46 rfl hk15 hr17 ?_
        refine zw_go (pc1 := 43) (L1 := [some (.ref a0), some (.int x1), some (.int x2)]) (st1 := [.int x1, .ref b16]) (σ1 := σ13) zM_X6_look dX6_look_42 rfl rfl rfl rfl ?_
        refine zw_go (pc1 := 44) (L1 := [some (.ref a0), some (.int x1), some (.int x2)]) (st1 := [.int x2, .int x1, .ref b16]) (σ1 := σ13) zM_X6_look dX6_look_43 rfl rfl rfl rfl ?_
        obtain ⟨hk18, h⟩ := h
        refine zw_callI (as := [.ref b16, .int x1, .int x2]) (rest := []) zM_X6_look dX6_look_44 (zx_calV zC_6_180) zM_X3_lead rfl rfl rfl rfl rfl (zx_args0 hk18 rfl) rfl h (fun v20 σ19 h => ?_)
        exact zw_reti zM_X6_look dX6_look_47 rfl h
      · replace h := h.2 q
        refine zw_bipush (v := (-3)) zM_X6_look dX6_look_35 (by decide) ?_
        exact zw_reti zM_X6_look dX6_look_37 rfl h
    · replace h := h.2 q
      refine zw_bipush (v := (-2)) zM_X6_look dX6_look_20 (by decide) ?_
      exact zw_reti zM_X6_look dX6_look_22 rfl h
  · replace h := h.2 q
    refine zw_iconst (v := (-1)) zM_X6_look dX6_look_11 (by decide) ?_
    exact zw_reti zM_X6_look dX6_look_12 rfl h
set_option maxHeartbeats 4000000 in
set_option maxRecDepth 100000 in
theorem vc_X6_node_0 (a0 : Nat) (x1 : Int32) (x2 : Int32) (x3 : Int32) (σ : zx_S) (K : Int32 → zx_S → Prop) (h : zK σ a0 = 19 ∧ zwI 119 0 [some (.ref a0), some (.int x1)] [] σ (fun v3 σ2 => ((¬ v3 = (0 : Int32) → zK σ2 a0 = 19 ∧ ∃ b5 : Nat, zR σ2 a0 1 = some b5 ∧ zK σ2 b5 = 3 ∧ zx_in x1 (zN σ2 b5) = true ∧ ∃ b9 : Nat, zR σ2 b5 (Int32.toNatClampNeg x1) = some b9 ∧ zK σ2 b9 = 14 ∧ zwI 27 0 [some (.ref b9), some (.int x2)] [] σ2 (fun v13 σ12 => ((¬ v13 = (0 : Int32) → ((x3 = 0 → zK σ12 b9 = 14 ∧ zwI 30 0 [some (.ref b9), some (.int x2)] [] σ12 (fun v16 σ15 => K v16 σ15)) ∧ (¬ x3 = 0 → ((x3 = 1 → zK σ12 b9 = 14 ∧ zwI 31 0 [some (.ref b9), some (.int x2)] [] σ12 (fun v20 σ19 => K v20 σ19)) ∧ (¬ x3 = 1 → ((x3 = 2 → zK σ12 b9 = 14 ∧ zwI 36 0 [some (.ref b9), some (.int x2)] [] σ12 (fun v24 σ23 => K v24 σ23)) ∧ (¬ x3 = 2 → ((x3 = 3 → zK σ12 b9 = 14 ∧ zwI 32 0 [some (.ref b9), some (.int x2)] [] σ12 (fun v28 σ27 => K v28 σ27)) ∧ (¬ x3 = 3 → ((x3 = 4 → zK σ12 b9 = 14 ∧ zwI 44 0 [some (.ref b9), some (.int x2), none, none] [] σ12 (fun v32 σ31 => K v32 σ31)) ∧ (¬ x3 = 4 → K (-2) σ12))))))))))) ∧ (v13 = (0 : Int32) → K (-2) σ12)))) ∧ (v3 = (0 : Int32) → K (-1) σ2)))) : zwI 130 0 [some (.ref a0), some (.int x1), some (.int x2), some (.int x3), none] [] σ K := by
  refine zw_go (pc1 := 1) (L1 := [some (.ref a0), some (.int x1), some (.int x2), some (.int x3), none]) (st1 := [.ref a0]) (σ1 := σ) zM_X6_node dX6_node_0 rfl rfl rfl rfl ?_
  refine zw_go (pc1 := 2) (L1 := [some (.ref a0), some (.int x1), some (.int x2), some (.int x3), none]) (st1 := [.int x1, .ref a0]) (σ1 := σ) zM_X6_node dX6_node_1 rfl rfl rfl rfl ?_
  obtain ⟨hk1, h⟩ := h
  refine zw_callI (as := [.ref a0, .int x1]) (rest := []) zM_X6_node dX6_node_2 (zx_calV zC_6_124) zM_X6_hasImage rfl rfl rfl rfl rfl (zx_args0 hk1 rfl) rfl h (fun v3 σ2 h => ?_)
  refine zw_if_ne (tgt := 10) zM_X6_node dX6_node_5 rfl rfl (fun q => ?_) (fun q => ?_)
  · replace h := h.1 q
    refine zw_go (pc1 := 11) (L1 := [some (.ref a0), some (.int x1), some (.int x2), some (.int x3), none]) (st1 := [.ref a0]) (σ1 := σ2) zM_X6_node dX6_node_10 rfl rfl rfl rfl ?_
    obtain ⟨hk4, h⟩ := h
    obtain ⟨b5, hr6, h⟩ := h
    refine zw_getR (a := b5) zM_X6_node dX6_node_11 zF_6_18 rfl hk4 hr6 ?_
    refine zw_go (pc1 := 15) (L1 := [some (.ref a0), some (.int x1), some (.int x2), some (.int x3), none]) (st1 := [.int x1, .ref b5]) (σ1 := σ2) zM_X6_node dX6_node_14 rfl rfl rfl rfl ?_
    obtain ⟨hk7, h⟩ := h
    obtain ⟨hi8, b9, hr10, h⟩ := h
    refine zw_aald zM_X6_node dX6_node_15 ⟨hk7, hi8⟩ hr10 ?_
    refine zw_go (pc1 := 18) (L1 := [some (.ref a0), some (.int x1), some (.int x2), some (.int x3), some (.ref b9)]) (st1 := []) (σ1 := σ2) zM_X6_node dX6_node_16 rfl rfl rfl rfl ?_
    refine zw_go (pc1 := 20) (L1 := [some (.ref a0), some (.int x1), some (.int x2), some (.int x3), some (.ref b9)]) (st1 := [.ref b9]) (σ1 := σ2) zM_X6_node dX6_node_18 rfl rfl rfl rfl ?_
    refine zw_go (pc1 := 21) (L1 := [some (.ref a0), some (.int x1), some (.int x2), some (.int x3), some (.ref b9)]) (st1 := [.int x2, .ref b9]) (σ1 := σ2) zM_X6_node dX6_node_20 rfl rfl rfl rfl ?_
    obtain ⟨hk11, h⟩ := h
    refine zw_callI (as := [.ref b9, .int x2]) (rest := []) zM_X6_node dX6_node_21 (zx_calV zC_6_151) zM_X1_hasNumber rfl rfl rfl rfl rfl (zx_args0 hk11 rfl) rfl h (fun v13 σ12 h => ?_)
    refine zw_if_ne (tgt := 30) zM_X6_node dX6_node_24 rfl rfl (fun q => ?_) (fun q => ?_)
    · replace h := h.1 q
      refine zw_go (pc1 := 31) (L1 := [some (.ref a0), some (.int x1), some (.int x2), some (.int x3), some (.ref b9)]) (st1 := [.int x3]) (σ1 := σ12) zM_X6_node dX6_node_30 rfl rfl rfl rfl ?_
      by_cases hs17 : x3 = 0
      · replace h := h.1 hs17
        refine zw_sw (tgt := 64) zM_X6_node dX6_node_31 (zx_sw_in hs17 rfl) rfl ?_
        refine zw_go (pc1 := 66) (L1 := [some (.ref a0), some (.int x1), some (.int x2), some (.int x3), some (.ref b9)]) (st1 := [.ref b9]) (σ1 := σ12) zM_X6_node dX6_node_64 rfl rfl rfl rfl ?_
        refine zw_go (pc1 := 67) (L1 := [some (.ref a0), some (.int x1), some (.int x2), some (.int x3), some (.ref b9)]) (st1 := [.int x2, .ref b9]) (σ1 := σ12) zM_X6_node dX6_node_66 rfl rfl rfl rfl ?_
        obtain ⟨hk14, h⟩ := h
        refine zw_callI (as := [.ref b9, .int x2]) (rest := []) zM_X6_node dX6_node_67 (zx_calV zC_6_154) zM_X1_kindOf rfl rfl rfl rfl rfl (zx_args0 hk14 rfl) rfl h (fun v16 σ15 h => ?_)
        exact zw_reti zM_X6_node dX6_node_70 rfl h
      · replace h := h.2 hs17
        by_cases hs21 : x3 = 1
        · replace h := h.1 hs21
          refine zw_sw (tgt := 71) zM_X6_node dX6_node_31 (zx_sw_in hs21 rfl) rfl ?_
          refine zw_go (pc1 := 73) (L1 := [some (.ref a0), some (.int x1), some (.int x2), some (.int x3), some (.ref b9)]) (st1 := [.ref b9]) (σ1 := σ12) zM_X6_node dX6_node_71 rfl rfl rfl rfl ?_
          refine zw_go (pc1 := 74) (L1 := [some (.ref a0), some (.int x1), some (.int x2), some (.int x3), some (.ref b9)]) (st1 := [.int x2, .ref b9]) (σ1 := σ12) zM_X6_node dX6_node_73 rfl rfl rfl rfl ?_
          obtain ⟨hk18, h⟩ := h
          refine zw_callI (as := [.ref b9, .int x2]) (rest := []) zM_X6_node dX6_node_74 (zx_calV zC_6_157) zM_X1_modeOf rfl rfl rfl rfl rfl (zx_args0 hk18 rfl) rfl h (fun v20 σ19 h => ?_)
          exact zw_reti zM_X6_node dX6_node_77 rfl h
        · replace h := h.2 hs21
          by_cases hs25 : x3 = 2
          · replace h := h.1 hs25
            refine zw_sw (tgt := 78) zM_X6_node dX6_node_31 (zx_sw_in hs25 rfl) rfl ?_
            refine zw_go (pc1 := 80) (L1 := [some (.ref a0), some (.int x1), some (.int x2), some (.int x3), some (.ref b9)]) (st1 := [.ref b9]) (σ1 := σ12) zM_X6_node dX6_node_78 rfl rfl rfl rfl ?_
            refine zw_go (pc1 := 81) (L1 := [some (.ref a0), some (.int x1), some (.int x2), some (.int x3), some (.ref b9)]) (st1 := [.int x2, .ref b9]) (σ1 := σ12) zM_X6_node dX6_node_80 rfl rfl rfl rfl ?_
            obtain ⟨hk22, h⟩ := h
            refine zw_callI (as := [.ref b9, .int x2]) (rest := []) zM_X6_node dX6_node_81 (zx_calV zC_6_160) zM_X1_ownerOf rfl rfl rfl rfl rfl (zx_args0 hk22 rfl) rfl h (fun v24 σ23 h => ?_)
            exact zw_reti zM_X6_node dX6_node_84 rfl h
          · replace h := h.2 hs25
            by_cases hs29 : x3 = 3
            · replace h := h.1 hs29
              refine zw_sw (tgt := 85) zM_X6_node dX6_node_31 (zx_sw_in hs29 rfl) rfl ?_
              refine zw_go (pc1 := 87) (L1 := [some (.ref a0), some (.int x1), some (.int x2), some (.int x3), some (.ref b9)]) (st1 := [.ref b9]) (σ1 := σ12) zM_X6_node dX6_node_85 rfl rfl rfl rfl ?_
              refine zw_go (pc1 := 88) (L1 := [some (.ref a0), some (.int x1), some (.int x2), some (.int x3), some (.ref b9)]) (st1 := [.int x2, .ref b9]) (σ1 := σ12) zM_X6_node dX6_node_87 rfl rfl rfl rfl ?_
              obtain ⟨hk26, h⟩ := h
              refine zw_callI (as := [.ref b9, .int x2]) (rest := []) zM_X6_node dX6_node_88 (zx_calV zC_6_163) zM_X1_namesOf rfl rfl rfl rfl rfl (zx_args0 hk26 rfl) rfl h (fun v28 σ27 h => ?_)
              exact zw_reti zM_X6_node dX6_node_91 rfl h
            · replace h := h.2 hs29
              by_cases hs33 : x3 = 4
              · replace h := h.1 hs33
                refine zw_sw (tgt := 92) zM_X6_node dX6_node_31 (zx_sw_in hs33 rfl) rfl ?_
                refine zw_go (pc1 := 94) (L1 := [some (.ref a0), some (.int x1), some (.int x2), some (.int x3), some (.ref b9)]) (st1 := [.ref b9]) (σ1 := σ12) zM_X6_node dX6_node_92 rfl rfl rfl rfl ?_
                refine zw_go (pc1 := 95) (L1 := [some (.ref a0), some (.int x1), some (.int x2), some (.int x3), some (.ref b9)]) (st1 := [.int x2, .ref b9]) (σ1 := σ12) zM_X6_node dX6_node_94 rfl rfl rfl rfl ?_
                obtain ⟨hk30, h⟩ := h
                refine zw_callI (as := [.ref b9, .int x2]) (rest := []) zM_X6_node dX6_node_95 (zx_calV zC_6_166) zM_X1_sizeOf rfl rfl rfl rfl rfl (zx_args0 hk30 rfl) rfl h (fun v32 σ31 h => ?_)
                exact zw_reti zM_X6_node dX6_node_98 rfl h
              · replace h := h.2 hs33
                have n0 := zx_ne (n := 0) hs17 (by decide)
                have n1 := zx_ne (n := 1) hs21 (by decide)
                have n2 := zx_ne (n := 2) hs25 (by decide)
                have n3 := zx_ne (n := 3) hs29 (by decide)
                have n4 := zx_ne (n := 4) hs33 (by decide)
                refine zw_sw (tgt := 99) zM_X6_node dX6_node_31 (zx_sw_out (by omega)) rfl ?_
                refine zw_bipush (v := (-2)) zM_X6_node dX6_node_99 (by decide) ?_
                exact zw_reti zM_X6_node dX6_node_101 rfl h
    · replace h := h.2 q
      refine zw_bipush (v := (-2)) zM_X6_node dX6_node_27 (by decide) ?_
      exact zw_reti zM_X6_node dX6_node_29 rfl h
  · replace h := h.2 q
    refine zw_iconst (v := (-1)) zM_X6_node dX6_node_8 (by decide) ?_
    exact zw_reti zM_X6_node dX6_node_9 rfl h
set_option maxHeartbeats 4000000 in
set_option maxRecDepth 100000 in
theorem vc_X6_out_0 (a0 : Nat) (x1 : Int32) (x2 : Int32) (σ : zx_S) (Q : Option Value → zx_S → Prop) (h : zK σ a0 = 19 ∧ zwI 119 0 [some (.ref a0), some (.int x1)] [] σ (fun v3 σ2 => ((¬ v3 = (0 : Int32) → ((x2 < (0 : Int32) → zw 131 27 [none, none, none] [] σ2 Q) ∧ (¬ x2 < (0 : Int32) → zK σ2 a0 = 19 ∧ ∃ b5 : Nat, zR σ2 a0 1 = some b5 ∧ zK σ2 b5 = 3 ∧ zx_in x1 (zN σ2 b5) = true ∧ ∃ b9 : Nat, zR σ2 b5 (Int32.toNatClampNeg x1) = some b9 ∧ zK σ2 b9 = 14 ∧ ((x2 < (zI σ2 b9 1) → zx_in x1 (zN σ2 b5) = true ∧ ∃ b13 : Nat, zR σ2 b5 (Int32.toNatClampNeg x1) = some b13 ∧ zK σ2 b13 = 14 ∧ zwI 21 0 [some (.ref b13), some (.int x2)] [] σ2 (fun v17 σ16 => Q (some (.int v17)) σ16)) ∧ (¬ x2 < (zI σ2 b9 1) → zw 131 27 [none, none, none] [] σ2 Q))))) ∧ (v3 = (0 : Int32) → Q (some (.int (-1))) σ2)))) : zw 131 0 [some (.ref a0), some (.int x1), some (.int x2)] [] σ Q := by
  refine zw_go (pc1 := 1) (L1 := [some (.ref a0), some (.int x1), some (.int x2)]) (st1 := [.ref a0]) (σ1 := σ) zM_X6_out dX6_out_0 rfl rfl rfl rfl ?_
  refine zw_go (pc1 := 2) (L1 := [some (.ref a0), some (.int x1), some (.int x2)]) (st1 := [.int x1, .ref a0]) (σ1 := σ) zM_X6_out dX6_out_1 rfl rfl rfl rfl ?_
  obtain ⟨hk1, h⟩ := h
  refine zw_callI (as := [.ref a0, .int x1]) (rest := []) zM_X6_out dX6_out_2 (zx_calV zC_6_124) zM_X6_hasImage rfl rfl rfl rfl rfl (zx_args0 hk1 rfl) rfl h (fun v3 σ2 h => ?_)
  refine zw_if_ne (tgt := 10) zM_X6_out dX6_out_5 rfl rfl (fun q => ?_) (fun q => ?_)
  · replace h := h.1 q
    refine zw_go (pc1 := 11) (L1 := [some (.ref a0), some (.int x1), some (.int x2)]) (st1 := [.int x2]) (σ1 := σ2) zM_X6_out dX6_out_10 rfl rfl rfl rfl ?_
    refine zw_if_lt (tgt := 27) zM_X6_out dX6_out_11 rfl rfl (fun q => ?_) (fun q => ?_)
    · replace h := h.1 q
      exact zw_weak2 h trivial
    · replace h := h.2 q
      refine zw_go (pc1 := 15) (L1 := [some (.ref a0), some (.int x1), some (.int x2)]) (st1 := [.int x2]) (σ1 := σ2) zM_X6_out dX6_out_14 rfl rfl rfl rfl ?_
      refine zw_go (pc1 := 16) (L1 := [some (.ref a0), some (.int x1), some (.int x2)]) (st1 := [.ref a0, .int x2]) (σ1 := σ2) zM_X6_out dX6_out_15 rfl rfl rfl rfl ?_
      obtain ⟨hk4, h⟩ := h
      obtain ⟨b5, hr6, h⟩ := h
      refine zw_getR (a := b5) zM_X6_out dX6_out_16 zF_6_18 rfl hk4 hr6 ?_
      refine zw_go (pc1 := 20) (L1 := [some (.ref a0), some (.int x1), some (.int x2)]) (st1 := [.int x1, .ref b5, .int x2]) (σ1 := σ2) zM_X6_out dX6_out_19 rfl rfl rfl rfl ?_
      obtain ⟨hk7, h⟩ := h
      obtain ⟨hi8, b9, hr10, h⟩ := h
      refine zw_aald zM_X6_out dX6_out_20 ⟨hk7, hi8⟩ hr10 ?_
      obtain ⟨hk11, h⟩ := h
      refine zw_getI zM_X6_out dX6_out_21 zF_6_107 rfl hk11 ?_
      refine zw_icmp_lt (tgt := 35) zM_X6_out dX6_out_24 rfl rfl (fun q => ?_) (fun q => ?_)
      · replace h := h.1 q
        refine zw_go (pc1 := 36) (L1 := [some (.ref a0), some (.int x1), some (.int x2)]) (st1 := [.ref a0]) (σ1 := σ2) zM_X6_out dX6_out_35 rfl rfl rfl rfl ?_
        refine zw_getR (a := b5) zM_X6_out dX6_out_36 zF_6_18 rfl hk4 hr6 ?_
        refine zw_go (pc1 := 40) (L1 := [some (.ref a0), some (.int x1), some (.int x2)]) (st1 := [.int x1, .ref b5]) (σ1 := σ2) zM_X6_out dX6_out_39 rfl rfl rfl rfl ?_
        obtain ⟨hi12, b13, hr14, h⟩ := h
        refine zw_aald zM_X6_out dX6_out_40 ⟨hk7, hi12⟩ hr14 ?_
        refine zw_go (pc1 := 42) (L1 := [some (.ref a0), some (.int x1), some (.int x2)]) (st1 := [.int x2, .ref b13]) (σ1 := σ2) zM_X6_out dX6_out_41 rfl rfl rfl rfl ?_
        obtain ⟨hk15, h⟩ := h
        refine zw_callI (as := [.ref b13, .int x2]) (rest := []) zM_X6_out dX6_out_42 (zx_calV zC_6_130) zM_X1_byteAt rfl rfl rfl rfl rfl (zx_args0 hk15 rfl) rfl h (fun v17 σ16 h => ?_)
        exact zw_ret zM_X6_out dX6_out_45 rfl rfl rfl h
      · replace h := h.2 q
        exact zw_weak2 h trivial
  · replace h := h.2 q
    refine zw_iconst (v := (-1)) zM_X6_out dX6_out_8 (by decide) ?_
    exact zw_ret zM_X6_out dX6_out_9 rfl rfl rfl h
set_option maxHeartbeats 4000000 in
set_option maxRecDepth 100000 in
theorem vc_X6_out_27  (σ : zx_S) (Q : Option Value → zx_S → Prop) (h : Q (some (.retAddr 0)) (zx_nw σ 0 0 6)) : zw 131 27 [none, none, none] [] σ Q := by
  exact zw_thr zM_X6_out dX6_out_27 rfl rfl h
set_option maxHeartbeats 4000000 in
set_option maxRecDepth 100000 in
theorem vc_X6_over_0 (a0 : Nat) (x1 : Int32) (σ : zx_S) (K : Int32 → zx_S → Prop) (h : zK σ a0 = 19 ∧ zwI 119 0 [some (.ref a0), some (.int x1)] [] σ (fun v3 σ2 => ((¬ v3 = (0 : Int32) → zK σ2 a0 = 19 ∧ ∃ b5 : Nat, zR σ2 a0 5 = some b5 ∧ zK σ2 b5 = 16 ∧ zwI 74 0 [some (.ref b5), some (.int x1), none] [] σ2 (fun v9 σ8 => ((v9 = (0 : Int32) → zK σ8 a0 = 19 ∧ ∃ b11 : Nat, zR σ8 a0 5 = some b11 ∧ ∃ b13 : Nat, zR σ8 a0 1 = some b13 ∧ zK σ8 b13 = 3 ∧ zx_in x1 (zN σ8 b13) = true ∧ ∃ b17 : Nat, zR σ8 b13 (Int32.toNatClampNeg x1) = some b17 ∧ zK σ8 b11 = 16 ∧ zwI 76 0 [some (.ref b11), some (.int x1), some (.ref b17)] [] σ8 (fun v21 σ20 => K v21 σ20)) ∧ (¬ v9 = (0 : Int32) → K (-3) σ8)))) ∧ (v3 = (0 : Int32) → K (-1) σ2)))) : zwI 132 0 [some (.ref a0), some (.int x1)] [] σ K := by
  refine zw_go (pc1 := 1) (L1 := [some (.ref a0), some (.int x1)]) (st1 := [.ref a0]) (σ1 := σ) zM_X6_over dX6_over_0 rfl rfl rfl rfl ?_
  refine zw_go (pc1 := 2) (L1 := [some (.ref a0), some (.int x1)]) (st1 := [.int x1, .ref a0]) (σ1 := σ) zM_X6_over dX6_over_1 rfl rfl rfl rfl ?_
  obtain ⟨hk1, h⟩ := h
  refine zw_callI (as := [.ref a0, .int x1]) (rest := []) zM_X6_over dX6_over_2 (zx_calV zC_6_124) zM_X6_hasImage rfl rfl rfl rfl rfl (zx_args0 hk1 rfl) rfl h (fun v3 σ2 h => ?_)
  refine zw_if_ne (tgt := 10) zM_X6_over dX6_over_5 rfl rfl (fun q => ?_) (fun q => ?_)
  · replace h := h.1 q
    refine zw_go (pc1 := 11) (L1 := [some (.ref a0), some (.int x1)]) (st1 := [.ref a0]) (σ1 := σ2) zM_X6_over dX6_over_10 rfl rfl rfl rfl ?_
    obtain ⟨hk4, h⟩ := h
    obtain ⟨b5, hr6, h⟩ := h
    refine zw_getR (a := b5) zM_X6_over dX6_over_11 zF_6_46 rfl hk4 hr6 ?_
    refine zw_go (pc1 := 15) (L1 := [some (.ref a0), some (.int x1)]) (st1 := [.int x1, .ref b5]) (σ1 := σ2) zM_X6_over dX6_over_14 rfl rfl rfl rfl ?_
    obtain ⟨hk7, h⟩ := h
    refine zw_callI (as := [.ref b5, .int x1]) (rest := []) zM_X6_over dX6_over_15 (zx_calV zC_6_121) zM_X3_isLaid rfl rfl rfl rfl rfl (zx_args0 hk7 rfl) rfl h (fun v9 σ8 h => ?_)
    refine zw_if_eq (tgt := 24) zM_X6_over dX6_over_18 rfl rfl (fun q => ?_) (fun q => ?_)
    · replace h := h.1 q
      refine zw_go (pc1 := 25) (L1 := [some (.ref a0), some (.int x1)]) (st1 := [.ref a0]) (σ1 := σ8) zM_X6_over dX6_over_24 rfl rfl rfl rfl ?_
      obtain ⟨hk10, h⟩ := h
      obtain ⟨b11, hr12, h⟩ := h
      refine zw_getR (a := b11) zM_X6_over dX6_over_25 zF_6_46 rfl hk10 hr12 ?_
      refine zw_go (pc1 := 29) (L1 := [some (.ref a0), some (.int x1)]) (st1 := [.int x1, .ref b11]) (σ1 := σ8) zM_X6_over dX6_over_28 rfl rfl rfl rfl ?_
      refine zw_go (pc1 := 30) (L1 := [some (.ref a0), some (.int x1)]) (st1 := [.ref a0, .int x1, .ref b11]) (σ1 := σ8) zM_X6_over dX6_over_29 rfl rfl rfl rfl ?_
      obtain ⟨b13, hr14, h⟩ := h
      refine zw_getR (a := b13) zM_X6_over dX6_over_30 zF_6_18 rfl hk10 hr14 ?_
      refine zw_go (pc1 := 34) (L1 := [some (.ref a0), some (.int x1)]) (st1 := [.int x1, .ref b13, .int x1, .ref b11]) (σ1 := σ8) zM_X6_over dX6_over_33 rfl rfl rfl rfl ?_
      obtain ⟨hk15, h⟩ := h
      obtain ⟨hi16, b17, hr18, h⟩ := h
      refine zw_aald zM_X6_over dX6_over_34 ⟨hk15, hi16⟩ hr18 ?_
      obtain ⟨hk19, h⟩ := h
      refine zw_callI (as := [.ref b11, .int x1, .ref b17]) (rest := []) zM_X6_over dX6_over_35 (zx_calV zC_6_169) zM_X3_lay rfl rfl rfl rfl rfl (zx_args0 hk19 rfl) rfl h (fun v21 σ20 h => ?_)
      exact zw_reti zM_X6_over dX6_over_38 rfl h
    · replace h := h.2 q
      refine zw_bipush (v := (-3)) zM_X6_over dX6_over_21 (by decide) ?_
      exact zw_reti zM_X6_over dX6_over_23 rfl h
  · replace h := h.2 q
    refine zw_iconst (v := (-1)) zM_X6_over dX6_over_8 (by decide) ?_
    exact zw_reti zM_X6_over dX6_over_9 rfl h
set_option maxHeartbeats 4000000 in
set_option maxRecDepth 100000 in
theorem vc_X6_owner_0 (a0 : Nat) (x1 : Int32) (x2 : Int32) (x3 : Int32) (σ : zx_S) (K : Int32 → zx_S → Prop) (h : zK σ a0 = 19 ∧ ∃ b2 : Nat, zR σ a0 0 = some b2 ∧ zK σ b2 = 18 ∧ zwI 101 0 [some (.ref b2), some (.int x1)] [] σ (fun v6 σ5 => ((¬ v6 = (0 : Int32) → zwI 125 0 [some (.int x2)] [] σ5 (fun v8 σ7 => ((v8 = (0 : Int32) → K (-2) σ7) ∧ (¬ v8 = (0 : Int32) → zwI 125 0 [some (.int x3)] [] σ7 (fun v10 σ9 => ((¬ v10 = (0 : Int32) → zK σ9 a0 = 19 ∧ ∃ b12 : Nat, zR σ9 a0 0 = some b12 ∧ zK σ9 b12 = 18 ∧ ∃ b15 : Nat, zR σ9 b12 1 = some b15 ∧ zK σ9 b15 = 1 ∧ zx_in x1 (zN σ9 b15) = true ∧ ∀ σ19 : zx_S, σ19 = zx_pI σ9 b15 (Int32.toNatClampNeg x1) x2 → ∃ b21 : Nat, zR σ19 b12 2 = some b21 ∧ zK σ19 b21 = 1 ∧ zx_in x1 (zN σ19 b21) = true ∧ ∀ σ25 : zx_S, σ25 = zx_pI σ19 b21 (Int32.toNatClampNeg x1) x3 → K 1 σ25) ∧ (v10 = (0 : Int32) → K (-2) σ9))))))) ∧ (v6 = (0 : Int32) → K (-1) σ5)))) : zwI 133 0 [some (.ref a0), some (.int x1), some (.int x2), some (.int x3)] [] σ K := by
  refine zw_go (pc1 := 1) (L1 := [some (.ref a0), some (.int x1), some (.int x2), some (.int x3)]) (st1 := [.ref a0]) (σ1 := σ) zM_X6_owner dX6_owner_0 rfl rfl rfl rfl ?_
  obtain ⟨hk1, h⟩ := h
  obtain ⟨b2, hr3, h⟩ := h
  refine zw_getR (a := b2) zM_X6_owner dX6_owner_1 zF_6_12 rfl hk1 hr3 ?_
  refine zw_go (pc1 := 5) (L1 := [some (.ref a0), some (.int x1), some (.int x2), some (.int x3)]) (st1 := [.int x1, .ref b2]) (σ1 := σ) zM_X6_owner dX6_owner_4 rfl rfl rfl rfl ?_
  obtain ⟨hk4, h⟩ := h
  refine zw_callI (as := [.ref b2, .int x1]) (rest := []) zM_X6_owner dX6_owner_5 (zx_calV zC_6_54) zM_X5_hasNode rfl rfl rfl rfl rfl (zx_args0 hk4 rfl) rfl h (fun v6 σ5 h => ?_)
  refine zw_if_ne (tgt := 13) zM_X6_owner dX6_owner_8 rfl rfl (fun q => ?_) (fun q => ?_)
  · replace h := h.1 q
    refine zw_go (pc1 := 14) (L1 := [some (.ref a0), some (.int x1), some (.int x2), some (.int x3)]) (st1 := [.int x2]) (σ1 := σ5) zM_X6_owner dX6_owner_13 rfl rfl rfl rfl ?_
    refine zw_callI (as := [.int x2]) (rest := []) zM_X6_owner dX6_owner_14 (zx_calS zC_6_81) zM_X6_isWord rfl rfl rfl rfl rfl rfl rfl h (fun v8 σ7 h => ?_)
    refine zw_if_eq (tgt := 27) zM_X6_owner dX6_owner_17 rfl rfl (fun q => ?_) (fun q => ?_)
    · replace h := h.1 q
      refine zw_bipush (v := (-2)) zM_X6_owner dX6_owner_27 (by decide) ?_
      exact zw_reti zM_X6_owner dX6_owner_29 rfl h
    · replace h := h.2 q
      refine zw_go (pc1 := 21) (L1 := [some (.ref a0), some (.int x1), some (.int x2), some (.int x3)]) (st1 := [.int x3]) (σ1 := σ7) zM_X6_owner dX6_owner_20 rfl rfl rfl rfl ?_
      refine zw_callI (as := [.int x3]) (rest := []) zM_X6_owner dX6_owner_21 (zx_calS zC_6_81) zM_X6_isWord rfl rfl rfl rfl rfl rfl rfl h (fun v10 σ9 h => ?_)
      refine zw_if_ne (tgt := 30) zM_X6_owner dX6_owner_24 rfl rfl (fun q => ?_) (fun q => ?_)
      · replace h := h.1 q
        refine zw_go (pc1 := 31) (L1 := [some (.ref a0), some (.int x1), some (.int x2), some (.int x3)]) (st1 := [.ref a0]) (σ1 := σ9) zM_X6_owner dX6_owner_30 rfl rfl rfl rfl ?_
        obtain ⟨hk11, h⟩ := h
        obtain ⟨b12, hr13, h⟩ := h
        refine zw_getR (a := b12) zM_X6_owner dX6_owner_31 zF_6_12 rfl hk11 hr13 ?_
        obtain ⟨hk14, h⟩ := h
        obtain ⟨b15, hr16, h⟩ := h
        refine zw_getR (a := b15) zM_X6_owner dX6_owner_34 zF_6_84 rfl hk14 hr16 ?_
        refine zw_go (pc1 := 38) (L1 := [some (.ref a0), some (.int x1), some (.int x2), some (.int x3)]) (st1 := [.int x1, .ref b15]) (σ1 := σ9) zM_X6_owner dX6_owner_37 rfl rfl rfl rfl ?_
        refine zw_go (pc1 := 39) (L1 := [some (.ref a0), some (.int x1), some (.int x2), some (.int x3)]) (st1 := [.int x2, .int x1, .ref b15]) (σ1 := σ9) zM_X6_owner dX6_owner_38 rfl rfl rfl rfl ?_
        obtain ⟨hk17, h⟩ := h
        obtain ⟨hi18, h⟩ := h
        obtain ⟨σ19, e20⟩ : ∃ z9 : zx_S, z9 = zx_pI σ9 b15 (Int32.toNatClampNeg x1) x2 := ⟨_, rfl⟩
        replace h := h σ19 e20
        refine zw_iast zM_X6_owner dX6_owner_39 ⟨hk17, hi18⟩ e20 ?_
        refine zw_go (pc1 := 41) (L1 := [some (.ref a0), some (.int x1), some (.int x2), some (.int x3)]) (st1 := [.ref a0]) (σ1 := σ19) zM_X6_owner dX6_owner_40 rfl rfl rfl rfl ?_
        refine zw_getR (a := b12) zM_X6_owner dX6_owner_41 zF_6_12 rfl (by rw [e20]; exact hk11) (by rw [e20]; exact hr13) ?_
        obtain ⟨b21, hr22, h⟩ := h
        refine zw_getR (a := b21) zM_X6_owner dX6_owner_44 zF_6_87 rfl (by rw [e20]; exact hk14) hr22 ?_
        refine zw_go (pc1 := 48) (L1 := [some (.ref a0), some (.int x1), some (.int x2), some (.int x3)]) (st1 := [.int x1, .ref b21]) (σ1 := σ19) zM_X6_owner dX6_owner_47 rfl rfl rfl rfl ?_
        refine zw_go (pc1 := 49) (L1 := [some (.ref a0), some (.int x1), some (.int x2), some (.int x3)]) (st1 := [.int x3, .int x1, .ref b21]) (σ1 := σ19) zM_X6_owner dX6_owner_48 rfl rfl rfl rfl ?_
        obtain ⟨hk23, h⟩ := h
        obtain ⟨hi24, h⟩ := h
        obtain ⟨σ25, e26⟩ : ∃ z9 : zx_S, z9 = zx_pI σ19 b21 (Int32.toNatClampNeg x1) x3 := ⟨_, rfl⟩
        replace h := h σ25 e26
        refine zw_iast zM_X6_owner dX6_owner_49 ⟨hk23, hi24⟩ e26 ?_
        refine zw_iconst (v := 1) zM_X6_owner dX6_owner_50 (by decide) ?_
        exact zw_reti zM_X6_owner dX6_owner_51 rfl h
      · replace h := h.2 q
        refine zw_bipush (v := (-2)) zM_X6_owner dX6_owner_27 (by decide) ?_
        exact zw_reti zM_X6_owner dX6_owner_29 rfl h
  · replace h := h.2 q
    refine zw_iconst (v := (-1)) zM_X6_owner dX6_owner_11 (by decide) ?_
    exact zw_reti zM_X6_owner dX6_owner_12 rfl h
set_option maxHeartbeats 4000000 in
set_option maxRecDepth 100000 in
theorem vc_X6_read_0 (a0 : Nat) (x1 : Int32) (x2 : Int32) (σ : zx_S) (K : Int32 → zx_S → Prop) (h : zK σ a0 = 19 ∧ ∃ b2 : Nat, zR σ a0 5 = some b2 ∧ zK σ b2 = 16 ∧ zwI 71 0 [some (.ref b2), some (.int x1)] [] σ (fun v6 σ5 => ((¬ v6 = (0 : Int32) → (((0 : Int32) ≤ x2 → zK σ5 a0 = 19 ∧ ∃ b8 : Nat, zR σ5 a0 5 = some b8 ∧ zK σ5 b8 = 16 ∧ zwI 75 0 [some (.ref b8), some (.int x1)] [] σ5 (fun v12 σ11 => ((v12 = (2 : Int32) → zK σ11 a0 = 19 ∧ ∃ b14 : Nat, zR σ11 a0 5 = some b14 ∧ zK σ11 b14 = 16 ∧ zwI 84 0 [some (.ref b14), some (.int x1)] [] σ11 (fun v18 σ17 => ((x2 < v18 → zK σ17 a0 = 19 ∧ ∃ b20 : Nat, zR σ17 a0 5 = some b20 ∧ zK σ17 b20 = 16 ∧ zwI 68 0 [some (.ref b20), some (.int x1), some (.int x2)] [] σ17 (fun v24 σ23 => K v24 σ23)) ∧ (¬ x2 < v18 → K (-2) σ17)))) ∧ (¬ v12 = (2 : Int32) → K (-3) σ11)))) ∧ (¬ (0 : Int32) ≤ x2 → K (-2) σ5))) ∧ (v6 = (0 : Int32) → K (-1) σ5)))) : zwI 134 0 [some (.ref a0), some (.int x1), some (.int x2)] [] σ K := by
  refine zw_go (pc1 := 1) (L1 := [some (.ref a0), some (.int x1), some (.int x2)]) (st1 := [.ref a0]) (σ1 := σ) zM_X6_read dX6_read_0 rfl rfl rfl rfl ?_
  obtain ⟨hk1, h⟩ := h
  obtain ⟨b2, hr3, h⟩ := h
  refine zw_getR (a := b2) zM_X6_read dX6_read_1 zF_6_46 rfl hk1 hr3 ?_
  refine zw_go (pc1 := 5) (L1 := [some (.ref a0), some (.int x1), some (.int x2)]) (st1 := [.int x1, .ref b2]) (σ1 := σ) zM_X6_read dX6_read_4 rfl rfl rfl rfl ?_
  obtain ⟨hk4, h⟩ := h
  refine zw_callI (as := [.ref b2, .int x1]) (rest := []) zM_X6_read dX6_read_5 (zx_calV zC_6_176) zM_X3_hasView rfl rfl rfl rfl rfl (zx_args0 hk4 rfl) rfl h (fun v6 σ5 h => ?_)
  refine zw_if_ne (tgt := 13) zM_X6_read dX6_read_8 rfl rfl (fun q => ?_) (fun q => ?_)
  · replace h := h.1 q
    refine zw_go (pc1 := 14) (L1 := [some (.ref a0), some (.int x1), some (.int x2)]) (st1 := [.int x2]) (σ1 := σ5) zM_X6_read dX6_read_13 rfl rfl rfl rfl ?_
    refine zw_if_ge (tgt := 20) zM_X6_read dX6_read_14 rfl rfl (fun q => ?_) (fun q => ?_)
    · replace h := h.1 q
      refine zw_go (pc1 := 21) (L1 := [some (.ref a0), some (.int x1), some (.int x2)]) (st1 := [.ref a0]) (σ1 := σ5) zM_X6_read dX6_read_20 rfl rfl rfl rfl ?_
      obtain ⟨hk7, h⟩ := h
      obtain ⟨b8, hr9, h⟩ := h
      refine zw_getR (a := b8) zM_X6_read dX6_read_21 zF_6_46 rfl hk7 hr9 ?_
      refine zw_go (pc1 := 25) (L1 := [some (.ref a0), some (.int x1), some (.int x2)]) (st1 := [.int x1, .ref b8]) (σ1 := σ5) zM_X6_read dX6_read_24 rfl rfl rfl rfl ?_
      obtain ⟨hk10, h⟩ := h
      refine zw_callI (as := [.ref b8, .int x1]) (rest := []) zM_X6_read dX6_read_25 (zx_calV zC_6_179) zM_X3_kindOf rfl rfl rfl rfl rfl (zx_args0 hk10 rfl) rfl h (fun v12 σ11 h => ?_)
      refine zw_iconst (v := 2) zM_X6_read dX6_read_28 (by decide) ?_
      refine zw_icmp_eq (tgt := 35) zM_X6_read dX6_read_29 rfl rfl (fun q => ?_) (fun q => ?_)
      · replace h := h.1 q
        refine zw_go (pc1 := 36) (L1 := [some (.ref a0), some (.int x1), some (.int x2)]) (st1 := [.int x2]) (σ1 := σ11) zM_X6_read dX6_read_35 rfl rfl rfl rfl ?_
        refine zw_go (pc1 := 37) (L1 := [some (.ref a0), some (.int x1), some (.int x2)]) (st1 := [.ref a0, .int x2]) (σ1 := σ11) zM_X6_read dX6_read_36 rfl rfl rfl rfl ?_
        obtain ⟨hk13, h⟩ := h
        obtain ⟨b14, hr15, h⟩ := h
        refine zw_getR (a := b14) zM_X6_read dX6_read_37 zF_6_46 rfl hk13 hr15 ?_
        refine zw_go (pc1 := 41) (L1 := [some (.ref a0), some (.int x1), some (.int x2)]) (st1 := [.int x1, .ref b14, .int x2]) (σ1 := σ11) zM_X6_read dX6_read_40 rfl rfl rfl rfl ?_
        obtain ⟨hk16, h⟩ := h
        refine zw_callI (as := [.ref b14, .int x1]) (rest := [.int x2]) zM_X6_read dX6_read_41 (zx_calV zC_6_193) zM_X3_sizeOf rfl rfl rfl rfl rfl (zx_args0 hk16 rfl) rfl h (fun v18 σ17 h => ?_)
        refine zw_icmp_lt (tgt := 50) zM_X6_read dX6_read_44 rfl rfl (fun q => ?_) (fun q => ?_)
        · replace h := h.1 q
          refine zw_go (pc1 := 51) (L1 := [some (.ref a0), some (.int x1), some (.int x2)]) (st1 := [.ref a0]) (σ1 := σ17) zM_X6_read dX6_read_50 rfl rfl rfl rfl ?_
          obtain ⟨hk19, h⟩ := h
          obtain ⟨b20, hr21, h⟩ := h
          refine zw_getR (a := b20) zM_X6_read dX6_read_51 zF_6_46 rfl hk19 hr21 ?_
          refine zw_go (pc1 := 55) (L1 := [some (.ref a0), some (.int x1), some (.int x2)]) (st1 := [.int x1, .ref b20]) (σ1 := σ17) zM_X6_read dX6_read_54 rfl rfl rfl rfl ?_
          refine zw_go (pc1 := 56) (L1 := [some (.ref a0), some (.int x1), some (.int x2)]) (st1 := [.int x2, .int x1, .ref b20]) (σ1 := σ17) zM_X6_read dX6_read_55 rfl rfl rfl rfl ?_
          obtain ⟨hk22, h⟩ := h
          refine zw_callI (as := [.ref b20, .int x1, .int x2]) (rest := []) zM_X6_read dX6_read_56 (zx_calV zC_6_199) zM_X3_byteOf rfl rfl rfl rfl rfl (zx_args0 hk22 rfl) rfl h (fun v24 σ23 h => ?_)
          exact zw_reti zM_X6_read dX6_read_59 rfl h
        · replace h := h.2 q
          refine zw_bipush (v := (-2)) zM_X6_read dX6_read_47 (by decide) ?_
          exact zw_reti zM_X6_read dX6_read_49 rfl h
      · replace h := h.2 q
        refine zw_bipush (v := (-3)) zM_X6_read dX6_read_32 (by decide) ?_
        exact zw_reti zM_X6_read dX6_read_34 rfl h
    · replace h := h.2 q
      refine zw_bipush (v := (-2)) zM_X6_read dX6_read_17 (by decide) ?_
      exact zw_reti zM_X6_read dX6_read_19 rfl h
  · replace h := h.2 q
    refine zw_iconst (v := (-1)) zM_X6_read dX6_read_11 (by decide) ?_
    exact zw_reti zM_X6_read dX6_read_12 rfl h
set_option maxHeartbeats 4000000 in
set_option maxRecDepth 100000 in
theorem vc_X6_same_0 (a0 : Nat) (x1 : Int32) (x2 : Int32) (σ : zx_S) (K : Int32 → zx_S → Prop) (h : zK σ a0 = 19 ∧ zwI 119 0 [some (.ref a0), some (.int x1)] [] σ (fun v3 σ2 => ((v3 = (0 : Int32) → K (-1) σ2) ∧ (¬ v3 = (0 : Int32) → zK σ2 a0 = 19 ∧ zwI 119 0 [some (.ref a0), some (.int x2)] [] σ2 (fun v6 σ5 => ((¬ v6 = (0 : Int32) → zK σ5 a0 = 19 ∧ ∃ b8 : Nat, zR σ5 a0 1 = some b8 ∧ zK σ5 b8 = 3 ∧ zx_in x1 (zN σ5 b8) = true ∧ ∃ b12 : Nat, zR σ5 b8 (Int32.toNatClampNeg x1) = some b12 ∧ zx_in x2 (zN σ5 b8) = true ∧ ∃ b15 : Nat, zR σ5 b8 (Int32.toNatClampNeg x2) = some b15 ∧ zK σ5 b12 = 14 ∧ zwI 26 0 [some (.ref b12), some (.ref b15), none] [] σ5 (fun v19 σ18 => ((v19 = (0 : Int32) → K 0 σ18) ∧ (¬ v19 = (0 : Int32) → K 1 σ18)))) ∧ (v6 = (0 : Int32) → K (-1) σ5))))))) : zwI 135 0 [some (.ref a0), some (.int x1), some (.int x2)] [] σ K := by
  refine zw_go (pc1 := 1) (L1 := [some (.ref a0), some (.int x1), some (.int x2)]) (st1 := [.ref a0]) (σ1 := σ) zM_X6_same dX6_same_0 rfl rfl rfl rfl ?_
  refine zw_go (pc1 := 2) (L1 := [some (.ref a0), some (.int x1), some (.int x2)]) (st1 := [.int x1, .ref a0]) (σ1 := σ) zM_X6_same dX6_same_1 rfl rfl rfl rfl ?_
  obtain ⟨hk1, h⟩ := h
  refine zw_callI (as := [.ref a0, .int x1]) (rest := []) zM_X6_same dX6_same_2 (zx_calV zC_6_124) zM_X6_hasImage rfl rfl rfl rfl rfl (zx_args0 hk1 rfl) rfl h (fun v3 σ2 h => ?_)
  refine zw_if_eq (tgt := 16) zM_X6_same dX6_same_5 rfl rfl (fun q => ?_) (fun q => ?_)
  · replace h := h.1 q
    refine zw_iconst (v := (-1)) zM_X6_same dX6_same_16 (by decide) ?_
    exact zw_reti zM_X6_same dX6_same_17 rfl h
  · replace h := h.2 q
    refine zw_go (pc1 := 9) (L1 := [some (.ref a0), some (.int x1), some (.int x2)]) (st1 := [.ref a0]) (σ1 := σ2) zM_X6_same dX6_same_8 rfl rfl rfl rfl ?_
    refine zw_go (pc1 := 10) (L1 := [some (.ref a0), some (.int x1), some (.int x2)]) (st1 := [.int x2, .ref a0]) (σ1 := σ2) zM_X6_same dX6_same_9 rfl rfl rfl rfl ?_
    obtain ⟨hk4, h⟩ := h
    refine zw_callI (as := [.ref a0, .int x2]) (rest := []) zM_X6_same dX6_same_10 (zx_calV zC_6_124) zM_X6_hasImage rfl rfl rfl rfl rfl (zx_args0 hk4 rfl) rfl h (fun v6 σ5 h => ?_)
    refine zw_if_ne (tgt := 18) zM_X6_same dX6_same_13 rfl rfl (fun q => ?_) (fun q => ?_)
    · replace h := h.1 q
      refine zw_go (pc1 := 19) (L1 := [some (.ref a0), some (.int x1), some (.int x2)]) (st1 := [.ref a0]) (σ1 := σ5) zM_X6_same dX6_same_18 rfl rfl rfl rfl ?_
      obtain ⟨hk7, h⟩ := h
      obtain ⟨b8, hr9, h⟩ := h
      refine zw_getR (a := b8) zM_X6_same dX6_same_19 zF_6_18 rfl hk7 hr9 ?_
      refine zw_go (pc1 := 23) (L1 := [some (.ref a0), some (.int x1), some (.int x2)]) (st1 := [.int x1, .ref b8]) (σ1 := σ5) zM_X6_same dX6_same_22 rfl rfl rfl rfl ?_
      obtain ⟨hk10, h⟩ := h
      obtain ⟨hi11, b12, hr13, h⟩ := h
      refine zw_aald zM_X6_same dX6_same_23 ⟨hk10, hi11⟩ hr13 ?_
      refine zw_go (pc1 := 25) (L1 := [some (.ref a0), some (.int x1), some (.int x2)]) (st1 := [.ref a0, .ref b12]) (σ1 := σ5) zM_X6_same dX6_same_24 rfl rfl rfl rfl ?_
      refine zw_getR (a := b8) zM_X6_same dX6_same_25 zF_6_18 rfl hk7 hr9 ?_
      refine zw_go (pc1 := 29) (L1 := [some (.ref a0), some (.int x1), some (.int x2)]) (st1 := [.int x2, .ref b8, .ref b12]) (σ1 := σ5) zM_X6_same dX6_same_28 rfl rfl rfl rfl ?_
      obtain ⟨hi14, b15, hr16, h⟩ := h
      refine zw_aald zM_X6_same dX6_same_29 ⟨hk10, hi14⟩ hr16 ?_
      obtain ⟨hk17, h⟩ := h
      refine zw_callI (as := [.ref b12, .ref b15]) (rest := []) zM_X6_same dX6_same_30 (zx_calV zC_6_147) zM_X1_hasBytesOf rfl rfl rfl rfl rfl (zx_args0 hk17 rfl) rfl h (fun v19 σ18 h => ?_)
      refine zw_if_eq (tgt := 40) zM_X6_same dX6_same_33 rfl rfl (fun q => ?_) (fun q => ?_)
      · replace h := h.1 q
        refine zw_iconst (v := 0) zM_X6_same dX6_same_40 (by decide) ?_
        exact zw_reti zM_X6_same dX6_same_41 rfl h
      · replace h := h.2 q
        refine zw_iconst (v := 1) zM_X6_same dX6_same_36 (by decide) ?_
        refine zw_goto (tgt := 41) zM_X6_same dX6_same_37 rfl ?_
        exact zw_reti zM_X6_same dX6_same_41 rfl h
    · replace h := h.2 q
      refine zw_iconst (v := (-1)) zM_X6_same dX6_same_16 (by decide) ?_
      exact zw_reti zM_X6_same dX6_same_17 rfl h
set_option maxHeartbeats 4000000 in
set_option maxRecDepth 100000 in
theorem vc_X6_view_0 (a0 : Nat) (x1 : Int32) (x2 : Int32) (σ : zx_S) (K : Int32 → zx_S → Prop) (h : zK σ a0 = 19 ∧ ∃ b2 : Nat, zR σ a0 5 = some b2 ∧ zK σ b2 = 16 ∧ zwI 71 0 [some (.ref b2), some (.int x1)] [] σ (fun v6 σ5 => ((¬ v6 = (0 : Int32) → ((x2 = 0 → zK σ5 a0 = 19 ∧ ∃ b8 : Nat, zR σ5 a0 5 = some b8 ∧ zK σ5 b8 = 16 ∧ zwI 75 0 [some (.ref b8), some (.int x1)] [] σ5 (fun v12 σ11 => K v12 σ11)) ∧ (¬ x2 = 0 → ((x2 = 1 → zK σ5 a0 = 19 ∧ ∃ b15 : Nat, zR σ5 a0 5 = some b15 ∧ zK σ5 b15 = 16 ∧ zwI 72 0 [some (.ref b15), some (.int x1)] [] σ5 (fun v19 σ18 => K v19 σ18)) ∧ (¬ x2 = 1 → ((x2 = 2 → zK σ5 a0 = 19 ∧ ∃ b22 : Nat, zR σ5 a0 5 = some b22 ∧ zK σ5 b22 = 16 ∧ zwI 81 0 [some (.ref b22), some (.int x1)] [] σ5 (fun v26 σ25 => K v26 σ25)) ∧ (¬ x2 = 2 → ((x2 = 3 → zK σ5 a0 = 19 ∧ ∃ b29 : Nat, zR σ5 a0 5 = some b29 ∧ zK σ5 b29 = 16 ∧ zwI 84 0 [some (.ref b29), some (.int x1)] [] σ5 (fun v33 σ32 => K v33 σ32)) ∧ (¬ x2 = 3 → ((x2 = 4 → zK σ5 a0 = 19 ∧ ∃ b36 : Nat, zR σ5 a0 5 = some b36 ∧ zK σ5 b36 = 16 ∧ zwI 78 0 [some (.ref b36), some (.int x1)] [] σ5 (fun v40 σ39 => K v40 σ39)) ∧ (¬ x2 = 4 → ((x2 = 5 → zK σ5 a0 = 19 ∧ ∃ b43 : Nat, zR σ5 a0 5 = some b43 ∧ zK σ5 b43 = 16 ∧ zwI 82 0 [some (.ref b43), some (.int x1)] [] σ5 (fun v47 σ46 => K v47 σ46)) ∧ (¬ x2 = 5 → ((x2 = 6 → zK σ5 a0 = 19 ∧ ∃ b50 : Nat, zR σ5 a0 5 = some b50 ∧ zK σ5 b50 = 16 ∧ zwI 69 0 [some (.ref b50), some (.int x1)] [] σ5 (fun v54 σ53 => K v54 σ53)) ∧ (¬ x2 = 6 → K (-2) σ5))))))))))))))) ∧ (v6 = (0 : Int32) → K (-1) σ5)))) : zwI 136 0 [some (.ref a0), some (.int x1), some (.int x2)] [] σ K := by
  refine zw_go (pc1 := 1) (L1 := [some (.ref a0), some (.int x1), some (.int x2)]) (st1 := [.ref a0]) (σ1 := σ) zM_X6_view dX6_view_0 rfl rfl rfl rfl ?_
  obtain ⟨hk1, h⟩ := h
  obtain ⟨b2, hr3, h⟩ := h
  refine zw_getR (a := b2) zM_X6_view dX6_view_1 zF_6_46 rfl hk1 hr3 ?_
  refine zw_go (pc1 := 5) (L1 := [some (.ref a0), some (.int x1), some (.int x2)]) (st1 := [.int x1, .ref b2]) (σ1 := σ) zM_X6_view dX6_view_4 rfl rfl rfl rfl ?_
  obtain ⟨hk4, h⟩ := h
  refine zw_callI (as := [.ref b2, .int x1]) (rest := []) zM_X6_view dX6_view_5 (zx_calV zC_6_176) zM_X3_hasView rfl rfl rfl rfl rfl (zx_args0 hk4 rfl) rfl h (fun v6 σ5 h => ?_)
  refine zw_if_ne (tgt := 13) zM_X6_view dX6_view_8 rfl rfl (fun q => ?_) (fun q => ?_)
  · replace h := h.1 q
    refine zw_go (pc1 := 14) (L1 := [some (.ref a0), some (.int x1), some (.int x2)]) (st1 := [.int x2]) (σ1 := σ5) zM_X6_view dX6_view_13 rfl rfl rfl rfl ?_
    by_cases hs13 : x2 = 0
    · replace h := h.1 hs13
      refine zw_sw (tgt := 56) zM_X6_view dX6_view_14 (zx_sw_in hs13 rfl) rfl ?_
      refine zw_go (pc1 := 57) (L1 := [some (.ref a0), some (.int x1), some (.int x2)]) (st1 := [.ref a0]) (σ1 := σ5) zM_X6_view dX6_view_56 rfl rfl rfl rfl ?_
      obtain ⟨hk7, h⟩ := h
      obtain ⟨b8, hr9, h⟩ := h
      refine zw_getR (a := b8) zM_X6_view dX6_view_57 zF_6_46 rfl hk7 hr9 ?_
      refine zw_go (pc1 := 61) (L1 := [some (.ref a0), some (.int x1), some (.int x2)]) (st1 := [.int x1, .ref b8]) (σ1 := σ5) zM_X6_view dX6_view_60 rfl rfl rfl rfl ?_
      obtain ⟨hk10, h⟩ := h
      refine zw_callI (as := [.ref b8, .int x1]) (rest := []) zM_X6_view dX6_view_61 (zx_calV zC_6_179) zM_X3_kindOf rfl rfl rfl rfl rfl (zx_args0 hk10 rfl) rfl h (fun v12 σ11 h => ?_)
      exact zw_reti zM_X6_view dX6_view_64 rfl h
    · replace h := h.2 hs13
      by_cases hs20 : x2 = 1
      · replace h := h.1 hs20
        refine zw_sw (tgt := 65) zM_X6_view dX6_view_14 (zx_sw_in hs20 rfl) rfl ?_
        refine zw_go (pc1 := 66) (L1 := [some (.ref a0), some (.int x1), some (.int x2)]) (st1 := [.ref a0]) (σ1 := σ5) zM_X6_view dX6_view_65 rfl rfl rfl rfl ?_
        obtain ⟨hk14, h⟩ := h
        obtain ⟨b15, hr16, h⟩ := h
        refine zw_getR (a := b15) zM_X6_view dX6_view_66 zF_6_46 rfl hk14 hr16 ?_
        refine zw_go (pc1 := 70) (L1 := [some (.ref a0), some (.int x1), some (.int x2)]) (st1 := [.int x1, .ref b15]) (σ1 := σ5) zM_X6_view dX6_view_69 rfl rfl rfl rfl ?_
        obtain ⟨hk17, h⟩ := h
        refine zw_callI (as := [.ref b15, .int x1]) (rest := []) zM_X6_view dX6_view_70 (zx_calV zC_6_187) zM_X3_imageOf rfl rfl rfl rfl rfl (zx_args0 hk17 rfl) rfl h (fun v19 σ18 h => ?_)
        exact zw_reti zM_X6_view dX6_view_73 rfl h
      · replace h := h.2 hs20
        by_cases hs27 : x2 = 2
        · replace h := h.1 hs27
          refine zw_sw (tgt := 74) zM_X6_view dX6_view_14 (zx_sw_in hs27 rfl) rfl ?_
          refine zw_go (pc1 := 75) (L1 := [some (.ref a0), some (.int x1), some (.int x2)]) (st1 := [.ref a0]) (σ1 := σ5) zM_X6_view dX6_view_74 rfl rfl rfl rfl ?_
          obtain ⟨hk21, h⟩ := h
          obtain ⟨b22, hr23, h⟩ := h
          refine zw_getR (a := b22) zM_X6_view dX6_view_75 zF_6_46 rfl hk21 hr23 ?_
          refine zw_go (pc1 := 79) (L1 := [some (.ref a0), some (.int x1), some (.int x2)]) (st1 := [.int x1, .ref b22]) (σ1 := σ5) zM_X6_view dX6_view_78 rfl rfl rfl rfl ?_
          obtain ⟨hk24, h⟩ := h
          refine zw_callI (as := [.ref b22, .int x1]) (rest := []) zM_X6_view dX6_view_79 (zx_calV zC_6_190) zM_X3_numberOf rfl rfl rfl rfl rfl (zx_args0 hk24 rfl) rfl h (fun v26 σ25 h => ?_)
          exact zw_reti zM_X6_view dX6_view_82 rfl h
        · replace h := h.2 hs27
          by_cases hs34 : x2 = 3
          · replace h := h.1 hs34
            refine zw_sw (tgt := 83) zM_X6_view dX6_view_14 (zx_sw_in hs34 rfl) rfl ?_
            refine zw_go (pc1 := 84) (L1 := [some (.ref a0), some (.int x1), some (.int x2)]) (st1 := [.ref a0]) (σ1 := σ5) zM_X6_view dX6_view_83 rfl rfl rfl rfl ?_
            obtain ⟨hk28, h⟩ := h
            obtain ⟨b29, hr30, h⟩ := h
            refine zw_getR (a := b29) zM_X6_view dX6_view_84 zF_6_46 rfl hk28 hr30 ?_
            refine zw_go (pc1 := 88) (L1 := [some (.ref a0), some (.int x1), some (.int x2)]) (st1 := [.int x1, .ref b29]) (σ1 := σ5) zM_X6_view dX6_view_87 rfl rfl rfl rfl ?_
            obtain ⟨hk31, h⟩ := h
            refine zw_callI (as := [.ref b29, .int x1]) (rest := []) zM_X6_view dX6_view_88 (zx_calV zC_6_193) zM_X3_sizeOf rfl rfl rfl rfl rfl (zx_args0 hk31 rfl) rfl h (fun v33 σ32 h => ?_)
            exact zw_reti zM_X6_view dX6_view_91 rfl h
          · replace h := h.2 hs34
            by_cases hs41 : x2 = 4
            · replace h := h.1 hs41
              refine zw_sw (tgt := 92) zM_X6_view dX6_view_14 (zx_sw_in hs41 rfl) rfl ?_
              refine zw_go (pc1 := 93) (L1 := [some (.ref a0), some (.int x1), some (.int x2)]) (st1 := [.ref a0]) (σ1 := σ5) zM_X6_view dX6_view_92 rfl rfl rfl rfl ?_
              obtain ⟨hk35, h⟩ := h
              obtain ⟨b36, hr37, h⟩ := h
              refine zw_getR (a := b36) zM_X6_view dX6_view_93 zF_6_46 rfl hk35 hr37 ?_
              refine zw_go (pc1 := 97) (L1 := [some (.ref a0), some (.int x1), some (.int x2)]) (st1 := [.int x1, .ref b36]) (σ1 := σ5) zM_X6_view dX6_view_96 rfl rfl rfl rfl ?_
              obtain ⟨hk38, h⟩ := h
              refine zw_callI (as := [.ref b36, .int x1]) (rest := []) zM_X6_view dX6_view_97 (zx_calV zC_6_194) zM_X3_modeOf rfl rfl rfl rfl rfl (zx_args0 hk38 rfl) rfl h (fun v40 σ39 h => ?_)
              exact zw_reti zM_X6_view dX6_view_100 rfl h
            · replace h := h.2 hs41
              by_cases hs48 : x2 = 5
              · replace h := h.1 hs48
                refine zw_sw (tgt := 101) zM_X6_view dX6_view_14 (zx_sw_in hs48 rfl) rfl ?_
                refine zw_go (pc1 := 102) (L1 := [some (.ref a0), some (.int x1), some (.int x2)]) (st1 := [.ref a0]) (σ1 := σ5) zM_X6_view dX6_view_101 rfl rfl rfl rfl ?_
                obtain ⟨hk42, h⟩ := h
                obtain ⟨b43, hr44, h⟩ := h
                refine zw_getR (a := b43) zM_X6_view dX6_view_102 zF_6_46 rfl hk42 hr44 ?_
                refine zw_go (pc1 := 106) (L1 := [some (.ref a0), some (.int x1), some (.int x2)]) (st1 := [.int x1, .ref b43]) (σ1 := σ5) zM_X6_view dX6_view_105 rfl rfl rfl rfl ?_
                obtain ⟨hk45, h⟩ := h
                refine zw_callI (as := [.ref b43, .int x1]) (rest := []) zM_X6_view dX6_view_106 (zx_calV zC_6_195) zM_X3_ownerOf rfl rfl rfl rfl rfl (zx_args0 hk45 rfl) rfl h (fun v47 σ46 h => ?_)
                exact zw_reti zM_X6_view dX6_view_109 rfl h
              · replace h := h.2 hs48
                by_cases hs55 : x2 = 6
                · replace h := h.1 hs55
                  refine zw_sw (tgt := 110) zM_X6_view dX6_view_14 (zx_sw_in hs55 rfl) rfl ?_
                  refine zw_go (pc1 := 111) (L1 := [some (.ref a0), some (.int x1), some (.int x2)]) (st1 := [.ref a0]) (σ1 := σ5) zM_X6_view dX6_view_110 rfl rfl rfl rfl ?_
                  obtain ⟨hk49, h⟩ := h
                  obtain ⟨b50, hr51, h⟩ := h
                  refine zw_getR (a := b50) zM_X6_view dX6_view_111 zF_6_46 rfl hk49 hr51 ?_
                  refine zw_go (pc1 := 115) (L1 := [some (.ref a0), some (.int x1), some (.int x2)]) (st1 := [.int x1, .ref b50]) (σ1 := σ5) zM_X6_view dX6_view_114 rfl rfl rfl rfl ?_
                  obtain ⟨hk52, h⟩ := h
                  refine zw_callI (as := [.ref b50, .int x1]) (rest := []) zM_X6_view dX6_view_115 (zx_calV zC_6_196) zM_X3_depthOf rfl rfl rfl rfl rfl (zx_args0 hk52 rfl) rfl h (fun v54 σ53 h => ?_)
                  exact zw_reti zM_X6_view dX6_view_118 rfl h
                · replace h := h.2 hs55
                  have n0 := zx_ne (n := 0) hs13 (by decide)
                  have n1 := zx_ne (n := 1) hs20 (by decide)
                  have n2 := zx_ne (n := 2) hs27 (by decide)
                  have n3 := zx_ne (n := 3) hs34 (by decide)
                  have n4 := zx_ne (n := 4) hs41 (by decide)
                  have n5 := zx_ne (n := 5) hs48 (by decide)
                  have n6 := zx_ne (n := 6) hs55 (by decide)
                  refine zw_sw (tgt := 119) zM_X6_view dX6_view_14 (zx_sw_out (by omega)) rfl ?_
                  refine zw_bipush (v := (-2)) zM_X6_view dX6_view_119 (by decide) ?_
                  exact zw_reti zM_X6_view dX6_view_121 rfl h
  · replace h := h.2 q
    refine zw_iconst (v := (-1)) zM_X6_view dX6_view_11 (by decide) ?_
    exact zw_reti zM_X6_view dX6_view_12 rfl h
