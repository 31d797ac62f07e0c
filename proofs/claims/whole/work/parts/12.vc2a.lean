set_option maxHeartbeats 4000000 in
set_option maxRecDepth 100000 in
theorem vc_X2_areFoldersNamedAtHome_0 (a0 : Nat) (a1 : Nat) (σ : zx_S) (K : Int32 → zx_S → Prop) (h : zK σ a0 = 15 ∧ ∃ b2 : Nat, zR σ a0 0 = some b2 ∧ zwV 0 0 [some (.ref b2), some (.int 0), none, none] [] σ (fun σ4 => zwI 52 10 [some (.ref a0), some (.ref a1), some (.int 1), none, none, none, none] [] σ4 K)) : zwI 52 0 [some (.ref a0), some (.ref a1), none, none, none, none, none] [] σ K := by
  refine zw_go (pc1 := 1) (L1 := [some (.ref a0), some (.ref a1), none, none, none, none, none]) (st1 := [.ref a0]) (σ1 := σ) zM_X2_areFoldersNamedAtHome dX2_areFoldersNamedAtHome_0 rfl rfl rfl rfl ?_
  obtain ⟨hk1, h⟩ := h
  obtain ⟨b2, hr3, h⟩ := h
  refine zw_getR (a := b2) zM_X2_areFoldersNamedAtHome dX2_areFoldersNamedAtHome_1 zF_2_9 rfl hk1 hr3 ?_
  refine zw_iconst (v := 0) zM_X2_areFoldersNamedAtHome dX2_areFoldersNamedAtHome_4 (by decide) ?_
  refine zw_callV (as := [.ref b2, .int 0]) (rest := []) zM_X2_areFoldersNamedAtHome dX2_areFoldersNamedAtHome_5 (zx_calS zC_2_134) zM_J7_fill_53178 rfl rfl rfl rfl rfl rfl rfl h (fun σ4 h => ?_)
  refine zw_iconst (v := 1) zM_X2_areFoldersNamedAtHome dX2_areFoldersNamedAtHome_8 (by decide) ?_
  refine zw_go (pc1 := 10) (L1 := [some (.ref a0), some (.ref a1), some (.int 1), none, none, none, none]) (st1 := []) (σ1 := σ4) zM_X2_areFoldersNamedAtHome dX2_areFoldersNamedAtHome_9 rfl rfl rfl rfl ?_
  exact zw_weak2 h ⟨rfl, rfl, rfl, trivial⟩
set_option maxHeartbeats 4000000 in
set_option maxRecDepth 100000 in
theorem vc_X2_areFoldersNamedAtHome_10 (a0 : Nat) (a1 : Nat) (x2 : Int32) (σ : zx_S) (K : Int32 → zx_S → Prop) (h : zK σ a1 = 14 ∧ (((zI σ a1 3) < x2 → K 1 σ) ∧ (¬ (zI σ a1 3) < x2 → zwI 30 0 [some (.ref a1), some (.int x2)] [] σ (fun v3 σ2 => ((¬ v3 = (1 : Int32) → zwI 52 36 [some (.ref a0), some (.ref a1), some (.int x2), none, none, none, none] [.int 0] σ2 K) ∧ (v3 = (1 : Int32) → zK σ2 a1 = 14 ∧ zwI 44 0 [some (.ref a1), some (.int x2), none, none] [] σ2 (fun v6 σ5 => zwI 52 36 [some (.ref a0), some (.ref a1), some (.int x2), none, none, none, none] [.int v6] σ5 K))))))) : zwI 52 10 [some (.ref a0), some (.ref a1), some (.int x2), none, none, none, none] [] σ K := by
  refine zw_go (pc1 := 11) (L1 := [some (.ref a0), some (.ref a1), some (.int x2), none, none, none, none]) (st1 := [.int x2]) (σ1 := σ) zM_X2_areFoldersNamedAtHome dX2_areFoldersNamedAtHome_10 rfl rfl rfl rfl ?_
  refine zw_go (pc1 := 12) (L1 := [some (.ref a0), some (.ref a1), some (.int x2), none, none, none, none]) (st1 := [.ref a1, .int x2]) (σ1 := σ) zM_X2_areFoldersNamedAtHome dX2_areFoldersNamedAtHome_11 rfl rfl rfl rfl ?_
  obtain ⟨hk1, h⟩ := h
  refine zw_getI zM_X2_areFoldersNamedAtHome dX2_areFoldersNamedAtHome_12 zF_2_73 rfl hk1 ?_
  refine zw_icmp_gt (tgt := 131) zM_X2_areFoldersNamedAtHome dX2_areFoldersNamedAtHome_15 rfl rfl (fun q => ?_) (fun q => ?_)
  · replace h := h.1 q
    refine zw_iconst (v := 1) zM_X2_areFoldersNamedAtHome dX2_areFoldersNamedAtHome_131 (by decide) ?_
    exact zw_retz zM_X2_areFoldersNamedAtHome dX2_areFoldersNamedAtHome_132 rfl (by decide) h
  · replace h := h.2 q
    refine zw_go (pc1 := 19) (L1 := [some (.ref a0), some (.ref a1), some (.int x2), none, none, none, none]) (st1 := [.ref a1]) (σ1 := σ) zM_X2_areFoldersNamedAtHome dX2_areFoldersNamedAtHome_18 rfl rfl rfl rfl ?_
    refine zw_go (pc1 := 20) (L1 := [some (.ref a0), some (.ref a1), some (.int x2), none, none, none, none]) (st1 := [.int x2, .ref a1]) (σ1 := σ) zM_X2_areFoldersNamedAtHome dX2_areFoldersNamedAtHome_19 rfl rfl rfl rfl ?_
    refine zw_callI (as := [.ref a1, .int x2]) (rest := []) zM_X2_areFoldersNamedAtHome dX2_areFoldersNamedAtHome_20 (zx_calV zC_2_107) zM_X1_kindOf rfl rfl rfl rfl rfl (zx_args0 hk1 rfl) rfl h (fun v3 σ2 h => ?_)
    refine zw_iconst (v := 1) zM_X2_areFoldersNamedAtHome dX2_areFoldersNamedAtHome_23 (by decide) ?_
    refine zw_icmp_ne (tgt := 35) zM_X2_areFoldersNamedAtHome dX2_areFoldersNamedAtHome_24 rfl rfl (fun q => ?_) (fun q => ?_)
    · replace h := h.1 q
      refine zw_iconst (v := 0) zM_X2_areFoldersNamedAtHome dX2_areFoldersNamedAtHome_35 (by decide) ?_
      exact zw_weak2 h ⟨rfl, rfl, rfl, trivial⟩
    · replace h := h.2 q
      refine zw_go (pc1 := 28) (L1 := [some (.ref a0), some (.ref a1), some (.int x2), none, none, none, none]) (st1 := [.ref a1]) (σ1 := σ2) zM_X2_areFoldersNamedAtHome dX2_areFoldersNamedAtHome_27 rfl rfl rfl rfl ?_
      refine zw_go (pc1 := 29) (L1 := [some (.ref a0), some (.ref a1), some (.int x2), none, none, none, none]) (st1 := [.int x2, .ref a1]) (σ1 := σ2) zM_X2_areFoldersNamedAtHome dX2_areFoldersNamedAtHome_28 rfl rfl rfl rfl ?_
      obtain ⟨hk4, h⟩ := h
      refine zw_callI (as := [.ref a1, .int x2]) (rest := []) zM_X2_areFoldersNamedAtHome dX2_areFoldersNamedAtHome_29 (zx_calV zC_2_110) zM_X1_sizeOf rfl rfl rfl rfl rfl (zx_args0 hk4 rfl) rfl h (fun v6 σ5 h => ?_)
      refine zw_goto (tgt := 36) zM_X2_areFoldersNamedAtHome dX2_areFoldersNamedAtHome_32 rfl ?_
      exact zw_weak2 h ⟨rfl, rfl, rfl, trivial⟩
set_option maxHeartbeats 4000000 in
set_option maxRecDepth 100000 in
theorem vc_X2_areFoldersNamedAtHome_36 (a0 : Nat) (a1 : Nat) (x2 : Int32) (y0 : Int32) (σ : zx_S) (K : Int32 → zx_S → Prop) (h : ((¬ y0 = (0 : Int32) → zK σ a1 = 14 ∧ zwI 25 0 [some (.ref a1), some (.int x2)] [] σ (fun v3 σ2 => zwI 52 50 [some (.ref a0), some (.ref a1), some (.int x2), some (.int y0), none, none, none] [.int v3] σ2 K)) ∧ (y0 = (0 : Int32) → zwI 52 50 [some (.ref a0), some (.ref a1), some (.int x2), some (.int y0), none, none, none] [.int 0] σ K))) : zwI 52 36 [some (.ref a0), some (.ref a1), some (.int x2), none, none, none, none] [.int y0] σ K := by
  refine zw_go (pc1 := 37) (L1 := [some (.ref a0), some (.ref a1), some (.int x2), some (.int y0), none, none, none]) (st1 := []) (σ1 := σ) zM_X2_areFoldersNamedAtHome dX2_areFoldersNamedAtHome_36 rfl rfl rfl rfl ?_
  refine zw_go (pc1 := 38) (L1 := [some (.ref a0), some (.ref a1), some (.int x2), some (.int y0), none, none, none]) (st1 := [.int y0]) (σ1 := σ) zM_X2_areFoldersNamedAtHome dX2_areFoldersNamedAtHome_37 rfl rfl rfl rfl ?_
  refine zw_if_ne (tgt := 45) zM_X2_areFoldersNamedAtHome dX2_areFoldersNamedAtHome_38 rfl rfl (fun q => ?_) (fun q => ?_)
  · replace h := h.1 q
    refine zw_go (pc1 := 46) (L1 := [some (.ref a0), some (.ref a1), some (.int x2), some (.int y0), none, none, none]) (st1 := [.ref a1]) (σ1 := σ) zM_X2_areFoldersNamedAtHome dX2_areFoldersNamedAtHome_45 rfl rfl rfl rfl ?_
    refine zw_go (pc1 := 47) (L1 := [some (.ref a0), some (.ref a1), some (.int x2), some (.int y0), none, none, none]) (st1 := [.int x2, .ref a1]) (σ1 := σ) zM_X2_areFoldersNamedAtHome dX2_areFoldersNamedAtHome_46 rfl rfl rfl rfl ?_
    obtain ⟨hk1, h⟩ := h
    refine zw_callI (as := [.ref a1, .int x2]) (rest := []) zM_X2_areFoldersNamedAtHome dX2_areFoldersNamedAtHome_47 (zx_calV zC_2_113) zM_X1_firstNamePlace rfl rfl rfl rfl rfl (zx_args0 hk1 rfl) rfl h (fun v3 σ2 h => ?_)
    exact zw_weak2 h ⟨rfl, rfl, rfl, rfl, trivial⟩
  · replace h := h.2 q
    refine zw_iconst (v := 0) zM_X2_areFoldersNamedAtHome dX2_areFoldersNamedAtHome_41 (by decide) ?_
    refine zw_goto (tgt := 50) zM_X2_areFoldersNamedAtHome dX2_areFoldersNamedAtHome_42 rfl ?_
    exact zw_weak2 h ⟨rfl, rfl, rfl, rfl, trivial⟩
set_option maxHeartbeats 4000000 in
set_option maxRecDepth 100000 in
theorem vc_X2_areFoldersNamedAtHome_50 (a0 : Nat) (a1 : Nat) (x2 : Int32) (x3 : Int32) (y0 : Int32) (σ : zx_S) (K : Int32 → zx_S → Prop) (h : zwI 52 55 [some (.ref a0), some (.ref a1), some (.int x2), some (.int x3), some (.int y0), some (.int 0), none] [] σ K) : zwI 52 50 [some (.ref a0), some (.ref a1), some (.int x2), some (.int x3), none, none, none] [.int y0] σ K := by
  refine zw_go (pc1 := 52) (L1 := [some (.ref a0), some (.ref a1), some (.int x2), some (.int x3), some (.int y0), none, none]) (st1 := []) (σ1 := σ) zM_X2_areFoldersNamedAtHome dX2_areFoldersNamedAtHome_50 rfl rfl rfl rfl ?_
  refine zw_iconst (v := 0) zM_X2_areFoldersNamedAtHome dX2_areFoldersNamedAtHome_52 (by decide) ?_
  refine zw_go (pc1 := 55) (L1 := [some (.ref a0), some (.ref a1), some (.int x2), some (.int x3), some (.int y0), some (.int 0), none]) (st1 := []) (σ1 := σ) zM_X2_areFoldersNamedAtHome dX2_areFoldersNamedAtHome_53 rfl rfl rfl rfl ?_
  exact zw_weak2 h ⟨rfl, rfl, rfl, rfl, rfl, rfl, trivial⟩
set_option maxHeartbeats 4000000 in
set_option maxRecDepth 100000 in
theorem vc_X2_areFoldersNamedAtHome_55 (a0 : Nat) (a1 : Nat) (x2 : Int32) (x3 : Int32) (x4 : Int32) (x5 : Int32) (σ : zx_S) (K : Int32 → zx_S → Prop) (h : ((x3 ≤ x5 → zwI 52 10 [some (.ref a0), some (.ref a1), some (.int (x2 + Int32.ofInt 1)), none, none, none, none] [] σ K) ∧ (¬ x3 ≤ x5 → zK σ a1 = 14 ∧ zwI 51 0 [some (.ref a1), some (.int ((x4 + (4 * x5)) + 2))] [] σ (fun v3 σ2 => zK σ2 a1 = 14 ∧ zwI 30 0 [some (.ref a1), some (.int v3)] [] σ2 (fun v6 σ5 => ((¬ v6 = (1 : Int32) → zwI 52 98 [some (.ref a0), some (.ref a1), some (.int x2), some (.int x3), some (.int x4), some (.int x5), some (.int v3)] [] σ5 K) ∧ (v6 = (1 : Int32) → zK σ5 a1 = 14 ∧ zwI 28 0 [some (.ref a1), some (.int v3)] [] σ5 (fun v9 σ8 => ((v9 = x2 → zwI 52 98 [some (.ref a0), some (.ref a1), some (.int x2), some (.int x3), some (.int x4), some (.int x5), some (.int v3)] [] σ8 K) ∧ (¬ v9 = x2 → K 0 σ8)))))))))) : zwI 52 55 [some (.ref a0), some (.ref a1), some (.int x2), some (.int x3), some (.int x4), some (.int x5), none] [] σ K := by
  refine zw_go (pc1 := 57) (L1 := [some (.ref a0), some (.ref a1), some (.int x2), some (.int x3), some (.int x4), some (.int x5), none]) (st1 := [.int x5]) (σ1 := σ) zM_X2_areFoldersNamedAtHome dX2_areFoldersNamedAtHome_55 rfl rfl rfl rfl ?_
  refine zw_go (pc1 := 58) (L1 := [some (.ref a0), some (.ref a1), some (.int x2), some (.int x3), some (.int x4), some (.int x5), none]) (st1 := [.int x3, .int x5]) (σ1 := σ) zM_X2_areFoldersNamedAtHome dX2_areFoldersNamedAtHome_57 rfl rfl rfl rfl ?_
  refine zw_icmp_ge (tgt := 125) zM_X2_areFoldersNamedAtHome dX2_areFoldersNamedAtHome_58 rfl rfl (fun q => ?_) (fun q => ?_)
  · replace h := h.1 q
    refine zw_go (pc1 := 128) (L1 := [some (.ref a0), some (.ref a1), some (.int (x2 + Int32.ofInt 1)), some (.int x3), some (.int x4), some (.int x5), none]) (st1 := []) (σ1 := σ) zM_X2_areFoldersNamedAtHome dX2_areFoldersNamedAtHome_125 rfl rfl rfl rfl ?_
    refine zw_goto (tgt := 10) zM_X2_areFoldersNamedAtHome dX2_areFoldersNamedAtHome_128 rfl ?_
    exact zw_weak2 h ⟨rfl, rfl, rfl, trivial⟩
  · replace h := h.2 q
    refine zw_go (pc1 := 62) (L1 := [some (.ref a0), some (.ref a1), some (.int x2), some (.int x3), some (.int x4), some (.int x5), none]) (st1 := [.ref a1]) (σ1 := σ) zM_X2_areFoldersNamedAtHome dX2_areFoldersNamedAtHome_61 rfl rfl rfl rfl ?_
    refine zw_go (pc1 := 64) (L1 := [some (.ref a0), some (.ref a1), some (.int x2), some (.int x3), some (.int x4), some (.int x5), none]) (st1 := [.int x4, .ref a1]) (σ1 := σ) zM_X2_areFoldersNamedAtHome dX2_areFoldersNamedAtHome_62 rfl rfl rfl rfl ?_
    refine zw_iconst (v := 4) zM_X2_areFoldersNamedAtHome dX2_areFoldersNamedAtHome_64 (by decide) ?_
    refine zw_go (pc1 := 67) (L1 := [some (.ref a0), some (.ref a1), some (.int x2), some (.int x3), some (.int x4), some (.int x5), none]) (st1 := [.int x5, .int 4, .int x4, .ref a1]) (σ1 := σ) zM_X2_areFoldersNamedAtHome dX2_areFoldersNamedAtHome_65 rfl rfl rfl rfl ?_
    refine zw_go (pc1 := 68) (L1 := [some (.ref a0), some (.ref a1), some (.int x2), some (.int x3), some (.int x4), some (.int x5), none]) (st1 := [.int (4 * x5), .int x4, .ref a1]) (σ1 := σ) zM_X2_areFoldersNamedAtHome dX2_areFoldersNamedAtHome_67 rfl rfl rfl rfl ?_
    refine zw_go (pc1 := 69) (L1 := [some (.ref a0), some (.ref a1), some (.int x2), some (.int x3), some (.int x4), some (.int x5), none]) (st1 := [.int (x4 + (4 * x5)), .ref a1]) (σ1 := σ) zM_X2_areFoldersNamedAtHome dX2_areFoldersNamedAtHome_68 rfl rfl rfl rfl ?_
    refine zw_iconst (v := 2) zM_X2_areFoldersNamedAtHome dX2_areFoldersNamedAtHome_69 (by decide) ?_
    refine zw_go (pc1 := 71) (L1 := [some (.ref a0), some (.ref a1), some (.int x2), some (.int x3), some (.int x4), some (.int x5), none]) (st1 := [.int ((x4 + (4 * x5)) + 2), .ref a1]) (σ1 := σ) zM_X2_areFoldersNamedAtHome dX2_areFoldersNamedAtHome_70 rfl rfl rfl rfl ?_
    obtain ⟨hk1, h⟩ := h
    refine zw_callI (as := [.ref a1, .int ((x4 + (4 * x5)) + 2)]) (rest := []) zM_X2_areFoldersNamedAtHome dX2_areFoldersNamedAtHome_71 (zx_calV zC_2_27) zM_X1_wordAt rfl rfl rfl rfl rfl (zx_args0 hk1 rfl) rfl h (fun v3 σ2 h => ?_)
    refine zw_go (pc1 := 76) (L1 := [some (.ref a0), some (.ref a1), some (.int x2), some (.int x3), some (.int x4), some (.int x5), some (.int v3)]) (st1 := []) (σ1 := σ2) zM_X2_areFoldersNamedAtHome dX2_areFoldersNamedAtHome_74 rfl rfl rfl rfl ?_
    refine zw_go (pc1 := 77) (L1 := [some (.ref a0), some (.ref a1), some (.int x2), some (.int x3), some (.int x4), some (.int x5), some (.int v3)]) (st1 := [.ref a1]) (σ1 := σ2) zM_X2_areFoldersNamedAtHome dX2_areFoldersNamedAtHome_76 rfl rfl rfl rfl ?_
    refine zw_go (pc1 := 79) (L1 := [some (.ref a0), some (.ref a1), some (.int x2), some (.int x3), some (.int x4), some (.int x5), some (.int v3)]) (st1 := [.int v3, .ref a1]) (σ1 := σ2) zM_X2_areFoldersNamedAtHome dX2_areFoldersNamedAtHome_77 rfl rfl rfl rfl ?_
    obtain ⟨hk4, h⟩ := h
    refine zw_callI (as := [.ref a1, .int v3]) (rest := []) zM_X2_areFoldersNamedAtHome dX2_areFoldersNamedAtHome_79 (zx_calV zC_2_107) zM_X1_kindOf rfl rfl rfl rfl rfl (zx_args0 hk4 rfl) rfl h (fun v6 σ5 h => ?_)
    refine zw_iconst (v := 1) zM_X2_areFoldersNamedAtHome dX2_areFoldersNamedAtHome_82 (by decide) ?_
    refine zw_icmp_ne (tgt := 98) zM_X2_areFoldersNamedAtHome dX2_areFoldersNamedAtHome_83 rfl rfl (fun q => ?_) (fun q => ?_)
    · replace h := h.1 q
      exact zw_weak2 h ⟨rfl, rfl, rfl, rfl, rfl, rfl, rfl, trivial⟩
    · replace h := h.2 q
      refine zw_go (pc1 := 87) (L1 := [some (.ref a0), some (.ref a1), some (.int x2), some (.int x3), some (.int x4), some (.int x5), some (.int v3)]) (st1 := [.ref a1]) (σ1 := σ5) zM_X2_areFoldersNamedAtHome dX2_areFoldersNamedAtHome_86 rfl rfl rfl rfl ?_
      refine zw_go (pc1 := 89) (L1 := [some (.ref a0), some (.ref a1), some (.int x2), some (.int x3), some (.int x4), some (.int x5), some (.int v3)]) (st1 := [.int v3, .ref a1]) (σ1 := σ5) zM_X2_areFoldersNamedAtHome dX2_areFoldersNamedAtHome_87 rfl rfl rfl rfl ?_
      obtain ⟨hk7, h⟩ := h
      refine zw_callI (as := [.ref a1, .int v3]) (rest := []) zM_X2_areFoldersNamedAtHome dX2_areFoldersNamedAtHome_89 (zx_calV zC_2_125) zM_X1_homeOf rfl rfl rfl rfl rfl (zx_args0 hk7 rfl) rfl h (fun v9 σ8 h => ?_)
      refine zw_go (pc1 := 93) (L1 := [some (.ref a0), some (.ref a1), some (.int x2), some (.int x3), some (.int x4), some (.int x5), some (.int v3)]) (st1 := [.int x2, .int v9]) (σ1 := σ8) zM_X2_areFoldersNamedAtHome dX2_areFoldersNamedAtHome_92 rfl rfl rfl rfl ?_
      refine zw_icmp_eq (tgt := 98) zM_X2_areFoldersNamedAtHome dX2_areFoldersNamedAtHome_93 rfl rfl (fun q => ?_) (fun q => ?_)
      · replace h := h.1 q
        exact zw_weak2 h ⟨rfl, rfl, rfl, rfl, rfl, rfl, rfl, trivial⟩
      · replace h := h.2 q
        refine zw_iconst (v := 0) zM_X2_areFoldersNamedAtHome dX2_areFoldersNamedAtHome_96 (by decide) ?_
        exact zw_retz zM_X2_areFoldersNamedAtHome dX2_areFoldersNamedAtHome_97 rfl (by decide) h
set_option maxHeartbeats 4000000 in
set_option maxRecDepth 100000 in
theorem vc_X2_areFoldersNamedAtHome_98 (a0 : Nat) (a1 : Nat) (x2 : Int32) (x3 : Int32) (x4 : Int32) (x5 : Int32) (x6 : Int32) (σ : zx_S) (K : Int32 → zx_S → Prop) (h : zK σ a0 = 15 ∧ ∃ b2 : Nat, zR σ a0 0 = some b2 ∧ zK σ b2 = 1 ∧ (((Int32.ofNat (zN σ b2)) ≤ x6 → zwI 52 119 [some (.ref a0), some (.ref a1), some (.int x2), some (.int x3), some (.int x4), some (.int x5), none] [] σ K) ∧ (¬ (Int32.ofNat (zN σ b2)) ≤ x6 → zx_in x6 (zN σ b2) = true ∧ zx_in x6 (zN σ b2) = true ∧ ∀ σ7 : zx_S, σ7 = zx_pI σ b2 (Int32.toNatClampNeg x6) ((zI σ b2 (Int32.toNatClampNeg x6)) + 1) → zwI 52 119 [some (.ref a0), some (.ref a1), some (.int x2), some (.int x3), some (.int x4), some (.int x5), none] [] σ7 K))) : zwI 52 98 [some (.ref a0), some (.ref a1), some (.int x2), some (.int x3), some (.int x4), some (.int x5), some (.int x6)] [] σ K := by
  refine zw_go (pc1 := 100) (L1 := [some (.ref a0), some (.ref a1), some (.int x2), some (.int x3), some (.int x4), some (.int x5), some (.int x6)]) (st1 := [.int x6]) (σ1 := σ) zM_X2_areFoldersNamedAtHome dX2_areFoldersNamedAtHome_98 rfl rfl rfl rfl ?_
  refine zw_go (pc1 := 101) (L1 := [some (.ref a0), some (.ref a1), some (.int x2), some (.int x3), some (.int x4), some (.int x5), some (.int x6)]) (st1 := [.ref a0, .int x6]) (σ1 := σ) zM_X2_areFoldersNamedAtHome dX2_areFoldersNamedAtHome_100 rfl rfl rfl rfl ?_
  obtain ⟨hk1, h⟩ := h
  obtain ⟨b2, hr3, h⟩ := h
  refine zw_getR (a := b2) zM_X2_areFoldersNamedAtHome dX2_areFoldersNamedAtHome_101 zF_2_9 rfl hk1 hr3 ?_
  obtain ⟨hk4, h⟩ := h
  refine zw_alen zM_X2_areFoldersNamedAtHome dX2_areFoldersNamedAtHome_104 (Or.inl hk4) ?_
  refine zw_icmp_ge (tgt := 119) zM_X2_areFoldersNamedAtHome dX2_areFoldersNamedAtHome_105 rfl rfl (fun q => ?_) (fun q => ?_)
  · replace h := h.1 q
    exact zw_weak2 h ⟨rfl, rfl, rfl, rfl, rfl, rfl, trivial⟩
  · replace h := h.2 q
    refine zw_go (pc1 := 109) (L1 := [some (.ref a0), some (.ref a1), some (.int x2), some (.int x3), some (.int x4), some (.int x5), some (.int x6)]) (st1 := [.ref a0]) (σ1 := σ) zM_X2_areFoldersNamedAtHome dX2_areFoldersNamedAtHome_108 rfl rfl rfl rfl ?_
    refine zw_getR (a := b2) zM_X2_areFoldersNamedAtHome dX2_areFoldersNamedAtHome_109 zF_2_9 rfl hk1 hr3 ?_
    refine zw_go (pc1 := 114) (L1 := [some (.ref a0), some (.ref a1), some (.int x2), some (.int x3), some (.int x4), some (.int x5), some (.int x6)]) (st1 := [.int x6, .ref b2]) (σ1 := σ) zM_X2_areFoldersNamedAtHome dX2_areFoldersNamedAtHome_112 rfl rfl rfl rfl ?_
    refine zw_go (pc1 := 115) (L1 := [some (.ref a0), some (.ref a1), some (.int x2), some (.int x3), some (.int x4), some (.int x5), some (.int x6)]) (st1 := [.int x6, .ref b2, .int x6, .ref b2]) (σ1 := σ) zM_X2_areFoldersNamedAtHome dX2_areFoldersNamedAtHome_114 rfl rfl rfl rfl ?_
    obtain ⟨hi5, h⟩ := h
    refine zw_iald zM_X2_areFoldersNamedAtHome dX2_areFoldersNamedAtHome_115 ⟨Or.inl hk4, hi5⟩ ?_
    refine zw_iconst (v := 1) zM_X2_areFoldersNamedAtHome dX2_areFoldersNamedAtHome_116 (by decide) ?_
    refine zw_go (pc1 := 118) (L1 := [some (.ref a0), some (.ref a1), some (.int x2), some (.int x3), some (.int x4), some (.int x5), some (.int x6)]) (st1 := [.int ((zI σ b2 (Int32.toNatClampNeg x6)) + 1), .int x6, .ref b2]) (σ1 := σ) zM_X2_areFoldersNamedAtHome dX2_areFoldersNamedAtHome_117 rfl rfl rfl rfl ?_
    obtain ⟨hi6, h⟩ := h
    obtain ⟨σ7, e8⟩ : ∃ z9 : zx_S, z9 = zx_pI σ b2 (Int32.toNatClampNeg x6) ((zI σ b2 (Int32.toNatClampNeg x6)) + 1) := ⟨_, rfl⟩
    replace h := h σ7 e8
    refine zw_iast zM_X2_areFoldersNamedAtHome dX2_areFoldersNamedAtHome_118 ⟨hk4, hi6⟩ e8 ?_
    exact zw_weak2 h ⟨rfl, rfl, rfl, rfl, rfl, rfl, trivial⟩
set_option maxHeartbeats 4000000 in
set_option maxRecDepth 100000 in
theorem vc_X2_areFoldersNamedAtHome_119 (a0 : Nat) (a1 : Nat) (x2 : Int32) (x3 : Int32) (x4 : Int32) (x5 : Int32) (σ : zx_S) (K : Int32 → zx_S → Prop) (h : zwI 52 55 [some (.ref a0), some (.ref a1), some (.int x2), some (.int x3), some (.int x4), some (.int (x5 + Int32.ofInt 1)), none] [] σ K) : zwI 52 119 [some (.ref a0), some (.ref a1), some (.int x2), some (.int x3), some (.int x4), some (.int x5), none] [] σ K := by
  refine zw_go (pc1 := 122) (L1 := [some (.ref a0), some (.ref a1), some (.int x2), some (.int x3), some (.int x4), some (.int (x5 + Int32.ofInt 1)), none]) (st1 := []) (σ1 := σ) zM_X2_areFoldersNamedAtHome dX2_areFoldersNamedAtHome_119 rfl rfl rfl rfl ?_
  refine zw_goto (tgt := 55) zM_X2_areFoldersNamedAtHome dX2_areFoldersNamedAtHome_122 rfl ?_
  exact zw_weak2 h ⟨rfl, rfl, rfl, rfl, rfl, rfl, trivial⟩
set_option maxHeartbeats 4000000 in
set_option maxRecDepth 100000 in
theorem vc_X2_areFoldersRight_0 (a0 : Nat) (σ : zx_S) (K : Int32 → zx_S → Prop) (h : zK σ a0 = 14 ∧ zwI 53 7 [some (.ref a0), some (.int (zI σ a0 5)), some (.int 1), none] [] σ K) : zwI 53 0 [some (.ref a0), none, none, none] [] σ K := by
  refine zw_go (pc1 := 1) (L1 := [some (.ref a0), none, none, none]) (st1 := [.ref a0]) (σ1 := σ) zM_X2_areFoldersRight dX2_areFoldersRight_0 rfl rfl rfl rfl ?_
  obtain ⟨hk1, h⟩ := h
  refine zw_getI zM_X2_areFoldersRight dX2_areFoldersRight_1 zF_2_64 rfl hk1 ?_
  refine zw_go (pc1 := 5) (L1 := [some (.ref a0), some (.int (zI σ a0 5)), none, none]) (st1 := []) (σ1 := σ) zM_X2_areFoldersRight dX2_areFoldersRight_4 rfl rfl rfl rfl ?_
  refine zw_iconst (v := 1) zM_X2_areFoldersRight dX2_areFoldersRight_5 (by decide) ?_
  refine zw_go (pc1 := 7) (L1 := [some (.ref a0), some (.int (zI σ a0 5)), some (.int 1), none]) (st1 := []) (σ1 := σ) zM_X2_areFoldersRight dX2_areFoldersRight_6 rfl rfl rfl rfl ?_
  exact zw_weak2 h ⟨rfl, rfl, rfl, trivial⟩
set_option maxHeartbeats 4000000 in
set_option maxRecDepth 100000 in
theorem vc_X2_areFoldersRight_7 (a0 : Nat) (x1 : Int32) (x2 : Int32) (σ : zx_S) (K : Int32 → zx_S → Prop) (h : zK σ a0 = 14 ∧ (((zI σ a0 3) < x2 → ((¬ x1 = (zI σ a0 6) → K 0 σ) ∧ (x1 = (zI σ a0 6) → K 1 σ))) ∧ (¬ (zI σ a0 3) < x2 → zwI 30 0 [some (.ref a0), some (.int x2)] [] σ (fun v3 σ2 => ((¬ v3 = (1 : Int32) → zwI 53 68 [some (.ref a0), some (.int x1), some (.int x2), none] [] σ2 K) ∧ (v3 = (1 : Int32) → zK σ2 a0 = 14 ∧ zwI 44 0 [some (.ref a0), some (.int x2), none, none] [] σ2 (fun v6 σ5 => zK σ5 a0 = 14 ∧ zwI 25 0 [some (.ref a0), some (.int x2)] [] σ5 (fun v9 σ8 => ((¬ v9 = x1 → K 0 σ8) ∧ (v9 = x1 → zK σ8 a0 = 14 ∧ (((zI σ8 a0 6) < (x1 + (4 * v6)) → K 0 σ8) ∧ (¬ (zI σ8 a0 6) < (x1 + (4 * v6)) → zwI 55 0 [some (.ref a0), some (.int x1), some (.int v6), none, none, none] [] σ8 (fun v12 σ11 => ((¬ v12 = (0 : Int32) → zwI 53 68 [some (.ref a0), some (.int (x1 + (4 * v6))), some (.int x2), none] [] σ11 K) ∧ (v12 = (0 : Int32) → K 0 σ11))))))))))))))) : zwI 53 7 [some (.ref a0), some (.int x1), some (.int x2), none] [] σ K := by
  refine zw_go (pc1 := 8) (L1 := [some (.ref a0), some (.int x1), some (.int x2), none]) (st1 := [.int x2]) (σ1 := σ) zM_X2_areFoldersRight dX2_areFoldersRight_7 rfl rfl rfl rfl ?_
  refine zw_go (pc1 := 9) (L1 := [some (.ref a0), some (.int x1), some (.int x2), none]) (st1 := [.ref a0, .int x2]) (σ1 := σ) zM_X2_areFoldersRight dX2_areFoldersRight_8 rfl rfl rfl rfl ?_
  obtain ⟨hk1, h⟩ := h
  refine zw_getI zM_X2_areFoldersRight dX2_areFoldersRight_9 zF_2_73 rfl hk1 ?_
  refine zw_icmp_gt (tgt := 74) zM_X2_areFoldersRight dX2_areFoldersRight_12 rfl rfl (fun q => ?_) (fun q => ?_)
  · replace h := h.1 q
    refine zw_go (pc1 := 75) (L1 := [some (.ref a0), some (.int x1), some (.int x2), none]) (st1 := [.int x1]) (σ1 := σ) zM_X2_areFoldersRight dX2_areFoldersRight_74 rfl rfl rfl rfl ?_
    refine zw_go (pc1 := 76) (L1 := [some (.ref a0), some (.int x1), some (.int x2), none]) (st1 := [.ref a0, .int x1]) (σ1 := σ) zM_X2_areFoldersRight dX2_areFoldersRight_75 rfl rfl rfl rfl ?_
    refine zw_getI zM_X2_areFoldersRight dX2_areFoldersRight_76 zF_2_67 rfl hk1 ?_
    refine zw_icmp_ne (tgt := 86) zM_X2_areFoldersRight dX2_areFoldersRight_79 rfl rfl (fun q => ?_) (fun q => ?_)
    · replace h := h.1 q
      refine zw_iconst (v := 0) zM_X2_areFoldersRight dX2_areFoldersRight_86 (by decide) ?_
      exact zw_retz zM_X2_areFoldersRight dX2_areFoldersRight_87 rfl (by decide) h
    · replace h := h.2 q
      refine zw_iconst (v := 1) zM_X2_areFoldersRight dX2_areFoldersRight_82 (by decide) ?_
      refine zw_goto (tgt := 87) zM_X2_areFoldersRight dX2_areFoldersRight_83 rfl ?_
      exact zw_retz zM_X2_areFoldersRight dX2_areFoldersRight_87 rfl (by decide) h
  · replace h := h.2 q
    refine zw_go (pc1 := 16) (L1 := [some (.ref a0), some (.int x1), some (.int x2), none]) (st1 := [.ref a0]) (σ1 := σ) zM_X2_areFoldersRight dX2_areFoldersRight_15 rfl rfl rfl rfl ?_
    refine zw_go (pc1 := 17) (L1 := [some (.ref a0), some (.int x1), some (.int x2), none]) (st1 := [.int x2, .ref a0]) (σ1 := σ) zM_X2_areFoldersRight dX2_areFoldersRight_16 rfl rfl rfl rfl ?_
    refine zw_callI (as := [.ref a0, .int x2]) (rest := []) zM_X2_areFoldersRight dX2_areFoldersRight_17 (zx_calV zC_2_107) zM_X1_kindOf rfl rfl rfl rfl rfl (zx_args0 hk1 rfl) rfl h (fun v3 σ2 h => ?_)
    refine zw_iconst (v := 1) zM_X2_areFoldersRight dX2_areFoldersRight_20 (by decide) ?_
    refine zw_icmp_ne (tgt := 68) zM_X2_areFoldersRight dX2_areFoldersRight_21 rfl rfl (fun q => ?_) (fun q => ?_)
    · replace h := h.1 q
      exact zw_weak2 h ⟨rfl, rfl, rfl, trivial⟩
    · replace h := h.2 q
      refine zw_go (pc1 := 25) (L1 := [some (.ref a0), some (.int x1), some (.int x2), none]) (st1 := [.ref a0]) (σ1 := σ2) zM_X2_areFoldersRight dX2_areFoldersRight_24 rfl rfl rfl rfl ?_
      refine zw_go (pc1 := 26) (L1 := [some (.ref a0), some (.int x1), some (.int x2), none]) (st1 := [.int x2, .ref a0]) (σ1 := σ2) zM_X2_areFoldersRight dX2_areFoldersRight_25 rfl rfl rfl rfl ?_
      obtain ⟨hk4, h⟩ := h
      refine zw_callI (as := [.ref a0, .int x2]) (rest := []) zM_X2_areFoldersRight dX2_areFoldersRight_26 (zx_calV zC_2_110) zM_X1_sizeOf rfl rfl rfl rfl rfl (zx_args0 hk4 rfl) rfl h (fun v6 σ5 h => ?_)
      refine zw_go (pc1 := 30) (L1 := [some (.ref a0), some (.int x1), some (.int x2), some (.int v6)]) (st1 := []) (σ1 := σ5) zM_X2_areFoldersRight dX2_areFoldersRight_29 rfl rfl rfl rfl ?_
      refine zw_go (pc1 := 31) (L1 := [some (.ref a0), some (.int x1), some (.int x2), some (.int v6)]) (st1 := [.ref a0]) (σ1 := σ5) zM_X2_areFoldersRight dX2_areFoldersRight_30 rfl rfl rfl rfl ?_
      refine zw_go (pc1 := 32) (L1 := [some (.ref a0), some (.int x1), some (.int x2), some (.int v6)]) (st1 := [.int x2, .ref a0]) (σ1 := σ5) zM_X2_areFoldersRight dX2_areFoldersRight_31 rfl rfl rfl rfl ?_
      obtain ⟨hk7, h⟩ := h
      refine zw_callI (as := [.ref a0, .int x2]) (rest := []) zM_X2_areFoldersRight dX2_areFoldersRight_32 (zx_calV zC_2_113) zM_X1_firstNamePlace rfl rfl rfl rfl rfl (zx_args0 hk7 rfl) rfl h (fun v9 σ8 h => ?_)
      refine zw_go (pc1 := 36) (L1 := [some (.ref a0), some (.int x1), some (.int x2), some (.int v6)]) (st1 := [.int x1, .int v9]) (σ1 := σ8) zM_X2_areFoldersRight dX2_areFoldersRight_35 rfl rfl rfl rfl ?_
      refine zw_icmp_ne (tgt := 60) zM_X2_areFoldersRight dX2_areFoldersRight_36 rfl rfl (fun q => ?_) (fun q => ?_)
      · replace h := h.1 q
        refine zw_iconst (v := 0) zM_X2_areFoldersRight dX2_areFoldersRight_60 (by decide) ?_
        exact zw_retz zM_X2_areFoldersRight dX2_areFoldersRight_61 rfl (by decide) h
      · replace h := h.2 q
        refine zw_go (pc1 := 40) (L1 := [some (.ref a0), some (.int x1), some (.int x2), some (.int v6)]) (st1 := [.int x1]) (σ1 := σ8) zM_X2_areFoldersRight dX2_areFoldersRight_39 rfl rfl rfl rfl ?_
        refine zw_iconst (v := 4) zM_X2_areFoldersRight dX2_areFoldersRight_40 (by decide) ?_
        refine zw_go (pc1 := 42) (L1 := [some (.ref a0), some (.int x1), some (.int x2), some (.int v6)]) (st1 := [.int v6, .int 4, .int x1]) (σ1 := σ8) zM_X2_areFoldersRight dX2_areFoldersRight_41 rfl rfl rfl rfl ?_
        refine zw_go (pc1 := 43) (L1 := [some (.ref a0), some (.int x1), some (.int x2), some (.int v6)]) (st1 := [.int (4 * v6), .int x1]) (σ1 := σ8) zM_X2_areFoldersRight dX2_areFoldersRight_42 rfl rfl rfl rfl ?_
        refine zw_go (pc1 := 44) (L1 := [some (.ref a0), some (.int x1), some (.int x2), some (.int v6)]) (st1 := [.int (x1 + (4 * v6))]) (σ1 := σ8) zM_X2_areFoldersRight dX2_areFoldersRight_43 rfl rfl rfl rfl ?_
        refine zw_go (pc1 := 45) (L1 := [some (.ref a0), some (.int x1), some (.int x2), some (.int v6)]) (st1 := [.ref a0, .int (x1 + (4 * v6))]) (σ1 := σ8) zM_X2_areFoldersRight dX2_areFoldersRight_44 rfl rfl rfl rfl ?_
        obtain ⟨hk10, h⟩ := h
        refine zw_getI zM_X2_areFoldersRight dX2_areFoldersRight_45 zF_2_67 rfl hk10 ?_
        refine zw_icmp_gt (tgt := 60) zM_X2_areFoldersRight dX2_areFoldersRight_48 rfl rfl (fun q => ?_) (fun q => ?_)
        · replace h := h.1 q
          refine zw_iconst (v := 0) zM_X2_areFoldersRight dX2_areFoldersRight_60 (by decide) ?_
          exact zw_retz zM_X2_areFoldersRight dX2_areFoldersRight_61 rfl (by decide) h
        · replace h := h.2 q
          refine zw_go (pc1 := 52) (L1 := [some (.ref a0), some (.int x1), some (.int x2), some (.int v6)]) (st1 := [.ref a0]) (σ1 := σ8) zM_X2_areFoldersRight dX2_areFoldersRight_51 rfl rfl rfl rfl ?_
          refine zw_go (pc1 := 53) (L1 := [some (.ref a0), some (.int x1), some (.int x2), some (.int v6)]) (st1 := [.int x1, .ref a0]) (σ1 := σ8) zM_X2_areFoldersRight dX2_areFoldersRight_52 rfl rfl rfl rfl ?_
          refine zw_go (pc1 := 54) (L1 := [some (.ref a0), some (.int x1), some (.int x2), some (.int v6)]) (st1 := [.int v6, .int x1, .ref a0]) (σ1 := σ8) zM_X2_areFoldersRight dX2_areFoldersRight_53 rfl rfl rfl rfl ?_
          refine zw_callI (as := [.ref a0, .int x1, .int v6]) (rest := []) zM_X2_areFoldersRight dX2_areFoldersRight_54 (zx_calS zC_2_116) zM_X2_areNamesRight rfl rfl rfl rfl rfl rfl rfl h (fun v12 σ11 h => ?_)
          refine zw_if_ne (tgt := 62) zM_X2_areFoldersRight dX2_areFoldersRight_57 rfl rfl (fun q => ?_) (fun q => ?_)
          · replace h := h.1 q
            refine zw_go (pc1 := 63) (L1 := [some (.ref a0), some (.int x1), some (.int x2), some (.int v6)]) (st1 := [.int x1]) (σ1 := σ11) zM_X2_areFoldersRight dX2_areFoldersRight_62 rfl rfl rfl rfl ?_
            refine zw_iconst (v := 4) zM_X2_areFoldersRight dX2_areFoldersRight_63 (by decide) ?_
            refine zw_go (pc1 := 65) (L1 := [some (.ref a0), some (.int x1), some (.int x2), some (.int v6)]) (st1 := [.int v6, .int 4, .int x1]) (σ1 := σ11) zM_X2_areFoldersRight dX2_areFoldersRight_64 rfl rfl rfl rfl ?_
            refine zw_go (pc1 := 66) (L1 := [some (.ref a0), some (.int x1), some (.int x2), some (.int v6)]) (st1 := [.int (4 * v6), .int x1]) (σ1 := σ11) zM_X2_areFoldersRight dX2_areFoldersRight_65 rfl rfl rfl rfl ?_
            refine zw_go (pc1 := 67) (L1 := [some (.ref a0), some (.int x1), some (.int x2), some (.int v6)]) (st1 := [.int (x1 + (4 * v6))]) (σ1 := σ11) zM_X2_areFoldersRight dX2_areFoldersRight_66 rfl rfl rfl rfl ?_
            refine zw_go (pc1 := 68) (L1 := [some (.ref a0), some (.int (x1 + (4 * v6))), some (.int x2), some (.int v6)]) (st1 := []) (σ1 := σ11) zM_X2_areFoldersRight dX2_areFoldersRight_67 rfl rfl rfl rfl ?_
            exact zw_weak2 h ⟨rfl, rfl, rfl, trivial⟩
          · replace h := h.2 q
            refine zw_iconst (v := 0) zM_X2_areFoldersRight dX2_areFoldersRight_60 (by decide) ?_
            exact zw_retz zM_X2_areFoldersRight dX2_areFoldersRight_61 rfl (by decide) h
set_option maxHeartbeats 4000000 in
set_option maxRecDepth 100000 in
theorem vc_X2_areFoldersRight_68 (a0 : Nat) (x1 : Int32) (x2 : Int32) (σ : zx_S) (K : Int32 → zx_S → Prop) (h : zwI 53 7 [some (.ref a0), some (.int x1), some (.int (x2 + Int32.ofInt 1)), none] [] σ K) : zwI 53 68 [some (.ref a0), some (.int x1), some (.int x2), none] [] σ K := by
  refine zw_go (pc1 := 71) (L1 := [some (.ref a0), some (.int x1), some (.int (x2 + Int32.ofInt 1)), none]) (st1 := []) (σ1 := σ) zM_X2_areFoldersRight dX2_areFoldersRight_68 rfl rfl rfl rfl ?_
  refine zw_goto (tgt := 7) zM_X2_areFoldersRight dX2_areFoldersRight_71 rfl ?_
  exact zw_weak2 h ⟨rfl, rfl, rfl, trivial⟩
set_option maxHeartbeats 4000000 in
set_option maxRecDepth 100000 in
theorem vc_X2_areInodesRight_0 (a0 : Nat) (σ : zx_S) (K : Int32 → zx_S → Prop) (h : zK σ a0 = 14 ∧ zwI 54 7 [some (.ref a0), some (.int (zI σ a0 4)), some (.int 1), none] [] σ K) : zwI 54 0 [some (.ref a0), none, none, none] [] σ K := by
  refine zw_go (pc1 := 1) (L1 := [some (.ref a0), none, none, none]) (st1 := [.ref a0]) (σ1 := σ) zM_X2_areInodesRight dX2_areInodesRight_0 rfl rfl rfl rfl ?_
  obtain ⟨hk1, h⟩ := h
  refine zw_getI zM_X2_areInodesRight dX2_areInodesRight_1 zF_2_61 rfl hk1 ?_
  refine zw_go (pc1 := 5) (L1 := [some (.ref a0), some (.int (zI σ a0 4)), none, none]) (st1 := []) (σ1 := σ) zM_X2_areInodesRight dX2_areInodesRight_4 rfl rfl rfl rfl ?_
  refine zw_iconst (v := 1) zM_X2_areInodesRight dX2_areInodesRight_5 (by decide) ?_
  refine zw_go (pc1 := 7) (L1 := [some (.ref a0), some (.int (zI σ a0 4)), some (.int 1), none]) (st1 := []) (σ1 := σ) zM_X2_areInodesRight dX2_areInodesRight_6 rfl rfl rfl rfl ?_
  exact zw_weak2 h ⟨rfl, rfl, rfl, trivial⟩
set_option maxHeartbeats 4000000 in
set_option maxRecDepth 100000 in
theorem vc_X2_areInodesRight_7 (a0 : Nat) (x1 : Int32) (x2 : Int32) (σ : zx_S) (K : Int32 → zx_S → Prop) (h : zK σ a0 = 14 ∧ (((zI σ a0 3) < x2 → ((¬ x1 = (zI σ a0 5) → K 0 σ) ∧ (x1 = (zI σ a0 5) → K 1 σ))) ∧ (¬ (zI σ a0 3) < x2 → zwI 65 0 [some (.ref a0), some (.int x1)] [] σ (fun v3 σ2 => zK σ2 a0 = 14 ∧ zwI 42 0 [some (.ref a0), some (.int x2)] [] σ2 (fun v6 σ5 => ((¬ v6 = x1 → K 0 σ5) ∧ (v6 = x1 → ((v3 = (0 : Int32) → K 0 σ5) ∧ (¬ v3 = (0 : Int32) → zK σ5 a0 = 14 ∧ (((x1 + v3) ≤ (zI σ5 a0 5) → zwI 21 0 [some (.ref a0), some (.int x1)] [] σ5 (fun v9 σ8 => ((¬ v9 = (2 : Int32) → zwI 54 65 [some (.ref a0), some (.int x1), some (.int x2), some (.int v3)] [] σ8 K) ∧ (v9 = (2 : Int32) → zwI 61 0 [some (.ref a0), some (.int x1), none, none, none, none, none] [] σ8 (fun v11 σ10 => ((¬ v11 = (0 : Int32) → zwI 54 65 [some (.ref a0), some (.int x1), some (.int x2), some (.int v3)] [] σ10 K) ∧ (v11 = (0 : Int32) → K 0 σ10))))))) ∧ (¬ (x1 + v3) ≤ (zI σ5 a0 5) → K 0 σ5))))))))))) : zwI 54 7 [some (.ref a0), some (.int x1), some (.int x2), none] [] σ K := by
  refine zw_go (pc1 := 8) (L1 := [some (.ref a0), some (.int x1), some (.int x2), none]) (st1 := [.int x2]) (σ1 := σ) zM_X2_areInodesRight dX2_areInodesRight_7 rfl rfl rfl rfl ?_
  refine zw_go (pc1 := 9) (L1 := [some (.ref a0), some (.int x1), some (.int x2), none]) (st1 := [.ref a0, .int x2]) (σ1 := σ) zM_X2_areInodesRight dX2_areInodesRight_8 rfl rfl rfl rfl ?_
  obtain ⟨hk1, h⟩ := h
  refine zw_getI zM_X2_areInodesRight dX2_areInodesRight_9 zF_2_73 rfl hk1 ?_
  refine zw_icmp_gt (tgt := 75) zM_X2_areInodesRight dX2_areInodesRight_12 rfl rfl (fun q => ?_) (fun q => ?_)
  · replace h := h.1 q
    refine zw_go (pc1 := 76) (L1 := [some (.ref a0), some (.int x1), some (.int x2), none]) (st1 := [.int x1]) (σ1 := σ) zM_X2_areInodesRight dX2_areInodesRight_75 rfl rfl rfl rfl ?_
    refine zw_go (pc1 := 77) (L1 := [some (.ref a0), some (.int x1), some (.int x2), none]) (st1 := [.ref a0, .int x1]) (σ1 := σ) zM_X2_areInodesRight dX2_areInodesRight_76 rfl rfl rfl rfl ?_
    refine zw_getI zM_X2_areInodesRight dX2_areInodesRight_77 zF_2_64 rfl hk1 ?_
    refine zw_icmp_ne (tgt := 87) zM_X2_areInodesRight dX2_areInodesRight_80 rfl rfl (fun q => ?_) (fun q => ?_)
    · replace h := h.1 q
      refine zw_iconst (v := 0) zM_X2_areInodesRight dX2_areInodesRight_87 (by decide) ?_
      exact zw_retz zM_X2_areInodesRight dX2_areInodesRight_88 rfl (by decide) h
    · replace h := h.2 q
      refine zw_iconst (v := 1) zM_X2_areInodesRight dX2_areInodesRight_83 (by decide) ?_
      refine zw_goto (tgt := 88) zM_X2_areInodesRight dX2_areInodesRight_84 rfl ?_
      exact zw_retz zM_X2_areInodesRight dX2_areInodesRight_88 rfl (by decide) h
  · replace h := h.2 q
    refine zw_go (pc1 := 16) (L1 := [some (.ref a0), some (.int x1), some (.int x2), none]) (st1 := [.ref a0]) (σ1 := σ) zM_X2_areInodesRight dX2_areInodesRight_15 rfl rfl rfl rfl ?_
    refine zw_go (pc1 := 17) (L1 := [some (.ref a0), some (.int x1), some (.int x2), none]) (st1 := [.int x1, .ref a0]) (σ1 := σ) zM_X2_areInodesRight dX2_areInodesRight_16 rfl rfl rfl rfl ?_
    refine zw_callI (as := [.ref a0, .int x1]) (rest := []) zM_X2_areInodesRight dX2_areInodesRight_17 (zx_calS zC_2_86) zM_X2_rowBytes rfl rfl rfl rfl rfl rfl rfl h (fun v3 σ2 h => ?_)
    refine zw_go (pc1 := 21) (L1 := [some (.ref a0), some (.int x1), some (.int x2), some (.int v3)]) (st1 := []) (σ1 := σ2) zM_X2_areInodesRight dX2_areInodesRight_20 rfl rfl rfl rfl ?_
    refine zw_go (pc1 := 22) (L1 := [some (.ref a0), some (.int x1), some (.int x2), some (.int v3)]) (st1 := [.ref a0]) (σ1 := σ2) zM_X2_areInodesRight dX2_areInodesRight_21 rfl rfl rfl rfl ?_
    refine zw_go (pc1 := 23) (L1 := [some (.ref a0), some (.int x1), some (.int x2), some (.int v3)]) (st1 := [.int x2, .ref a0]) (σ1 := σ2) zM_X2_areInodesRight dX2_areInodesRight_22 rfl rfl rfl rfl ?_
    obtain ⟨hk4, h⟩ := h
    refine zw_callI (as := [.ref a0, .int x2]) (rest := []) zM_X2_areInodesRight dX2_areInodesRight_23 (zx_calV zC_2_90) zM_X1_rowOf rfl rfl rfl rfl rfl (zx_args0 hk4 rfl) rfl h (fun v6 σ5 h => ?_)
    refine zw_go (pc1 := 27) (L1 := [some (.ref a0), some (.int x1), some (.int x2), some (.int v3)]) (st1 := [.int x1, .int v6]) (σ1 := σ5) zM_X2_areInodesRight dX2_areInodesRight_26 rfl rfl rfl rfl ?_
    refine zw_icmp_ne (tgt := 44) zM_X2_areInodesRight dX2_areInodesRight_27 rfl rfl (fun q => ?_) (fun q => ?_)
    · replace h := h.1 q
      refine zw_iconst (v := 0) zM_X2_areInodesRight dX2_areInodesRight_44 (by decide) ?_
      exact zw_retz zM_X2_areInodesRight dX2_areInodesRight_45 rfl (by decide) h
    · replace h := h.2 q
      refine zw_go (pc1 := 31) (L1 := [some (.ref a0), some (.int x1), some (.int x2), some (.int v3)]) (st1 := [.int v3]) (σ1 := σ5) zM_X2_areInodesRight dX2_areInodesRight_30 rfl rfl rfl rfl ?_
      refine zw_if_eq (tgt := 44) zM_X2_areInodesRight dX2_areInodesRight_31 rfl rfl (fun q => ?_) (fun q => ?_)
      · replace h := h.1 q
        refine zw_iconst (v := 0) zM_X2_areInodesRight dX2_areInodesRight_44 (by decide) ?_
        exact zw_retz zM_X2_areInodesRight dX2_areInodesRight_45 rfl (by decide) h
      · replace h := h.2 q
        refine zw_go (pc1 := 35) (L1 := [some (.ref a0), some (.int x1), some (.int x2), some (.int v3)]) (st1 := [.int x1]) (σ1 := σ5) zM_X2_areInodesRight dX2_areInodesRight_34 rfl rfl rfl rfl ?_
        refine zw_go (pc1 := 36) (L1 := [some (.ref a0), some (.int x1), some (.int x2), some (.int v3)]) (st1 := [.int v3, .int x1]) (σ1 := σ5) zM_X2_areInodesRight dX2_areInodesRight_35 rfl rfl rfl rfl ?_
        refine zw_go (pc1 := 37) (L1 := [some (.ref a0), some (.int x1), some (.int x2), some (.int v3)]) (st1 := [.int (x1 + v3)]) (σ1 := σ5) zM_X2_areInodesRight dX2_areInodesRight_36 rfl rfl rfl rfl ?_
        refine zw_go (pc1 := 38) (L1 := [some (.ref a0), some (.int x1), some (.int x2), some (.int v3)]) (st1 := [.ref a0, .int (x1 + v3)]) (σ1 := σ5) zM_X2_areInodesRight dX2_areInodesRight_37 rfl rfl rfl rfl ?_
        obtain ⟨hk7, h⟩ := h
        refine zw_getI zM_X2_areInodesRight dX2_areInodesRight_38 zF_2_64 rfl hk7 ?_
        refine zw_icmp_le (tgt := 46) zM_X2_areInodesRight dX2_areInodesRight_41 rfl rfl (fun q => ?_) (fun q => ?_)
        · replace h := h.1 q
          refine zw_go (pc1 := 47) (L1 := [some (.ref a0), some (.int x1), some (.int x2), some (.int v3)]) (st1 := [.ref a0]) (σ1 := σ5) zM_X2_areInodesRight dX2_areInodesRight_46 rfl rfl rfl rfl ?_
          refine zw_go (pc1 := 48) (L1 := [some (.ref a0), some (.int x1), some (.int x2), some (.int v3)]) (st1 := [.int x1, .ref a0]) (σ1 := σ5) zM_X2_areInodesRight dX2_areInodesRight_47 rfl rfl rfl rfl ?_
          refine zw_callI (as := [.ref a0, .int x1]) (rest := []) zM_X2_areInodesRight dX2_areInodesRight_48 (zx_calV zC_2_51) zM_X1_byteAt rfl rfl rfl rfl rfl (zx_args0 hk7 rfl) rfl h (fun v9 σ8 h => ?_)
          refine zw_iconst (v := 2) zM_X2_areInodesRight dX2_areInodesRight_51 (by decide) ?_
          refine zw_icmp_ne (tgt := 65) zM_X2_areInodesRight dX2_areInodesRight_52 rfl rfl (fun q => ?_) (fun q => ?_)
          · replace h := h.1 q
            exact zw_weak2 h ⟨rfl, rfl, rfl, rfl, trivial⟩
          · replace h := h.2 q
            refine zw_go (pc1 := 56) (L1 := [some (.ref a0), some (.int x1), some (.int x2), some (.int v3)]) (st1 := [.ref a0]) (σ1 := σ8) zM_X2_areInodesRight dX2_areInodesRight_55 rfl rfl rfl rfl ?_
            refine zw_go (pc1 := 57) (L1 := [some (.ref a0), some (.int x1), some (.int x2), some (.int v3)]) (st1 := [.int x1, .ref a0]) (σ1 := σ8) zM_X2_areInodesRight dX2_areInodesRight_56 rfl rfl rfl rfl ?_
            refine zw_callI (as := [.ref a0, .int x1]) (rest := []) zM_X2_areInodesRight dX2_areInodesRight_57 (zx_calS zC_2_93) zM_X2_isFileRight rfl rfl rfl rfl rfl rfl rfl h (fun v11 σ10 h => ?_)
            refine zw_if_ne (tgt := 65) zM_X2_areInodesRight dX2_areInodesRight_60 rfl rfl (fun q => ?_) (fun q => ?_)
            · replace h := h.1 q
              exact zw_weak2 h ⟨rfl, rfl, rfl, rfl, trivial⟩
            · replace h := h.2 q
              refine zw_iconst (v := 0) zM_X2_areInodesRight dX2_areInodesRight_63 (by decide) ?_
              exact zw_retz zM_X2_areInodesRight dX2_areInodesRight_64 rfl (by decide) h
        · replace h := h.2 q
          refine zw_iconst (v := 0) zM_X2_areInodesRight dX2_areInodesRight_44 (by decide) ?_
          exact zw_retz zM_X2_areInodesRight dX2_areInodesRight_45 rfl (by decide) h
set_option maxHeartbeats 4000000 in
set_option maxRecDepth 100000 in
theorem vc_X2_areInodesRight_65 (a0 : Nat) (x1 : Int32) (x2 : Int32) (x3 : Int32) (σ : zx_S) (K : Int32 → zx_S → Prop) (h : zwI 54 7 [some (.ref a0), some (.int (x1 + x3)), some (.int (x2 + Int32.ofInt 1)), none] [] σ K) : zwI 54 65 [some (.ref a0), some (.int x1), some (.int x2), some (.int x3)] [] σ K := by
  refine zw_go (pc1 := 66) (L1 := [some (.ref a0), some (.int x1), some (.int x2), some (.int x3)]) (st1 := [.int x1]) (σ1 := σ) zM_X2_areInodesRight dX2_areInodesRight_65 rfl rfl rfl rfl ?_
  refine zw_go (pc1 := 67) (L1 := [some (.ref a0), some (.int x1), some (.int x2), some (.int x3)]) (st1 := [.int x3, .int x1]) (σ1 := σ) zM_X2_areInodesRight dX2_areInodesRight_66 rfl rfl rfl rfl ?_
  refine zw_go (pc1 := 68) (L1 := [some (.ref a0), some (.int x1), some (.int x2), some (.int x3)]) (st1 := [.int (x1 + x3)]) (σ1 := σ) zM_X2_areInodesRight dX2_areInodesRight_67 rfl rfl rfl rfl ?_
  refine zw_go (pc1 := 69) (L1 := [some (.ref a0), some (.int (x1 + x3)), some (.int x2), some (.int x3)]) (st1 := []) (σ1 := σ) zM_X2_areInodesRight dX2_areInodesRight_68 rfl rfl rfl rfl ?_
  refine zw_go (pc1 := 72) (L1 := [some (.ref a0), some (.int (x1 + x3)), some (.int (x2 + Int32.ofInt 1)), some (.int x3)]) (st1 := []) (σ1 := σ) zM_X2_areInodesRight dX2_areInodesRight_69 rfl rfl rfl rfl ?_
  refine zw_goto (tgt := 7) zM_X2_areInodesRight dX2_areInodesRight_72 rfl ?_
  exact zw_weak2 h ⟨rfl, rfl, rfl, trivial⟩
set_option maxHeartbeats 4000000 in
set_option maxRecDepth 100000 in
theorem vc_X2_areNamesRight_0 (a0 : Nat) (x1 : Int32) (x2 : Int32) (σ : zx_S) (K : Int32 → zx_S → Prop) (h : zwI 55 5 [some (.ref a0), some (.int x1), some (.int x2), some (.int 0), some (.int 0), none] [] σ K) : zwI 55 0 [some (.ref a0), some (.int x1), some (.int x2), none, none, none] [] σ K := by
  refine zw_iconst (v := 0) zM_X2_areNamesRight dX2_areNamesRight_0 (by decide) ?_
  refine zw_go (pc1 := 2) (L1 := [some (.ref a0), some (.int x1), some (.int x2), some (.int 0), none, none]) (st1 := []) (σ1 := σ) zM_X2_areNamesRight dX2_areNamesRight_1 rfl rfl rfl rfl ?_
  refine zw_iconst (v := 0) zM_X2_areNamesRight dX2_areNamesRight_2 (by decide) ?_
  refine zw_go (pc1 := 5) (L1 := [some (.ref a0), some (.int x1), some (.int x2), some (.int 0), some (.int 0), none]) (st1 := []) (σ1 := σ) zM_X2_areNamesRight dX2_areNamesRight_3 rfl rfl rfl rfl ?_
  exact zw_weak2 h ⟨rfl, rfl, rfl, rfl, rfl, trivial⟩
set_option maxHeartbeats 4000000 in
set_option maxRecDepth 100000 in
theorem vc_X2_areNamesRight_5 (a0 : Nat) (x1 : Int32) (x2 : Int32) (x3 : Int32) (x4 : Int32) (σ : zx_S) (K : Int32 → zx_S → Prop) (h : ((x2 ≤ x4 → K 1 σ) ∧ (¬ x2 ≤ x4 → zK σ a0 = 14 ∧ zwI 51 0 [some (.ref a0), some (.int (x1 + (4 * x4)))] [] σ (fun v3 σ2 => ((v3 ≤ x3 → K 0 σ2) ∧ (¬ v3 ≤ x3 → (((999 : Int32) < v3 → K 0 σ2) ∧ (¬ (999 : Int32) < v3 → zK σ2 a0 = 14 ∧ zwI 51 0 [some (.ref a0), some (.int ((x1 + (4 * x4)) + 2))] [] σ2 (fun v6 σ5 => zK σ5 a0 = 14 ∧ zwI 27 0 [some (.ref a0), some (.int v6)] [] σ5 (fun v9 σ8 => ((¬ v9 = (0 : Int32) → zwI 55 5 [some (.ref a0), some (.int x1), some (.int x2), some (.int v3), some (.int (x4 + Int32.ofInt 1)), none] [] σ8 K) ∧ (v9 = (0 : Int32) → K 0 σ8)))))))))))) : zwI 55 5 [some (.ref a0), some (.int x1), some (.int x2), some (.int x3), some (.int x4), none] [] σ K := by
  refine zw_go (pc1 := 7) (L1 := [some (.ref a0), some (.int x1), some (.int x2), some (.int x3), some (.int x4), none]) (st1 := [.int x4]) (σ1 := σ) zM_X2_areNamesRight dX2_areNamesRight_5 rfl rfl rfl rfl ?_
  refine zw_go (pc1 := 8) (L1 := [some (.ref a0), some (.int x1), some (.int x2), some (.int x3), some (.int x4), none]) (st1 := [.int x2, .int x4]) (σ1 := σ) zM_X2_areNamesRight dX2_areNamesRight_7 rfl rfl rfl rfl ?_
  refine zw_icmp_ge (tgt := 67) zM_X2_areNamesRight dX2_areNamesRight_8 rfl rfl (fun q => ?_) (fun q => ?_)
  · replace h := h.1 q
    refine zw_iconst (v := 1) zM_X2_areNamesRight dX2_areNamesRight_67 (by decide) ?_
    exact zw_retz zM_X2_areNamesRight dX2_areNamesRight_68 rfl (by decide) h
  · replace h := h.2 q
    refine zw_go (pc1 := 12) (L1 := [some (.ref a0), some (.int x1), some (.int x2), some (.int x3), some (.int x4), none]) (st1 := [.ref a0]) (σ1 := σ) zM_X2_areNamesRight dX2_areNamesRight_11 rfl rfl rfl rfl ?_
    refine zw_go (pc1 := 13) (L1 := [some (.ref a0), some (.int x1), some (.int x2), some (.int x3), some (.int x4), none]) (st1 := [.int x1, .ref a0]) (σ1 := σ) zM_X2_areNamesRight dX2_areNamesRight_12 rfl rfl rfl rfl ?_
    refine zw_iconst (v := 4) zM_X2_areNamesRight dX2_areNamesRight_13 (by decide) ?_
    refine zw_go (pc1 := 16) (L1 := [some (.ref a0), some (.int x1), some (.int x2), some (.int x3), some (.int x4), none]) (st1 := [.int x4, .int 4, .int x1, .ref a0]) (σ1 := σ) zM_X2_areNamesRight dX2_areNamesRight_14 rfl rfl rfl rfl ?_
    refine zw_go (pc1 := 17) (L1 := [some (.ref a0), some (.int x1), some (.int x2), some (.int x3), some (.int x4), none]) (st1 := [.int (4 * x4), .int x1, .ref a0]) (σ1 := σ) zM_X2_areNamesRight dX2_areNamesRight_16 rfl rfl rfl rfl ?_
    refine zw_go (pc1 := 18) (L1 := [some (.ref a0), some (.int x1), some (.int x2), some (.int x3), some (.int x4), none]) (st1 := [.int (x1 + (4 * x4)), .ref a0]) (σ1 := σ) zM_X2_areNamesRight dX2_areNamesRight_17 rfl rfl rfl rfl ?_
    obtain ⟨hk1, h⟩ := h
    refine zw_callI (as := [.ref a0, .int (x1 + (4 * x4))]) (rest := []) zM_X2_areNamesRight dX2_areNamesRight_18 (zx_calV zC_2_27) zM_X1_wordAt rfl rfl rfl rfl rfl (zx_args0 hk1 rfl) rfl h (fun v3 σ2 h => ?_)
    refine zw_go (pc1 := 23) (L1 := [some (.ref a0), some (.int x1), some (.int x2), some (.int x3), some (.int x4), some (.int v3)]) (st1 := []) (σ1 := σ2) zM_X2_areNamesRight dX2_areNamesRight_21 rfl rfl rfl rfl ?_
    refine zw_go (pc1 := 25) (L1 := [some (.ref a0), some (.int x1), some (.int x2), some (.int x3), some (.int x4), some (.int v3)]) (st1 := [.int v3]) (σ1 := σ2) zM_X2_areNamesRight dX2_areNamesRight_23 rfl rfl rfl rfl ?_
    refine zw_go (pc1 := 26) (L1 := [some (.ref a0), some (.int x1), some (.int x2), some (.int x3), some (.int x4), some (.int v3)]) (st1 := [.int x3, .int v3]) (σ1 := σ2) zM_X2_areNamesRight dX2_areNamesRight_25 rfl rfl rfl rfl ?_
    refine zw_icmp_le (tgt := 56) zM_X2_areNamesRight dX2_areNamesRight_26 rfl rfl (fun q => ?_) (fun q => ?_)
    · replace h := h.1 q
      refine zw_iconst (v := 0) zM_X2_areNamesRight dX2_areNamesRight_56 (by decide) ?_
      exact zw_retz zM_X2_areNamesRight dX2_areNamesRight_57 rfl (by decide) h
    · replace h := h.2 q
      refine zw_go (pc1 := 31) (L1 := [some (.ref a0), some (.int x1), some (.int x2), some (.int x3), some (.int x4), some (.int v3)]) (st1 := [.int v3]) (σ1 := σ2) zM_X2_areNamesRight dX2_areNamesRight_29 rfl rfl rfl rfl ?_
      refine zw_sipush (v := 999) zM_X2_areNamesRight dX2_areNamesRight_31 (by decide) ?_
      refine zw_icmp_gt (tgt := 56) zM_X2_areNamesRight dX2_areNamesRight_34 rfl rfl (fun q => ?_) (fun q => ?_)
      · replace h := h.1 q
        refine zw_iconst (v := 0) zM_X2_areNamesRight dX2_areNamesRight_56 (by decide) ?_
        exact zw_retz zM_X2_areNamesRight dX2_areNamesRight_57 rfl (by decide) h
      · replace h := h.2 q
        refine zw_go (pc1 := 38) (L1 := [some (.ref a0), some (.int x1), some (.int x2), some (.int x3), some (.int x4), some (.int v3)]) (st1 := [.ref a0]) (σ1 := σ2) zM_X2_areNamesRight dX2_areNamesRight_37 rfl rfl rfl rfl ?_
        refine zw_go (pc1 := 39) (L1 := [some (.ref a0), some (.int x1), some (.int x2), some (.int x3), some (.int x4), some (.int v3)]) (st1 := [.ref a0, .ref a0]) (σ1 := σ2) zM_X2_areNamesRight dX2_areNamesRight_38 rfl rfl rfl rfl ?_
        refine zw_go (pc1 := 40) (L1 := [some (.ref a0), some (.int x1), some (.int x2), some (.int x3), some (.int x4), some (.int v3)]) (st1 := [.int x1, .ref a0, .ref a0]) (σ1 := σ2) zM_X2_areNamesRight dX2_areNamesRight_39 rfl rfl rfl rfl ?_
        refine zw_iconst (v := 4) zM_X2_areNamesRight dX2_areNamesRight_40 (by decide) ?_
        refine zw_go (pc1 := 43) (L1 := [some (.ref a0), some (.int x1), some (.int x2), some (.int x3), some (.int x4), some (.int v3)]) (st1 := [.int x4, .int 4, .int x1, .ref a0, .ref a0]) (σ1 := σ2) zM_X2_areNamesRight dX2_areNamesRight_41 rfl rfl rfl rfl ?_
        refine zw_go (pc1 := 44) (L1 := [some (.ref a0), some (.int x1), some (.int x2), some (.int x3), some (.int x4), some (.int v3)]) (st1 := [.int (4 * x4), .int x1, .ref a0, .ref a0]) (σ1 := σ2) zM_X2_areNamesRight dX2_areNamesRight_43 rfl rfl rfl rfl ?_
        refine zw_go (pc1 := 45) (L1 := [some (.ref a0), some (.int x1), some (.int x2), some (.int x3), some (.int x4), some (.int v3)]) (st1 := [.int (x1 + (4 * x4)), .ref a0, .ref a0]) (σ1 := σ2) zM_X2_areNamesRight dX2_areNamesRight_44 rfl rfl rfl rfl ?_
        refine zw_iconst (v := 2) zM_X2_areNamesRight dX2_areNamesRight_45 (by decide) ?_
        refine zw_go (pc1 := 47) (L1 := [some (.ref a0), some (.int x1), some (.int x2), some (.int x3), some (.int x4), some (.int v3)]) (st1 := [.int ((x1 + (4 * x4)) + 2), .ref a0, .ref a0]) (σ1 := σ2) zM_X2_areNamesRight dX2_areNamesRight_46 rfl rfl rfl rfl ?_
        obtain ⟨hk4, h⟩ := h
        refine zw_callI (as := [.ref a0, .int ((x1 + (4 * x4)) + 2)]) (rest := [.ref a0]) zM_X2_areNamesRight dX2_areNamesRight_47 (zx_calV zC_2_27) zM_X1_wordAt rfl rfl rfl rfl rfl (zx_args0 hk4 rfl) rfl h (fun v6 σ5 h => ?_)
        obtain ⟨hk7, h⟩ := h
        refine zw_callI (as := [.ref a0, .int v6]) (rest := []) zM_X2_areNamesRight dX2_areNamesRight_50 (zx_calV zC_2_119) zM_X1_hasNumber rfl rfl rfl rfl rfl (zx_args0 hk7 rfl) rfl h (fun v9 σ8 h => ?_)
        refine zw_if_ne (tgt := 58) zM_X2_areNamesRight dX2_areNamesRight_53 rfl rfl (fun q => ?_) (fun q => ?_)
        · replace h := h.1 q
          refine zw_go (pc1 := 60) (L1 := [some (.ref a0), some (.int x1), some (.int x2), some (.int x3), some (.int x4), some (.int v3)]) (st1 := [.int v3]) (σ1 := σ8) zM_X2_areNamesRight dX2_areNamesRight_58 rfl rfl rfl rfl ?_
          refine zw_go (pc1 := 61) (L1 := [some (.ref a0), some (.int x1), some (.int x2), some (.int v3), some (.int x4), some (.int v3)]) (st1 := []) (σ1 := σ8) zM_X2_areNamesRight dX2_areNamesRight_60 rfl rfl rfl rfl ?_
          refine zw_go (pc1 := 64) (L1 := [some (.ref a0), some (.int x1), some (.int x2), some (.int v3), some (.int (x4 + Int32.ofInt 1)), some (.int v3)]) (st1 := []) (σ1 := σ8) zM_X2_areNamesRight dX2_areNamesRight_61 rfl rfl rfl rfl ?_
          refine zw_goto (tgt := 5) zM_X2_areNamesRight dX2_areNamesRight_64 rfl ?_
          exact zw_weak2 h ⟨rfl, rfl, rfl, rfl, rfl, trivial⟩
        · replace h := h.2 q
          refine zw_iconst (v := 0) zM_X2_areNamesRight dX2_areNamesRight_56 (by decide) ?_
          exact zw_retz zM_X2_areNamesRight dX2_areNamesRight_57 rfl (by decide) h
set_option maxHeartbeats 4000000 in
set_option maxRecDepth 100000 in
theorem vc_X2_arePlacesRight_0 (a0 : Nat) (σ : zx_S) (K : Int32 → zx_S → Prop) (h : zK σ a0 = 14 ∧ zwI 51 0 [some (.ref a0), some (.int 14)] [] σ (fun v3 σ2 => zK σ2 a0 = 14 ∧ ((¬ v3 = (zI σ2 a0 1) → K 0 σ2) ∧ (v3 = (zI σ2 a0 1) → (((zI σ2 a0 4) < (18 : Int32) → K 0 σ2) ∧ (¬ (zI σ2 a0 4) < (18 : Int32) → (((zI σ2 a0 5) < (zI σ2 a0 4) → K 0 σ2) ∧ (¬ (zI σ2 a0 5) < (zI σ2 a0 4) → (((zI σ2 a0 6) < (zI σ2 a0 5) → K 0 σ2) ∧ (¬ (zI σ2 a0 6) < (zI σ2 a0 5) → (((zI σ2 a0 7) < (zI σ2 a0 6) → K 0 σ2) ∧ (¬ (zI σ2 a0 7) < (zI σ2 a0 6) → (((zI σ2 a0 3) < (1 : Int32) → K 0 σ2) ∧ (¬ (zI σ2 a0 3) < (1 : Int32) → ((¬ ((zI σ2 a0 7) + (2 * (zI σ2 a0 3))) = (zI σ2 a0 1) → K 0 σ2) ∧ (((zI σ2 a0 7) + (2 * (zI σ2 a0 3))) = (zI σ2 a0 1) → K 1 σ2)))))))))))))))) : zwI 56 0 [some (.ref a0)] [] σ K := by
  refine zw_go (pc1 := 1) (L1 := [some (.ref a0)]) (st1 := [.ref a0]) (σ1 := σ) zM_X2_arePlacesRight dX2_arePlacesRight_0 rfl rfl rfl rfl ?_
  refine zw_bipush (v := 14) zM_X2_arePlacesRight dX2_arePlacesRight_1 (by decide) ?_
  obtain ⟨hk1, h⟩ := h
  refine zw_callI (as := [.ref a0, .int 14]) (rest := []) zM_X2_arePlacesRight dX2_arePlacesRight_3 (zx_calV zC_2_27) zM_X1_wordAt rfl rfl rfl rfl rfl (zx_args0 hk1 rfl) rfl h (fun v3 σ2 h => ?_)
  refine zw_go (pc1 := 7) (L1 := [some (.ref a0)]) (st1 := [.ref a0, .int v3]) (σ1 := σ2) zM_X2_arePlacesRight dX2_arePlacesRight_6 rfl rfl rfl rfl ?_
  obtain ⟨hk4, h⟩ := h
  refine zw_getI zM_X2_arePlacesRight dX2_arePlacesRight_7 zF_2_47 rfl hk4 ?_
  refine zw_icmp_ne (tgt := 85) zM_X2_arePlacesRight dX2_arePlacesRight_10 rfl rfl (fun q => ?_) (fun q => ?_)
  · replace h := h.1 q
    refine zw_iconst (v := 0) zM_X2_arePlacesRight dX2_arePlacesRight_85 (by decide) ?_
    exact zw_retz zM_X2_arePlacesRight dX2_arePlacesRight_86 rfl (by decide) h
  · replace h := h.2 q
    refine zw_bipush (v := 18) zM_X2_arePlacesRight dX2_arePlacesRight_13 (by decide) ?_
    refine zw_go (pc1 := 16) (L1 := [some (.ref a0)]) (st1 := [.ref a0, .int 18]) (σ1 := σ2) zM_X2_arePlacesRight dX2_arePlacesRight_15 rfl rfl rfl rfl ?_
    refine zw_getI zM_X2_arePlacesRight dX2_arePlacesRight_16 zF_2_61 rfl hk4 ?_
    refine zw_icmp_gt (tgt := 85) zM_X2_arePlacesRight dX2_arePlacesRight_19 rfl rfl (fun q => ?_) (fun q => ?_)
    · replace h := h.1 q
      refine zw_iconst (v := 0) zM_X2_arePlacesRight dX2_arePlacesRight_85 (by decide) ?_
      exact zw_retz zM_X2_arePlacesRight dX2_arePlacesRight_86 rfl (by decide) h
    · replace h := h.2 q
      refine zw_go (pc1 := 23) (L1 := [some (.ref a0)]) (st1 := [.ref a0]) (σ1 := σ2) zM_X2_arePlacesRight dX2_arePlacesRight_22 rfl rfl rfl rfl ?_
      refine zw_getI zM_X2_arePlacesRight dX2_arePlacesRight_23 zF_2_61 rfl hk4 ?_
      refine zw_go (pc1 := 27) (L1 := [some (.ref a0)]) (st1 := [.ref a0, .int (zI σ2 a0 4)]) (σ1 := σ2) zM_X2_arePlacesRight dX2_arePlacesRight_26 rfl rfl rfl rfl ?_
      refine zw_getI zM_X2_arePlacesRight dX2_arePlacesRight_27 zF_2_64 rfl hk4 ?_
      refine zw_icmp_gt (tgt := 85) zM_X2_arePlacesRight dX2_arePlacesRight_30 rfl rfl (fun q => ?_) (fun q => ?_)
      · replace h := h.1 q
        refine zw_iconst (v := 0) zM_X2_arePlacesRight dX2_arePlacesRight_85 (by decide) ?_
        exact zw_retz zM_X2_arePlacesRight dX2_arePlacesRight_86 rfl (by decide) h
      · replace h := h.2 q
        refine zw_go (pc1 := 34) (L1 := [some (.ref a0)]) (st1 := [.ref a0]) (σ1 := σ2) zM_X2_arePlacesRight dX2_arePlacesRight_33 rfl rfl rfl rfl ?_
        refine zw_getI zM_X2_arePlacesRight dX2_arePlacesRight_34 zF_2_64 rfl hk4 ?_
        refine zw_go (pc1 := 38) (L1 := [some (.ref a0)]) (st1 := [.ref a0, .int (zI σ2 a0 5)]) (σ1 := σ2) zM_X2_arePlacesRight dX2_arePlacesRight_37 rfl rfl rfl rfl ?_
        refine zw_getI zM_X2_arePlacesRight dX2_arePlacesRight_38 zF_2_67 rfl hk4 ?_
        refine zw_icmp_gt (tgt := 85) zM_X2_arePlacesRight dX2_arePlacesRight_41 rfl rfl (fun q => ?_) (fun q => ?_)
        · replace h := h.1 q
          refine zw_iconst (v := 0) zM_X2_arePlacesRight dX2_arePlacesRight_85 (by decide) ?_
          exact zw_retz zM_X2_arePlacesRight dX2_arePlacesRight_86 rfl (by decide) h
        · replace h := h.2 q
          refine zw_go (pc1 := 45) (L1 := [some (.ref a0)]) (st1 := [.ref a0]) (σ1 := σ2) zM_X2_arePlacesRight dX2_arePlacesRight_44 rfl rfl rfl rfl ?_
          refine zw_getI zM_X2_arePlacesRight dX2_arePlacesRight_45 zF_2_67 rfl hk4 ?_
          refine zw_go (pc1 := 49) (L1 := [some (.ref a0)]) (st1 := [.ref a0, .int (zI σ2 a0 6)]) (σ1 := σ2) zM_X2_arePlacesRight dX2_arePlacesRight_48 rfl rfl rfl rfl ?_
          refine zw_getI zM_X2_arePlacesRight dX2_arePlacesRight_49 zF_2_70 rfl hk4 ?_
          refine zw_icmp_gt (tgt := 85) zM_X2_arePlacesRight dX2_arePlacesRight_52 rfl rfl (fun q => ?_) (fun q => ?_)
          · replace h := h.1 q
            refine zw_iconst (v := 0) zM_X2_arePlacesRight dX2_arePlacesRight_85 (by decide) ?_
            exact zw_retz zM_X2_arePlacesRight dX2_arePlacesRight_86 rfl (by decide) h
          · replace h := h.2 q
            refine zw_go (pc1 := 56) (L1 := [some (.ref a0)]) (st1 := [.ref a0]) (σ1 := σ2) zM_X2_arePlacesRight dX2_arePlacesRight_55 rfl rfl rfl rfl ?_
            refine zw_getI zM_X2_arePlacesRight dX2_arePlacesRight_56 zF_2_73 rfl hk4 ?_
            refine zw_iconst (v := 1) zM_X2_arePlacesRight dX2_arePlacesRight_59 (by decide) ?_
            refine zw_icmp_lt (tgt := 85) zM_X2_arePlacesRight dX2_arePlacesRight_60 rfl rfl (fun q => ?_) (fun q => ?_)
            · replace h := h.1 q
              refine zw_iconst (v := 0) zM_X2_arePlacesRight dX2_arePlacesRight_85 (by decide) ?_
              exact zw_retz zM_X2_arePlacesRight dX2_arePlacesRight_86 rfl (by decide) h
            · replace h := h.2 q
              refine zw_go (pc1 := 64) (L1 := [some (.ref a0)]) (st1 := [.ref a0]) (σ1 := σ2) zM_X2_arePlacesRight dX2_arePlacesRight_63 rfl rfl rfl rfl ?_
              refine zw_getI zM_X2_arePlacesRight dX2_arePlacesRight_64 zF_2_70 rfl hk4 ?_
              refine zw_iconst (v := 2) zM_X2_arePlacesRight dX2_arePlacesRight_67 (by decide) ?_
              refine zw_go (pc1 := 69) (L1 := [some (.ref a0)]) (st1 := [.ref a0, .int 2, .int (zI σ2 a0 7)]) (σ1 := σ2) zM_X2_arePlacesRight dX2_arePlacesRight_68 rfl rfl rfl rfl ?_
              refine zw_getI zM_X2_arePlacesRight dX2_arePlacesRight_69 zF_2_73 rfl hk4 ?_
              refine zw_go (pc1 := 73) (L1 := [some (.ref a0)]) (st1 := [.int (2 * (zI σ2 a0 3)), .int (zI σ2 a0 7)]) (σ1 := σ2) zM_X2_arePlacesRight dX2_arePlacesRight_72 rfl rfl rfl rfl ?_
              refine zw_go (pc1 := 74) (L1 := [some (.ref a0)]) (st1 := [.int ((zI σ2 a0 7) + (2 * (zI σ2 a0 3)))]) (σ1 := σ2) zM_X2_arePlacesRight dX2_arePlacesRight_73 rfl rfl rfl rfl ?_
              refine zw_go (pc1 := 75) (L1 := [some (.ref a0)]) (st1 := [.ref a0, .int ((zI σ2 a0 7) + (2 * (zI σ2 a0 3)))]) (σ1 := σ2) zM_X2_arePlacesRight dX2_arePlacesRight_74 rfl rfl rfl rfl ?_
              refine zw_getI zM_X2_arePlacesRight dX2_arePlacesRight_75 zF_2_47 rfl hk4 ?_
              refine zw_icmp_ne (tgt := 85) zM_X2_arePlacesRight dX2_arePlacesRight_78 rfl rfl (fun q => ?_) (fun q => ?_)
              · replace h := h.1 q
                refine zw_iconst (v := 0) zM_X2_arePlacesRight dX2_arePlacesRight_85 (by decide) ?_
                exact zw_retz zM_X2_arePlacesRight dX2_arePlacesRight_86 rfl (by decide) h
              · replace h := h.2 q
                refine zw_iconst (v := 1) zM_X2_arePlacesRight dX2_arePlacesRight_81 (by decide) ?_
                refine zw_goto (tgt := 86) zM_X2_arePlacesRight dX2_arePlacesRight_82 rfl ?_
                exact zw_retz zM_X2_arePlacesRight dX2_arePlacesRight_86 rfl (by decide) h
set_option maxHeartbeats 4000000 in
set_option maxRecDepth 100000 in
theorem vc_X2_areTailsRight_0 (a0 : Nat) (σ : zx_S) (K : Int32 → zx_S → Prop) (h : zK σ a0 = 14 ∧ zwI 47 0 [some (.ref a0)] [] σ (fun v3 σ2 => zK σ2 a0 = 14 ∧ zwI 48 0 [some (.ref a0), some (.int v3)] [] σ2 (fun v6 σ5 => zK σ5 a0 = 14 ∧ ((v6 = (zI σ5 a0 7) → zwI 57 21 [some (.ref a0), some (.int v3), some (.int 0), none, none] [] σ5 K) ∧ (¬ v6 = (zI σ5 a0 7) → K 0 σ5))))) : zwI 57 0 [some (.ref a0), none, none, none, none] [] σ K := by
  refine zw_go (pc1 := 1) (L1 := [some (.ref a0), none, none, none, none]) (st1 := [.ref a0]) (σ1 := σ) zM_X2_areTailsRight dX2_areTailsRight_0 rfl rfl rfl rfl ?_
  obtain ⟨hk1, h⟩ := h
  refine zw_callI (as := [.ref a0]) (rest := []) zM_X2_areTailsRight dX2_areTailsRight_1 (zx_calV zC_2_76) zM_X1_tailBlocks rfl rfl rfl rfl rfl (zx_args0 hk1 rfl) rfl h (fun v3 σ2 h => ?_)
  refine zw_go (pc1 := 5) (L1 := [some (.ref a0), some (.int v3), none, none, none]) (st1 := []) (σ1 := σ2) zM_X2_areTailsRight dX2_areTailsRight_4 rfl rfl rfl rfl ?_
  refine zw_go (pc1 := 6) (L1 := [some (.ref a0), some (.int v3), none, none, none]) (st1 := [.ref a0]) (σ1 := σ2) zM_X2_areTailsRight dX2_areTailsRight_5 rfl rfl rfl rfl ?_
  refine zw_go (pc1 := 7) (L1 := [some (.ref a0), some (.int v3), none, none, none]) (st1 := [.int v3, .ref a0]) (σ1 := σ2) zM_X2_areTailsRight dX2_areTailsRight_6 rfl rfl rfl rfl ?_
  obtain ⟨hk4, h⟩ := h
  refine zw_callI (as := [.ref a0, .int v3]) (rest := []) zM_X2_areTailsRight dX2_areTailsRight_7 (zx_calV zC_2_79) zM_X1_tailRow rfl rfl rfl rfl rfl (zx_args0 hk4 rfl) rfl h (fun v6 σ5 h => ?_)
  refine zw_go (pc1 := 11) (L1 := [some (.ref a0), some (.int v3), none, none, none]) (st1 := [.ref a0, .int v6]) (σ1 := σ5) zM_X2_areTailsRight dX2_areTailsRight_10 rfl rfl rfl rfl ?_
  obtain ⟨hk7, h⟩ := h
  refine zw_getI zM_X2_areTailsRight dX2_areTailsRight_11 zF_2_70 rfl hk7 ?_
  refine zw_icmp_eq (tgt := 19) zM_X2_areTailsRight dX2_areTailsRight_14 rfl rfl (fun q => ?_) (fun q => ?_)
  · replace h := h.1 q
    refine zw_iconst (v := 0) zM_X2_areTailsRight dX2_areTailsRight_19 (by decide) ?_
    refine zw_go (pc1 := 21) (L1 := [some (.ref a0), some (.int v3), some (.int 0), none, none]) (st1 := []) (σ1 := σ5) zM_X2_areTailsRight dX2_areTailsRight_20 rfl rfl rfl rfl ?_
    exact zw_weak2 h ⟨rfl, rfl, rfl, trivial⟩
  · replace h := h.2 q
    refine zw_iconst (v := 0) zM_X2_areTailsRight dX2_areTailsRight_17 (by decide) ?_
    exact zw_retz zM_X2_areTailsRight dX2_areTailsRight_18 rfl (by decide) h
set_option maxHeartbeats 4000000 in
set_option maxRecDepth 100000 in
theorem vc_X2_areTailsRight_21 (a0 : Nat) (x1 : Int32) (x2 : Int32) (σ : zx_S) (K : Int32 → zx_S → Prop) (h : ((x1 ≤ x2 → K 1 σ) ∧ (¬ x1 ≤ x2 → zK σ a0 = 14 ∧ zwI 48 0 [some (.ref a0), some (.int x2)] [] σ (fun v3 σ2 => zK σ2 a0 = 14 ∧ zwI 21 0 [some (.ref a0), some (.int (v3 + 4))] [] σ2 (fun v6 σ5 => ((v6 < (1 : Int32) → K 0 σ5) ∧ (¬ v6 < (1 : Int32) → zK σ5 a0 = 14 ∧ (((zI σ5 a0 2) < v6 → K 0 σ5) ∧ (¬ (zI σ5 a0 2) < v6 → zwI 51 0 [some (.ref a0), some (.int v3)] [] σ5 (fun v9 σ8 => zK σ8 a0 = 14 ∧ zwI 51 0 [some (.ref a0), some (.int (v3 + 2))] [] σ8 (fun v12 σ11 => zK σ11 a0 = 14 ∧ zwI 22 0 [some (.ref a0), some (.int v9), some (.int v12), some (.int v6)] [] σ11 (fun v15 σ14 => ((¬ v15 = (0 : Int32) → zwI 57 21 [some (.ref a0), some (.int x1), some (.int (x2 + Int32.ofInt 1)), none, none] [] σ14 K) ∧ (v15 = (0 : Int32) → K 0 σ14)))))))))))))) : zwI 57 21 [some (.ref a0), some (.int x1), some (.int x2), none, none] [] σ K := by
  refine zw_go (pc1 := 22) (L1 := [some (.ref a0), some (.int x1), some (.int x2), none, none]) (st1 := [.int x2]) (σ1 := σ) zM_X2_areTailsRight dX2_areTailsRight_21 rfl rfl rfl rfl ?_
  refine zw_go (pc1 := 23) (L1 := [some (.ref a0), some (.int x1), some (.int x2), none, none]) (st1 := [.int x1, .int x2]) (σ1 := σ) zM_X2_areTailsRight dX2_areTailsRight_22 rfl rfl rfl rfl ?_
  refine zw_icmp_ge (tgt := 85) zM_X2_areTailsRight dX2_areTailsRight_23 rfl rfl (fun q => ?_) (fun q => ?_)
  · replace h := h.1 q
    refine zw_iconst (v := 1) zM_X2_areTailsRight dX2_areTailsRight_85 (by decide) ?_
    exact zw_retz zM_X2_areTailsRight dX2_areTailsRight_86 rfl (by decide) h
  · replace h := h.2 q
    refine zw_go (pc1 := 27) (L1 := [some (.ref a0), some (.int x1), some (.int x2), none, none]) (st1 := [.ref a0]) (σ1 := σ) zM_X2_areTailsRight dX2_areTailsRight_26 rfl rfl rfl rfl ?_
    refine zw_go (pc1 := 28) (L1 := [some (.ref a0), some (.int x1), some (.int x2), none, none]) (st1 := [.int x2, .ref a0]) (σ1 := σ) zM_X2_areTailsRight dX2_areTailsRight_27 rfl rfl rfl rfl ?_
    obtain ⟨hk1, h⟩ := h
    refine zw_callI (as := [.ref a0, .int x2]) (rest := []) zM_X2_areTailsRight dX2_areTailsRight_28 (zx_calV zC_2_79) zM_X1_tailRow rfl rfl rfl rfl rfl (zx_args0 hk1 rfl) rfl h (fun v3 σ2 h => ?_)
    refine zw_go (pc1 := 32) (L1 := [some (.ref a0), some (.int x1), some (.int x2), some (.int v3), none]) (st1 := []) (σ1 := σ2) zM_X2_areTailsRight dX2_areTailsRight_31 rfl rfl rfl rfl ?_
    refine zw_go (pc1 := 33) (L1 := [some (.ref a0), some (.int x1), some (.int x2), some (.int v3), none]) (st1 := [.ref a0]) (σ1 := σ2) zM_X2_areTailsRight dX2_areTailsRight_32 rfl rfl rfl rfl ?_
    refine zw_go (pc1 := 34) (L1 := [some (.ref a0), some (.int x1), some (.int x2), some (.int v3), none]) (st1 := [.int v3, .ref a0]) (σ1 := σ2) zM_X2_areTailsRight dX2_areTailsRight_33 rfl rfl rfl rfl ?_
    refine zw_iconst (v := 4) zM_X2_areTailsRight dX2_areTailsRight_34 (by decide) ?_
    refine zw_go (pc1 := 36) (L1 := [some (.ref a0), some (.int x1), some (.int x2), some (.int v3), none]) (st1 := [.int (v3 + 4), .ref a0]) (σ1 := σ2) zM_X2_areTailsRight dX2_areTailsRight_35 rfl rfl rfl rfl ?_
    obtain ⟨hk4, h⟩ := h
    refine zw_callI (as := [.ref a0, .int (v3 + 4)]) (rest := []) zM_X2_areTailsRight dX2_areTailsRight_36 (zx_calV zC_2_51) zM_X1_byteAt rfl rfl rfl rfl rfl (zx_args0 hk4 rfl) rfl h (fun v6 σ5 h => ?_)
    refine zw_go (pc1 := 41) (L1 := [some (.ref a0), some (.int x1), some (.int x2), some (.int v3), some (.int v6)]) (st1 := []) (σ1 := σ5) zM_X2_areTailsRight dX2_areTailsRight_39 rfl rfl rfl rfl ?_
    refine zw_go (pc1 := 43) (L1 := [some (.ref a0), some (.int x1), some (.int x2), some (.int v3), some (.int v6)]) (st1 := [.int v6]) (σ1 := σ5) zM_X2_areTailsRight dX2_areTailsRight_41 rfl rfl rfl rfl ?_
    refine zw_iconst (v := 1) zM_X2_areTailsRight dX2_areTailsRight_43 (by decide) ?_
    refine zw_icmp_lt (tgt := 77) zM_X2_areTailsRight dX2_areTailsRight_44 rfl rfl (fun q => ?_) (fun q => ?_)
    · replace h := h.1 q
      refine zw_iconst (v := 0) zM_X2_areTailsRight dX2_areTailsRight_77 (by decide) ?_
      exact zw_retz zM_X2_areTailsRight dX2_areTailsRight_78 rfl (by decide) h
    · replace h := h.2 q
      refine zw_go (pc1 := 49) (L1 := [some (.ref a0), some (.int x1), some (.int x2), some (.int v3), some (.int v6)]) (st1 := [.int v6]) (σ1 := σ5) zM_X2_areTailsRight dX2_areTailsRight_47 rfl rfl rfl rfl ?_
      refine zw_go (pc1 := 50) (L1 := [some (.ref a0), some (.int x1), some (.int x2), some (.int v3), some (.int v6)]) (st1 := [.ref a0, .int v6]) (σ1 := σ5) zM_X2_areTailsRight dX2_areTailsRight_49 rfl rfl rfl rfl ?_
      obtain ⟨hk7, h⟩ := h
      refine zw_getI zM_X2_areTailsRight dX2_areTailsRight_50 zF_2_54 rfl hk7 ?_
      refine zw_icmp_gt (tgt := 77) zM_X2_areTailsRight dX2_areTailsRight_53 rfl rfl (fun q => ?_) (fun q => ?_)
      · replace h := h.1 q
        refine zw_iconst (v := 0) zM_X2_areTailsRight dX2_areTailsRight_77 (by decide) ?_
        exact zw_retz zM_X2_areTailsRight dX2_areTailsRight_78 rfl (by decide) h
      · replace h := h.2 q
        refine zw_go (pc1 := 57) (L1 := [some (.ref a0), some (.int x1), some (.int x2), some (.int v3), some (.int v6)]) (st1 := [.ref a0]) (σ1 := σ5) zM_X2_areTailsRight dX2_areTailsRight_56 rfl rfl rfl rfl ?_
        refine zw_go (pc1 := 58) (L1 := [some (.ref a0), some (.int x1), some (.int x2), some (.int v3), some (.int v6)]) (st1 := [.ref a0, .ref a0]) (σ1 := σ5) zM_X2_areTailsRight dX2_areTailsRight_57 rfl rfl rfl rfl ?_
        refine zw_go (pc1 := 59) (L1 := [some (.ref a0), some (.int x1), some (.int x2), some (.int v3), some (.int v6)]) (st1 := [.int v3, .ref a0, .ref a0]) (σ1 := σ5) zM_X2_areTailsRight dX2_areTailsRight_58 rfl rfl rfl rfl ?_
        refine zw_callI (as := [.ref a0, .int v3]) (rest := [.ref a0]) zM_X2_areTailsRight dX2_areTailsRight_59 (zx_calV zC_2_27) zM_X1_wordAt rfl rfl rfl rfl rfl (zx_args0 hk7 rfl) rfl h (fun v9 σ8 h => ?_)
        refine zw_go (pc1 := 63) (L1 := [some (.ref a0), some (.int x1), some (.int x2), some (.int v3), some (.int v6)]) (st1 := [.ref a0, .int v9, .ref a0]) (σ1 := σ8) zM_X2_areTailsRight dX2_areTailsRight_62 rfl rfl rfl rfl ?_
        refine zw_go (pc1 := 64) (L1 := [some (.ref a0), some (.int x1), some (.int x2), some (.int v3), some (.int v6)]) (st1 := [.int v3, .ref a0, .int v9, .ref a0]) (σ1 := σ8) zM_X2_areTailsRight dX2_areTailsRight_63 rfl rfl rfl rfl ?_
        refine zw_iconst (v := 2) zM_X2_areTailsRight dX2_areTailsRight_64 (by decide) ?_
        refine zw_go (pc1 := 66) (L1 := [some (.ref a0), some (.int x1), some (.int x2), some (.int v3), some (.int v6)]) (st1 := [.int (v3 + 2), .ref a0, .int v9, .ref a0]) (σ1 := σ8) zM_X2_areTailsRight dX2_areTailsRight_65 rfl rfl rfl rfl ?_
        obtain ⟨hk10, h⟩ := h
        refine zw_callI (as := [.ref a0, .int (v3 + 2)]) (rest := [.int v9, .ref a0]) zM_X2_areTailsRight dX2_areTailsRight_66 (zx_calV zC_2_27) zM_X1_wordAt rfl rfl rfl rfl rfl (zx_args0 hk10 rfl) rfl h (fun v12 σ11 h => ?_)
        refine zw_go (pc1 := 71) (L1 := [some (.ref a0), some (.int x1), some (.int x2), some (.int v3), some (.int v6)]) (st1 := [.int v6, .int v12, .int v9, .ref a0]) (σ1 := σ11) zM_X2_areTailsRight dX2_areTailsRight_69 rfl rfl rfl rfl ?_
        obtain ⟨hk13, h⟩ := h
        refine zw_callI (as := [.ref a0, .int v9, .int v12, .int v6]) (rest := []) zM_X2_areTailsRight dX2_areTailsRight_71 (zx_calV zC_2_82) zM_X1_canBeBlock rfl rfl rfl rfl rfl (zx_args0 hk13 rfl) rfl h (fun v15 σ14 h => ?_)
        refine zw_if_ne (tgt := 79) zM_X2_areTailsRight dX2_areTailsRight_74 rfl rfl (fun q => ?_) (fun q => ?_)
        · replace h := h.1 q
          refine zw_go (pc1 := 82) (L1 := [some (.ref a0), some (.int x1), some (.int (x2 + Int32.ofInt 1)), some (.int v3), some (.int v6)]) (st1 := []) (σ1 := σ14) zM_X2_areTailsRight dX2_areTailsRight_79 rfl rfl rfl rfl ?_
          refine zw_goto (tgt := 21) zM_X2_areTailsRight dX2_areTailsRight_82 rfl ?_
          exact zw_weak2 h ⟨rfl, rfl, rfl, trivial⟩
        · replace h := h.2 q
          refine zw_iconst (v := 0) zM_X2_areTailsRight dX2_areTailsRight_77 (by decide) ?_
          exact zw_retz zM_X2_areTailsRight dX2_areTailsRight_78 rfl (by decide) h
set_option maxHeartbeats 4000000 in
set_option maxRecDepth 100000 in
theorem vc_X2_comesToFirst_0 (a0 : Nat) (x1 : Int32) (σ : zx_S) (K : Int32 → zx_S → Prop) (h : zwI 58 4 [some (.ref a0), none, some (.int x1), some (.int 0)] [] σ K) : zwI 58 0 [some (.ref a0), some (.int x1), none, none] [] σ K := by
  refine zw_go (pc1 := 1) (L1 := [some (.ref a0), some (.int x1), none, none]) (st1 := [.int x1]) (σ1 := σ) zM_X2_comesToFirst dX2_comesToFirst_0 rfl rfl rfl rfl ?_
  refine zw_go (pc1 := 2) (L1 := [some (.ref a0), some (.int x1), some (.int x1), none]) (st1 := []) (σ1 := σ) zM_X2_comesToFirst dX2_comesToFirst_1 rfl rfl rfl rfl ?_
  refine zw_iconst (v := 0) zM_X2_comesToFirst dX2_comesToFirst_2 (by decide) ?_
  refine zw_go (pc1 := 4) (L1 := [some (.ref a0), some (.int x1), some (.int x1), some (.int 0)]) (st1 := []) (σ1 := σ) zM_X2_comesToFirst dX2_comesToFirst_3 rfl rfl rfl rfl ?_
  exact zw_weak2 h ⟨rfl, rfl, rfl, trivial⟩
set_option maxHeartbeats 4000000 in
set_option maxRecDepth 100000 in
theorem vc_X2_comesToFirst_4 (a0 : Nat) (x2 : Int32) (x3 : Int32) (σ : zx_S) (K : Int32 → zx_S → Prop) (h : zK σ a0 = 14 ∧ (((zI σ a0 3) ≤ x3 → zwI 58 29 [none, none, some (.int x2), none] [] σ K) ∧ (¬ (zI σ a0 3) ≤ x3 → ((x2 = (1 : Int32) → zwI 58 29 [none, none, some (.int x2), none] [] σ K) ∧ (¬ x2 = (1 : Int32) → zwI 28 0 [some (.ref a0), some (.int x2)] [] σ (fun v3 σ2 => zwI 58 4 [some (.ref a0), none, some (.int v3), some (.int (x3 + Int32.ofInt 1))] [] σ2 K)))))) : zwI 58 4 [some (.ref a0), none, some (.int x2), some (.int x3)] [] σ K := by
  refine zw_go (pc1 := 5) (L1 := [some (.ref a0), none, some (.int x2), some (.int x3)]) (st1 := [.int x3]) (σ1 := σ) zM_X2_comesToFirst dX2_comesToFirst_4 rfl rfl rfl rfl ?_
  refine zw_go (pc1 := 6) (L1 := [some (.ref a0), none, some (.int x2), some (.int x3)]) (st1 := [.ref a0, .int x3]) (σ1 := σ) zM_X2_comesToFirst dX2_comesToFirst_5 rfl rfl rfl rfl ?_
  obtain ⟨hk1, h⟩ := h
  refine zw_getI zM_X2_comesToFirst dX2_comesToFirst_6 zF_2_73 rfl hk1 ?_
  refine zw_icmp_ge (tgt := 29) zM_X2_comesToFirst dX2_comesToFirst_9 rfl rfl (fun q => ?_) (fun q => ?_)
  · replace h := h.1 q
    exact zw_weak2 h ⟨rfl, trivial⟩
  · replace h := h.2 q
    refine zw_go (pc1 := 13) (L1 := [some (.ref a0), none, some (.int x2), some (.int x3)]) (st1 := [.int x2]) (σ1 := σ) zM_X2_comesToFirst dX2_comesToFirst_12 rfl rfl rfl rfl ?_
    refine zw_iconst (v := 1) zM_X2_comesToFirst dX2_comesToFirst_13 (by decide) ?_
    refine zw_icmp_eq (tgt := 29) zM_X2_comesToFirst dX2_comesToFirst_14 rfl rfl (fun q => ?_) (fun q => ?_)
    · replace h := h.1 q
      exact zw_weak2 h ⟨rfl, trivial⟩
    · replace h := h.2 q
      refine zw_go (pc1 := 18) (L1 := [some (.ref a0), none, some (.int x2), some (.int x3)]) (st1 := [.ref a0]) (σ1 := σ) zM_X2_comesToFirst dX2_comesToFirst_17 rfl rfl rfl rfl ?_
      refine zw_go (pc1 := 19) (L1 := [some (.ref a0), none, some (.int x2), some (.int x3)]) (st1 := [.int x2, .ref a0]) (σ1 := σ) zM_X2_comesToFirst dX2_comesToFirst_18 rfl rfl rfl rfl ?_
      refine zw_callI (as := [.ref a0, .int x2]) (rest := []) zM_X2_comesToFirst dX2_comesToFirst_19 (zx_calV zC_2_125) zM_X1_homeOf rfl rfl rfl rfl rfl (zx_args0 hk1 rfl) rfl h (fun v3 σ2 h => ?_)
      refine zw_go (pc1 := 23) (L1 := [some (.ref a0), none, some (.int v3), some (.int x3)]) (st1 := []) (σ1 := σ2) zM_X2_comesToFirst dX2_comesToFirst_22 rfl rfl rfl rfl ?_
      refine zw_go (pc1 := 26) (L1 := [some (.ref a0), none, some (.int v3), some (.int (x3 + Int32.ofInt 1))]) (st1 := []) (σ1 := σ2) zM_X2_comesToFirst dX2_comesToFirst_23 rfl rfl rfl rfl ?_
      refine zw_goto (tgt := 4) zM_X2_comesToFirst dX2_comesToFirst_26 rfl ?_
      exact zw_weak2 h ⟨rfl, rfl, rfl, trivial⟩
set_option maxHeartbeats 4000000 in
set_option maxRecDepth 100000 in
theorem vc_X2_comesToFirst_29 (x2 : Int32) (σ : zx_S) (K : Int32 → zx_S → Prop) (h : ((¬ x2 = (1 : Int32) → K 0 σ) ∧ (x2 = (1 : Int32) → K 1 σ))) : zwI 58 29 [none, none, some (.int x2), none] [] σ K := by
  refine zw_go (pc1 := 30) (L1 := [none, none, some (.int x2), none]) (st1 := [.int x2]) (σ1 := σ) zM_X2_comesToFirst dX2_comesToFirst_29 rfl rfl rfl rfl ?_
  refine zw_iconst (v := 1) zM_X2_comesToFirst dX2_comesToFirst_30 (by decide) ?_
  refine zw_icmp_ne (tgt := 38) zM_X2_comesToFirst dX2_comesToFirst_31 rfl rfl (fun q => ?_) (fun q => ?_)
  · replace h := h.1 q
    refine zw_iconst (v := 0) zM_X2_comesToFirst dX2_comesToFirst_38 (by decide) ?_
    exact zw_retz zM_X2_comesToFirst dX2_comesToFirst_39 rfl (by decide) h
  · replace h := h.2 q
    refine zw_iconst (v := 1) zM_X2_comesToFirst dX2_comesToFirst_34 (by decide) ?_
    refine zw_goto (tgt := 39) zM_X2_comesToFirst dX2_comesToFirst_35 rfl ?_
    exact zw_retz zM_X2_comesToFirst dX2_comesToFirst_39 rfl (by decide) h
set_option maxHeartbeats 4000000 in
set_option maxRecDepth 100000 in
theorem vc_X2_firstFault_0 (a0 : Nat) (a1 : Nat) (σ : zx_S) (K : Int32 → zx_S → Prop) (h : zK σ a1 = 14 ∧ zwV 41 0 [some (.ref a1)] [] σ (fun σ2 => zwI 62 0 [some (.ref a1)] [] σ2 (fun v4 σ3 => ((¬ v4 = (0 : Int32) → zwI 56 0 [some (.ref a1)] [] σ3 (fun v6 σ5 => ((¬ v6 = (0 : Int32) → zK σ5 a1 = 14 ∧ zwI 51 0 [some (.ref a1), some (.int 16)] [] σ5 (fun v9 σ8 => zK σ8 a1 = 14 ∧ zwI 46 0 [some (.ref a1), none, none, none] [] σ8 (fun v12 σ11 => ((v9 = v12 → zwI 57 0 [some (.ref a1), none, none, none, none] [] σ11 (fun v14 σ13 => ((¬ v14 = (0 : Int32) → zwI 54 0 [some (.ref a1), none, none, none] [] σ13 (fun v16 σ15 => ((¬ v16 = (0 : Int32) → zwI 53 0 [some (.ref a1), none, none, none] [] σ15 (fun v18 σ17 => ((¬ v18 = (0 : Int32) → zK σ17 a0 = 15 ∧ zwI 64 0 [some (.ref a0), some (.ref a1), none, none] [] σ17 (fun v21 σ20 => ((v21 = (0 : Int32) → K 7 σ20) ∧ (¬ v21 = (0 : Int32) → K 0 σ20)))) ∧ (v18 = (0 : Int32) → K 6 σ17)))) ∧ (v16 = (0 : Int32) → K 5 σ15)))) ∧ (v14 = (0 : Int32) → K 4 σ13)))) ∧ (¬ v9 = v12 → K 3 σ11))))) ∧ (v6 = (0 : Int32) → K 2 σ5)))) ∧ (v4 = (0 : Int32) → K 1 σ3))))) : zwI 59 0 [some (.ref a0), some (.ref a1)] [] σ K := by
  refine zw_go (pc1 := 1) (L1 := [some (.ref a0), some (.ref a1)]) (st1 := [.ref a1]) (σ1 := σ) zM_X2_firstFault dX2_firstFault_0 rfl rfl rfl rfl ?_
  obtain ⟨hk1, h⟩ := h
  refine zw_callV (as := [.ref a1]) (rest := []) zM_X2_firstFault dX2_firstFault_1 (zx_calV zC_2_15) zM_X1_readHead rfl rfl rfl rfl rfl (zx_args0 hk1 rfl) rfl h (fun σ2 h => ?_)
  refine zw_go (pc1 := 5) (L1 := [some (.ref a0), some (.ref a1)]) (st1 := [.ref a1]) (σ1 := σ2) zM_X2_firstFault dX2_firstFault_4 rfl rfl rfl rfl ?_
  refine zw_callI (as := [.ref a1]) (rest := []) zM_X2_firstFault dX2_firstFault_5 (zx_calS zC_2_20) zM_X2_isHeadRight rfl rfl rfl rfl rfl rfl rfl h (fun v4 σ3 h => ?_)
  refine zw_if_ne (tgt := 13) zM_X2_firstFault dX2_firstFault_8 rfl rfl (fun q => ?_) (fun q => ?_)
  · replace h := h.1 q
    refine zw_go (pc1 := 14) (L1 := [some (.ref a0), some (.ref a1)]) (st1 := [.ref a1]) (σ1 := σ3) zM_X2_firstFault dX2_firstFault_13 rfl rfl rfl rfl ?_
    refine zw_callI (as := [.ref a1]) (rest := []) zM_X2_firstFault dX2_firstFault_14 (zx_calS zC_2_24) zM_X2_arePlacesRight rfl rfl rfl rfl rfl rfl rfl h (fun v6 σ5 h => ?_)
    refine zw_if_ne (tgt := 22) zM_X2_firstFault dX2_firstFault_17 rfl rfl (fun q => ?_) (fun q => ?_)
    · replace h := h.1 q
      refine zw_go (pc1 := 23) (L1 := [some (.ref a0), some (.ref a1)]) (st1 := [.ref a1]) (σ1 := σ5) zM_X2_firstFault dX2_firstFault_22 rfl rfl rfl rfl ?_
      refine zw_bipush (v := 16) zM_X2_firstFault dX2_firstFault_23 (by decide) ?_
      obtain ⟨hk7, h⟩ := h
      refine zw_callI (as := [.ref a1, .int 16]) (rest := []) zM_X2_firstFault dX2_firstFault_25 (zx_calV zC_2_27) zM_X1_wordAt rfl rfl rfl rfl rfl (zx_args0 hk7 rfl) rfl h (fun v9 σ8 h => ?_)
      refine zw_go (pc1 := 29) (L1 := [some (.ref a0), some (.ref a1)]) (st1 := [.ref a1, .int v9]) (σ1 := σ8) zM_X2_firstFault dX2_firstFault_28 rfl rfl rfl rfl ?_
      obtain ⟨hk10, h⟩ := h
      refine zw_callI (as := [.ref a1]) (rest := [.int v9]) zM_X2_firstFault dX2_firstFault_29 (zx_calV zC_2_31) zM_X1_sum rfl rfl rfl rfl rfl (zx_args0 hk10 rfl) rfl h (fun v12 σ11 h => ?_)
      refine zw_icmp_eq (tgt := 37) zM_X2_firstFault dX2_firstFault_32 rfl rfl (fun q => ?_) (fun q => ?_)
      · replace h := h.1 q
        refine zw_go (pc1 := 38) (L1 := [some (.ref a0), some (.ref a1)]) (st1 := [.ref a1]) (σ1 := σ11) zM_X2_firstFault dX2_firstFault_37 rfl rfl rfl rfl ?_
        refine zw_callI (as := [.ref a1]) (rest := []) zM_X2_firstFault dX2_firstFault_38 (zx_calS zC_2_35) zM_X2_areTailsRight rfl rfl rfl rfl rfl rfl rfl h (fun v14 σ13 h => ?_)
        refine zw_if_ne (tgt := 46) zM_X2_firstFault dX2_firstFault_41 rfl rfl (fun q => ?_) (fun q => ?_)
        · replace h := h.1 q
          refine zw_go (pc1 := 47) (L1 := [some (.ref a0), some (.ref a1)]) (st1 := [.ref a1]) (σ1 := σ13) zM_X2_firstFault dX2_firstFault_46 rfl rfl rfl rfl ?_
          refine zw_callI (as := [.ref a1]) (rest := []) zM_X2_firstFault dX2_firstFault_47 (zx_calS zC_2_38) zM_X2_areInodesRight rfl rfl rfl rfl rfl rfl rfl h (fun v16 σ15 h => ?_)
          refine zw_if_ne (tgt := 55) zM_X2_firstFault dX2_firstFault_50 rfl rfl (fun q => ?_) (fun q => ?_)
          · replace h := h.1 q
            refine zw_go (pc1 := 56) (L1 := [some (.ref a0), some (.ref a1)]) (st1 := [.ref a1]) (σ1 := σ15) zM_X2_firstFault dX2_firstFault_55 rfl rfl rfl rfl ?_
            refine zw_callI (as := [.ref a1]) (rest := []) zM_X2_firstFault dX2_firstFault_56 (zx_calS zC_2_41) zM_X2_areFoldersRight rfl rfl rfl rfl rfl rfl rfl h (fun v18 σ17 h => ?_)
            refine zw_if_ne (tgt := 65) zM_X2_firstFault dX2_firstFault_59 rfl rfl (fun q => ?_) (fun q => ?_)
            · replace h := h.1 q
              refine zw_go (pc1 := 66) (L1 := [some (.ref a0), some (.ref a1)]) (st1 := [.ref a0]) (σ1 := σ17) zM_X2_firstFault dX2_firstFault_65 rfl rfl rfl rfl ?_
              refine zw_go (pc1 := 67) (L1 := [some (.ref a0), some (.ref a1)]) (st1 := [.ref a1, .ref a0]) (σ1 := σ17) zM_X2_firstFault dX2_firstFault_66 rfl rfl rfl rfl ?_
              obtain ⟨hk19, h⟩ := h
              refine zw_callI (as := [.ref a0, .ref a1]) (rest := []) zM_X2_firstFault dX2_firstFault_67 (zx_calV zC_2_44) zM_X2_isTreeRight rfl rfl rfl rfl rfl (zx_args0 hk19 rfl) rfl h (fun v21 σ20 h => ?_)
              refine zw_if_eq (tgt := 77) zM_X2_firstFault dX2_firstFault_70 rfl rfl (fun q => ?_) (fun q => ?_)
              · replace h := h.1 q
                refine zw_bipush (v := 7) zM_X2_firstFault dX2_firstFault_77 (by decide) ?_
                exact zw_reti zM_X2_firstFault dX2_firstFault_79 rfl h
              · replace h := h.2 q
                refine zw_iconst (v := 0) zM_X2_firstFault dX2_firstFault_73 (by decide) ?_
                refine zw_goto (tgt := 79) zM_X2_firstFault dX2_firstFault_74 rfl ?_
                exact zw_reti zM_X2_firstFault dX2_firstFault_79 rfl h
            · replace h := h.2 q
              refine zw_bipush (v := 6) zM_X2_firstFault dX2_firstFault_62 (by decide) ?_
              exact zw_reti zM_X2_firstFault dX2_firstFault_64 rfl h
          · replace h := h.2 q
            refine zw_iconst (v := 5) zM_X2_firstFault dX2_firstFault_53 (by decide) ?_
            exact zw_reti zM_X2_firstFault dX2_firstFault_54 rfl h
        · replace h := h.2 q
          refine zw_iconst (v := 4) zM_X2_firstFault dX2_firstFault_44 (by decide) ?_
          exact zw_reti zM_X2_firstFault dX2_firstFault_45 rfl h
      · replace h := h.2 q
        refine zw_iconst (v := 3) zM_X2_firstFault dX2_firstFault_35 (by decide) ?_
        exact zw_reti zM_X2_firstFault dX2_firstFault_36 rfl h
    · replace h := h.2 q
      refine zw_iconst (v := 2) zM_X2_firstFault dX2_firstFault_20 (by decide) ?_
      exact zw_reti zM_X2_firstFault dX2_firstFault_21 rfl h
  · replace h := h.2 q
    refine zw_iconst (v := 1) zM_X2_firstFault dX2_firstFault_11 (by decide) ?_
    exact zw_reti zM_X2_firstFault dX2_firstFault_12 rfl h
set_option maxHeartbeats 4000000 in
set_option maxRecDepth 100000 in
theorem vc_X2_init_0 (a0 : Nat) (σ : zx_S) (K : zx_S → Prop) (h : ∀ σ1 : zx_S, σ1 = zx_nw σ 1 (Int32.toNatClampNeg 498) (Int32.toNatClampNeg 498) → zK σ1 a0 = 15 ∧ ∀ σ4 : zx_S, σ4 = zx_pR σ1 a0 0 (some (zn σ)) → K σ4) : zwV 60 0 [some (.ref a0)] [] σ K := by
  refine zw_go (pc1 := 1) (L1 := [some (.ref a0)]) (st1 := [.ref a0]) (σ1 := σ) zM_X2_init dX2_init_0 rfl rfl rfl rfl ?_
  refine zw_obj zM_X2_init dX2_init_1 zC_2_3 (by decide) rfl ?_
  refine zw_go (pc1 := 5) (L1 := [some (.ref a0)]) (st1 := [.ref a0]) (σ1 := σ) zM_X2_init dX2_init_4 rfl rfl rfl rfl ?_
  refine zw_sipush (v := 498) zM_X2_init dX2_init_5 (by decide) ?_
  obtain ⟨σ1, e2⟩ : ∃ z9 : zx_S, z9 = zx_nw σ 1 (Int32.toNatClampNeg 498) (Int32.toNatClampNeg 498) := ⟨_, rfl⟩
  replace h := h σ1 e2
  refine zw_newI zM_X2_init dX2_init_8 (by decide) e2 ?_
  obtain ⟨hk3, h⟩ := h
  obtain ⟨σ4, e5⟩ : ∃ z9 : zx_S, z9 = zx_pR σ1 a0 0 (some (zn σ)) := ⟨_, rfl⟩
  replace h := h σ4 e5
  refine zw_putR zM_X2_init dX2_init_10 zF_2_9 rfl rfl (by decide) hk3 e5 ?_
  exact zw_retv zM_X2_init dX2_init_13 rfl h
set_option maxHeartbeats 4000000 in
set_option maxRecDepth 100000 in
theorem vc_X2_isFileRight_0 (a0 : Nat) (x1 : Int32) (σ : zx_S) (K : Int32 → zx_S → Prop) (h : zK σ a0 = 14 ∧ zwI 51 0 [some (.ref a0), some (.int (x1 + 6))] [] σ (fun v3 σ2 => zK σ2 a0 = 14 ∧ zwI 50 0 [some (.ref a0), some (.int v3)] [] σ2 (fun v6 σ5 => zK σ5 a0 = 14 ∧ zwI 63 0 [some (.ref a0), some (.int x1), some (.int (v3 - (v6 * (zI σ5 a0 2)))), none, none] [] σ5 (fun v9 σ8 => ((¬ v9 = (0 : Int32) → zK σ8 a0 = 14 ∧ zwI 51 0 [some (.ref a0), some (.int (x1 + 8))] [] σ8 (fun v12 σ11 => zwI 61 46 [some (.ref a0), some (.int x1), none, some (.int v6), some (.int v12), some (.int 0), none] [] σ11 K)) ∧ (v9 = (0 : Int32) → K 0 σ8)))))) : zwI 61 0 [some (.ref a0), some (.int x1), none, none, none, none, none] [] σ K := by
  refine zw_go (pc1 := 1) (L1 := [some (.ref a0), some (.int x1), none, none, none, none, none]) (st1 := [.ref a0]) (σ1 := σ) zM_X2_isFileRight dX2_isFileRight_0 rfl rfl rfl rfl ?_
  refine zw_go (pc1 := 2) (L1 := [some (.ref a0), some (.int x1), none, none, none, none, none]) (st1 := [.int x1, .ref a0]) (σ1 := σ) zM_X2_isFileRight dX2_isFileRight_1 rfl rfl rfl rfl ?_
  refine zw_bipush (v := 6) zM_X2_isFileRight dX2_isFileRight_2 (by decide) ?_
  refine zw_go (pc1 := 5) (L1 := [some (.ref a0), some (.int x1), none, none, none, none, none]) (st1 := [.int (x1 + 6), .ref a0]) (σ1 := σ) zM_X2_isFileRight dX2_isFileRight_4 rfl rfl rfl rfl ?_
  obtain ⟨hk1, h⟩ := h
  refine zw_callI (as := [.ref a0, .int (x1 + 6)]) (rest := []) zM_X2_isFileRight dX2_isFileRight_5 (zx_calV zC_2_27) zM_X1_wordAt rfl rfl rfl rfl rfl (zx_args0 hk1 rfl) rfl h (fun v3 σ2 h => ?_)
  refine zw_go (pc1 := 9) (L1 := [some (.ref a0), some (.int x1), some (.int v3), none, none, none, none]) (st1 := []) (σ1 := σ2) zM_X2_isFileRight dX2_isFileRight_8 rfl rfl rfl rfl ?_
  refine zw_go (pc1 := 10) (L1 := [some (.ref a0), some (.int x1), some (.int v3), none, none, none, none]) (st1 := [.ref a0]) (σ1 := σ2) zM_X2_isFileRight dX2_isFileRight_9 rfl rfl rfl rfl ?_
  refine zw_go (pc1 := 11) (L1 := [some (.ref a0), some (.int x1), some (.int v3), none, none, none, none]) (st1 := [.int v3, .ref a0]) (σ1 := σ2) zM_X2_isFileRight dX2_isFileRight_10 rfl rfl rfl rfl ?_
  obtain ⟨hk4, h⟩ := h
  refine zw_callI (as := [.ref a0, .int v3]) (rest := []) zM_X2_isFileRight dX2_isFileRight_11 (zx_calV zC_2_97) zM_X1_wholeBlocks rfl rfl rfl rfl rfl (zx_args0 hk4 rfl) rfl h (fun v6 σ5 h => ?_)
  refine zw_go (pc1 := 15) (L1 := [some (.ref a0), some (.int x1), some (.int v3), some (.int v6), none, none, none]) (st1 := []) (σ1 := σ5) zM_X2_isFileRight dX2_isFileRight_14 rfl rfl rfl rfl ?_
  refine zw_go (pc1 := 16) (L1 := [some (.ref a0), some (.int x1), some (.int v3), some (.int v6), none, none, none]) (st1 := [.ref a0]) (σ1 := σ5) zM_X2_isFileRight dX2_isFileRight_15 rfl rfl rfl rfl ?_
  refine zw_go (pc1 := 17) (L1 := [some (.ref a0), some (.int x1), some (.int v3), some (.int v6), none, none, none]) (st1 := [.int x1, .ref a0]) (σ1 := σ5) zM_X2_isFileRight dX2_isFileRight_16 rfl rfl rfl rfl ?_
  refine zw_go (pc1 := 18) (L1 := [some (.ref a0), some (.int x1), some (.int v3), some (.int v6), none, none, none]) (st1 := [.int v3, .int x1, .ref a0]) (σ1 := σ5) zM_X2_isFileRight dX2_isFileRight_17 rfl rfl rfl rfl ?_
  refine zw_go (pc1 := 19) (L1 := [some (.ref a0), some (.int x1), some (.int v3), some (.int v6), none, none, none]) (st1 := [.int v6, .int v3, .int x1, .ref a0]) (σ1 := σ5) zM_X2_isFileRight dX2_isFileRight_18 rfl rfl rfl rfl ?_
  refine zw_go (pc1 := 20) (L1 := [some (.ref a0), some (.int x1), some (.int v3), some (.int v6), none, none, none]) (st1 := [.ref a0, .int v6, .int v3, .int x1, .ref a0]) (σ1 := σ5) zM_X2_isFileRight dX2_isFileRight_19 rfl rfl rfl rfl ?_
  obtain ⟨hk7, h⟩ := h
  refine zw_getI zM_X2_isFileRight dX2_isFileRight_20 zF_2_54 rfl hk7 ?_
  refine zw_go (pc1 := 24) (L1 := [some (.ref a0), some (.int x1), some (.int v3), some (.int v6), none, none, none]) (st1 := [.int (v6 * (zI σ5 a0 2)), .int v3, .int x1, .ref a0]) (σ1 := σ5) zM_X2_isFileRight dX2_isFileRight_23 rfl rfl rfl rfl ?_
  refine zw_go (pc1 := 25) (L1 := [some (.ref a0), some (.int x1), some (.int v3), some (.int v6), none, none, none]) (st1 := [.int (v3 - (v6 * (zI σ5 a0 2))), .int x1, .ref a0]) (σ1 := σ5) zM_X2_isFileRight dX2_isFileRight_24 rfl rfl rfl rfl ?_
  refine zw_callI (as := [.ref a0, .int x1, .int (v3 - (v6 * (zI σ5 a0 2)))]) (rest := []) zM_X2_isFileRight dX2_isFileRight_25 (zx_calS zC_2_100) zM_X2_isTailRight rfl rfl rfl rfl rfl rfl rfl h (fun v9 σ8 h => ?_)
  refine zw_if_ne (tgt := 33) zM_X2_isFileRight dX2_isFileRight_28 rfl rfl (fun q => ?_) (fun q => ?_)
  · replace h := h.1 q
    refine zw_go (pc1 := 34) (L1 := [some (.ref a0), some (.int x1), some (.int v3), some (.int v6), none, none, none]) (st1 := [.ref a0]) (σ1 := σ8) zM_X2_isFileRight dX2_isFileRight_33 rfl rfl rfl rfl ?_
    refine zw_go (pc1 := 35) (L1 := [some (.ref a0), some (.int x1), some (.int v3), some (.int v6), none, none, none]) (st1 := [.int x1, .ref a0]) (σ1 := σ8) zM_X2_isFileRight dX2_isFileRight_34 rfl rfl rfl rfl ?_
    refine zw_bipush (v := 8) zM_X2_isFileRight dX2_isFileRight_35 (by decide) ?_
    refine zw_go (pc1 := 38) (L1 := [some (.ref a0), some (.int x1), some (.int v3), some (.int v6), none, none, none]) (st1 := [.int (x1 + 8), .ref a0]) (σ1 := σ8) zM_X2_isFileRight dX2_isFileRight_37 rfl rfl rfl rfl ?_
    obtain ⟨hk10, h⟩ := h
    refine zw_callI (as := [.ref a0, .int (x1 + 8)]) (rest := []) zM_X2_isFileRight dX2_isFileRight_38 (zx_calV zC_2_27) zM_X1_wordAt rfl rfl rfl rfl rfl (zx_args0 hk10 rfl) rfl h (fun v12 σ11 h => ?_)
    refine zw_go (pc1 := 43) (L1 := [some (.ref a0), some (.int x1), some (.int v3), some (.int v6), some (.int v12), none, none]) (st1 := []) (σ1 := σ11) zM_X2_isFileRight dX2_isFileRight_41 rfl rfl rfl rfl ?_
    refine zw_iconst (v := 0) zM_X2_isFileRight dX2_isFileRight_43 (by decide) ?_
    refine zw_go (pc1 := 46) (L1 := [some (.ref a0), some (.int x1), some (.int v3), some (.int v6), some (.int v12), some (.int 0), none]) (st1 := []) (σ1 := σ11) zM_X2_isFileRight dX2_isFileRight_44 rfl rfl rfl rfl ?_
    exact zw_weak2 h ⟨rfl, rfl, rfl, rfl, rfl, trivial⟩
  · replace h := h.2 q
    refine zw_iconst (v := 0) zM_X2_isFileRight dX2_isFileRight_31 (by decide) ?_
    exact zw_retz zM_X2_isFileRight dX2_isFileRight_32 rfl (by decide) h
set_option maxHeartbeats 4000000 in
set_option maxRecDepth 100000 in
theorem vc_X2_isFileRight_46 (a0 : Nat) (x1 : Int32) (x3 : Int32) (x4 : Int32) (x5 : Int32) (σ : zx_S) (K : Int32 → zx_S → Prop) (h : ((x3 ≤ x5 → K 1 σ) ∧ (¬ x3 ≤ x5 → zK σ a0 = 14 ∧ zwI 51 0 [some (.ref a0), some (.int ((x1 + 12) + (2 * x5)))] [] σ (fun v3 σ2 => zK σ2 a0 = 14 ∧ zwI 22 0 [some (.ref a0), some (.int x4), some (.int v3), some (.int (zI σ2 a0 2))] [] σ2 (fun v6 σ5 => ((¬ v6 = (0 : Int32) → zwI 45 0 [some (.int v3)] [] σ5 (fun v8 σ7 => zwI 61 46 [some (.ref a0), some (.int x1), none, some (.int x3), some (.int (x4 + v8)), some (.int (x5 + Int32.ofInt 1)), none] [] σ7 K)) ∧ (v6 = (0 : Int32) → K 0 σ5))))))) : zwI 61 46 [some (.ref a0), some (.int x1), none, some (.int x3), some (.int x4), some (.int x5), none] [] σ K := by
  refine zw_go (pc1 := 48) (L1 := [some (.ref a0), some (.int x1), none, some (.int x3), some (.int x4), some (.int x5), none]) (st1 := [.int x5]) (σ1 := σ) zM_X2_isFileRight dX2_isFileRight_46 rfl rfl rfl rfl ?_
  refine zw_go (pc1 := 49) (L1 := [some (.ref a0), some (.int x1), none, some (.int x3), some (.int x4), some (.int x5), none]) (st1 := [.int x3, .int x5]) (σ1 := σ) zM_X2_isFileRight dX2_isFileRight_48 rfl rfl rfl rfl ?_
  refine zw_icmp_ge (tgt := 100) zM_X2_isFileRight dX2_isFileRight_49 rfl rfl (fun q => ?_) (fun q => ?_)
  · replace h := h.1 q
    refine zw_iconst (v := 1) zM_X2_isFileRight dX2_isFileRight_100 (by decide) ?_
    exact zw_retz zM_X2_isFileRight dX2_isFileRight_101 rfl (by decide) h
  · replace h := h.2 q
    refine zw_go (pc1 := 53) (L1 := [some (.ref a0), some (.int x1), none, some (.int x3), some (.int x4), some (.int x5), none]) (st1 := [.ref a0]) (σ1 := σ) zM_X2_isFileRight dX2_isFileRight_52 rfl rfl rfl rfl ?_
    refine zw_go (pc1 := 54) (L1 := [some (.ref a0), some (.int x1), none, some (.int x3), some (.int x4), some (.int x5), none]) (st1 := [.int x1, .ref a0]) (σ1 := σ) zM_X2_isFileRight dX2_isFileRight_53 rfl rfl rfl rfl ?_
    refine zw_bipush (v := 12) zM_X2_isFileRight dX2_isFileRight_54 (by decide) ?_
    refine zw_go (pc1 := 57) (L1 := [some (.ref a0), some (.int x1), none, some (.int x3), some (.int x4), some (.int x5), none]) (st1 := [.int (x1 + 12), .ref a0]) (σ1 := σ) zM_X2_isFileRight dX2_isFileRight_56 rfl rfl rfl rfl ?_
    refine zw_iconst (v := 2) zM_X2_isFileRight dX2_isFileRight_57 (by decide) ?_
    refine zw_go (pc1 := 60) (L1 := [some (.ref a0), some (.int x1), none, some (.int x3), some (.int x4), some (.int x5), none]) (st1 := [.int x5, .int 2, .int (x1 + 12), .ref a0]) (σ1 := σ) zM_X2_isFileRight dX2_isFileRight_58 rfl rfl rfl rfl ?_
    refine zw_go (pc1 := 61) (L1 := [some (.ref a0), some (.int x1), none, some (.int x3), some (.int x4), some (.int x5), none]) (st1 := [.int (2 * x5), .int (x1 + 12), .ref a0]) (σ1 := σ) zM_X2_isFileRight dX2_isFileRight_60 rfl rfl rfl rfl ?_
    refine zw_go (pc1 := 62) (L1 := [some (.ref a0), some (.int x1), none, some (.int x3), some (.int x4), some (.int x5), none]) (st1 := [.int ((x1 + 12) + (2 * x5)), .ref a0]) (σ1 := σ) zM_X2_isFileRight dX2_isFileRight_61 rfl rfl rfl rfl ?_
    obtain ⟨hk1, h⟩ := h
    refine zw_callI (as := [.ref a0, .int ((x1 + 12) + (2 * x5))]) (rest := []) zM_X2_isFileRight dX2_isFileRight_62 (zx_calV zC_2_27) zM_X1_wordAt rfl rfl rfl rfl rfl (zx_args0 hk1 rfl) rfl h (fun v3 σ2 h => ?_)
    refine zw_go (pc1 := 67) (L1 := [some (.ref a0), some (.int x1), none, some (.int x3), some (.int x4), some (.int x5), some (.int v3)]) (st1 := []) (σ1 := σ2) zM_X2_isFileRight dX2_isFileRight_65 rfl rfl rfl rfl ?_
    refine zw_go (pc1 := 68) (L1 := [some (.ref a0), some (.int x1), none, some (.int x3), some (.int x4), some (.int x5), some (.int v3)]) (st1 := [.ref a0]) (σ1 := σ2) zM_X2_isFileRight dX2_isFileRight_67 rfl rfl rfl rfl ?_
    refine zw_go (pc1 := 70) (L1 := [some (.ref a0), some (.int x1), none, some (.int x3), some (.int x4), some (.int x5), some (.int v3)]) (st1 := [.int x4, .ref a0]) (σ1 := σ2) zM_X2_isFileRight dX2_isFileRight_68 rfl rfl rfl rfl ?_
    refine zw_go (pc1 := 72) (L1 := [some (.ref a0), some (.int x1), none, some (.int x3), some (.int x4), some (.int x5), some (.int v3)]) (st1 := [.int v3, .int x4, .ref a0]) (σ1 := σ2) zM_X2_isFileRight dX2_isFileRight_70 rfl rfl rfl rfl ?_
    refine zw_go (pc1 := 73) (L1 := [some (.ref a0), some (.int x1), none, some (.int x3), some (.int x4), some (.int x5), some (.int v3)]) (st1 := [.ref a0, .int v3, .int x4, .ref a0]) (σ1 := σ2) zM_X2_isFileRight dX2_isFileRight_72 rfl rfl rfl rfl ?_
    obtain ⟨hk4, h⟩ := h
    refine zw_getI zM_X2_isFileRight dX2_isFileRight_73 zF_2_54 rfl hk4 ?_
    refine zw_callI (as := [.ref a0, .int x4, .int v3, .int (zI σ2 a0 2)]) (rest := []) zM_X2_isFileRight dX2_isFileRight_76 (zx_calV zC_2_82) zM_X1_canBeBlock rfl rfl rfl rfl rfl (zx_args0 hk4 rfl) rfl h (fun v6 σ5 h => ?_)
    refine zw_if_ne (tgt := 84) zM_X2_isFileRight dX2_isFileRight_79 rfl rfl (fun q => ?_) (fun q => ?_)
    · replace h := h.1 q
      refine zw_go (pc1 := 86) (L1 := [some (.ref a0), some (.int x1), none, some (.int x3), some (.int x4), some (.int x5), some (.int v3)]) (st1 := [.int x4]) (σ1 := σ5) zM_X2_isFileRight dX2_isFileRight_84 rfl rfl rfl rfl ?_
      refine zw_go (pc1 := 88) (L1 := [some (.ref a0), some (.int x1), none, some (.int x3), some (.int x4), some (.int x5), some (.int v3)]) (st1 := [.int v3, .int x4]) (σ1 := σ5) zM_X2_isFileRight dX2_isFileRight_86 rfl rfl rfl rfl ?_
      refine zw_callI (as := [.int v3]) (rest := [.int x4]) zM_X2_isFileRight dX2_isFileRight_88 (zx_calS zC_2_104) zM_X1_storedBytes rfl rfl rfl rfl rfl rfl rfl h (fun v8 σ7 h => ?_)
      refine zw_go (pc1 := 92) (L1 := [some (.ref a0), some (.int x1), none, some (.int x3), some (.int x4), some (.int x5), some (.int v3)]) (st1 := [.int (x4 + v8)]) (σ1 := σ7) zM_X2_isFileRight dX2_isFileRight_91 rfl rfl rfl rfl ?_
      refine zw_go (pc1 := 94) (L1 := [some (.ref a0), some (.int x1), none, some (.int x3), some (.int (x4 + v8)), some (.int x5), some (.int v3)]) (st1 := []) (σ1 := σ7) zM_X2_isFileRight dX2_isFileRight_92 rfl rfl rfl rfl ?_
      refine zw_go (pc1 := 97) (L1 := [some (.ref a0), some (.int x1), none, some (.int x3), some (.int (x4 + v8)), some (.int (x5 + Int32.ofInt 1)), some (.int v3)]) (st1 := []) (σ1 := σ7) zM_X2_isFileRight dX2_isFileRight_94 rfl rfl rfl rfl ?_
      refine zw_goto (tgt := 46) zM_X2_isFileRight dX2_isFileRight_97 rfl ?_
      exact zw_weak2 h ⟨rfl, rfl, rfl, rfl, rfl, trivial⟩
    · replace h := h.2 q
      refine zw_iconst (v := 0) zM_X2_isFileRight dX2_isFileRight_82 (by decide) ?_
      exact zw_retz zM_X2_isFileRight dX2_isFileRight_83 rfl (by decide) h
set_option maxHeartbeats 4000000 in
set_option maxRecDepth 100000 in
theorem vc_X2_isHeadRight_0 (a0 : Nat) (σ : zx_S) (K : Int32 → zx_S → Prop) (h : zK σ a0 = 14 ∧ (((zI σ a0 1) < (18 : Int32) → K 0 σ) ∧ (¬ (zI σ a0 1) < (18 : Int32) → zwI 21 0 [some (.ref a0), some (.int 0)] [] σ (fun v3 σ2 => ((¬ v3 = (84 : Int32) → K 0 σ2) ∧ (v3 = (84 : Int32) → zK σ2 a0 = 14 ∧ zwI 21 0 [some (.ref a0), some (.int 1)] [] σ2 (fun v6 σ5 => ((¬ v6 = (73 : Int32) → K 0 σ5) ∧ (v6 = (73 : Int32) → zK σ5 a0 = 14 ∧ zwI 123 0 [some (.int (zI σ5 a0 2))] [] σ5 (fun v9 σ8 => ((v9 = (0 : Int32) → K 0 σ8) ∧ (¬ v9 = (0 : Int32) → zK σ8 a0 = 14 ∧ zwI 21 0 [some (.ref a0), some (.int 3)] [] σ8 (fun v12 σ11 => ((¬ v12 = (0 : Int32) → K 0 σ11) ∧ (v12 = (0 : Int32) → K 1 σ11))))))))))))))) : zwI 62 0 [some (.ref a0)] [] σ K := by
  refine zw_go (pc1 := 1) (L1 := [some (.ref a0)]) (st1 := [.ref a0]) (σ1 := σ) zM_X2_isHeadRight dX2_isHeadRight_0 rfl rfl rfl rfl ?_
  obtain ⟨hk1, h⟩ := h
  refine zw_getI zM_X2_isHeadRight dX2_isHeadRight_1 zF_2_47 rfl hk1 ?_
  refine zw_bipush (v := 18) zM_X2_isHeadRight dX2_isHeadRight_4 (by decide) ?_
  refine zw_icmp_lt (tgt := 51) zM_X2_isHeadRight dX2_isHeadRight_6 rfl rfl (fun q => ?_) (fun q => ?_)
  · replace h := h.1 q
    refine zw_iconst (v := 0) zM_X2_isHeadRight dX2_isHeadRight_51 (by decide) ?_
    exact zw_retz zM_X2_isHeadRight dX2_isHeadRight_52 rfl (by decide) h
  · replace h := h.2 q
    refine zw_go (pc1 := 10) (L1 := [some (.ref a0)]) (st1 := [.ref a0]) (σ1 := σ) zM_X2_isHeadRight dX2_isHeadRight_9 rfl rfl rfl rfl ?_
    refine zw_iconst (v := 0) zM_X2_isHeadRight dX2_isHeadRight_10 (by decide) ?_
    refine zw_callI (as := [.ref a0, .int 0]) (rest := []) zM_X2_isHeadRight dX2_isHeadRight_11 (zx_calV zC_2_51) zM_X1_byteAt rfl rfl rfl rfl rfl (zx_args0 hk1 rfl) rfl h (fun v3 σ2 h => ?_)
    refine zw_bipush (v := 84) zM_X2_isHeadRight dX2_isHeadRight_14 (by decide) ?_
    refine zw_icmp_ne (tgt := 51) zM_X2_isHeadRight dX2_isHeadRight_16 rfl rfl (fun q => ?_) (fun q => ?_)
    · replace h := h.1 q
      refine zw_iconst (v := 0) zM_X2_isHeadRight dX2_isHeadRight_51 (by decide) ?_
      exact zw_retz zM_X2_isHeadRight dX2_isHeadRight_52 rfl (by decide) h
    · replace h := h.2 q
      refine zw_go (pc1 := 20) (L1 := [some (.ref a0)]) (st1 := [.ref a0]) (σ1 := σ2) zM_X2_isHeadRight dX2_isHeadRight_19 rfl rfl rfl rfl ?_
      refine zw_iconst (v := 1) zM_X2_isHeadRight dX2_isHeadRight_20 (by decide) ?_
      obtain ⟨hk4, h⟩ := h
      refine zw_callI (as := [.ref a0, .int 1]) (rest := []) zM_X2_isHeadRight dX2_isHeadRight_21 (zx_calV zC_2_51) zM_X1_byteAt rfl rfl rfl rfl rfl (zx_args0 hk4 rfl) rfl h (fun v6 σ5 h => ?_)
      refine zw_bipush (v := 73) zM_X2_isHeadRight dX2_isHeadRight_24 (by decide) ?_
      refine zw_icmp_ne (tgt := 51) zM_X2_isHeadRight dX2_isHeadRight_26 rfl rfl (fun q => ?_) (fun q => ?_)
      · replace h := h.1 q
        refine zw_iconst (v := 0) zM_X2_isHeadRight dX2_isHeadRight_51 (by decide) ?_
        exact zw_retz zM_X2_isHeadRight dX2_isHeadRight_52 rfl (by decide) h
      · replace h := h.2 q
        refine zw_go (pc1 := 30) (L1 := [some (.ref a0)]) (st1 := [.ref a0]) (σ1 := σ5) zM_X2_isHeadRight dX2_isHeadRight_29 rfl rfl rfl rfl ?_
        obtain ⟨hk7, h⟩ := h
        refine zw_getI zM_X2_isHeadRight dX2_isHeadRight_30 zF_2_54 rfl hk7 ?_
        refine zw_callI (as := [.int (zI σ5 a0 2)]) (rest := []) zM_X2_isHeadRight dX2_isHeadRight_33 (zx_calS zC_2_57) zM_X6_isBlock rfl rfl rfl rfl rfl rfl rfl h (fun v9 σ8 h => ?_)
        refine zw_if_eq (tgt := 51) zM_X2_isHeadRight dX2_isHeadRight_36 rfl rfl (fun q => ?_) (fun q => ?_)
        · replace h := h.1 q
          refine zw_iconst (v := 0) zM_X2_isHeadRight dX2_isHeadRight_51 (by decide) ?_
          exact zw_retz zM_X2_isHeadRight dX2_isHeadRight_52 rfl (by decide) h
        · replace h := h.2 q
          refine zw_go (pc1 := 40) (L1 := [some (.ref a0)]) (st1 := [.ref a0]) (σ1 := σ8) zM_X2_isHeadRight dX2_isHeadRight_39 rfl rfl rfl rfl ?_
          refine zw_iconst (v := 3) zM_X2_isHeadRight dX2_isHeadRight_40 (by decide) ?_
          obtain ⟨hk10, h⟩ := h
          refine zw_callI (as := [.ref a0, .int 3]) (rest := []) zM_X2_isHeadRight dX2_isHeadRight_41 (zx_calV zC_2_51) zM_X1_byteAt rfl rfl rfl rfl rfl (zx_args0 hk10 rfl) rfl h (fun v12 σ11 h => ?_)
          refine zw_if_ne (tgt := 51) zM_X2_isHeadRight dX2_isHeadRight_44 rfl rfl (fun q => ?_) (fun q => ?_)
          · replace h := h.1 q
            refine zw_iconst (v := 0) zM_X2_isHeadRight dX2_isHeadRight_51 (by decide) ?_
            exact zw_retz zM_X2_isHeadRight dX2_isHeadRight_52 rfl (by decide) h
          · replace h := h.2 q
            refine zw_iconst (v := 1) zM_X2_isHeadRight dX2_isHeadRight_47 (by decide) ?_
            refine zw_goto (tgt := 52) zM_X2_isHeadRight dX2_isHeadRight_48 rfl ?_
            exact zw_retz zM_X2_isHeadRight dX2_isHeadRight_52 rfl (by decide) h
set_option maxHeartbeats 4000000 in
set_option maxRecDepth 100000 in
theorem vc_X2_isTailRight_0 (a0 : Nat) (x1 : Int32) (x2 : Int32) (σ : zx_S) (K : Int32 → zx_S → Prop) (h : zK σ a0 = 14 ∧ zwI 21 0 [some (.ref a0), some (.int (x1 + 10))] [] σ (fun v3 σ2 => zK σ2 a0 = 14 ∧ zwI 21 0 [some (.ref a0), some (.int (x1 + 11))] [] σ2 (fun v6 σ5 => ((¬ x2 = (0 : Int32) → ((v3 < (1 : Int32) → K 0 σ5) ∧ (¬ v3 < (1 : Int32) → zK σ5 a0 = 14 ∧ zwI 47 0 [some (.ref a0)] [] σ5 (fun v9 σ8 => ((v9 < v3 → K 0 σ8) ∧ (¬ v9 < v3 → zK σ8 a0 = 14 ∧ zwI 48 0 [some (.ref a0), some (.int (v3 - 1))] [] σ8 (fun v12 σ11 => zK σ11 a0 = 14 ∧ zwI 21 0 [some (.ref a0), some (.int (v12 + 4))] [] σ11 (fun v15 σ14 => ((v15 < (v6 + x2) → K 0 σ14) ∧ (¬ v15 < (v6 + x2) → K 1 σ14)))))))))) ∧ (x2 = (0 : Int32) → ((¬ v3 = (0 : Int32) → K 0 σ5) ∧ (v3 = (0 : Int32) → ((¬ v6 = (0 : Int32) → K 0 σ5) ∧ (v6 = (0 : Int32) → K 1 σ5))))))))) : zwI 63 0 [some (.ref a0), some (.int x1), some (.int x2), none, none] [] σ K := by
  refine zw_go (pc1 := 1) (L1 := [some (.ref a0), some (.int x1), some (.int x2), none, none]) (st1 := [.ref a0]) (σ1 := σ) zM_X2_isTailRight dX2_isTailRight_0 rfl rfl rfl rfl ?_
  refine zw_go (pc1 := 2) (L1 := [some (.ref a0), some (.int x1), some (.int x2), none, none]) (st1 := [.int x1, .ref a0]) (σ1 := σ) zM_X2_isTailRight dX2_isTailRight_1 rfl rfl rfl rfl ?_
  refine zw_bipush (v := 10) zM_X2_isTailRight dX2_isTailRight_2 (by decide) ?_
  refine zw_go (pc1 := 5) (L1 := [some (.ref a0), some (.int x1), some (.int x2), none, none]) (st1 := [.int (x1 + 10), .ref a0]) (σ1 := σ) zM_X2_isTailRight dX2_isTailRight_4 rfl rfl rfl rfl ?_
  obtain ⟨hk1, h⟩ := h
  refine zw_callI (as := [.ref a0, .int (x1 + 10)]) (rest := []) zM_X2_isTailRight dX2_isTailRight_5 (zx_calV zC_2_51) zM_X1_byteAt rfl rfl rfl rfl rfl (zx_args0 hk1 rfl) rfl h (fun v3 σ2 h => ?_)
  refine zw_go (pc1 := 9) (L1 := [some (.ref a0), some (.int x1), some (.int x2), some (.int v3), none]) (st1 := []) (σ1 := σ2) zM_X2_isTailRight dX2_isTailRight_8 rfl rfl rfl rfl ?_
  refine zw_go (pc1 := 10) (L1 := [some (.ref a0), some (.int x1), some (.int x2), some (.int v3), none]) (st1 := [.ref a0]) (σ1 := σ2) zM_X2_isTailRight dX2_isTailRight_9 rfl rfl rfl rfl ?_
  refine zw_go (pc1 := 11) (L1 := [some (.ref a0), some (.int x1), some (.int x2), some (.int v3), none]) (st1 := [.int x1, .ref a0]) (σ1 := σ2) zM_X2_isTailRight dX2_isTailRight_10 rfl rfl rfl rfl ?_
  refine zw_bipush (v := 11) zM_X2_isTailRight dX2_isTailRight_11 (by decide) ?_
  refine zw_go (pc1 := 14) (L1 := [some (.ref a0), some (.int x1), some (.int x2), some (.int v3), none]) (st1 := [.int (x1 + 11), .ref a0]) (σ1 := σ2) zM_X2_isTailRight dX2_isTailRight_13 rfl rfl rfl rfl ?_
  obtain ⟨hk4, h⟩ := h
  refine zw_callI (as := [.ref a0, .int (x1 + 11)]) (rest := []) zM_X2_isTailRight dX2_isTailRight_14 (zx_calV zC_2_51) zM_X1_byteAt rfl rfl rfl rfl rfl (zx_args0 hk4 rfl) rfl h (fun v6 σ5 h => ?_)
  refine zw_go (pc1 := 19) (L1 := [some (.ref a0), some (.int x1), some (.int x2), some (.int v3), some (.int v6)]) (st1 := []) (σ1 := σ5) zM_X2_isTailRight dX2_isTailRight_17 rfl rfl rfl rfl ?_
  refine zw_go (pc1 := 20) (L1 := [some (.ref a0), some (.int x1), some (.int x2), some (.int v3), some (.int v6)]) (st1 := [.int x2]) (σ1 := σ5) zM_X2_isTailRight dX2_isTailRight_19 rfl rfl rfl rfl ?_
  refine zw_if_ne (tgt := 38) zM_X2_isTailRight dX2_isTailRight_20 rfl rfl (fun q => ?_) (fun q => ?_)
  · replace h := h.1 q
    refine zw_go (pc1 := 39) (L1 := [some (.ref a0), some (.int x1), some (.int x2), some (.int v3), some (.int v6)]) (st1 := [.int v3]) (σ1 := σ5) zM_X2_isTailRight dX2_isTailRight_38 rfl rfl rfl rfl ?_
    refine zw_iconst (v := 1) zM_X2_isTailRight dX2_isTailRight_39 (by decide) ?_
    refine zw_icmp_lt (tgt := 75) zM_X2_isTailRight dX2_isTailRight_40 rfl rfl (fun q => ?_) (fun q => ?_)
    · replace h := h.1 q
      refine zw_iconst (v := 0) zM_X2_isTailRight dX2_isTailRight_75 (by decide) ?_
      exact zw_retz zM_X2_isTailRight dX2_isTailRight_76 rfl (by decide) h
    · replace h := h.2 q
      refine zw_go (pc1 := 44) (L1 := [some (.ref a0), some (.int x1), some (.int x2), some (.int v3), some (.int v6)]) (st1 := [.int v3]) (σ1 := σ5) zM_X2_isTailRight dX2_isTailRight_43 rfl rfl rfl rfl ?_
      refine zw_go (pc1 := 45) (L1 := [some (.ref a0), some (.int x1), some (.int x2), some (.int v3), some (.int v6)]) (st1 := [.ref a0, .int v3]) (σ1 := σ5) zM_X2_isTailRight dX2_isTailRight_44 rfl rfl rfl rfl ?_
      obtain ⟨hk7, h⟩ := h
      refine zw_callI (as := [.ref a0]) (rest := [.int v3]) zM_X2_isTailRight dX2_isTailRight_45 (zx_calV zC_2_76) zM_X1_tailBlocks rfl rfl rfl rfl rfl (zx_args0 hk7 rfl) rfl h (fun v9 σ8 h => ?_)
      refine zw_icmp_gt (tgt := 75) zM_X2_isTailRight dX2_isTailRight_48 rfl rfl (fun q => ?_) (fun q => ?_)
      · replace h := h.1 q
        refine zw_iconst (v := 0) zM_X2_isTailRight dX2_isTailRight_75 (by decide) ?_
        exact zw_retz zM_X2_isTailRight dX2_isTailRight_76 rfl (by decide) h
      · replace h := h.2 q
        refine zw_go (pc1 := 53) (L1 := [some (.ref a0), some (.int x1), some (.int x2), some (.int v3), some (.int v6)]) (st1 := [.int v6]) (σ1 := σ8) zM_X2_isTailRight dX2_isTailRight_51 rfl rfl rfl rfl ?_
        refine zw_go (pc1 := 54) (L1 := [some (.ref a0), some (.int x1), some (.int x2), some (.int v3), some (.int v6)]) (st1 := [.int x2, .int v6]) (σ1 := σ8) zM_X2_isTailRight dX2_isTailRight_53 rfl rfl rfl rfl ?_
        refine zw_go (pc1 := 55) (L1 := [some (.ref a0), some (.int x1), some (.int x2), some (.int v3), some (.int v6)]) (st1 := [.int (v6 + x2)]) (σ1 := σ8) zM_X2_isTailRight dX2_isTailRight_54 rfl rfl rfl rfl ?_
        refine zw_go (pc1 := 56) (L1 := [some (.ref a0), some (.int x1), some (.int x2), some (.int v3), some (.int v6)]) (st1 := [.ref a0, .int (v6 + x2)]) (σ1 := σ8) zM_X2_isTailRight dX2_isTailRight_55 rfl rfl rfl rfl ?_
        refine zw_go (pc1 := 57) (L1 := [some (.ref a0), some (.int x1), some (.int x2), some (.int v3), some (.int v6)]) (st1 := [.ref a0, .ref a0, .int (v6 + x2)]) (σ1 := σ8) zM_X2_isTailRight dX2_isTailRight_56 rfl rfl rfl rfl ?_
        refine zw_go (pc1 := 58) (L1 := [some (.ref a0), some (.int x1), some (.int x2), some (.int v3), some (.int v6)]) (st1 := [.int v3, .ref a0, .ref a0, .int (v6 + x2)]) (σ1 := σ8) zM_X2_isTailRight dX2_isTailRight_57 rfl rfl rfl rfl ?_
        refine zw_iconst (v := 1) zM_X2_isTailRight dX2_isTailRight_58 (by decide) ?_
        refine zw_go (pc1 := 60) (L1 := [some (.ref a0), some (.int x1), some (.int x2), some (.int v3), some (.int v6)]) (st1 := [.int (v3 - 1), .ref a0, .ref a0, .int (v6 + x2)]) (σ1 := σ8) zM_X2_isTailRight dX2_isTailRight_59 rfl rfl rfl rfl ?_
        obtain ⟨hk10, h⟩ := h
        refine zw_callI (as := [.ref a0, .int (v3 - 1)]) (rest := [.ref a0, .int (v6 + x2)]) zM_X2_isTailRight dX2_isTailRight_60 (zx_calV zC_2_79) zM_X1_tailRow rfl rfl rfl rfl rfl (zx_args0 hk10 rfl) rfl h (fun v12 σ11 h => ?_)
        refine zw_iconst (v := 4) zM_X2_isTailRight dX2_isTailRight_63 (by decide) ?_
        refine zw_go (pc1 := 65) (L1 := [some (.ref a0), some (.int x1), some (.int x2), some (.int v3), some (.int v6)]) (st1 := [.int (v12 + 4), .ref a0, .int (v6 + x2)]) (σ1 := σ11) zM_X2_isTailRight dX2_isTailRight_64 rfl rfl rfl rfl ?_
        obtain ⟨hk13, h⟩ := h
        refine zw_callI (as := [.ref a0, .int (v12 + 4)]) (rest := [.int (v6 + x2)]) zM_X2_isTailRight dX2_isTailRight_65 (zx_calV zC_2_51) zM_X1_byteAt rfl rfl rfl rfl rfl (zx_args0 hk13 rfl) rfl h (fun v15 σ14 h => ?_)
        refine zw_icmp_gt (tgt := 75) zM_X2_isTailRight dX2_isTailRight_68 rfl rfl (fun q => ?_) (fun q => ?_)
        · replace h := h.1 q
          refine zw_iconst (v := 0) zM_X2_isTailRight dX2_isTailRight_75 (by decide) ?_
          exact zw_retz zM_X2_isTailRight dX2_isTailRight_76 rfl (by decide) h
        · replace h := h.2 q
          refine zw_iconst (v := 1) zM_X2_isTailRight dX2_isTailRight_71 (by decide) ?_
          refine zw_goto (tgt := 76) zM_X2_isTailRight dX2_isTailRight_72 rfl ?_
          exact zw_retz zM_X2_isTailRight dX2_isTailRight_76 rfl (by decide) h
  · replace h := h.2 q
    refine zw_go (pc1 := 24) (L1 := [some (.ref a0), some (.int x1), some (.int x2), some (.int v3), some (.int v6)]) (st1 := [.int v3]) (σ1 := σ5) zM_X2_isTailRight dX2_isTailRight_23 rfl rfl rfl rfl ?_
    refine zw_if_ne (tgt := 36) zM_X2_isTailRight dX2_isTailRight_24 rfl rfl (fun q => ?_) (fun q => ?_)
    · replace h := h.1 q
      refine zw_iconst (v := 0) zM_X2_isTailRight dX2_isTailRight_36 (by decide) ?_
      exact zw_retz zM_X2_isTailRight dX2_isTailRight_37 rfl (by decide) h
    · replace h := h.2 q
      refine zw_go (pc1 := 29) (L1 := [some (.ref a0), some (.int x1), some (.int x2), some (.int v3), some (.int v6)]) (st1 := [.int v6]) (σ1 := σ5) zM_X2_isTailRight dX2_isTailRight_27 rfl rfl rfl rfl ?_
      refine zw_if_ne (tgt := 36) zM_X2_isTailRight dX2_isTailRight_29 rfl rfl (fun q => ?_) (fun q => ?_)
      · replace h := h.1 q
        refine zw_iconst (v := 0) zM_X2_isTailRight dX2_isTailRight_36 (by decide) ?_
        exact zw_retz zM_X2_isTailRight dX2_isTailRight_37 rfl (by decide) h
      · replace h := h.2 q
        refine zw_iconst (v := 1) zM_X2_isTailRight dX2_isTailRight_32 (by decide) ?_
        refine zw_goto (tgt := 37) zM_X2_isTailRight dX2_isTailRight_33 rfl ?_
        exact zw_retz zM_X2_isTailRight dX2_isTailRight_37 rfl (by decide) h
set_option maxHeartbeats 4000000 in
set_option maxRecDepth 100000 in
theorem vc_X2_isTreeRight_0 (a0 : Nat) (a1 : Nat) (σ : zx_S) (K : Int32 → zx_S → Prop) (h : zK σ a1 = 14 ∧ zwI 30 0 [some (.ref a1), some (.int 1)] [] σ (fun v3 σ2 => ((¬ v3 = (1 : Int32) → K 0 σ2) ∧ (v3 = (1 : Int32) → zK σ2 a1 = 14 ∧ zwI 32 0 [some (.ref a1), some (.int 1)] [] σ2 (fun v6 σ5 => ((¬ v6 = (1 : Int32) → K 0 σ5) ∧ (v6 = (1 : Int32) → zK σ5 a1 = 14 ∧ zwI 28 0 [some (.ref a1), some (.int 1)] [] σ5 (fun v9 σ8 => ((v9 = (1 : Int32) → zK σ8 a1 = 14 ∧ (((497 : Int32) < (zI σ8 a1 3) → K 0 σ8) ∧ (¬ (497 : Int32) < (zI σ8 a1 3) → zK σ8 a0 = 15 ∧ zwI 52 0 [some (.ref a0), some (.ref a1), none, none, none, none, none] [] σ8 (fun v13 σ12 => ((v13 = (0 : Int32) → K 0 σ12) ∧ (¬ v13 = (0 : Int32) → zK σ12 a0 = 15 ∧ ∃ b15 : Nat, zR σ12 a0 0 = some b15 ∧ zK σ12 b15 = 1 ∧ zx_in 1 (zN σ12 b15) = true ∧ (((zI σ12 b15 (Int32.toNatClampNeg 1)) = (0 : Int32) → zwI 64 60 [some (.ref a0), some (.ref a1), some (.int 2), none] [] σ12 K) ∧ (¬ (zI σ12 b15 (Int32.toNatClampNeg 1)) = (0 : Int32) → K 0 σ12)))))))) ∧ (¬ v9 = (1 : Int32) → K 0 σ8)))))))))) : zwI 64 0 [some (.ref a0), some (.ref a1), none, none] [] σ K := by
  refine zw_go (pc1 := 1) (L1 := [some (.ref a0), some (.ref a1), none, none]) (st1 := [.ref a1]) (σ1 := σ) zM_X2_isTreeRight dX2_isTreeRight_0 rfl rfl rfl rfl ?_
  refine zw_iconst (v := 1) zM_X2_isTreeRight dX2_isTreeRight_1 (by decide) ?_
  obtain ⟨hk1, h⟩ := h
  refine zw_callI (as := [.ref a1, .int 1]) (rest := []) zM_X2_isTreeRight dX2_isTreeRight_2 (zx_calV zC_2_107) zM_X1_kindOf rfl rfl rfl rfl rfl (zx_args0 hk1 rfl) rfl h (fun v3 σ2 h => ?_)
  refine zw_iconst (v := 1) zM_X2_isTreeRight dX2_isTreeRight_5 (by decide) ?_
  refine zw_icmp_ne (tgt := 27) zM_X2_isTreeRight dX2_isTreeRight_6 rfl rfl (fun q => ?_) (fun q => ?_)
  · replace h := h.1 q
    refine zw_iconst (v := 0) zM_X2_isTreeRight dX2_isTreeRight_27 (by decide) ?_
    exact zw_retz zM_X2_isTreeRight dX2_isTreeRight_28 rfl (by decide) h
  · replace h := h.2 q
    refine zw_go (pc1 := 10) (L1 := [some (.ref a0), some (.ref a1), none, none]) (st1 := [.ref a1]) (σ1 := σ2) zM_X2_isTreeRight dX2_isTreeRight_9 rfl rfl rfl rfl ?_
    refine zw_iconst (v := 1) zM_X2_isTreeRight dX2_isTreeRight_10 (by decide) ?_
    obtain ⟨hk4, h⟩ := h
    refine zw_callI (as := [.ref a1, .int 1]) (rest := []) zM_X2_isTreeRight dX2_isTreeRight_11 (zx_calV zC_2_122) zM_X1_namesOf rfl rfl rfl rfl rfl (zx_args0 hk4 rfl) rfl h (fun v6 σ5 h => ?_)
    refine zw_iconst (v := 1) zM_X2_isTreeRight dX2_isTreeRight_14 (by decide) ?_
    refine zw_icmp_ne (tgt := 27) zM_X2_isTreeRight dX2_isTreeRight_15 rfl rfl (fun q => ?_) (fun q => ?_)
    · replace h := h.1 q
      refine zw_iconst (v := 0) zM_X2_isTreeRight dX2_isTreeRight_27 (by decide) ?_
      exact zw_retz zM_X2_isTreeRight dX2_isTreeRight_28 rfl (by decide) h
    · replace h := h.2 q
      refine zw_go (pc1 := 19) (L1 := [some (.ref a0), some (.ref a1), none, none]) (st1 := [.ref a1]) (σ1 := σ5) zM_X2_isTreeRight dX2_isTreeRight_18 rfl rfl rfl rfl ?_
      refine zw_iconst (v := 1) zM_X2_isTreeRight dX2_isTreeRight_19 (by decide) ?_
      obtain ⟨hk7, h⟩ := h
      refine zw_callI (as := [.ref a1, .int 1]) (rest := []) zM_X2_isTreeRight dX2_isTreeRight_20 (zx_calV zC_2_125) zM_X1_homeOf rfl rfl rfl rfl rfl (zx_args0 hk7 rfl) rfl h (fun v9 σ8 h => ?_)
      refine zw_iconst (v := 1) zM_X2_isTreeRight dX2_isTreeRight_23 (by decide) ?_
      refine zw_icmp_eq (tgt := 29) zM_X2_isTreeRight dX2_isTreeRight_24 rfl rfl (fun q => ?_) (fun q => ?_)
      · replace h := h.1 q
        refine zw_go (pc1 := 30) (L1 := [some (.ref a0), some (.ref a1), none, none]) (st1 := [.ref a1]) (σ1 := σ8) zM_X2_isTreeRight dX2_isTreeRight_29 rfl rfl rfl rfl ?_
        obtain ⟨hk10, h⟩ := h
        refine zw_getI zM_X2_isTreeRight dX2_isTreeRight_30 zF_2_73 rfl hk10 ?_
        refine zw_sipush (v := 497) zM_X2_isTreeRight dX2_isTreeRight_33 (by decide) ?_
        refine zw_icmp_gt (tgt := 56) zM_X2_isTreeRight dX2_isTreeRight_36 rfl rfl (fun q => ?_) (fun q => ?_)
        · replace h := h.1 q
          refine zw_iconst (v := 0) zM_X2_isTreeRight dX2_isTreeRight_56 (by decide) ?_
          exact zw_retz zM_X2_isTreeRight dX2_isTreeRight_57 rfl (by decide) h
        · replace h := h.2 q
          refine zw_go (pc1 := 40) (L1 := [some (.ref a0), some (.ref a1), none, none]) (st1 := [.ref a0]) (σ1 := σ8) zM_X2_isTreeRight dX2_isTreeRight_39 rfl rfl rfl rfl ?_
          refine zw_go (pc1 := 41) (L1 := [some (.ref a0), some (.ref a1), none, none]) (st1 := [.ref a1, .ref a0]) (σ1 := σ8) zM_X2_isTreeRight dX2_isTreeRight_40 rfl rfl rfl rfl ?_
          obtain ⟨hk11, h⟩ := h
          refine zw_callI (as := [.ref a0, .ref a1]) (rest := []) zM_X2_isTreeRight dX2_isTreeRight_41 (zx_calV zC_2_128) zM_X2_areFoldersNamedAtHome rfl rfl rfl rfl rfl (zx_args0 hk11 rfl) rfl h (fun v13 σ12 h => ?_)
          refine zw_if_eq (tgt := 56) zM_X2_isTreeRight dX2_isTreeRight_44 rfl rfl (fun q => ?_) (fun q => ?_)
          · replace h := h.1 q
            refine zw_iconst (v := 0) zM_X2_isTreeRight dX2_isTreeRight_56 (by decide) ?_
            exact zw_retz zM_X2_isTreeRight dX2_isTreeRight_57 rfl (by decide) h
          · replace h := h.2 q
            refine zw_go (pc1 := 48) (L1 := [some (.ref a0), some (.ref a1), none, none]) (st1 := [.ref a0]) (σ1 := σ12) zM_X2_isTreeRight dX2_isTreeRight_47 rfl rfl rfl rfl ?_
            obtain ⟨hk14, h⟩ := h
            obtain ⟨b15, hr16, h⟩ := h
            refine zw_getR (a := b15) zM_X2_isTreeRight dX2_isTreeRight_48 zF_2_9 rfl hk14 hr16 ?_
            refine zw_iconst (v := 1) zM_X2_isTreeRight dX2_isTreeRight_51 (by decide) ?_
            obtain ⟨hk17, h⟩ := h
            obtain ⟨hi18, h⟩ := h
            refine zw_iald zM_X2_isTreeRight dX2_isTreeRight_52 ⟨Or.inl hk17, hi18⟩ ?_
            refine zw_if_eq (tgt := 58) zM_X2_isTreeRight dX2_isTreeRight_53 rfl rfl (fun q => ?_) (fun q => ?_)
            · replace h := h.1 q
              refine zw_iconst (v := 2) zM_X2_isTreeRight dX2_isTreeRight_58 (by decide) ?_
              refine zw_go (pc1 := 60) (L1 := [some (.ref a0), some (.ref a1), some (.int 2), none]) (st1 := []) (σ1 := σ12) zM_X2_isTreeRight dX2_isTreeRight_59 rfl rfl rfl rfl ?_
              exact zw_weak2 h ⟨rfl, rfl, rfl, trivial⟩
            · replace h := h.2 q
              refine zw_iconst (v := 0) zM_X2_isTreeRight dX2_isTreeRight_56 (by decide) ?_
              exact zw_retz zM_X2_isTreeRight dX2_isTreeRight_57 rfl (by decide) h
      · replace h := h.2 q
        refine zw_iconst (v := 0) zM_X2_isTreeRight dX2_isTreeRight_27 (by decide) ?_
        exact zw_retz zM_X2_isTreeRight dX2_isTreeRight_28 rfl (by decide) h
set_option maxHeartbeats 4000000 in
set_option maxRecDepth 100000 in
theorem vc_X2_isTreeRight_60 (a0 : Nat) (a1 : Nat) (x2 : Int32) (σ : zx_S) (K : Int32 → zx_S → Prop) (h : zK σ a1 = 14 ∧ (((zI σ a1 3) < x2 → K 1 σ) ∧ (¬ (zI σ a1 3) < x2 → zwI 30 0 [some (.ref a1), some (.int x2)] [] σ (fun v3 σ2 => zK σ2 a0 = 15 ∧ ∃ b5 : Nat, zR σ2 a0 0 = some b5 ∧ zK σ2 b5 = 1 ∧ zx_in x2 (zN σ2 b5) = true ∧ (((zI σ2 b5 (Int32.toNatClampNeg x2)) = (0 : Int32) → K 0 σ2) ∧ (¬ (zI σ2 b5 (Int32.toNatClampNeg x2)) = (0 : Int32) → zx_in x2 (zN σ2 b5) = true ∧ zK σ2 a1 = 14 ∧ zwI 32 0 [some (.ref a1), some (.int x2)] [] σ2 (fun v12 σ11 => ((¬ (zI σ2 b5 (Int32.toNatClampNeg x2)) = v12 → K 0 σ11) ∧ ((zI σ2 b5 (Int32.toNatClampNeg x2)) = v12 → ((v3 = (2 : Int32) → zwI 64 112 [some (.ref a0), some (.ref a1), some (.int x2), some (.int v3)] [] σ11 K) ∧ (¬ v3 = (2 : Int32) → zK σ11 a0 = 15 ∧ ∃ b14 : Nat, zR σ11 a0 0 = some b14 ∧ zK σ11 b14 = 1 ∧ zx_in x2 (zN σ11 b14) = true ∧ (((1 : Int32) < (zI σ11 b14 (Int32.toNatClampNeg x2)) → K 0 σ11) ∧ (¬ (1 : Int32) < (zI σ11 b14 (Int32.toNatClampNeg x2)) → zwI 64 112 [some (.ref a0), some (.ref a1), some (.int x2), some (.int v3)] [] σ11 K))))))))))))) : zwI 64 60 [some (.ref a0), some (.ref a1), some (.int x2), none] [] σ K := by
  refine zw_go (pc1 := 61) (L1 := [some (.ref a0), some (.ref a1), some (.int x2), none]) (st1 := [.int x2]) (σ1 := σ) zM_X2_isTreeRight dX2_isTreeRight_60 rfl rfl rfl rfl ?_
  refine zw_go (pc1 := 62) (L1 := [some (.ref a0), some (.ref a1), some (.int x2), none]) (st1 := [.ref a1, .int x2]) (σ1 := σ) zM_X2_isTreeRight dX2_isTreeRight_61 rfl rfl rfl rfl ?_
  obtain ⟨hk1, h⟩ := h
  refine zw_getI zM_X2_isTreeRight dX2_isTreeRight_62 zF_2_73 rfl hk1 ?_
  refine zw_icmp_gt (tgt := 133) zM_X2_isTreeRight dX2_isTreeRight_65 rfl rfl (fun q => ?_) (fun q => ?_)
  · replace h := h.1 q
    refine zw_iconst (v := 1) zM_X2_isTreeRight dX2_isTreeRight_133 (by decide) ?_
    exact zw_retz zM_X2_isTreeRight dX2_isTreeRight_134 rfl (by decide) h
  · replace h := h.2 q
    refine zw_go (pc1 := 69) (L1 := [some (.ref a0), some (.ref a1), some (.int x2), none]) (st1 := [.ref a1]) (σ1 := σ) zM_X2_isTreeRight dX2_isTreeRight_68 rfl rfl rfl rfl ?_
    refine zw_go (pc1 := 70) (L1 := [some (.ref a0), some (.ref a1), some (.int x2), none]) (st1 := [.int x2, .ref a1]) (σ1 := σ) zM_X2_isTreeRight dX2_isTreeRight_69 rfl rfl rfl rfl ?_
    refine zw_callI (as := [.ref a1, .int x2]) (rest := []) zM_X2_isTreeRight dX2_isTreeRight_70 (zx_calV zC_2_107) zM_X1_kindOf rfl rfl rfl rfl rfl (zx_args0 hk1 rfl) rfl h (fun v3 σ2 h => ?_)
    refine zw_go (pc1 := 74) (L1 := [some (.ref a0), some (.ref a1), some (.int x2), some (.int v3)]) (st1 := []) (σ1 := σ2) zM_X2_isTreeRight dX2_isTreeRight_73 rfl rfl rfl rfl ?_
    refine zw_go (pc1 := 75) (L1 := [some (.ref a0), some (.ref a1), some (.int x2), some (.int v3)]) (st1 := [.ref a0]) (σ1 := σ2) zM_X2_isTreeRight dX2_isTreeRight_74 rfl rfl rfl rfl ?_
    obtain ⟨hk4, h⟩ := h
    obtain ⟨b5, hr6, h⟩ := h
    refine zw_getR (a := b5) zM_X2_isTreeRight dX2_isTreeRight_75 zF_2_9 rfl hk4 hr6 ?_
    refine zw_go (pc1 := 79) (L1 := [some (.ref a0), some (.ref a1), some (.int x2), some (.int v3)]) (st1 := [.int x2, .ref b5]) (σ1 := σ2) zM_X2_isTreeRight dX2_isTreeRight_78 rfl rfl rfl rfl ?_
    obtain ⟨hk7, h⟩ := h
    obtain ⟨hi8, h⟩ := h
    refine zw_iald zM_X2_isTreeRight dX2_isTreeRight_79 ⟨Or.inl hk7, hi8⟩ ?_
    refine zw_if_eq (tgt := 125) zM_X2_isTreeRight dX2_isTreeRight_80 rfl rfl (fun q => ?_) (fun q => ?_)
    · replace h := h.1 q
      refine zw_iconst (v := 0) zM_X2_isTreeRight dX2_isTreeRight_125 (by decide) ?_
      exact zw_retz zM_X2_isTreeRight dX2_isTreeRight_126 rfl (by decide) h
    · replace h := h.2 q
      refine zw_go (pc1 := 84) (L1 := [some (.ref a0), some (.ref a1), some (.int x2), some (.int v3)]) (st1 := [.ref a0]) (σ1 := σ2) zM_X2_isTreeRight dX2_isTreeRight_83 rfl rfl rfl rfl ?_
      refine zw_getR (a := b5) zM_X2_isTreeRight dX2_isTreeRight_84 zF_2_9 rfl hk4 hr6 ?_
      refine zw_go (pc1 := 88) (L1 := [some (.ref a0), some (.ref a1), some (.int x2), some (.int v3)]) (st1 := [.int x2, .ref b5]) (σ1 := σ2) zM_X2_isTreeRight dX2_isTreeRight_87 rfl rfl rfl rfl ?_
      obtain ⟨hi9, h⟩ := h
      refine zw_iald zM_X2_isTreeRight dX2_isTreeRight_88 ⟨Or.inl hk7, hi9⟩ ?_
      refine zw_go (pc1 := 90) (L1 := [some (.ref a0), some (.ref a1), some (.int x2), some (.int v3)]) (st1 := [.ref a1, .int (zI σ2 b5 (Int32.toNatClampNeg x2))]) (σ1 := σ2) zM_X2_isTreeRight dX2_isTreeRight_89 rfl rfl rfl rfl ?_
      refine zw_go (pc1 := 91) (L1 := [some (.ref a0), some (.ref a1), some (.int x2), some (.int v3)]) (st1 := [.int x2, .ref a1, .int (zI σ2 b5 (Int32.toNatClampNeg x2))]) (σ1 := σ2) zM_X2_isTreeRight dX2_isTreeRight_90 rfl rfl rfl rfl ?_
      obtain ⟨hk10, h⟩ := h
      refine zw_callI (as := [.ref a1, .int x2]) (rest := [.int (zI σ2 b5 (Int32.toNatClampNeg x2))]) zM_X2_isTreeRight dX2_isTreeRight_91 (zx_calV zC_2_122) zM_X1_namesOf rfl rfl rfl rfl rfl (zx_args0 hk10 rfl) rfl h (fun v12 σ11 h => ?_)
      refine zw_icmp_ne (tgt := 125) zM_X2_isTreeRight dX2_isTreeRight_94 rfl rfl (fun q => ?_) (fun q => ?_)
      · replace h := h.1 q
        refine zw_iconst (v := 0) zM_X2_isTreeRight dX2_isTreeRight_125 (by decide) ?_
        exact zw_retz zM_X2_isTreeRight dX2_isTreeRight_126 rfl (by decide) h
      · replace h := h.2 q
        refine zw_go (pc1 := 98) (L1 := [some (.ref a0), some (.ref a1), some (.int x2), some (.int v3)]) (st1 := [.int v3]) (σ1 := σ11) zM_X2_isTreeRight dX2_isTreeRight_97 rfl rfl rfl rfl ?_
        refine zw_iconst (v := 2) zM_X2_isTreeRight dX2_isTreeRight_98 (by decide) ?_
        refine zw_icmp_eq (tgt := 112) zM_X2_isTreeRight dX2_isTreeRight_99 rfl rfl (fun q => ?_) (fun q => ?_)
        · replace h := h.1 q
          exact zw_weak2 h ⟨rfl, rfl, rfl, rfl, trivial⟩
        · replace h := h.2 q
          refine zw_go (pc1 := 103) (L1 := [some (.ref a0), some (.ref a1), some (.int x2), some (.int v3)]) (st1 := [.ref a0]) (σ1 := σ11) zM_X2_isTreeRight dX2_isTreeRight_102 rfl rfl rfl rfl ?_
          obtain ⟨hk13, h⟩ := h
          obtain ⟨b14, hr15, h⟩ := h
          refine zw_getR (a := b14) zM_X2_isTreeRight dX2_isTreeRight_103 zF_2_9 rfl hk13 hr15 ?_
          refine zw_go (pc1 := 107) (L1 := [some (.ref a0), some (.ref a1), some (.int x2), some (.int v3)]) (st1 := [.int x2, .ref b14]) (σ1 := σ11) zM_X2_isTreeRight dX2_isTreeRight_106 rfl rfl rfl rfl ?_
          obtain ⟨hk16, h⟩ := h
          obtain ⟨hi17, h⟩ := h
          refine zw_iald zM_X2_isTreeRight dX2_isTreeRight_107 ⟨Or.inl hk16, hi17⟩ ?_
          refine zw_iconst (v := 1) zM_X2_isTreeRight dX2_isTreeRight_108 (by decide) ?_
          refine zw_icmp_gt (tgt := 125) zM_X2_isTreeRight dX2_isTreeRight_109 rfl rfl (fun q => ?_) (fun q => ?_)
          · replace h := h.1 q
            refine zw_iconst (v := 0) zM_X2_isTreeRight dX2_isTreeRight_125 (by decide) ?_
            exact zw_retz zM_X2_isTreeRight dX2_isTreeRight_126 rfl (by decide) h
          · replace h := h.2 q
            exact zw_weak2 h ⟨rfl, rfl, rfl, rfl, trivial⟩
set_option maxHeartbeats 4000000 in
set_option maxRecDepth 100000 in
theorem vc_X2_isTreeRight_112 (a0 : Nat) (a1 : Nat) (x2 : Int32) (x3 : Int32) (σ : zx_S) (K : Int32 → zx_S → Prop) (h : ((¬ x3 = (1 : Int32) → zwI 64 127 [some (.ref a0), some (.ref a1), some (.int x2), none] [] σ K) ∧ (x3 = (1 : Int32) → zwI 58 0 [some (.ref a1), some (.int x2), none, none] [] σ (fun v2 σ1 => ((¬ v2 = (0 : Int32) → zwI 64 127 [some (.ref a0), some (.ref a1), some (.int x2), none] [] σ1 K) ∧ (v2 = (0 : Int32) → K 0 σ1)))))) : zwI 64 112 [some (.ref a0), some (.ref a1), some (.int x2), some (.int x3)] [] σ K := by
  refine zw_go (pc1 := 113) (L1 := [some (.ref a0), some (.ref a1), some (.int x2), some (.int x3)]) (st1 := [.int x3]) (σ1 := σ) zM_X2_isTreeRight dX2_isTreeRight_112 rfl rfl rfl rfl ?_
  refine zw_iconst (v := 1) zM_X2_isTreeRight dX2_isTreeRight_113 (by decide) ?_
  refine zw_icmp_ne (tgt := 127) zM_X2_isTreeRight dX2_isTreeRight_114 rfl rfl (fun q => ?_) (fun q => ?_)
  · replace h := h.1 q
    exact zw_weak2 h ⟨rfl, rfl, rfl, trivial⟩
  · replace h := h.2 q
    refine zw_go (pc1 := 118) (L1 := [some (.ref a0), some (.ref a1), some (.int x2), some (.int x3)]) (st1 := [.ref a1]) (σ1 := σ) zM_X2_isTreeRight dX2_isTreeRight_117 rfl rfl rfl rfl ?_
    refine zw_go (pc1 := 119) (L1 := [some (.ref a0), some (.ref a1), some (.int x2), some (.int x3)]) (st1 := [.int x2, .ref a1]) (σ1 := σ) zM_X2_isTreeRight dX2_isTreeRight_118 rfl rfl rfl rfl ?_
    refine zw_callI (as := [.ref a1, .int x2]) (rest := []) zM_X2_isTreeRight dX2_isTreeRight_119 (zx_calS zC_2_131) zM_X2_comesToFirst rfl rfl rfl rfl rfl rfl rfl h (fun v2 σ1 h => ?_)
    refine zw_if_ne (tgt := 127) zM_X2_isTreeRight dX2_isTreeRight_122 rfl rfl (fun q => ?_) (fun q => ?_)
    · replace h := h.1 q
      exact zw_weak2 h ⟨rfl, rfl, rfl, trivial⟩
    · replace h := h.2 q
      refine zw_iconst (v := 0) zM_X2_isTreeRight dX2_isTreeRight_125 (by decide) ?_
      exact zw_retz zM_X2_isTreeRight dX2_isTreeRight_126 rfl (by decide) h
set_option maxHeartbeats 4000000 in
set_option maxRecDepth 100000 in
theorem vc_X2_isTreeRight_127 (a0 : Nat) (a1 : Nat) (x2 : Int32) (σ : zx_S) (K : Int32 → zx_S → Prop) (h : zwI 64 60 [some (.ref a0), some (.ref a1), some (.int (x2 + Int32.ofInt 1)), none] [] σ K) : zwI 64 127 [some (.ref a0), some (.ref a1), some (.int x2), none] [] σ K := by
  refine zw_go (pc1 := 130) (L1 := [some (.ref a0), some (.ref a1), some (.int (x2 + Int32.ofInt 1)), none]) (st1 := []) (σ1 := σ) zM_X2_isTreeRight dX2_isTreeRight_127 rfl rfl rfl rfl ?_
  refine zw_goto (tgt := 60) zM_X2_isTreeRight dX2_isTreeRight_130 rfl ?_
  exact zw_weak2 h ⟨rfl, rfl, rfl, trivial⟩
set_option maxHeartbeats 4000000 in
set_option maxRecDepth 100000 in
theorem vc_X2_rowBytes_0 (a0 : Nat) (x1 : Int32) (σ : zx_S) (K : Int32 → zx_S → Prop) (h : zK σ a0 = 14 ∧ zwI 21 0 [some (.ref a0), some (.int x1)] [] σ (fun v3 σ2 => ((v3 = 1 → K 12 σ2) ∧ (¬ v3 = 1 → ((v3 = 2 → zK σ2 a0 = 14 ∧ zwI 51 0 [some (.ref a0), some (.int (x1 + 6))] [] σ2 (fun v7 σ6 => zK σ6 a0 = 14 ∧ zwI 50 0 [some (.ref a0), some (.int v7)] [] σ6 (fun v10 σ9 => K (12 + (2 * v10)) σ9))) ∧ (¬ v3 = 2 → ((v3 = 3 → K 6 σ2) ∧ (¬ v3 = 3 → K 0 σ2)))))))) : zwI 65 0 [some (.ref a0), some (.int x1)] [] σ K := by
  refine zw_go (pc1 := 1) (L1 := [some (.ref a0), some (.int x1)]) (st1 := [.ref a0]) (σ1 := σ) zM_X2_rowBytes dX2_rowBytes_0 rfl rfl rfl rfl ?_
  refine zw_go (pc1 := 2) (L1 := [some (.ref a0), some (.int x1)]) (st1 := [.int x1, .ref a0]) (σ1 := σ) zM_X2_rowBytes dX2_rowBytes_1 rfl rfl rfl rfl ?_
  obtain ⟨hk1, h⟩ := h
  refine zw_callI (as := [.ref a0, .int x1]) (rest := []) zM_X2_rowBytes dX2_rowBytes_2 (zx_calV zC_2_51) zM_X1_byteAt rfl rfl rfl rfl rfl (zx_args0 hk1 rfl) rfl h (fun v3 σ2 h => ?_)
  by_cases hs4 : v3 = 1
  · replace h := h.1 hs4
    refine zw_sw (tgt := 32) zM_X2_rowBytes dX2_rowBytes_5 (zx_sw_in hs4 rfl) rfl ?_
    refine zw_bipush (v := 12) zM_X2_rowBytes dX2_rowBytes_32 (by decide) ?_
    exact zw_reti zM_X2_rowBytes dX2_rowBytes_34 rfl h
  · replace h := h.2 hs4
    by_cases hs11 : v3 = 2
    · replace h := h.1 hs11
      refine zw_sw (tgt := 35) zM_X2_rowBytes dX2_rowBytes_5 (zx_sw_in hs11 rfl) rfl ?_
      refine zw_bipush (v := 12) zM_X2_rowBytes dX2_rowBytes_35 (by decide) ?_
      refine zw_iconst (v := 2) zM_X2_rowBytes dX2_rowBytes_37 (by decide) ?_
      refine zw_go (pc1 := 39) (L1 := [some (.ref a0), some (.int x1)]) (st1 := [.ref a0, .int 2, .int 12]) (σ1 := σ2) zM_X2_rowBytes dX2_rowBytes_38 rfl rfl rfl rfl ?_
      refine zw_go (pc1 := 40) (L1 := [some (.ref a0), some (.int x1)]) (st1 := [.ref a0, .ref a0, .int 2, .int 12]) (σ1 := σ2) zM_X2_rowBytes dX2_rowBytes_39 rfl rfl rfl rfl ?_
      refine zw_go (pc1 := 41) (L1 := [some (.ref a0), some (.int x1)]) (st1 := [.int x1, .ref a0, .ref a0, .int 2, .int 12]) (σ1 := σ2) zM_X2_rowBytes dX2_rowBytes_40 rfl rfl rfl rfl ?_
      refine zw_bipush (v := 6) zM_X2_rowBytes dX2_rowBytes_41 (by decide) ?_
      refine zw_go (pc1 := 44) (L1 := [some (.ref a0), some (.int x1)]) (st1 := [.int (x1 + 6), .ref a0, .ref a0, .int 2, .int 12]) (σ1 := σ2) zM_X2_rowBytes dX2_rowBytes_43 rfl rfl rfl rfl ?_
      obtain ⟨hk5, h⟩ := h
      refine zw_callI (as := [.ref a0, .int (x1 + 6)]) (rest := [.ref a0, .int 2, .int 12]) zM_X2_rowBytes dX2_rowBytes_44 (zx_calV zC_2_27) zM_X1_wordAt rfl rfl rfl rfl rfl (zx_args0 hk5 rfl) rfl h (fun v7 σ6 h => ?_)
      obtain ⟨hk8, h⟩ := h
      refine zw_callI (as := [.ref a0, .int v7]) (rest := [.int 2, .int 12]) zM_X2_rowBytes dX2_rowBytes_47 (zx_calV zC_2_97) zM_X1_wholeBlocks rfl rfl rfl rfl rfl (zx_args0 hk8 rfl) rfl h (fun v10 σ9 h => ?_)
      refine zw_go (pc1 := 51) (L1 := [some (.ref a0), some (.int x1)]) (st1 := [.int (2 * v10), .int 12]) (σ1 := σ9) zM_X2_rowBytes dX2_rowBytes_50 rfl rfl rfl rfl ?_
      refine zw_go (pc1 := 52) (L1 := [some (.ref a0), some (.int x1)]) (st1 := [.int (12 + (2 * v10))]) (σ1 := σ9) zM_X2_rowBytes dX2_rowBytes_51 rfl rfl rfl rfl ?_
      exact zw_reti zM_X2_rowBytes dX2_rowBytes_52 rfl h
    · replace h := h.2 hs11
      by_cases hs12 : v3 = 3
      · replace h := h.1 hs12
        refine zw_sw (tgt := 53) zM_X2_rowBytes dX2_rowBytes_5 (zx_sw_in hs12 rfl) rfl ?_
        refine zw_bipush (v := 6) zM_X2_rowBytes dX2_rowBytes_53 (by decide) ?_
        exact zw_reti zM_X2_rowBytes dX2_rowBytes_55 rfl h
      · replace h := h.2 hs12
        have n0 := zx_ne (n := 1) hs4 (by decide)
        have n1 := zx_ne (n := 2) hs11 (by decide)
        have n2 := zx_ne (n := 3) hs12 (by decide)
        refine zw_sw (tgt := 56) zM_X2_rowBytes dX2_rowBytes_5 (zx_sw_out (by omega)) rfl ?_
        refine zw_iconst (v := 0) zM_X2_rowBytes dX2_rowBytes_56 (by decide) ?_
        exact zw_reti zM_X2_rowBytes dX2_rowBytes_57 rfl h
