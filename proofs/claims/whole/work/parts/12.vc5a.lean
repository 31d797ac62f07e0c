set_option maxHeartbeats 4000000 in
set_option maxRecDepth 100000 in
theorem vc_X5_addName_0 (a0 : Nat) (x1 : Int32) (x2 : Int32) (x3 : Int32) (σ : zx_S) (K : Int32 → zx_S → Prop) (h : zK σ a0 = 18 ∧ (((279 : Int32) ≤ (zI σ a0 10) → ∃ b2 : Nat, zR σ a0 3 = some b2 ∧ zK σ b2 = 1 ∧ zx_in x3 (zN σ b2) = true ∧ K (zI σ b2 (Int32.toNatClampNeg x3)) σ) ∧ (¬ (279 : Int32) ≤ (zI σ a0 10) → zwI 99 0 [some (.ref a0), some (.int ((x1 * 1000) + x2)), none] [] σ (fun v7 σ6 => zK σ6 a0 = 18 ∧ zwI 96 33 [some (.ref a0), none, none, some (.int x3), some (.int ((x1 * 1000) + x2)), some (.int v7), some (.int (zI σ6 a0 10))] [] σ6 K)))) : zwI 96 0 [some (.ref a0), some (.int x1), some (.int x2), some (.int x3), none, none, none] [] σ K := by
  refine zw_go (pc1 := 1) (L1 := [some (.ref a0), some (.int x1), some (.int x2), some (.int x3), none, none, none]) (st1 := [.ref a0]) (σ1 := σ) zM_X5_addName dX5_addName_0 rfl rfl rfl rfl ?_
  obtain ⟨hk1, h⟩ := h
  refine zw_getI zM_X5_addName dX5_addName_1 zF_5_42 rfl hk1 ?_
  refine zw_sipush (v := 279) zM_X5_addName dX5_addName_4 (by decide) ?_
  refine zw_icmp_ge (tgt := 115) zM_X5_addName dX5_addName_7 rfl rfl (fun q => ?_) (fun q => ?_)
  · replace h := h.1 q
    refine zw_go (pc1 := 116) (L1 := [some (.ref a0), some (.int x1), some (.int x2), some (.int x3), none, none, none]) (st1 := [.ref a0]) (σ1 := σ) zM_X5_addName dX5_addName_115 rfl rfl rfl rfl ?_
    obtain ⟨b2, hr3, h⟩ := h
    refine zw_getR (a := b2) zM_X5_addName dX5_addName_116 zF_5_21 rfl hk1 hr3 ?_
    refine zw_go (pc1 := 120) (L1 := [some (.ref a0), some (.int x1), some (.int x2), some (.int x3), none, none, none]) (st1 := [.int x3, .ref b2]) (σ1 := σ) zM_X5_addName dX5_addName_119 rfl rfl rfl rfl ?_
    obtain ⟨hk4, h⟩ := h
    obtain ⟨hi5, h⟩ := h
    refine zw_iald zM_X5_addName dX5_addName_120 ⟨Or.inl hk4, hi5⟩ ?_
    exact zw_reti zM_X5_addName dX5_addName_121 rfl h
  · replace h := h.2 q
    refine zw_go (pc1 := 11) (L1 := [some (.ref a0), some (.int x1), some (.int x2), some (.int x3), none, none, none]) (st1 := [.int x1]) (σ1 := σ) zM_X5_addName dX5_addName_10 rfl rfl rfl rfl ?_
    refine zw_sipush (v := 1000) zM_X5_addName dX5_addName_11 (by decide) ?_
    refine zw_go (pc1 := 15) (L1 := [some (.ref a0), some (.int x1), some (.int x2), some (.int x3), none, none, none]) (st1 := [.int (x1 * 1000)]) (σ1 := σ) zM_X5_addName dX5_addName_14 rfl rfl rfl rfl ?_
    refine zw_go (pc1 := 16) (L1 := [some (.ref a0), some (.int x1), some (.int x2), some (.int x3), none, none, none]) (st1 := [.int x2, .int (x1 * 1000)]) (σ1 := σ) zM_X5_addName dX5_addName_15 rfl rfl rfl rfl ?_
    refine zw_go (pc1 := 17) (L1 := [some (.ref a0), some (.int x1), some (.int x2), some (.int x3), none, none, none]) (st1 := [.int ((x1 * 1000) + x2)]) (σ1 := σ) zM_X5_addName dX5_addName_16 rfl rfl rfl rfl ?_
    refine zw_go (pc1 := 19) (L1 := [some (.ref a0), some (.int x1), some (.int x2), some (.int x3), some (.int ((x1 * 1000) + x2)), none, none]) (st1 := []) (σ1 := σ) zM_X5_addName dX5_addName_17 rfl rfl rfl rfl ?_
    refine zw_go (pc1 := 20) (L1 := [some (.ref a0), some (.int x1), some (.int x2), some (.int x3), some (.int ((x1 * 1000) + x2)), none, none]) (st1 := [.ref a0]) (σ1 := σ) zM_X5_addName dX5_addName_19 rfl rfl rfl rfl ?_
    refine zw_go (pc1 := 22) (L1 := [some (.ref a0), some (.int x1), some (.int x2), some (.int x3), some (.int ((x1 * 1000) + x2)), none, none]) (st1 := [.int ((x1 * 1000) + x2), .ref a0]) (σ1 := σ) zM_X5_addName dX5_addName_20 rfl rfl rfl rfl ?_
    refine zw_callI (as := [.ref a0, .int ((x1 * 1000) + x2)]) (rest := []) zM_X5_addName dX5_addName_22 (zx_calV zC_5_53) zM_X5_firstFrom rfl rfl rfl rfl rfl (zx_args0 hk1 rfl) rfl h (fun v7 σ6 h => ?_)
    refine zw_go (pc1 := 27) (L1 := [some (.ref a0), some (.int x1), some (.int x2), some (.int x3), some (.int ((x1 * 1000) + x2)), some (.int v7), none]) (st1 := []) (σ1 := σ6) zM_X5_addName dX5_addName_25 rfl rfl rfl rfl ?_
    refine zw_go (pc1 := 28) (L1 := [some (.ref a0), some (.int x1), some (.int x2), some (.int x3), some (.int ((x1 * 1000) + x2)), some (.int v7), none]) (st1 := [.ref a0]) (σ1 := σ6) zM_X5_addName dX5_addName_27 rfl rfl rfl rfl ?_
    obtain ⟨hk8, h⟩ := h
    refine zw_getI zM_X5_addName dX5_addName_28 zF_5_42 rfl hk8 ?_
    refine zw_go (pc1 := 33) (L1 := [some (.ref a0), some (.int x1), some (.int x2), some (.int x3), some (.int ((x1 * 1000) + x2)), some (.int v7), some (.int (zI σ6 a0 10))]) (st1 := []) (σ1 := σ6) zM_X5_addName dX5_addName_31 rfl rfl rfl rfl ?_
    exact zw_weak2 h ⟨rfl, rfl, rfl, rfl, rfl, trivial⟩
set_option maxHeartbeats 4000000 in
set_option maxRecDepth 100000 in
theorem vc_X5_addName_33 (a0 : Nat) (x3 : Int32) (x4 : Int32) (x5 : Int32) (x6 : Int32) (σ : zx_S) (K : Int32 → zx_S → Prop) (h : ((x6 ≤ x5 → zK σ a0 = 18 ∧ ∃ b2 : Nat, zR σ a0 7 = some b2 ∧ zK σ b2 = 1 ∧ zx_in x5 (zN σ b2) = true ∧ ∀ σ6 : zx_S, σ6 = zx_pI σ b2 (Int32.toNatClampNeg x5) x4 → ∃ b8 : Nat, zR σ6 a0 8 = some b8 ∧ zK σ6 b8 = 1 ∧ zx_in x5 (zN σ6 b8) = true ∧ ∀ σ12 : zx_S, σ12 = zx_pI σ6 b8 (Int32.toNatClampNeg x5) x3 → ∀ σ14 : zx_S, σ14 = zx_pI σ12 a0 10 ((zI σ12 a0 10) + 1) → ∃ b16 : Nat, zR σ14 a0 3 = some b16 ∧ zK σ14 b16 = 1 ∧ zx_in x3 (zN σ14 b16) = true ∧ zx_in x3 (zN σ14 b16) = true ∧ ∀ σ21 : zx_S, σ21 = zx_pI σ14 b16 (Int32.toNatClampNeg x3) ((zI σ14 b16 (Int32.toNatClampNeg x3)) + 1) → zx_in x3 (zN σ21 b16) = true ∧ K (zI σ21 b16 (Int32.toNatClampNeg x3)) σ21) ∧ (¬ x6 ≤ x5 → zK σ a0 = 18 ∧ ∃ b25 : Nat, zR σ a0 7 = some b25 ∧ zK σ b25 = 1 ∧ zx_in (x6 - 1) (zN σ b25) = true ∧ zx_in x6 (zN σ b25) = true ∧ ∀ σ30 : zx_S, σ30 = zx_pI σ b25 (Int32.toNatClampNeg x6) (zI σ b25 (Int32.toNatClampNeg (x6 - 1))) → ∃ b32 : Nat, zR σ30 a0 8 = some b32 ∧ zK σ30 b32 = 1 ∧ zx_in (x6 - 1) (zN σ30 b32) = true ∧ zx_in x6 (zN σ30 b32) = true ∧ ∀ σ37 : zx_S, σ37 = zx_pI σ30 b32 (Int32.toNatClampNeg x6) (zI σ30 b32 (Int32.toNatClampNeg (x6 - 1))) → zwI 96 33 [some (.ref a0), none, none, some (.int x3), some (.int x4), some (.int x5), some (.int (x6 + Int32.ofInt (-1)))] [] σ37 K))) : zwI 96 33 [some (.ref a0), none, none, some (.int x3), some (.int x4), some (.int x5), some (.int x6)] [] σ K := by
  refine zw_go (pc1 := 35) (L1 := [some (.ref a0), none, none, some (.int x3), some (.int x4), some (.int x5), some (.int x6)]) (st1 := [.int x6]) (σ1 := σ) zM_X5_addName dX5_addName_33 rfl rfl rfl rfl ?_
  refine zw_go (pc1 := 37) (L1 := [some (.ref a0), none, none, some (.int x3), some (.int x4), some (.int x5), some (.int x6)]) (st1 := [.int x5, .int x6]) (σ1 := σ) zM_X5_addName dX5_addName_35 rfl rfl rfl rfl ?_
  refine zw_icmp_le (tgt := 78) zM_X5_addName dX5_addName_37 rfl rfl (fun q => ?_) (fun q => ?_)
  · replace h := h.1 q
    refine zw_go (pc1 := 79) (L1 := [some (.ref a0), none, none, some (.int x3), some (.int x4), some (.int x5), some (.int x6)]) (st1 := [.ref a0]) (σ1 := σ) zM_X5_addName dX5_addName_78 rfl rfl rfl rfl ?_
    obtain ⟨hk1, h⟩ := h
    obtain ⟨b2, hr3, h⟩ := h
    refine zw_getR (a := b2) zM_X5_addName dX5_addName_79 zF_5_33 rfl hk1 hr3 ?_
    refine zw_go (pc1 := 84) (L1 := [some (.ref a0), none, none, some (.int x3), some (.int x4), some (.int x5), some (.int x6)]) (st1 := [.int x5, .ref b2]) (σ1 := σ) zM_X5_addName dX5_addName_82 rfl rfl rfl rfl ?_
    refine zw_go (pc1 := 86) (L1 := [some (.ref a0), none, none, some (.int x3), some (.int x4), some (.int x5), some (.int x6)]) (st1 := [.int x4, .int x5, .ref b2]) (σ1 := σ) zM_X5_addName dX5_addName_84 rfl rfl rfl rfl ?_
    obtain ⟨hk4, h⟩ := h
    obtain ⟨hi5, h⟩ := h
    obtain ⟨σ6, e7⟩ : ∃ z9 : zx_S, z9 = zx_pI σ b2 (Int32.toNatClampNeg x5) x4 := ⟨_, rfl⟩
    replace h := h σ6 e7
    refine zw_iast zM_X5_addName dX5_addName_86 ⟨hk4, hi5⟩ e7 ?_
    refine zw_go (pc1 := 88) (L1 := [some (.ref a0), none, none, some (.int x3), some (.int x4), some (.int x5), some (.int x6)]) (st1 := [.ref a0]) (σ1 := σ6) zM_X5_addName dX5_addName_87 rfl rfl rfl rfl ?_
    obtain ⟨b8, hr9, h⟩ := h
    refine zw_getR (a := b8) zM_X5_addName dX5_addName_88 zF_5_36 rfl (by rw [e7]; exact hk1) hr9 ?_
    refine zw_go (pc1 := 93) (L1 := [some (.ref a0), none, none, some (.int x3), some (.int x4), some (.int x5), some (.int x6)]) (st1 := [.int x5, .ref b8]) (σ1 := σ6) zM_X5_addName dX5_addName_91 rfl rfl rfl rfl ?_
    refine zw_go (pc1 := 94) (L1 := [some (.ref a0), none, none, some (.int x3), some (.int x4), some (.int x5), some (.int x6)]) (st1 := [.int x3, .int x5, .ref b8]) (σ1 := σ6) zM_X5_addName dX5_addName_93 rfl rfl rfl rfl ?_
    obtain ⟨hk10, h⟩ := h
    obtain ⟨hi11, h⟩ := h
    obtain ⟨σ12, e13⟩ : ∃ z9 : zx_S, z9 = zx_pI σ6 b8 (Int32.toNatClampNeg x5) x3 := ⟨_, rfl⟩
    replace h := h σ12 e13
    refine zw_iast zM_X5_addName dX5_addName_94 ⟨hk10, hi11⟩ e13 ?_
    refine zw_go (pc1 := 96) (L1 := [some (.ref a0), none, none, some (.int x3), some (.int x4), some (.int x5), some (.int x6)]) (st1 := [.ref a0]) (σ1 := σ12) zM_X5_addName dX5_addName_95 rfl rfl rfl rfl ?_
    refine zw_go (pc1 := 97) (L1 := [some (.ref a0), none, none, some (.int x3), some (.int x4), some (.int x5), some (.int x6)]) (st1 := [.ref a0, .ref a0]) (σ1 := σ12) zM_X5_addName dX5_addName_96 rfl rfl rfl rfl ?_
    refine zw_getI zM_X5_addName dX5_addName_97 zF_5_42 rfl (by rw [e13, e7]; exact hk1) ?_
    refine zw_iconst (v := 1) zM_X5_addName dX5_addName_100 (by decide) ?_
    refine zw_go (pc1 := 102) (L1 := [some (.ref a0), none, none, some (.int x3), some (.int x4), some (.int x5), some (.int x6)]) (st1 := [.int ((zI σ12 a0 10) + 1), .ref a0]) (σ1 := σ12) zM_X5_addName dX5_addName_101 rfl rfl rfl rfl ?_
    obtain ⟨σ14, e15⟩ : ∃ z9 : zx_S, z9 = zx_pI σ12 a0 10 ((zI σ12 a0 10) + 1) := ⟨_, rfl⟩
    replace h := h σ14 e15
    refine zw_putI zM_X5_addName dX5_addName_102 zF_5_42 rfl rfl (by rw [e13, e7]; exact hk1) e15 ?_
    refine zw_go (pc1 := 106) (L1 := [some (.ref a0), none, none, some (.int x3), some (.int x4), some (.int x5), some (.int x6)]) (st1 := [.ref a0]) (σ1 := σ14) zM_X5_addName dX5_addName_105 rfl rfl rfl rfl ?_
    obtain ⟨b16, hr17, h⟩ := h
    refine zw_getR (a := b16) zM_X5_addName dX5_addName_106 zF_5_21 rfl (by rw [e15, e13, e7]; exact hk1) hr17 ?_
    refine zw_go (pc1 := 110) (L1 := [some (.ref a0), none, none, some (.int x3), some (.int x4), some (.int x5), some (.int x6)]) (st1 := [.int x3, .ref b16]) (σ1 := σ14) zM_X5_addName dX5_addName_109 rfl rfl rfl rfl ?_
    refine zw_go (pc1 := 111) (L1 := [some (.ref a0), none, none, some (.int x3), some (.int x4), some (.int x5), some (.int x6)]) (st1 := [.int x3, .ref b16, .int x3, .ref b16]) (σ1 := σ14) zM_X5_addName dX5_addName_110 rfl rfl rfl rfl ?_
    obtain ⟨hk18, h⟩ := h
    obtain ⟨hi19, h⟩ := h
    refine zw_iald zM_X5_addName dX5_addName_111 ⟨Or.inl hk18, hi19⟩ ?_
    refine zw_iconst (v := 1) zM_X5_addName dX5_addName_112 (by decide) ?_
    refine zw_go (pc1 := 114) (L1 := [some (.ref a0), none, none, some (.int x3), some (.int x4), some (.int x5), some (.int x6)]) (st1 := [.int ((zI σ14 b16 (Int32.toNatClampNeg x3)) + 1), .int x3, .ref b16]) (σ1 := σ14) zM_X5_addName dX5_addName_113 rfl rfl rfl rfl ?_
    obtain ⟨hi20, h⟩ := h
    obtain ⟨σ21, e22⟩ : ∃ z9 : zx_S, z9 = zx_pI σ14 b16 (Int32.toNatClampNeg x3) ((zI σ14 b16 (Int32.toNatClampNeg x3)) + 1) := ⟨_, rfl⟩
    replace h := h σ21 e22
    refine zw_iast zM_X5_addName dX5_addName_114 ⟨hk18, hi20⟩ e22 ?_
    refine zw_go (pc1 := 116) (L1 := [some (.ref a0), none, none, some (.int x3), some (.int x4), some (.int x5), some (.int x6)]) (st1 := [.ref a0]) (σ1 := σ21) zM_X5_addName dX5_addName_115 rfl rfl rfl rfl ?_
    refine zw_getR (a := b16) zM_X5_addName dX5_addName_116 zF_5_21 rfl (by rw [e22, e15, e13, e7]; exact hk1) (by rw [e22]; exact hr17) ?_
    refine zw_go (pc1 := 120) (L1 := [some (.ref a0), none, none, some (.int x3), some (.int x4), some (.int x5), some (.int x6)]) (st1 := [.int x3, .ref b16]) (σ1 := σ21) zM_X5_addName dX5_addName_119 rfl rfl rfl rfl ?_
    obtain ⟨hi23, h⟩ := h
    refine zw_iald zM_X5_addName dX5_addName_120 ⟨Or.inl (by rw [e22]; exact hk18), hi23⟩ ?_
    exact zw_reti zM_X5_addName dX5_addName_121 rfl h
  · replace h := h.2 q
    refine zw_go (pc1 := 41) (L1 := [some (.ref a0), none, none, some (.int x3), some (.int x4), some (.int x5), some (.int x6)]) (st1 := [.ref a0]) (σ1 := σ) zM_X5_addName dX5_addName_40 rfl rfl rfl rfl ?_
    obtain ⟨hk24, h⟩ := h
    obtain ⟨b25, hr26, h⟩ := h
    refine zw_getR (a := b25) zM_X5_addName dX5_addName_41 zF_5_33 rfl hk24 hr26 ?_
    refine zw_go (pc1 := 46) (L1 := [some (.ref a0), none, none, some (.int x3), some (.int x4), some (.int x5), some (.int x6)]) (st1 := [.int x6, .ref b25]) (σ1 := σ) zM_X5_addName dX5_addName_44 rfl rfl rfl rfl ?_
    refine zw_go (pc1 := 47) (L1 := [some (.ref a0), none, none, some (.int x3), some (.int x4), some (.int x5), some (.int x6)]) (st1 := [.ref a0, .int x6, .ref b25]) (σ1 := σ) zM_X5_addName dX5_addName_46 rfl rfl rfl rfl ?_
    refine zw_getR (a := b25) zM_X5_addName dX5_addName_47 zF_5_33 rfl hk24 hr26 ?_
    refine zw_go (pc1 := 52) (L1 := [some (.ref a0), none, none, some (.int x3), some (.int x4), some (.int x5), some (.int x6)]) (st1 := [.int x6, .ref b25, .int x6, .ref b25]) (σ1 := σ) zM_X5_addName dX5_addName_50 rfl rfl rfl rfl ?_
    refine zw_iconst (v := 1) zM_X5_addName dX5_addName_52 (by decide) ?_
    refine zw_go (pc1 := 54) (L1 := [some (.ref a0), none, none, some (.int x3), some (.int x4), some (.int x5), some (.int x6)]) (st1 := [.int (x6 - 1), .ref b25, .int x6, .ref b25]) (σ1 := σ) zM_X5_addName dX5_addName_53 rfl rfl rfl rfl ?_
    obtain ⟨hk27, h⟩ := h
    obtain ⟨hi28, h⟩ := h
    refine zw_iald zM_X5_addName dX5_addName_54 ⟨Or.inl hk27, hi28⟩ ?_
    obtain ⟨hi29, h⟩ := h
    obtain ⟨σ30, e31⟩ : ∃ z9 : zx_S, z9 = zx_pI σ b25 (Int32.toNatClampNeg x6) (zI σ b25 (Int32.toNatClampNeg (x6 - 1))) := ⟨_, rfl⟩
    replace h := h σ30 e31
    refine zw_iast zM_X5_addName dX5_addName_55 ⟨hk27, hi29⟩ e31 ?_
    refine zw_go (pc1 := 57) (L1 := [some (.ref a0), none, none, some (.int x3), some (.int x4), some (.int x5), some (.int x6)]) (st1 := [.ref a0]) (σ1 := σ30) zM_X5_addName dX5_addName_56 rfl rfl rfl rfl ?_
    obtain ⟨b32, hr33, h⟩ := h
    refine zw_getR (a := b32) zM_X5_addName dX5_addName_57 zF_5_36 rfl (by rw [e31]; exact hk24) hr33 ?_
    refine zw_go (pc1 := 62) (L1 := [some (.ref a0), none, none, some (.int x3), some (.int x4), some (.int x5), some (.int x6)]) (st1 := [.int x6, .ref b32]) (σ1 := σ30) zM_X5_addName dX5_addName_60 rfl rfl rfl rfl ?_
    refine zw_go (pc1 := 63) (L1 := [some (.ref a0), none, none, some (.int x3), some (.int x4), some (.int x5), some (.int x6)]) (st1 := [.ref a0, .int x6, .ref b32]) (σ1 := σ30) zM_X5_addName dX5_addName_62 rfl rfl rfl rfl ?_
    refine zw_getR (a := b32) zM_X5_addName dX5_addName_63 zF_5_36 rfl (by rw [e31]; exact hk24) hr33 ?_
    refine zw_go (pc1 := 68) (L1 := [some (.ref a0), none, none, some (.int x3), some (.int x4), some (.int x5), some (.int x6)]) (st1 := [.int x6, .ref b32, .int x6, .ref b32]) (σ1 := σ30) zM_X5_addName dX5_addName_66 rfl rfl rfl rfl ?_
    refine zw_iconst (v := 1) zM_X5_addName dX5_addName_68 (by decide) ?_
    refine zw_go (pc1 := 70) (L1 := [some (.ref a0), none, none, some (.int x3), some (.int x4), some (.int x5), some (.int x6)]) (st1 := [.int (x6 - 1), .ref b32, .int x6, .ref b32]) (σ1 := σ30) zM_X5_addName dX5_addName_69 rfl rfl rfl rfl ?_
    obtain ⟨hk34, h⟩ := h
    obtain ⟨hi35, h⟩ := h
    refine zw_iald zM_X5_addName dX5_addName_70 ⟨Or.inl hk34, hi35⟩ ?_
    obtain ⟨hi36, h⟩ := h
    obtain ⟨σ37, e38⟩ : ∃ z9 : zx_S, z9 = zx_pI σ30 b32 (Int32.toNatClampNeg x6) (zI σ30 b32 (Int32.toNatClampNeg (x6 - 1))) := ⟨_, rfl⟩
    replace h := h σ37 e38
    refine zw_iast zM_X5_addName dX5_addName_71 ⟨hk34, hi36⟩ e38 ?_
    refine zw_go (pc1 := 75) (L1 := [some (.ref a0), none, none, some (.int x3), some (.int x4), some (.int x5), some (.int (x6 + Int32.ofInt (-1)))]) (st1 := []) (σ1 := σ37) zM_X5_addName dX5_addName_72 rfl rfl rfl rfl ?_
    refine zw_goto (tgt := 33) zM_X5_addName dX5_addName_75 rfl ?_
    exact zw_weak2 h ⟨rfl, rfl, rfl, rfl, rfl, trivial⟩
set_option maxHeartbeats 4000000 in
set_option maxRecDepth 100000 in
theorem vc_X5_addNode_0 (a0 : Nat) (x1 : Int32) (x2 : Int32) (x3 : Int32) (σ : zx_S) (K : Int32 → zx_S → Prop) (h : zK σ a0 = 18 ∧ zwV 106 0 [some (.ref a0), some (.int x1), some (.int x3), none] [] σ (fun σ2 => zK σ2 a0 = 18 ∧ zwI 96 0 [some (.ref a0), some (.int x1), some (.int x2), some (.int (zI σ a0 9)), none, none, none] [] σ2 (fun v5 σ4 => K (zI σ a0 9) σ4))) : zwI 97 0 [some (.ref a0), some (.int x1), some (.int x2), some (.int x3), none] [] σ K := by
  refine zw_go (pc1 := 1) (L1 := [some (.ref a0), some (.int x1), some (.int x2), some (.int x3), none]) (st1 := [.ref a0]) (σ1 := σ) zM_X5_addNode dX5_addNode_0 rfl rfl rfl rfl ?_
  obtain ⟨hk1, h⟩ := h
  refine zw_getI zM_X5_addNode dX5_addNode_1 zF_5_46 rfl hk1 ?_
  refine zw_go (pc1 := 6) (L1 := [some (.ref a0), some (.int x1), some (.int x2), some (.int x3), some (.int (zI σ a0 9))]) (st1 := []) (σ1 := σ) zM_X5_addNode dX5_addNode_4 rfl rfl rfl rfl ?_
  refine zw_go (pc1 := 7) (L1 := [some (.ref a0), some (.int x1), some (.int x2), some (.int x3), some (.int (zI σ a0 9))]) (st1 := [.ref a0]) (σ1 := σ) zM_X5_addNode dX5_addNode_6 rfl rfl rfl rfl ?_
  refine zw_go (pc1 := 8) (L1 := [some (.ref a0), some (.int x1), some (.int x2), some (.int x3), some (.int (zI σ a0 9))]) (st1 := [.int x1, .ref a0]) (σ1 := σ) zM_X5_addNode dX5_addNode_7 rfl rfl rfl rfl ?_
  refine zw_go (pc1 := 9) (L1 := [some (.ref a0), some (.int x1), some (.int x2), some (.int x3), some (.int (zI σ a0 9))]) (st1 := [.int x3, .int x1, .ref a0]) (σ1 := σ) zM_X5_addNode dX5_addNode_8 rfl rfl rfl rfl ?_
  refine zw_callV (as := [.ref a0, .int x1, .int x3]) (rest := []) zM_X5_addNode dX5_addNode_9 (zx_calV zC_5_49) zM_X5_startNode rfl rfl rfl rfl rfl (zx_args0 hk1 rfl) rfl h (fun σ2 h => ?_)
  refine zw_go (pc1 := 13) (L1 := [some (.ref a0), some (.int x1), some (.int x2), some (.int x3), some (.int (zI σ a0 9))]) (st1 := [.ref a0]) (σ1 := σ2) zM_X5_addNode dX5_addNode_12 rfl rfl rfl rfl ?_
  refine zw_go (pc1 := 14) (L1 := [some (.ref a0), some (.int x1), some (.int x2), some (.int x3), some (.int (zI σ a0 9))]) (st1 := [.int x1, .ref a0]) (σ1 := σ2) zM_X5_addNode dX5_addNode_13 rfl rfl rfl rfl ?_
  refine zw_go (pc1 := 15) (L1 := [some (.ref a0), some (.int x1), some (.int x2), some (.int x3), some (.int (zI σ a0 9))]) (st1 := [.int x2, .int x1, .ref a0]) (σ1 := σ2) zM_X5_addNode dX5_addNode_14 rfl rfl rfl rfl ?_
  refine zw_go (pc1 := 17) (L1 := [some (.ref a0), some (.int x1), some (.int x2), some (.int x3), some (.int (zI σ a0 9))]) (st1 := [.int (zI σ a0 9), .int x2, .int x1, .ref a0]) (σ1 := σ2) zM_X5_addNode dX5_addNode_15 rfl rfl rfl rfl ?_
  obtain ⟨hk3, h⟩ := h
  refine zw_callI (as := [.ref a0, .int x1, .int x2, .int (zI σ a0 9)]) (rest := []) zM_X5_addNode dX5_addNode_17 (zx_calV zC_5_57) zM_X5_addName rfl rfl rfl rfl rfl (zx_args0 hk3 rfl) rfl h (fun v5 σ4 h => ?_)
  refine zw_go (pc1 := 21) (L1 := [some (.ref a0), some (.int x1), some (.int x2), some (.int x3), some (.int (zI σ a0 9))]) (st1 := []) (σ1 := σ4) zM_X5_addNode dX5_addNode_20 rfl rfl rfl rfl ?_
  refine zw_go (pc1 := 23) (L1 := [some (.ref a0), some (.int x1), some (.int x2), some (.int x3), some (.int (zI σ a0 9))]) (st1 := [.int (zI σ a0 9)]) (σ1 := σ4) zM_X5_addNode dX5_addNode_21 rfl rfl rfl rfl ?_
  exact zw_reti zM_X5_addNode dX5_addNode_23 rfl h
set_option maxHeartbeats 4000000 in
set_option maxRecDepth 100000 in
theorem vc_X5_append_0 (a0 : Nat) (x1 : Int32) (x2 : Int32) (x3 : Int32) (σ : zx_S) (K : Int32 → zx_S → Prop) (h : zK σ a0 = 18 ∧ ∃ b2 : Nat, zR σ a0 5 = some b2 ∧ zK σ b2 = 1 ∧ zx_in x1 (zN σ b2) = true ∧ ∃ b6 : Nat, zR σ a0 6 = some b6 ∧ zwV 1 0 [some (.ref b6), some (.int ((x1 * 100) + (zI σ b2 (Int32.toNatClampNeg x1)))), some (.int (((x1 * 100) + (zI σ b2 (Int32.toNatClampNeg x1))) + x3)), some (.int x2), none] [] σ (fun σ8 => zK σ8 a0 = 18 ∧ ∃ b10 : Nat, zR σ8 a0 5 = some b10 ∧ zK σ8 b10 = 1 ∧ zx_in x1 (zN σ8 b10) = true ∧ zx_in x1 (zN σ8 b10) = true ∧ ∀ σ15 : zx_S, σ15 = zx_pI σ8 b10 (Int32.toNatClampNeg x1) ((zI σ8 b10 (Int32.toNatClampNeg x1)) + x3) → zx_in x1 (zN σ15 b10) = true ∧ K (zI σ15 b10 (Int32.toNatClampNeg x1)) σ15)) : zwI 98 0 [some (.ref a0), some (.int x1), some (.int x2), some (.int x3), none] [] σ K := by
  refine zw_go (pc1 := 1) (L1 := [some (.ref a0), some (.int x1), some (.int x2), some (.int x3), none]) (st1 := [.int x1]) (σ1 := σ) zM_X5_append dX5_append_0 rfl rfl rfl rfl ?_
  refine zw_bipush (v := 100) zM_X5_append dX5_append_1 (by decide) ?_
  refine zw_go (pc1 := 4) (L1 := [some (.ref a0), some (.int x1), some (.int x2), some (.int x3), none]) (st1 := [.int (x1 * 100)]) (σ1 := σ) zM_X5_append dX5_append_3 rfl rfl rfl rfl ?_
  refine zw_go (pc1 := 5) (L1 := [some (.ref a0), some (.int x1), some (.int x2), some (.int x3), none]) (st1 := [.ref a0, .int (x1 * 100)]) (σ1 := σ) zM_X5_append dX5_append_4 rfl rfl rfl rfl ?_
  obtain ⟨hk1, h⟩ := h
  obtain ⟨b2, hr3, h⟩ := h
  refine zw_getR (a := b2) zM_X5_append dX5_append_5 zF_5_27 rfl hk1 hr3 ?_
  refine zw_go (pc1 := 9) (L1 := [some (.ref a0), some (.int x1), some (.int x2), some (.int x3), none]) (st1 := [.int x1, .ref b2, .int (x1 * 100)]) (σ1 := σ) zM_X5_append dX5_append_8 rfl rfl rfl rfl ?_
  obtain ⟨hk4, h⟩ := h
  obtain ⟨hi5, h⟩ := h
  refine zw_iald zM_X5_append dX5_append_9 ⟨Or.inl hk4, hi5⟩ ?_
  refine zw_go (pc1 := 11) (L1 := [some (.ref a0), some (.int x1), some (.int x2), some (.int x3), none]) (st1 := [.int ((x1 * 100) + (zI σ b2 (Int32.toNatClampNeg x1)))]) (σ1 := σ) zM_X5_append dX5_append_10 rfl rfl rfl rfl ?_
  refine zw_go (pc1 := 13) (L1 := [some (.ref a0), some (.int x1), some (.int x2), some (.int x3), some (.int ((x1 * 100) + (zI σ b2 (Int32.toNatClampNeg x1))))]) (st1 := []) (σ1 := σ) zM_X5_append dX5_append_11 rfl rfl rfl rfl ?_
  refine zw_go (pc1 := 14) (L1 := [some (.ref a0), some (.int x1), some (.int x2), some (.int x3), some (.int ((x1 * 100) + (zI σ b2 (Int32.toNatClampNeg x1))))]) (st1 := [.ref a0]) (σ1 := σ) zM_X5_append dX5_append_13 rfl rfl rfl rfl ?_
  obtain ⟨b6, hr7, h⟩ := h
  refine zw_getR (a := b6) zM_X5_append dX5_append_14 zF_5_30 rfl hk1 hr7 ?_
  refine zw_go (pc1 := 19) (L1 := [some (.ref a0), some (.int x1), some (.int x2), some (.int x3), some (.int ((x1 * 100) + (zI σ b2 (Int32.toNatClampNeg x1))))]) (st1 := [.int ((x1 * 100) + (zI σ b2 (Int32.toNatClampNeg x1))), .ref b6]) (σ1 := σ) zM_X5_append dX5_append_17 rfl rfl rfl rfl ?_
  refine zw_go (pc1 := 21) (L1 := [some (.ref a0), some (.int x1), some (.int x2), some (.int x3), some (.int ((x1 * 100) + (zI σ b2 (Int32.toNatClampNeg x1))))]) (st1 := [.int ((x1 * 100) + (zI σ b2 (Int32.toNatClampNeg x1))), .int ((x1 * 100) + (zI σ b2 (Int32.toNatClampNeg x1))), .ref b6]) (σ1 := σ) zM_X5_append dX5_append_19 rfl rfl rfl rfl ?_
  refine zw_go (pc1 := 22) (L1 := [some (.ref a0), some (.int x1), some (.int x2), some (.int x3), some (.int ((x1 * 100) + (zI σ b2 (Int32.toNatClampNeg x1))))]) (st1 := [.int x3, .int ((x1 * 100) + (zI σ b2 (Int32.toNatClampNeg x1))), .int ((x1 * 100) + (zI σ b2 (Int32.toNatClampNeg x1))), .ref b6]) (σ1 := σ) zM_X5_append dX5_append_21 rfl rfl rfl rfl ?_
  refine zw_go (pc1 := 23) (L1 := [some (.ref a0), some (.int x1), some (.int x2), some (.int x3), some (.int ((x1 * 100) + (zI σ b2 (Int32.toNatClampNeg x1))))]) (st1 := [.int (((x1 * 100) + (zI σ b2 (Int32.toNatClampNeg x1))) + x3), .int ((x1 * 100) + (zI σ b2 (Int32.toNatClampNeg x1))), .ref b6]) (σ1 := σ) zM_X5_append dX5_append_22 rfl rfl rfl rfl ?_
  refine zw_go (pc1 := 24) (L1 := [some (.ref a0), some (.int x1), some (.int x2), some (.int x3), some (.int ((x1 * 100) + (zI σ b2 (Int32.toNatClampNeg x1))))]) (st1 := [.int x2, .int (((x1 * 100) + (zI σ b2 (Int32.toNatClampNeg x1))) + x3), .int ((x1 * 100) + (zI σ b2 (Int32.toNatClampNeg x1))), .ref b6]) (σ1 := σ) zM_X5_append dX5_append_23 rfl rfl rfl rfl ?_
  refine zw_callV (as := [.ref b6, .int ((x1 * 100) + (zI σ b2 (Int32.toNatClampNeg x1))), .int (((x1 * 100) + (zI σ b2 (Int32.toNatClampNeg x1))) + x3), .int x2]) (rest := []) zM_X5_append dX5_append_24 (zx_calS zC_5_61) zM_J7_fill_fda19 rfl rfl rfl rfl rfl rfl rfl h (fun σ8 h => ?_)
  refine zw_go (pc1 := 28) (L1 := [some (.ref a0), some (.int x1), some (.int x2), some (.int x3), some (.int ((x1 * 100) + (zI σ b2 (Int32.toNatClampNeg x1))))]) (st1 := [.ref a0]) (σ1 := σ8) zM_X5_append dX5_append_27 rfl rfl rfl rfl ?_
  obtain ⟨hk9, h⟩ := h
  obtain ⟨b10, hr11, h⟩ := h
  refine zw_getR (a := b10) zM_X5_append dX5_append_28 zF_5_27 rfl hk9 hr11 ?_
  refine zw_go (pc1 := 32) (L1 := [some (.ref a0), some (.int x1), some (.int x2), some (.int x3), some (.int ((x1 * 100) + (zI σ b2 (Int32.toNatClampNeg x1))))]) (st1 := [.int x1, .ref b10]) (σ1 := σ8) zM_X5_append dX5_append_31 rfl rfl rfl rfl ?_
  refine zw_go (pc1 := 33) (L1 := [some (.ref a0), some (.int x1), some (.int x2), some (.int x3), some (.int ((x1 * 100) + (zI σ b2 (Int32.toNatClampNeg x1))))]) (st1 := [.int x1, .ref b10, .int x1, .ref b10]) (σ1 := σ8) zM_X5_append dX5_append_32 rfl rfl rfl rfl ?_
  obtain ⟨hk12, h⟩ := h
  obtain ⟨hi13, h⟩ := h
  refine zw_iald zM_X5_append dX5_append_33 ⟨Or.inl hk12, hi13⟩ ?_
  refine zw_go (pc1 := 35) (L1 := [some (.ref a0), some (.int x1), some (.int x2), some (.int x3), some (.int ((x1 * 100) + (zI σ b2 (Int32.toNatClampNeg x1))))]) (st1 := [.int x3, .int (zI σ8 b10 (Int32.toNatClampNeg x1)), .int x1, .ref b10]) (σ1 := σ8) zM_X5_append dX5_append_34 rfl rfl rfl rfl ?_
  refine zw_go (pc1 := 36) (L1 := [some (.ref a0), some (.int x1), some (.int x2), some (.int x3), some (.int ((x1 * 100) + (zI σ b2 (Int32.toNatClampNeg x1))))]) (st1 := [.int ((zI σ8 b10 (Int32.toNatClampNeg x1)) + x3), .int x1, .ref b10]) (σ1 := σ8) zM_X5_append dX5_append_35 rfl rfl rfl rfl ?_
  obtain ⟨hi14, h⟩ := h
  obtain ⟨σ15, e16⟩ : ∃ z9 : zx_S, z9 = zx_pI σ8 b10 (Int32.toNatClampNeg x1) ((zI σ8 b10 (Int32.toNatClampNeg x1)) + x3) := ⟨_, rfl⟩
  replace h := h σ15 e16
  refine zw_iast zM_X5_append dX5_append_36 ⟨hk12, hi14⟩ e16 ?_
  refine zw_go (pc1 := 38) (L1 := [some (.ref a0), some (.int x1), some (.int x2), some (.int x3), some (.int ((x1 * 100) + (zI σ b2 (Int32.toNatClampNeg x1))))]) (st1 := [.ref a0]) (σ1 := σ15) zM_X5_append dX5_append_37 rfl rfl rfl rfl ?_
  refine zw_getR (a := b10) zM_X5_append dX5_append_38 zF_5_27 rfl (by rw [e16]; exact hk9) (by rw [e16]; exact hr11) ?_
  refine zw_go (pc1 := 42) (L1 := [some (.ref a0), some (.int x1), some (.int x2), some (.int x3), some (.int ((x1 * 100) + (zI σ b2 (Int32.toNatClampNeg x1))))]) (st1 := [.int x1, .ref b10]) (σ1 := σ15) zM_X5_append dX5_append_41 rfl rfl rfl rfl ?_
  obtain ⟨hi17, h⟩ := h
  refine zw_iald zM_X5_append dX5_append_42 ⟨Or.inl (by rw [e16]; exact hk12), hi17⟩ ?_
  exact zw_reti zM_X5_append dX5_append_43 rfl h
set_option maxHeartbeats 4000000 in
set_option maxRecDepth 100000 in
theorem vc_X5_firstFrom_0 (a0 : Nat) (x1 : Int32) (σ : zx_S) (K : Int32 → zx_S → Prop) (h : zwI 99 2 [some (.ref a0), some (.int x1), some (.int 0)] [] σ K) : zwI 99 0 [some (.ref a0), some (.int x1), none] [] σ K := by
  refine zw_iconst (v := 0) zM_X5_firstFrom dX5_firstFrom_0 (by decide) ?_
  refine zw_go (pc1 := 2) (L1 := [some (.ref a0), some (.int x1), some (.int 0)]) (st1 := []) (σ1 := σ) zM_X5_firstFrom dX5_firstFrom_1 rfl rfl rfl rfl ?_
  exact zw_weak2 h ⟨rfl, rfl, rfl, trivial⟩
set_option maxHeartbeats 4000000 in
set_option maxRecDepth 100000 in
theorem vc_X5_firstFrom_2 (a0 : Nat) (x1 : Int32) (x2 : Int32) (σ : zx_S) (K : Int32 → zx_S → Prop) (h : zK σ a0 = 18 ∧ (((zI σ a0 10) ≤ x2 → K (zI σ a0 10) σ) ∧ (¬ (zI σ a0 10) ≤ x2 → ∃ b2 : Nat, zR σ a0 7 = some b2 ∧ zK σ b2 = 1 ∧ zx_in x2 (zN σ b2) = true ∧ (((zI σ b2 (Int32.toNatClampNeg x2)) < x1 → zwI 99 2 [some (.ref a0), some (.int x1), some (.int (x2 + Int32.ofInt 1))] [] σ K) ∧ (¬ (zI σ b2 (Int32.toNatClampNeg x2)) < x1 → K x2 σ))))) : zwI 99 2 [some (.ref a0), some (.int x1), some (.int x2)] [] σ K := by
  refine zw_go (pc1 := 3) (L1 := [some (.ref a0), some (.int x1), some (.int x2)]) (st1 := [.int x2]) (σ1 := σ) zM_X5_firstFrom dX5_firstFrom_2 rfl rfl rfl rfl ?_
  refine zw_go (pc1 := 4) (L1 := [some (.ref a0), some (.int x1), some (.int x2)]) (st1 := [.ref a0, .int x2]) (σ1 := σ) zM_X5_firstFrom dX5_firstFrom_3 rfl rfl rfl rfl ?_
  obtain ⟨hk1, h⟩ := h
  refine zw_getI zM_X5_firstFrom dX5_firstFrom_4 zF_5_42 rfl hk1 ?_
  refine zw_icmp_ge (tgt := 28) zM_X5_firstFrom dX5_firstFrom_7 rfl rfl (fun q => ?_) (fun q => ?_)
  · replace h := h.1 q
    refine zw_go (pc1 := 29) (L1 := [some (.ref a0), some (.int x1), some (.int x2)]) (st1 := [.ref a0]) (σ1 := σ) zM_X5_firstFrom dX5_firstFrom_28 rfl rfl rfl rfl ?_
    refine zw_getI zM_X5_firstFrom dX5_firstFrom_29 zF_5_42 rfl hk1 ?_
    exact zw_reti zM_X5_firstFrom dX5_firstFrom_32 rfl h
  · replace h := h.2 q
    refine zw_go (pc1 := 11) (L1 := [some (.ref a0), some (.int x1), some (.int x2)]) (st1 := [.ref a0]) (σ1 := σ) zM_X5_firstFrom dX5_firstFrom_10 rfl rfl rfl rfl ?_
    obtain ⟨b2, hr3, h⟩ := h
    refine zw_getR (a := b2) zM_X5_firstFrom dX5_firstFrom_11 zF_5_33 rfl hk1 hr3 ?_
    refine zw_go (pc1 := 15) (L1 := [some (.ref a0), some (.int x1), some (.int x2)]) (st1 := [.int x2, .ref b2]) (σ1 := σ) zM_X5_firstFrom dX5_firstFrom_14 rfl rfl rfl rfl ?_
    obtain ⟨hk4, h⟩ := h
    obtain ⟨hi5, h⟩ := h
    refine zw_iald zM_X5_firstFrom dX5_firstFrom_15 ⟨Or.inl hk4, hi5⟩ ?_
    refine zw_go (pc1 := 17) (L1 := [some (.ref a0), some (.int x1), some (.int x2)]) (st1 := [.int x1, .int (zI σ b2 (Int32.toNatClampNeg x2))]) (σ1 := σ) zM_X5_firstFrom dX5_firstFrom_16 rfl rfl rfl rfl ?_
    refine zw_icmp_lt (tgt := 22) zM_X5_firstFrom dX5_firstFrom_17 rfl rfl (fun q => ?_) (fun q => ?_)
    · replace h := h.1 q
      refine zw_go (pc1 := 25) (L1 := [some (.ref a0), some (.int x1), some (.int (x2 + Int32.ofInt 1))]) (st1 := []) (σ1 := σ) zM_X5_firstFrom dX5_firstFrom_22 rfl rfl rfl rfl ?_
      refine zw_goto (tgt := 2) zM_X5_firstFrom dX5_firstFrom_25 rfl ?_
      exact zw_weak2 h ⟨rfl, rfl, rfl, trivial⟩
    · replace h := h.2 q
      refine zw_go (pc1 := 21) (L1 := [some (.ref a0), some (.int x1), some (.int x2)]) (st1 := [.int x2]) (σ1 := σ) zM_X5_firstFrom dX5_firstFrom_20 rfl rfl rfl rfl ?_
      exact zw_reti zM_X5_firstFrom dX5_firstFrom_21 rfl h
set_option maxHeartbeats 4000000 in
set_option maxRecDepth 100000 in
theorem vc_X5_firstNameOf_0 (a0 : Nat) (x1 : Int32) (σ : zx_S) (K : Int32 → zx_S → Prop) (h : zK σ a0 = 18 ∧ zwI 99 0 [some (.ref a0), some (.int (x1 * 1000)), none] [] σ (fun v3 σ2 => K v3 σ2)) : zwI 100 0 [some (.ref a0), some (.int x1)] [] σ K := by
  refine zw_go (pc1 := 1) (L1 := [some (.ref a0), some (.int x1)]) (st1 := [.ref a0]) (σ1 := σ) zM_X5_firstNameOf dX5_firstNameOf_0 rfl rfl rfl rfl ?_
  refine zw_go (pc1 := 2) (L1 := [some (.ref a0), some (.int x1)]) (st1 := [.int x1, .ref a0]) (σ1 := σ) zM_X5_firstNameOf dX5_firstNameOf_1 rfl rfl rfl rfl ?_
  refine zw_sipush (v := 1000) zM_X5_firstNameOf dX5_firstNameOf_2 (by decide) ?_
  refine zw_go (pc1 := 6) (L1 := [some (.ref a0), some (.int x1)]) (st1 := [.int (x1 * 1000), .ref a0]) (σ1 := σ) zM_X5_firstNameOf dX5_firstNameOf_5 rfl rfl rfl rfl ?_
  obtain ⟨hk1, h⟩ := h
  refine zw_callI (as := [.ref a0, .int (x1 * 1000)]) (rest := []) zM_X5_firstNameOf dX5_firstNameOf_6 (zx_calV zC_5_53) zM_X5_firstFrom rfl rfl rfl rfl rfl (zx_args0 hk1 rfl) rfl h (fun v3 σ2 h => ?_)
  exact zw_reti zM_X5_firstNameOf dX5_firstNameOf_9 rfl h
set_option maxHeartbeats 4000000 in
set_option maxRecDepth 100000 in
theorem vc_X5_hasNode_0 (a0 : Nat) (x1 : Int32) (σ : zx_S) (K : Int32 → zx_S → Prop) (h : ((x1 < (0 : Int32) → K 0 σ) ∧ (¬ x1 < (0 : Int32) → zK σ a0 = 18 ∧ (((zI σ a0 9) ≤ x1 → K 0 σ) ∧ (¬ (zI σ a0 9) ≤ x1 → K 1 σ))))) : zwI 101 0 [some (.ref a0), some (.int x1)] [] σ K := by
  refine zw_go (pc1 := 1) (L1 := [some (.ref a0), some (.int x1)]) (st1 := [.int x1]) (σ1 := σ) zM_X5_hasNode dX5_hasNode_0 rfl rfl rfl rfl ?_
  refine zw_if_lt (tgt := 16) zM_X5_hasNode dX5_hasNode_1 rfl rfl (fun q => ?_) (fun q => ?_)
  · replace h := h.1 q
    refine zw_iconst (v := 0) zM_X5_hasNode dX5_hasNode_16 (by decide) ?_
    exact zw_retz zM_X5_hasNode dX5_hasNode_17 rfl (by decide) h
  · replace h := h.2 q
    refine zw_go (pc1 := 5) (L1 := [some (.ref a0), some (.int x1)]) (st1 := [.int x1]) (σ1 := σ) zM_X5_hasNode dX5_hasNode_4 rfl rfl rfl rfl ?_
    refine zw_go (pc1 := 6) (L1 := [some (.ref a0), some (.int x1)]) (st1 := [.ref a0, .int x1]) (σ1 := σ) zM_X5_hasNode dX5_hasNode_5 rfl rfl rfl rfl ?_
    obtain ⟨hk1, h⟩ := h
    refine zw_getI zM_X5_hasNode dX5_hasNode_6 zF_5_46 rfl hk1 ?_
    refine zw_icmp_ge (tgt := 16) zM_X5_hasNode dX5_hasNode_9 rfl rfl (fun q => ?_) (fun q => ?_)
    · replace h := h.1 q
      refine zw_iconst (v := 0) zM_X5_hasNode dX5_hasNode_16 (by decide) ?_
      exact zw_retz zM_X5_hasNode dX5_hasNode_17 rfl (by decide) h
    · replace h := h.2 q
      refine zw_iconst (v := 1) zM_X5_hasNode dX5_hasNode_12 (by decide) ?_
      refine zw_goto (tgt := 17) zM_X5_hasNode dX5_hasNode_13 rfl ?_
      exact zw_retz zM_X5_hasNode dX5_hasNode_17 rfl (by decide) h
set_option maxHeartbeats 4000000 in
set_option maxRecDepth 100000 in
theorem vc_X5_haveSameBytes_0 (a0 : Nat) (x1 : Int32) (x2 : Int32) (σ : zx_S) (K : Int32 → zx_S → Prop) (h : zK σ a0 = 18 ∧ ∃ b2 : Nat, zR σ a0 5 = some b2 ∧ zK σ b2 = 1 ∧ zx_in x1 (zN σ b2) = true ∧ zx_in x2 (zN σ b2) = true ∧ (((zI σ b2 (Int32.toNatClampNeg x1)) = (zI σ b2 (Int32.toNatClampNeg x2)) → zwI 102 19 [some (.ref a0), some (.int x1), some (.int x2), some (.int 0)] [] σ K) ∧ (¬ (zI σ b2 (Int32.toNatClampNeg x1)) = (zI σ b2 (Int32.toNatClampNeg x2)) → K 0 σ))) : zwI 102 0 [some (.ref a0), some (.int x1), some (.int x2), none] [] σ K := by
  refine zw_go (pc1 := 1) (L1 := [some (.ref a0), some (.int x1), some (.int x2), none]) (st1 := [.ref a0]) (σ1 := σ) zM_X5_haveSameBytes dX5_haveSameBytes_0 rfl rfl rfl rfl ?_
  obtain ⟨hk1, h⟩ := h
  obtain ⟨b2, hr3, h⟩ := h
  refine zw_getR (a := b2) zM_X5_haveSameBytes dX5_haveSameBytes_1 zF_5_27 rfl hk1 hr3 ?_
  refine zw_go (pc1 := 5) (L1 := [some (.ref a0), some (.int x1), some (.int x2), none]) (st1 := [.int x1, .ref b2]) (σ1 := σ) zM_X5_haveSameBytes dX5_haveSameBytes_4 rfl rfl rfl rfl ?_
  obtain ⟨hk4, h⟩ := h
  obtain ⟨hi5, h⟩ := h
  refine zw_iald zM_X5_haveSameBytes dX5_haveSameBytes_5 ⟨Or.inl hk4, hi5⟩ ?_
  refine zw_go (pc1 := 7) (L1 := [some (.ref a0), some (.int x1), some (.int x2), none]) (st1 := [.ref a0, .int (zI σ b2 (Int32.toNatClampNeg x1))]) (σ1 := σ) zM_X5_haveSameBytes dX5_haveSameBytes_6 rfl rfl rfl rfl ?_
  refine zw_getR (a := b2) zM_X5_haveSameBytes dX5_haveSameBytes_7 zF_5_27 rfl hk1 hr3 ?_
  refine zw_go (pc1 := 11) (L1 := [some (.ref a0), some (.int x1), some (.int x2), none]) (st1 := [.int x2, .ref b2, .int (zI σ b2 (Int32.toNatClampNeg x1))]) (σ1 := σ) zM_X5_haveSameBytes dX5_haveSameBytes_10 rfl rfl rfl rfl ?_
  obtain ⟨hi6, h⟩ := h
  refine zw_iald zM_X5_haveSameBytes dX5_haveSameBytes_11 ⟨Or.inl hk4, hi6⟩ ?_
  refine zw_icmp_eq (tgt := 17) zM_X5_haveSameBytes dX5_haveSameBytes_12 rfl rfl (fun q => ?_) (fun q => ?_)
  · replace h := h.1 q
    refine zw_iconst (v := 0) zM_X5_haveSameBytes dX5_haveSameBytes_17 (by decide) ?_
    refine zw_go (pc1 := 19) (L1 := [some (.ref a0), some (.int x1), some (.int x2), some (.int 0)]) (st1 := []) (σ1 := σ) zM_X5_haveSameBytes dX5_haveSameBytes_18 rfl rfl rfl rfl ?_
    exact zw_weak2 h ⟨rfl, rfl, rfl, rfl, trivial⟩
  · replace h := h.2 q
    refine zw_iconst (v := 0) zM_X5_haveSameBytes dX5_haveSameBytes_15 (by decide) ?_
    exact zw_retz zM_X5_haveSameBytes dX5_haveSameBytes_16 rfl (by decide) h
set_option maxHeartbeats 4000000 in
set_option maxRecDepth 100000 in
theorem vc_X5_haveSameBytes_19 (a0 : Nat) (x1 : Int32) (x2 : Int32) (x3 : Int32) (σ : zx_S) (K : Int32 → zx_S → Prop) (h : zK σ a0 = 18 ∧ ∃ b2 : Nat, zR σ a0 5 = some b2 ∧ zK σ b2 = 1 ∧ zx_in x1 (zN σ b2) = true ∧ (((zI σ b2 (Int32.toNatClampNeg x1)) ≤ x3 → K 1 σ) ∧ (¬ (zI σ b2 (Int32.toNatClampNeg x1)) ≤ x3 → ∃ b6 : Nat, zR σ a0 6 = some b6 ∧ zK σ b6 = 1 ∧ zx_in ((x1 * 100) + x3) (zN σ b6) = true ∧ zx_in ((x2 * 100) + x3) (zN σ b6) = true ∧ (((zI σ b6 (Int32.toNatClampNeg ((x1 * 100) + x3))) = (zI σ b6 (Int32.toNatClampNeg ((x2 * 100) + x3))) → zwI 102 19 [some (.ref a0), some (.int x1), some (.int x2), some (.int (x3 + Int32.ofInt 1))] [] σ K) ∧ (¬ (zI σ b6 (Int32.toNatClampNeg ((x1 * 100) + x3))) = (zI σ b6 (Int32.toNatClampNeg ((x2 * 100) + x3))) → K 0 σ))))) : zwI 102 19 [some (.ref a0), some (.int x1), some (.int x2), some (.int x3)] [] σ K := by
  refine zw_go (pc1 := 20) (L1 := [some (.ref a0), some (.int x1), some (.int x2), some (.int x3)]) (st1 := [.int x3]) (σ1 := σ) zM_X5_haveSameBytes dX5_haveSameBytes_19 rfl rfl rfl rfl ?_
  refine zw_go (pc1 := 21) (L1 := [some (.ref a0), some (.int x1), some (.int x2), some (.int x3)]) (st1 := [.ref a0, .int x3]) (σ1 := σ) zM_X5_haveSameBytes dX5_haveSameBytes_20 rfl rfl rfl rfl ?_
  obtain ⟨hk1, h⟩ := h
  obtain ⟨b2, hr3, h⟩ := h
  refine zw_getR (a := b2) zM_X5_haveSameBytes dX5_haveSameBytes_21 zF_5_27 rfl hk1 hr3 ?_
  refine zw_go (pc1 := 25) (L1 := [some (.ref a0), some (.int x1), some (.int x2), some (.int x3)]) (st1 := [.int x1, .ref b2, .int x3]) (σ1 := σ) zM_X5_haveSameBytes dX5_haveSameBytes_24 rfl rfl rfl rfl ?_
  obtain ⟨hk4, h⟩ := h
  obtain ⟨hi5, h⟩ := h
  refine zw_iald zM_X5_haveSameBytes dX5_haveSameBytes_25 ⟨Or.inl hk4, hi5⟩ ?_
  refine zw_icmp_ge (tgt := 62) zM_X5_haveSameBytes dX5_haveSameBytes_26 rfl rfl (fun q => ?_) (fun q => ?_)
  · replace h := h.1 q
    refine zw_iconst (v := 1) zM_X5_haveSameBytes dX5_haveSameBytes_62 (by decide) ?_
    exact zw_retz zM_X5_haveSameBytes dX5_haveSameBytes_63 rfl (by decide) h
  · replace h := h.2 q
    refine zw_go (pc1 := 30) (L1 := [some (.ref a0), some (.int x1), some (.int x2), some (.int x3)]) (st1 := [.ref a0]) (σ1 := σ) zM_X5_haveSameBytes dX5_haveSameBytes_29 rfl rfl rfl rfl ?_
    obtain ⟨b6, hr7, h⟩ := h
    refine zw_getR (a := b6) zM_X5_haveSameBytes dX5_haveSameBytes_30 zF_5_30 rfl hk1 hr7 ?_
    refine zw_go (pc1 := 34) (L1 := [some (.ref a0), some (.int x1), some (.int x2), some (.int x3)]) (st1 := [.int x1, .ref b6]) (σ1 := σ) zM_X5_haveSameBytes dX5_haveSameBytes_33 rfl rfl rfl rfl ?_
    refine zw_bipush (v := 100) zM_X5_haveSameBytes dX5_haveSameBytes_34 (by decide) ?_
    refine zw_go (pc1 := 37) (L1 := [some (.ref a0), some (.int x1), some (.int x2), some (.int x3)]) (st1 := [.int (x1 * 100), .ref b6]) (σ1 := σ) zM_X5_haveSameBytes dX5_haveSameBytes_36 rfl rfl rfl rfl ?_
    refine zw_go (pc1 := 38) (L1 := [some (.ref a0), some (.int x1), some (.int x2), some (.int x3)]) (st1 := [.int x3, .int (x1 * 100), .ref b6]) (σ1 := σ) zM_X5_haveSameBytes dX5_haveSameBytes_37 rfl rfl rfl rfl ?_
    refine zw_go (pc1 := 39) (L1 := [some (.ref a0), some (.int x1), some (.int x2), some (.int x3)]) (st1 := [.int ((x1 * 100) + x3), .ref b6]) (σ1 := σ) zM_X5_haveSameBytes dX5_haveSameBytes_38 rfl rfl rfl rfl ?_
    obtain ⟨hk8, h⟩ := h
    obtain ⟨hi9, h⟩ := h
    refine zw_iald zM_X5_haveSameBytes dX5_haveSameBytes_39 ⟨Or.inl hk8, hi9⟩ ?_
    refine zw_go (pc1 := 41) (L1 := [some (.ref a0), some (.int x1), some (.int x2), some (.int x3)]) (st1 := [.ref a0, .int (zI σ b6 (Int32.toNatClampNeg ((x1 * 100) + x3)))]) (σ1 := σ) zM_X5_haveSameBytes dX5_haveSameBytes_40 rfl rfl rfl rfl ?_
    refine zw_getR (a := b6) zM_X5_haveSameBytes dX5_haveSameBytes_41 zF_5_30 rfl hk1 hr7 ?_
    refine zw_go (pc1 := 45) (L1 := [some (.ref a0), some (.int x1), some (.int x2), some (.int x3)]) (st1 := [.int x2, .ref b6, .int (zI σ b6 (Int32.toNatClampNeg ((x1 * 100) + x3)))]) (σ1 := σ) zM_X5_haveSameBytes dX5_haveSameBytes_44 rfl rfl rfl rfl ?_
    refine zw_bipush (v := 100) zM_X5_haveSameBytes dX5_haveSameBytes_45 (by decide) ?_
    refine zw_go (pc1 := 48) (L1 := [some (.ref a0), some (.int x1), some (.int x2), some (.int x3)]) (st1 := [.int (x2 * 100), .ref b6, .int (zI σ b6 (Int32.toNatClampNeg ((x1 * 100) + x3)))]) (σ1 := σ) zM_X5_haveSameBytes dX5_haveSameBytes_47 rfl rfl rfl rfl ?_
    refine zw_go (pc1 := 49) (L1 := [some (.ref a0), some (.int x1), some (.int x2), some (.int x3)]) (st1 := [.int x3, .int (x2 * 100), .ref b6, .int (zI σ b6 (Int32.toNatClampNeg ((x1 * 100) + x3)))]) (σ1 := σ) zM_X5_haveSameBytes dX5_haveSameBytes_48 rfl rfl rfl rfl ?_
    refine zw_go (pc1 := 50) (L1 := [some (.ref a0), some (.int x1), some (.int x2), some (.int x3)]) (st1 := [.int ((x2 * 100) + x3), .ref b6, .int (zI σ b6 (Int32.toNatClampNeg ((x1 * 100) + x3)))]) (σ1 := σ) zM_X5_haveSameBytes dX5_haveSameBytes_49 rfl rfl rfl rfl ?_
    obtain ⟨hi10, h⟩ := h
    refine zw_iald zM_X5_haveSameBytes dX5_haveSameBytes_50 ⟨Or.inl hk8, hi10⟩ ?_
    refine zw_icmp_eq (tgt := 56) zM_X5_haveSameBytes dX5_haveSameBytes_51 rfl rfl (fun q => ?_) (fun q => ?_)
    · replace h := h.1 q
      refine zw_go (pc1 := 59) (L1 := [some (.ref a0), some (.int x1), some (.int x2), some (.int (x3 + Int32.ofInt 1))]) (st1 := []) (σ1 := σ) zM_X5_haveSameBytes dX5_haveSameBytes_56 rfl rfl rfl rfl ?_
      refine zw_goto (tgt := 19) zM_X5_haveSameBytes dX5_haveSameBytes_59 rfl ?_
      exact zw_weak2 h ⟨rfl, rfl, rfl, rfl, trivial⟩
    · replace h := h.2 q
      refine zw_iconst (v := 0) zM_X5_haveSameBytes dX5_haveSameBytes_54 (by decide) ?_
      exact zw_retz zM_X5_haveSameBytes dX5_haveSameBytes_55 rfl (by decide) h
set_option maxHeartbeats 4000000 in
set_option maxRecDepth 100000 in
theorem vc_X5_init_0 (a0 : Nat) (σ : zx_S) (K : zx_S → Prop) (h : ∀ σ1 : zx_S, σ1 = zx_nw σ 1 (Int32.toNatClampNeg 32) (Int32.toNatClampNeg 32) → zK σ1 a0 = 18 ∧ ∀ σ4 : zx_S, σ4 = zx_pR σ1 a0 0 (some (zn σ)) → ∀ σ6 : zx_S, σ6 = zx_nw σ4 1 (Int32.toNatClampNeg 32) (Int32.toNatClampNeg 32) → zK σ6 a0 = 18 ∧ ∀ σ9 : zx_S, σ9 = zx_pR σ6 a0 1 (some (zn σ4)) → ∀ σ11 : zx_S, σ11 = zx_nw σ9 1 (Int32.toNatClampNeg 32) (Int32.toNatClampNeg 32) → zK σ11 a0 = 18 ∧ ∀ σ14 : zx_S, σ14 = zx_pR σ11 a0 2 (some (zn σ9)) → ∀ σ16 : zx_S, σ16 = zx_nw σ14 1 (Int32.toNatClampNeg 32) (Int32.toNatClampNeg 32) → zK σ16 a0 = 18 ∧ ∀ σ19 : zx_S, σ19 = zx_pR σ16 a0 3 (some (zn σ14)) → ∀ σ21 : zx_S, σ21 = zx_nw σ19 1 (Int32.toNatClampNeg 32) (Int32.toNatClampNeg 32) → zK σ21 a0 = 18 ∧ ∀ σ24 : zx_S, σ24 = zx_pR σ21 a0 4 (some (zn σ19)) → ∀ σ26 : zx_S, σ26 = zx_nw σ24 1 (Int32.toNatClampNeg 32) (Int32.toNatClampNeg 32) → zK σ26 a0 = 18 ∧ ∀ σ29 : zx_S, σ29 = zx_pR σ26 a0 5 (some (zn σ24)) → ∀ σ31 : zx_S, σ31 = zx_nw σ29 1 (Int32.toNatClampNeg 3200) (Int32.toNatClampNeg 3200) → zK σ31 a0 = 18 ∧ ∀ σ34 : zx_S, σ34 = zx_pR σ31 a0 6 (some (zn σ29)) → ∀ σ36 : zx_S, σ36 = zx_nw σ34 1 (Int32.toNatClampNeg 279) (Int32.toNatClampNeg 279) → zK σ36 a0 = 18 ∧ ∀ σ39 : zx_S, σ39 = zx_pR σ36 a0 7 (some (zn σ34)) → ∀ σ41 : zx_S, σ41 = zx_nw σ39 1 (Int32.toNatClampNeg 279) (Int32.toNatClampNeg 279) → zK σ41 a0 = 18 ∧ ∀ σ44 : zx_S, σ44 = zx_pR σ41 a0 8 (some (zn σ39)) → zwV 105 0 [some (.ref a0)] [] σ44 (fun σ46 => K σ46)) : zwV 103 0 [some (.ref a0)] [] σ K := by
  refine zw_go (pc1 := 1) (L1 := [some (.ref a0)]) (st1 := [.ref a0]) (σ1 := σ) zM_X5_init dX5_init_0 rfl rfl rfl rfl ?_
  refine zw_obj zM_X5_init dX5_init_1 zC_5_3 (by decide) rfl ?_
  refine zw_go (pc1 := 5) (L1 := [some (.ref a0)]) (st1 := [.ref a0]) (σ1 := σ) zM_X5_init dX5_init_4 rfl rfl rfl rfl ?_
  refine zw_bipush (v := 32) zM_X5_init dX5_init_5 (by decide) ?_
  obtain ⟨σ1, e2⟩ : ∃ z9 : zx_S, z9 = zx_nw σ 1 (Int32.toNatClampNeg 32) (Int32.toNatClampNeg 32) := ⟨_, rfl⟩
  replace h := h σ1 e2
  refine zw_newI zM_X5_init dX5_init_7 (by decide) e2 ?_
  obtain ⟨hk3, h⟩ := h
  obtain ⟨σ4, e5⟩ : ∃ z9 : zx_S, z9 = zx_pR σ1 a0 0 (some (zn σ)) := ⟨_, rfl⟩
  replace h := h σ4 e5
  refine zw_putR zM_X5_init dX5_init_9 zF_5_9 rfl rfl (by decide) hk3 e5 ?_
  refine zw_go (pc1 := 13) (L1 := [some (.ref a0)]) (st1 := [.ref a0]) (σ1 := σ4) zM_X5_init dX5_init_12 rfl rfl rfl rfl ?_
  refine zw_bipush (v := 32) zM_X5_init dX5_init_13 (by decide) ?_
  obtain ⟨σ6, e7⟩ : ∃ z9 : zx_S, z9 = zx_nw σ4 1 (Int32.toNatClampNeg 32) (Int32.toNatClampNeg 32) := ⟨_, rfl⟩
  replace h := h σ6 e7
  refine zw_newI zM_X5_init dX5_init_15 (by decide) e7 ?_
  obtain ⟨hk8, h⟩ := h
  obtain ⟨σ9, e10⟩ : ∃ z9 : zx_S, z9 = zx_pR σ6 a0 1 (some (zn σ4)) := ⟨_, rfl⟩
  replace h := h σ9 e10
  refine zw_putR zM_X5_init dX5_init_17 zF_5_15 rfl rfl (by decide) hk8 e10 ?_
  refine zw_go (pc1 := 21) (L1 := [some (.ref a0)]) (st1 := [.ref a0]) (σ1 := σ9) zM_X5_init dX5_init_20 rfl rfl rfl rfl ?_
  refine zw_bipush (v := 32) zM_X5_init dX5_init_21 (by decide) ?_
  obtain ⟨σ11, e12⟩ : ∃ z9 : zx_S, z9 = zx_nw σ9 1 (Int32.toNatClampNeg 32) (Int32.toNatClampNeg 32) := ⟨_, rfl⟩
  replace h := h σ11 e12
  refine zw_newI zM_X5_init dX5_init_23 (by decide) e12 ?_
  obtain ⟨hk13, h⟩ := h
  obtain ⟨σ14, e15⟩ : ∃ z9 : zx_S, z9 = zx_pR σ11 a0 2 (some (zn σ9)) := ⟨_, rfl⟩
  replace h := h σ14 e15
  refine zw_putR zM_X5_init dX5_init_25 zF_5_18 rfl rfl (by decide) hk13 e15 ?_
  refine zw_go (pc1 := 29) (L1 := [some (.ref a0)]) (st1 := [.ref a0]) (σ1 := σ14) zM_X5_init dX5_init_28 rfl rfl rfl rfl ?_
  refine zw_bipush (v := 32) zM_X5_init dX5_init_29 (by decide) ?_
  obtain ⟨σ16, e17⟩ : ∃ z9 : zx_S, z9 = zx_nw σ14 1 (Int32.toNatClampNeg 32) (Int32.toNatClampNeg 32) := ⟨_, rfl⟩
  replace h := h σ16 e17
  refine zw_newI zM_X5_init dX5_init_31 (by decide) e17 ?_
  obtain ⟨hk18, h⟩ := h
  obtain ⟨σ19, e20⟩ : ∃ z9 : zx_S, z9 = zx_pR σ16 a0 3 (some (zn σ14)) := ⟨_, rfl⟩
  replace h := h σ19 e20
  refine zw_putR zM_X5_init dX5_init_33 zF_5_21 rfl rfl (by decide) hk18 e20 ?_
  refine zw_go (pc1 := 37) (L1 := [some (.ref a0)]) (st1 := [.ref a0]) (σ1 := σ19) zM_X5_init dX5_init_36 rfl rfl rfl rfl ?_
  refine zw_bipush (v := 32) zM_X5_init dX5_init_37 (by decide) ?_
  obtain ⟨σ21, e22⟩ : ∃ z9 : zx_S, z9 = zx_nw σ19 1 (Int32.toNatClampNeg 32) (Int32.toNatClampNeg 32) := ⟨_, rfl⟩
  replace h := h σ21 e22
  refine zw_newI zM_X5_init dX5_init_39 (by decide) e22 ?_
  obtain ⟨hk23, h⟩ := h
  obtain ⟨σ24, e25⟩ : ∃ z9 : zx_S, z9 = zx_pR σ21 a0 4 (some (zn σ19)) := ⟨_, rfl⟩
  replace h := h σ24 e25
  refine zw_putR zM_X5_init dX5_init_41 zF_5_24 rfl rfl (by decide) hk23 e25 ?_
  refine zw_go (pc1 := 45) (L1 := [some (.ref a0)]) (st1 := [.ref a0]) (σ1 := σ24) zM_X5_init dX5_init_44 rfl rfl rfl rfl ?_
  refine zw_bipush (v := 32) zM_X5_init dX5_init_45 (by decide) ?_
  obtain ⟨σ26, e27⟩ : ∃ z9 : zx_S, z9 = zx_nw σ24 1 (Int32.toNatClampNeg 32) (Int32.toNatClampNeg 32) := ⟨_, rfl⟩
  replace h := h σ26 e27
  refine zw_newI zM_X5_init dX5_init_47 (by decide) e27 ?_
  obtain ⟨hk28, h⟩ := h
  obtain ⟨σ29, e30⟩ : ∃ z9 : zx_S, z9 = zx_pR σ26 a0 5 (some (zn σ24)) := ⟨_, rfl⟩
  replace h := h σ29 e30
  refine zw_putR zM_X5_init dX5_init_49 zF_5_27 rfl rfl (by decide) hk28 e30 ?_
  refine zw_go (pc1 := 53) (L1 := [some (.ref a0)]) (st1 := [.ref a0]) (σ1 := σ29) zM_X5_init dX5_init_52 rfl rfl rfl rfl ?_
  refine zw_sipush (v := 3200) zM_X5_init dX5_init_53 (by decide) ?_
  obtain ⟨σ31, e32⟩ : ∃ z9 : zx_S, z9 = zx_nw σ29 1 (Int32.toNatClampNeg 3200) (Int32.toNatClampNeg 3200) := ⟨_, rfl⟩
  replace h := h σ31 e32
  refine zw_newI zM_X5_init dX5_init_56 (by decide) e32 ?_
  obtain ⟨hk33, h⟩ := h
  obtain ⟨σ34, e35⟩ : ∃ z9 : zx_S, z9 = zx_pR σ31 a0 6 (some (zn σ29)) := ⟨_, rfl⟩
  replace h := h σ34 e35
  refine zw_putR zM_X5_init dX5_init_58 zF_5_30 rfl rfl (by decide) hk33 e35 ?_
  refine zw_go (pc1 := 62) (L1 := [some (.ref a0)]) (st1 := [.ref a0]) (σ1 := σ34) zM_X5_init dX5_init_61 rfl rfl rfl rfl ?_
  refine zw_sipush (v := 279) zM_X5_init dX5_init_62 (by decide) ?_
  obtain ⟨σ36, e37⟩ : ∃ z9 : zx_S, z9 = zx_nw σ34 1 (Int32.toNatClampNeg 279) (Int32.toNatClampNeg 279) := ⟨_, rfl⟩
  replace h := h σ36 e37
  refine zw_newI zM_X5_init dX5_init_65 (by decide) e37 ?_
  obtain ⟨hk38, h⟩ := h
  obtain ⟨σ39, e40⟩ : ∃ z9 : zx_S, z9 = zx_pR σ36 a0 7 (some (zn σ34)) := ⟨_, rfl⟩
  replace h := h σ39 e40
  refine zw_putR zM_X5_init dX5_init_67 zF_5_33 rfl rfl (by decide) hk38 e40 ?_
  refine zw_go (pc1 := 71) (L1 := [some (.ref a0)]) (st1 := [.ref a0]) (σ1 := σ39) zM_X5_init dX5_init_70 rfl rfl rfl rfl ?_
  refine zw_sipush (v := 279) zM_X5_init dX5_init_71 (by decide) ?_
  obtain ⟨σ41, e42⟩ : ∃ z9 : zx_S, z9 = zx_nw σ39 1 (Int32.toNatClampNeg 279) (Int32.toNatClampNeg 279) := ⟨_, rfl⟩
  replace h := h σ41 e42
  refine zw_newI zM_X5_init dX5_init_74 (by decide) e42 ?_
  obtain ⟨hk43, h⟩ := h
  obtain ⟨σ44, e45⟩ : ∃ z9 : zx_S, z9 = zx_pR σ41 a0 8 (some (zn σ39)) := ⟨_, rfl⟩
  replace h := h σ44 e45
  refine zw_putR zM_X5_init dX5_init_76 zF_5_36 rfl rfl (by decide) hk43 e45 ?_
  refine zw_go (pc1 := 80) (L1 := [some (.ref a0)]) (st1 := [.ref a0]) (σ1 := σ44) zM_X5_init dX5_init_79 rfl rfl rfl rfl ?_
  refine zw_callV (as := [.ref a0]) (rest := []) zM_X5_init dX5_init_80 (zx_calV zC_5_39) zM_X5_reset rfl rfl rfl rfl rfl (zx_args0 (by rw [e45]; exact hk43) rfl) rfl h (fun σ46 h => ?_)
  exact zw_retv zM_X5_init dX5_init_83 rfl h
set_option maxHeartbeats 4000000 in
set_option maxRecDepth 100000 in
theorem vc_X5_nameAt_0 (a0 : Nat) (x1 : Int32) (σ : zx_S) (K : Int32 → zx_S → Prop) (h : zK σ a0 = 18 ∧ ∃ b2 : Nat, zR σ a0 7 = some b2 ∧ zK σ b2 = 1 ∧ zx_in x1 (zN σ b2) = true ∧ K ((zI σ b2 (Int32.toNatClampNeg x1)) - (zI σ b2 (Int32.toNatClampNeg x1)) / 1000 * 1000) σ) : zwI 104 0 [some (.ref a0), some (.int x1)] [] σ K := by
  refine zw_go (pc1 := 1) (L1 := [some (.ref a0), some (.int x1)]) (st1 := [.ref a0]) (σ1 := σ) zM_X5_nameAt dX5_nameAt_0 rfl rfl rfl rfl ?_
  obtain ⟨hk1, h⟩ := h
  obtain ⟨b2, hr3, h⟩ := h
  refine zw_getR (a := b2) zM_X5_nameAt dX5_nameAt_1 zF_5_33 rfl hk1 hr3 ?_
  refine zw_go (pc1 := 5) (L1 := [some (.ref a0), some (.int x1)]) (st1 := [.int x1, .ref b2]) (σ1 := σ) zM_X5_nameAt dX5_nameAt_4 rfl rfl rfl rfl ?_
  obtain ⟨hk4, h⟩ := h
  obtain ⟨hi5, h⟩ := h
  refine zw_iald zM_X5_nameAt dX5_nameAt_5 ⟨Or.inl hk4, hi5⟩ ?_
  refine zw_sipush (v := 1000) zM_X5_nameAt dX5_nameAt_6 (by decide) ?_
  refine zw_rem zM_X5_nameAt dX5_nameAt_9 (by decide) ?_
  exact zw_reti zM_X5_nameAt dX5_nameAt_10 rfl h
set_option maxHeartbeats 4000000 in
set_option maxRecDepth 100000 in
theorem vc_X5_reset_0 (a0 : Nat) (σ : zx_S) (K : zx_S → Prop) (h : zK σ a0 = 18 ∧ ∀ σ2 : zx_S, σ2 = zx_pI σ a0 10 0 → ∀ σ4 : zx_S, σ4 = zx_pI σ2 a0 9 0 → zwV 106 0 [some (.ref a0), some (.int 0), some (.int 1), none] [] σ4 (fun σ6 => K σ6)) : zwV 105 0 [some (.ref a0)] [] σ K := by
  refine zw_go (pc1 := 1) (L1 := [some (.ref a0)]) (st1 := [.ref a0]) (σ1 := σ) zM_X5_reset dX5_reset_0 rfl rfl rfl rfl ?_
  refine zw_iconst (v := 0) zM_X5_reset dX5_reset_1 (by decide) ?_
  obtain ⟨hk1, h⟩ := h
  obtain ⟨σ2, e3⟩ : ∃ z9 : zx_S, z9 = zx_pI σ a0 10 0 := ⟨_, rfl⟩
  replace h := h σ2 e3
  refine zw_putI zM_X5_reset dX5_reset_2 zF_5_42 rfl rfl hk1 e3 ?_
  refine zw_go (pc1 := 6) (L1 := [some (.ref a0)]) (st1 := [.ref a0]) (σ1 := σ2) zM_X5_reset dX5_reset_5 rfl rfl rfl rfl ?_
  refine zw_iconst (v := 0) zM_X5_reset dX5_reset_6 (by decide) ?_
  obtain ⟨σ4, e5⟩ : ∃ z9 : zx_S, z9 = zx_pI σ2 a0 9 0 := ⟨_, rfl⟩
  replace h := h σ4 e5
  refine zw_putI zM_X5_reset dX5_reset_7 zF_5_46 rfl rfl (by rw [e3]; exact hk1) e5 ?_
  refine zw_go (pc1 := 11) (L1 := [some (.ref a0)]) (st1 := [.ref a0]) (σ1 := σ4) zM_X5_reset dX5_reset_10 rfl rfl rfl rfl ?_
  refine zw_iconst (v := 0) zM_X5_reset dX5_reset_11 (by decide) ?_
  refine zw_iconst (v := 1) zM_X5_reset dX5_reset_12 (by decide) ?_
  refine zw_callV (as := [.ref a0, .int 0, .int 1]) (rest := []) zM_X5_reset dX5_reset_13 (zx_calV zC_5_49) zM_X5_startNode rfl rfl rfl rfl rfl (zx_args0 (by rw [e5, e3]; exact hk1) rfl) rfl h (fun σ6 h => ?_)
  exact zw_retv zM_X5_reset dX5_reset_16 rfl h
set_option maxHeartbeats 4000000 in
set_option maxRecDepth 100000 in
theorem vc_X5_startNode_0 (a0 : Nat) (x1 : Int32) (x2 : Int32) (σ : zx_S) (K : zx_S → Prop) (h : zK σ a0 = 18 ∧ ∃ b2 : Nat, zR σ a0 0 = some b2 ∧ zK σ b2 = 1 ∧ zx_in (zI σ a0 9) (zN σ b2) = true ∧ ∀ σ6 : zx_S, σ6 = zx_pI σ b2 (Int32.toNatClampNeg (zI σ a0 9)) x2 → ∃ b8 : Nat, zR σ6 a0 4 = some b8 ∧ zK σ6 b8 = 1 ∧ zx_in (zI σ a0 9) (zN σ6 b8) = true ∧ ∀ σ12 : zx_S, σ12 = zx_pI σ6 b8 (Int32.toNatClampNeg (zI σ a0 9)) x1 → ∃ b14 : Nat, zR σ12 a0 1 = some b14 ∧ zK σ12 b14 = 1 ∧ zx_in (zI σ a0 9) (zN σ12 b14) = true ∧ ∀ σ18 : zx_S, σ18 = zx_pI σ12 b14 (Int32.toNatClampNeg (zI σ a0 9)) 0 → ∃ b20 : Nat, zR σ18 a0 2 = some b20 ∧ zK σ18 b20 = 1 ∧ zx_in (zI σ a0 9) (zN σ18 b20) = true ∧ ∀ σ24 : zx_S, σ24 = zx_pI σ18 b20 (Int32.toNatClampNeg (zI σ a0 9)) 0 → ∃ b26 : Nat, zR σ24 a0 5 = some b26 ∧ zK σ24 b26 = 1 ∧ zx_in (zI σ a0 9) (zN σ24 b26) = true ∧ ∀ σ30 : zx_S, σ30 = zx_pI σ24 b26 (Int32.toNatClampNeg (zI σ a0 9)) 0 → ∃ b32 : Nat, zR σ30 a0 3 = some b32 ∧ zK σ30 b32 = 1 ∧ zx_in (zI σ a0 9) (zN σ30 b32) = true ∧ ∀ σ36 : zx_S, σ36 = zx_pI σ30 b32 (Int32.toNatClampNeg (zI σ a0 9)) 0 → ∀ σ38 : zx_S, σ38 = zx_pI σ36 a0 9 ((zI σ36 a0 9) + 1) → K σ38) : zwV 106 0 [some (.ref a0), some (.int x1), some (.int x2), none] [] σ K := by
  refine zw_go (pc1 := 1) (L1 := [some (.ref a0), some (.int x1), some (.int x2), none]) (st1 := [.ref a0]) (σ1 := σ) zM_X5_startNode dX5_startNode_0 rfl rfl rfl rfl ?_
  obtain ⟨hk1, h⟩ := h
  refine zw_getI zM_X5_startNode dX5_startNode_1 zF_5_46 rfl hk1 ?_
  refine zw_go (pc1 := 5) (L1 := [some (.ref a0), some (.int x1), some (.int x2), some (.int (zI σ a0 9))]) (st1 := []) (σ1 := σ) zM_X5_startNode dX5_startNode_4 rfl rfl rfl rfl ?_
  refine zw_go (pc1 := 6) (L1 := [some (.ref a0), some (.int x1), some (.int x2), some (.int (zI σ a0 9))]) (st1 := [.ref a0]) (σ1 := σ) zM_X5_startNode dX5_startNode_5 rfl rfl rfl rfl ?_
  obtain ⟨b2, hr3, h⟩ := h
  refine zw_getR (a := b2) zM_X5_startNode dX5_startNode_6 zF_5_9 rfl hk1 hr3 ?_
  refine zw_go (pc1 := 10) (L1 := [some (.ref a0), some (.int x1), some (.int x2), some (.int (zI σ a0 9))]) (st1 := [.int (zI σ a0 9), .ref b2]) (σ1 := σ) zM_X5_startNode dX5_startNode_9 rfl rfl rfl rfl ?_
  refine zw_go (pc1 := 11) (L1 := [some (.ref a0), some (.int x1), some (.int x2), some (.int (zI σ a0 9))]) (st1 := [.int x2, .int (zI σ a0 9), .ref b2]) (σ1 := σ) zM_X5_startNode dX5_startNode_10 rfl rfl rfl rfl ?_
  obtain ⟨hk4, h⟩ := h
  obtain ⟨hi5, h⟩ := h
  obtain ⟨σ6, e7⟩ : ∃ z9 : zx_S, z9 = zx_pI σ b2 (Int32.toNatClampNeg (zI σ a0 9)) x2 := ⟨_, rfl⟩
  replace h := h σ6 e7
  refine zw_iast zM_X5_startNode dX5_startNode_11 ⟨hk4, hi5⟩ e7 ?_
  refine zw_go (pc1 := 13) (L1 := [some (.ref a0), some (.int x1), some (.int x2), some (.int (zI σ a0 9))]) (st1 := [.ref a0]) (σ1 := σ6) zM_X5_startNode dX5_startNode_12 rfl rfl rfl rfl ?_
  obtain ⟨b8, hr9, h⟩ := h
  refine zw_getR (a := b8) zM_X5_startNode dX5_startNode_13 zF_5_24 rfl (by rw [e7]; exact hk1) hr9 ?_
  refine zw_go (pc1 := 17) (L1 := [some (.ref a0), some (.int x1), some (.int x2), some (.int (zI σ a0 9))]) (st1 := [.int (zI σ a0 9), .ref b8]) (σ1 := σ6) zM_X5_startNode dX5_startNode_16 rfl rfl rfl rfl ?_
  refine zw_go (pc1 := 18) (L1 := [some (.ref a0), some (.int x1), some (.int x2), some (.int (zI σ a0 9))]) (st1 := [.int x1, .int (zI σ a0 9), .ref b8]) (σ1 := σ6) zM_X5_startNode dX5_startNode_17 rfl rfl rfl rfl ?_
  obtain ⟨hk10, h⟩ := h
  obtain ⟨hi11, h⟩ := h
  obtain ⟨σ12, e13⟩ : ∃ z9 : zx_S, z9 = zx_pI σ6 b8 (Int32.toNatClampNeg (zI σ a0 9)) x1 := ⟨_, rfl⟩
  replace h := h σ12 e13
  refine zw_iast zM_X5_startNode dX5_startNode_18 ⟨hk10, hi11⟩ e13 ?_
  refine zw_go (pc1 := 20) (L1 := [some (.ref a0), some (.int x1), some (.int x2), some (.int (zI σ a0 9))]) (st1 := [.ref a0]) (σ1 := σ12) zM_X5_startNode dX5_startNode_19 rfl rfl rfl rfl ?_
  obtain ⟨b14, hr15, h⟩ := h
  refine zw_getR (a := b14) zM_X5_startNode dX5_startNode_20 zF_5_15 rfl (by rw [e13, e7]; exact hk1) hr15 ?_
  refine zw_go (pc1 := 24) (L1 := [some (.ref a0), some (.int x1), some (.int x2), some (.int (zI σ a0 9))]) (st1 := [.int (zI σ a0 9), .ref b14]) (σ1 := σ12) zM_X5_startNode dX5_startNode_23 rfl rfl rfl rfl ?_
  refine zw_iconst (v := 0) zM_X5_startNode dX5_startNode_24 (by decide) ?_
  obtain ⟨hk16, h⟩ := h
  obtain ⟨hi17, h⟩ := h
  obtain ⟨σ18, e19⟩ : ∃ z9 : zx_S, z9 = zx_pI σ12 b14 (Int32.toNatClampNeg (zI σ a0 9)) 0 := ⟨_, rfl⟩
  replace h := h σ18 e19
  refine zw_iast zM_X5_startNode dX5_startNode_25 ⟨hk16, hi17⟩ e19 ?_
  refine zw_go (pc1 := 27) (L1 := [some (.ref a0), some (.int x1), some (.int x2), some (.int (zI σ a0 9))]) (st1 := [.ref a0]) (σ1 := σ18) zM_X5_startNode dX5_startNode_26 rfl rfl rfl rfl ?_
  obtain ⟨b20, hr21, h⟩ := h
  refine zw_getR (a := b20) zM_X5_startNode dX5_startNode_27 zF_5_18 rfl (by rw [e19, e13, e7]; exact hk1) hr21 ?_
  refine zw_go (pc1 := 31) (L1 := [some (.ref a0), some (.int x1), some (.int x2), some (.int (zI σ a0 9))]) (st1 := [.int (zI σ a0 9), .ref b20]) (σ1 := σ18) zM_X5_startNode dX5_startNode_30 rfl rfl rfl rfl ?_
  refine zw_iconst (v := 0) zM_X5_startNode dX5_startNode_31 (by decide) ?_
  obtain ⟨hk22, h⟩ := h
  obtain ⟨hi23, h⟩ := h
  obtain ⟨σ24, e25⟩ : ∃ z9 : zx_S, z9 = zx_pI σ18 b20 (Int32.toNatClampNeg (zI σ a0 9)) 0 := ⟨_, rfl⟩
  replace h := h σ24 e25
  refine zw_iast zM_X5_startNode dX5_startNode_32 ⟨hk22, hi23⟩ e25 ?_
  refine zw_go (pc1 := 34) (L1 := [some (.ref a0), some (.int x1), some (.int x2), some (.int (zI σ a0 9))]) (st1 := [.ref a0]) (σ1 := σ24) zM_X5_startNode dX5_startNode_33 rfl rfl rfl rfl ?_
  obtain ⟨b26, hr27, h⟩ := h
  refine zw_getR (a := b26) zM_X5_startNode dX5_startNode_34 zF_5_27 rfl (by rw [e25, e19, e13, e7]; exact hk1) hr27 ?_
  refine zw_go (pc1 := 38) (L1 := [some (.ref a0), some (.int x1), some (.int x2), some (.int (zI σ a0 9))]) (st1 := [.int (zI σ a0 9), .ref b26]) (σ1 := σ24) zM_X5_startNode dX5_startNode_37 rfl rfl rfl rfl ?_
  refine zw_iconst (v := 0) zM_X5_startNode dX5_startNode_38 (by decide) ?_
  obtain ⟨hk28, h⟩ := h
  obtain ⟨hi29, h⟩ := h
  obtain ⟨σ30, e31⟩ : ∃ z9 : zx_S, z9 = zx_pI σ24 b26 (Int32.toNatClampNeg (zI σ a0 9)) 0 := ⟨_, rfl⟩
  replace h := h σ30 e31
  refine zw_iast zM_X5_startNode dX5_startNode_39 ⟨hk28, hi29⟩ e31 ?_
  refine zw_go (pc1 := 41) (L1 := [some (.ref a0), some (.int x1), some (.int x2), some (.int (zI σ a0 9))]) (st1 := [.ref a0]) (σ1 := σ30) zM_X5_startNode dX5_startNode_40 rfl rfl rfl rfl ?_
  obtain ⟨b32, hr33, h⟩ := h
  refine zw_getR (a := b32) zM_X5_startNode dX5_startNode_41 zF_5_21 rfl (by rw [e31, e25, e19, e13, e7]; exact hk1) hr33 ?_
  refine zw_go (pc1 := 45) (L1 := [some (.ref a0), some (.int x1), some (.int x2), some (.int (zI σ a0 9))]) (st1 := [.int (zI σ a0 9), .ref b32]) (σ1 := σ30) zM_X5_startNode dX5_startNode_44 rfl rfl rfl rfl ?_
  refine zw_iconst (v := 0) zM_X5_startNode dX5_startNode_45 (by decide) ?_
  obtain ⟨hk34, h⟩ := h
  obtain ⟨hi35, h⟩ := h
  obtain ⟨σ36, e37⟩ : ∃ z9 : zx_S, z9 = zx_pI σ30 b32 (Int32.toNatClampNeg (zI σ a0 9)) 0 := ⟨_, rfl⟩
  replace h := h σ36 e37
  refine zw_iast zM_X5_startNode dX5_startNode_46 ⟨hk34, hi35⟩ e37 ?_
  refine zw_go (pc1 := 48) (L1 := [some (.ref a0), some (.int x1), some (.int x2), some (.int (zI σ a0 9))]) (st1 := [.ref a0]) (σ1 := σ36) zM_X5_startNode dX5_startNode_47 rfl rfl rfl rfl ?_
  refine zw_go (pc1 := 49) (L1 := [some (.ref a0), some (.int x1), some (.int x2), some (.int (zI σ a0 9))]) (st1 := [.ref a0, .ref a0]) (σ1 := σ36) zM_X5_startNode dX5_startNode_48 rfl rfl rfl rfl ?_
  refine zw_getI zM_X5_startNode dX5_startNode_49 zF_5_46 rfl (by rw [e37, e31, e25, e19, e13, e7]; exact hk1) ?_
  refine zw_iconst (v := 1) zM_X5_startNode dX5_startNode_52 (by decide) ?_
  refine zw_go (pc1 := 54) (L1 := [some (.ref a0), some (.int x1), some (.int x2), some (.int (zI σ a0 9))]) (st1 := [.int ((zI σ36 a0 9) + 1), .ref a0]) (σ1 := σ36) zM_X5_startNode dX5_startNode_53 rfl rfl rfl rfl ?_
  obtain ⟨σ38, e39⟩ : ∃ z9 : zx_S, z9 = zx_pI σ36 a0 9 ((zI σ36 a0 9) + 1) := ⟨_, rfl⟩
  replace h := h σ38 e39
  refine zw_putI zM_X5_startNode dX5_startNode_54 zF_5_46 rfl rfl (by rw [e37, e31, e25, e19, e13, e7]; exact hk1) e39 ?_
  exact zw_retv zM_X5_startNode dX5_startNode_57 rfl h
set_option maxHeartbeats 4000000 in
set_option maxRecDepth 100000 in
theorem vc_X5_takesName_0 (a0 : Nat) (x1 : Int32) (x2 : Int32) (σ : zx_S) (K : Int32 → zx_S → Prop) (h : zK σ a0 = 18 ∧ ∃ b2 : Nat, zR σ a0 0 = some b2 ∧ zK σ b2 = 1 ∧ zx_in x1 (zN σ b2) = true ∧ (((zI σ b2 (Int32.toNatClampNeg x1)) = (1 : Int32) → zwI 99 0 [some (.ref a0), some (.int ((x1 * 1000) + x2)), none] [] σ (fun v7 σ6 => zK σ6 a0 = 18 ∧ (((zI σ6 a0 10) ≤ v7 → K 1 σ6) ∧ (¬ (zI σ6 a0 10) ≤ v7 → ∃ b9 : Nat, zR σ6 a0 7 = some b9 ∧ zK σ6 b9 = 1 ∧ zx_in v7 (zN σ6 b9) = true ∧ (((zI σ6 b9 (Int32.toNatClampNeg v7)) = ((x1 * 1000) + x2) → K 0 σ6) ∧ (¬ (zI σ6 b9 (Int32.toNatClampNeg v7)) = ((x1 * 1000) + x2) → K 1 σ6)))))) ∧ (¬ (zI σ b2 (Int32.toNatClampNeg x1)) = (1 : Int32) → K 0 σ))) : zwI 107 0 [some (.ref a0), some (.int x1), some (.int x2), none, none] [] σ K := by
  refine zw_go (pc1 := 1) (L1 := [some (.ref a0), some (.int x1), some (.int x2), none, none]) (st1 := [.ref a0]) (σ1 := σ) zM_X5_takesName dX5_takesName_0 rfl rfl rfl rfl ?_
  obtain ⟨hk1, h⟩ := h
  obtain ⟨b2, hr3, h⟩ := h
  refine zw_getR (a := b2) zM_X5_takesName dX5_takesName_1 zF_5_9 rfl hk1 hr3 ?_
  refine zw_go (pc1 := 5) (L1 := [some (.ref a0), some (.int x1), some (.int x2), none, none]) (st1 := [.int x1, .ref b2]) (σ1 := σ) zM_X5_takesName dX5_takesName_4 rfl rfl rfl rfl ?_
  obtain ⟨hk4, h⟩ := h
  obtain ⟨hi5, h⟩ := h
  refine zw_iald zM_X5_takesName dX5_takesName_5 ⟨Or.inl hk4, hi5⟩ ?_
  refine zw_iconst (v := 1) zM_X5_takesName dX5_takesName_6 (by decide) ?_
  refine zw_icmp_eq (tgt := 12) zM_X5_takesName dX5_takesName_7 rfl rfl (fun q => ?_) (fun q => ?_)
  · replace h := h.1 q
    refine zw_go (pc1 := 13) (L1 := [some (.ref a0), some (.int x1), some (.int x2), none, none]) (st1 := [.int x1]) (σ1 := σ) zM_X5_takesName dX5_takesName_12 rfl rfl rfl rfl ?_
    refine zw_sipush (v := 1000) zM_X5_takesName dX5_takesName_13 (by decide) ?_
    refine zw_go (pc1 := 17) (L1 := [some (.ref a0), some (.int x1), some (.int x2), none, none]) (st1 := [.int (x1 * 1000)]) (σ1 := σ) zM_X5_takesName dX5_takesName_16 rfl rfl rfl rfl ?_
    refine zw_go (pc1 := 18) (L1 := [some (.ref a0), some (.int x1), some (.int x2), none, none]) (st1 := [.int x2, .int (x1 * 1000)]) (σ1 := σ) zM_X5_takesName dX5_takesName_17 rfl rfl rfl rfl ?_
    refine zw_go (pc1 := 19) (L1 := [some (.ref a0), some (.int x1), some (.int x2), none, none]) (st1 := [.int ((x1 * 1000) + x2)]) (σ1 := σ) zM_X5_takesName dX5_takesName_18 rfl rfl rfl rfl ?_
    refine zw_go (pc1 := 20) (L1 := [some (.ref a0), some (.int x1), some (.int x2), some (.int ((x1 * 1000) + x2)), none]) (st1 := []) (σ1 := σ) zM_X5_takesName dX5_takesName_19 rfl rfl rfl rfl ?_
    refine zw_go (pc1 := 21) (L1 := [some (.ref a0), some (.int x1), some (.int x2), some (.int ((x1 * 1000) + x2)), none]) (st1 := [.ref a0]) (σ1 := σ) zM_X5_takesName dX5_takesName_20 rfl rfl rfl rfl ?_
    refine zw_go (pc1 := 22) (L1 := [some (.ref a0), some (.int x1), some (.int x2), some (.int ((x1 * 1000) + x2)), none]) (st1 := [.int ((x1 * 1000) + x2), .ref a0]) (σ1 := σ) zM_X5_takesName dX5_takesName_21 rfl rfl rfl rfl ?_
    refine zw_callI (as := [.ref a0, .int ((x1 * 1000) + x2)]) (rest := []) zM_X5_takesName dX5_takesName_22 (zx_calV zC_5_53) zM_X5_firstFrom rfl rfl rfl rfl rfl (zx_args0 hk1 rfl) rfl h (fun v7 σ6 h => ?_)
    refine zw_go (pc1 := 27) (L1 := [some (.ref a0), some (.int x1), some (.int x2), some (.int ((x1 * 1000) + x2)), some (.int v7)]) (st1 := []) (σ1 := σ6) zM_X5_takesName dX5_takesName_25 rfl rfl rfl rfl ?_
    refine zw_go (pc1 := 29) (L1 := [some (.ref a0), some (.int x1), some (.int x2), some (.int ((x1 * 1000) + x2)), some (.int v7)]) (st1 := [.int v7]) (σ1 := σ6) zM_X5_takesName dX5_takesName_27 rfl rfl rfl rfl ?_
    refine zw_go (pc1 := 30) (L1 := [some (.ref a0), some (.int x1), some (.int x2), some (.int ((x1 * 1000) + x2)), some (.int v7)]) (st1 := [.ref a0, .int v7]) (σ1 := σ6) zM_X5_takesName dX5_takesName_29 rfl rfl rfl rfl ?_
    obtain ⟨hk8, h⟩ := h
    refine zw_getI zM_X5_takesName dX5_takesName_30 zF_5_42 rfl hk8 ?_
    refine zw_icmp_ge (tgt := 47) zM_X5_takesName dX5_takesName_33 rfl rfl (fun q => ?_) (fun q => ?_)
    · replace h := h.1 q
      refine zw_iconst (v := 1) zM_X5_takesName dX5_takesName_47 (by decide) ?_
      refine zw_goto (tgt := 52) zM_X5_takesName dX5_takesName_48 rfl ?_
      exact zw_retz zM_X5_takesName dX5_takesName_52 rfl (by decide) h
    · replace h := h.2 q
      refine zw_go (pc1 := 37) (L1 := [some (.ref a0), some (.int x1), some (.int x2), some (.int ((x1 * 1000) + x2)), some (.int v7)]) (st1 := [.ref a0]) (σ1 := σ6) zM_X5_takesName dX5_takesName_36 rfl rfl rfl rfl ?_
      obtain ⟨b9, hr10, h⟩ := h
      refine zw_getR (a := b9) zM_X5_takesName dX5_takesName_37 zF_5_33 rfl hk8 hr10 ?_
      refine zw_go (pc1 := 42) (L1 := [some (.ref a0), some (.int x1), some (.int x2), some (.int ((x1 * 1000) + x2)), some (.int v7)]) (st1 := [.int v7, .ref b9]) (σ1 := σ6) zM_X5_takesName dX5_takesName_40 rfl rfl rfl rfl ?_
      obtain ⟨hk11, h⟩ := h
      obtain ⟨hi12, h⟩ := h
      refine zw_iald zM_X5_takesName dX5_takesName_42 ⟨Or.inl hk11, hi12⟩ ?_
      refine zw_go (pc1 := 44) (L1 := [some (.ref a0), some (.int x1), some (.int x2), some (.int ((x1 * 1000) + x2)), some (.int v7)]) (st1 := [.int ((x1 * 1000) + x2), .int (zI σ6 b9 (Int32.toNatClampNeg v7))]) (σ1 := σ6) zM_X5_takesName dX5_takesName_43 rfl rfl rfl rfl ?_
      refine zw_icmp_eq (tgt := 51) zM_X5_takesName dX5_takesName_44 rfl rfl (fun q => ?_) (fun q => ?_)
      · replace h := h.1 q
        refine zw_iconst (v := 0) zM_X5_takesName dX5_takesName_51 (by decide) ?_
        exact zw_retz zM_X5_takesName dX5_takesName_52 rfl (by decide) h
      · replace h := h.2 q
        refine zw_iconst (v := 1) zM_X5_takesName dX5_takesName_47 (by decide) ?_
        refine zw_goto (tgt := 52) zM_X5_takesName dX5_takesName_48 rfl ?_
        exact zw_retz zM_X5_takesName dX5_takesName_52 rfl (by decide) h
  · replace h := h.2 q
    refine zw_iconst (v := 0) zM_X5_takesName dX5_takesName_10 (by decide) ?_
    exact zw_retz zM_X5_takesName dX5_takesName_11 rfl (by decide) h
