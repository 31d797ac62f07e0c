set_option maxHeartbeats 4000000 in
set_option maxRecDepth 100000 in
theorem vc_X7_alike_0 (a0 : Nat) (x1 : Int32) (x2 : Int32) (σ : zx_S) (K : Int32 → zx_S → Prop) (h : zwI 137 2 [some (.ref a0), some (.int x1), some (.int x2), some (.int x1)] [] σ K) : zwI 137 0 [some (.ref a0), some (.int x1), some (.int x2), none] [] σ K := by
  refine zw_go (pc1 := 1) (L1 := [some (.ref a0), some (.int x1), some (.int x2), none]) (st1 := [.int x1]) (σ1 := σ) zM_X7_alike dX7_alike_0 rfl rfl rfl rfl ?_
  refine zw_go (pc1 := 2) (L1 := [some (.ref a0), some (.int x1), some (.int x2), some (.int x1)]) (st1 := []) (σ1 := σ) zM_X7_alike dX7_alike_1 rfl rfl rfl rfl ?_
  exact zw_weak2 h ⟨rfl, rfl, rfl, rfl, trivial⟩
set_option maxHeartbeats 4000000 in
set_option maxRecDepth 100000 in
theorem vc_X7_alike_2 (a0 : Nat) (x1 : Int32) (x2 : Int32) (x3 : Int32) (σ : zx_S) (K : Int32 → zx_S → Prop) (h : ((x2 ≤ x3 → K (x3 - x1) σ) ∧ (¬ x2 ≤ x3 → zK σ a0 = 20 ∧ ∃ b2 : Nat, zR σ a0 20 = some b2 ∧ zK σ b2 = 1 ∧ zx_in x3 (zN σ b2) = true ∧ zx_in x1 (zN σ b2) = true ∧ ((¬ (zI σ b2 (Int32.toNatClampNeg x3)) = (zI σ b2 (Int32.toNatClampNeg x1)) → K (x3 - x1) σ) ∧ ((zI σ b2 (Int32.toNatClampNeg x3)) = (zI σ b2 (Int32.toNatClampNeg x1)) → zwI 137 2 [some (.ref a0), some (.int x1), some (.int x2), some (.int (x3 + Int32.ofInt 1))] [] σ K))))) : zwI 137 2 [some (.ref a0), some (.int x1), some (.int x2), some (.int x3)] [] σ K := by
  refine zw_go (pc1 := 3) (L1 := [some (.ref a0), some (.int x1), some (.int x2), some (.int x3)]) (st1 := [.int x3]) (σ1 := σ) zM_X7_alike dX7_alike_2 rfl rfl rfl rfl ?_
  refine zw_go (pc1 := 4) (L1 := [some (.ref a0), some (.int x1), some (.int x2), some (.int x3)]) (st1 := [.int x2, .int x3]) (σ1 := σ) zM_X7_alike dX7_alike_3 rfl rfl rfl rfl ?_
  refine zw_icmp_ge (tgt := 28) zM_X7_alike dX7_alike_4 rfl rfl (fun q => ?_) (fun q => ?_)
  · replace h := h.1 q
    refine zw_go (pc1 := 29) (L1 := [some (.ref a0), some (.int x1), some (.int x2), some (.int x3)]) (st1 := [.int x3]) (σ1 := σ) zM_X7_alike dX7_alike_28 rfl rfl rfl rfl ?_
    refine zw_go (pc1 := 30) (L1 := [some (.ref a0), some (.int x1), some (.int x2), some (.int x3)]) (st1 := [.int x1, .int x3]) (σ1 := σ) zM_X7_alike dX7_alike_29 rfl rfl rfl rfl ?_
    refine zw_go (pc1 := 31) (L1 := [some (.ref a0), some (.int x1), some (.int x2), some (.int x3)]) (st1 := [.int (x3 - x1)]) (σ1 := σ) zM_X7_alike dX7_alike_30 rfl rfl rfl rfl ?_
    exact zw_reti zM_X7_alike dX7_alike_31 rfl h
  · replace h := h.2 q
    refine zw_go (pc1 := 8) (L1 := [some (.ref a0), some (.int x1), some (.int x2), some (.int x3)]) (st1 := [.ref a0]) (σ1 := σ) zM_X7_alike dX7_alike_7 rfl rfl rfl rfl ?_
    obtain ⟨hk1, h⟩ := h
    obtain ⟨b2, hr3, h⟩ := h
    refine zw_getR (a := b2) zM_X7_alike dX7_alike_8 zF_7_46 rfl hk1 hr3 ?_
    refine zw_go (pc1 := 12) (L1 := [some (.ref a0), some (.int x1), some (.int x2), some (.int x3)]) (st1 := [.int x3, .ref b2]) (σ1 := σ) zM_X7_alike dX7_alike_11 rfl rfl rfl rfl ?_
    obtain ⟨hk4, h⟩ := h
    obtain ⟨hi5, h⟩ := h
    refine zw_iald zM_X7_alike dX7_alike_12 ⟨Or.inl hk4, hi5⟩ ?_
    refine zw_go (pc1 := 14) (L1 := [some (.ref a0), some (.int x1), some (.int x2), some (.int x3)]) (st1 := [.ref a0, .int (zI σ b2 (Int32.toNatClampNeg x3))]) (σ1 := σ) zM_X7_alike dX7_alike_13 rfl rfl rfl rfl ?_
    refine zw_getR (a := b2) zM_X7_alike dX7_alike_14 zF_7_46 rfl hk1 hr3 ?_
    refine zw_go (pc1 := 18) (L1 := [some (.ref a0), some (.int x1), some (.int x2), some (.int x3)]) (st1 := [.int x1, .ref b2, .int (zI σ b2 (Int32.toNatClampNeg x3))]) (σ1 := σ) zM_X7_alike dX7_alike_17 rfl rfl rfl rfl ?_
    obtain ⟨hi6, h⟩ := h
    refine zw_iald zM_X7_alike dX7_alike_18 ⟨Or.inl hk4, hi6⟩ ?_
    refine zw_icmp_ne (tgt := 28) zM_X7_alike dX7_alike_19 rfl rfl (fun q => ?_) (fun q => ?_)
    · replace h := h.1 q
      refine zw_go (pc1 := 29) (L1 := [some (.ref a0), some (.int x1), some (.int x2), some (.int x3)]) (st1 := [.int x3]) (σ1 := σ) zM_X7_alike dX7_alike_28 rfl rfl rfl rfl ?_
      refine zw_go (pc1 := 30) (L1 := [some (.ref a0), some (.int x1), some (.int x2), some (.int x3)]) (st1 := [.int x1, .int x3]) (σ1 := σ) zM_X7_alike dX7_alike_29 rfl rfl rfl rfl ?_
      refine zw_go (pc1 := 31) (L1 := [some (.ref a0), some (.int x1), some (.int x2), some (.int x3)]) (st1 := [.int (x3 - x1)]) (σ1 := σ) zM_X7_alike dX7_alike_30 rfl rfl rfl rfl ?_
      exact zw_reti zM_X7_alike dX7_alike_31 rfl h
    · replace h := h.2 q
      refine zw_go (pc1 := 25) (L1 := [some (.ref a0), some (.int x1), some (.int x2), some (.int (x3 + Int32.ofInt 1))]) (st1 := []) (σ1 := σ) zM_X7_alike dX7_alike_22 rfl rfl rfl rfl ?_
      refine zw_goto (tgt := 2) zM_X7_alike dX7_alike_25 rfl ?_
      exact zw_weak2 h ⟨rfl, rfl, rfl, rfl, trivial⟩
set_option maxHeartbeats 4000000 in
set_option maxRecDepth 100000 in
theorem vc_X7_areFolders_0 (a0 : Nat) (x1 : Int32) (x2 : Int32) (σ : zx_S) (K : Int32 → zx_S → Prop) (h : zK σ a0 = 20 ∧ zwI 210 0 [some (.ref a0), some (.int x1), some (.int 10)] [] σ (fun v3 σ2 => zK σ2 a0 = 20 ∧ zwI 210 0 [some (.ref a0), some (.int x1), some (.int 8)] [] σ2 (fun v6 σ5 => zwI 138 22 [some (.ref a0), some (.int x1), some (.int x2), some (.int (v3 - v6)), some (.int 0), some (.int 1), none, none, none] [] σ5 K))) : zwI 138 0 [some (.ref a0), some (.int x1), some (.int x2), none, none, none, none, none, none] [] σ K := by
  refine zw_go (pc1 := 1) (L1 := [some (.ref a0), some (.int x1), some (.int x2), none, none, none, none, none, none]) (st1 := [.ref a0]) (σ1 := σ) zM_X7_areFolders dX7_areFolders_0 rfl rfl rfl rfl ?_
  refine zw_go (pc1 := 2) (L1 := [some (.ref a0), some (.int x1), some (.int x2), none, none, none, none, none, none]) (st1 := [.int x1, .ref a0]) (σ1 := σ) zM_X7_areFolders dX7_areFolders_1 rfl rfl rfl rfl ?_
  refine zw_bipush (v := 10) zM_X7_areFolders dX7_areFolders_2 (by decide) ?_
  obtain ⟨hk1, h⟩ := h
  refine zw_callI (as := [.ref a0, .int x1, .int 10]) (rest := []) zM_X7_areFolders dX7_areFolders_4 (zx_calV zC_7_201) zM_X7_word rfl rfl rfl rfl rfl (zx_args0 hk1 rfl) rfl h (fun v3 σ2 h => ?_)
  refine zw_go (pc1 := 8) (L1 := [some (.ref a0), some (.int x1), some (.int x2), none, none, none, none, none, none]) (st1 := [.ref a0, .int v3]) (σ1 := σ2) zM_X7_areFolders dX7_areFolders_7 rfl rfl rfl rfl ?_
  refine zw_go (pc1 := 9) (L1 := [some (.ref a0), some (.int x1), some (.int x2), none, none, none, none, none, none]) (st1 := [.int x1, .ref a0, .int v3]) (σ1 := σ2) zM_X7_areFolders dX7_areFolders_8 rfl rfl rfl rfl ?_
  refine zw_bipush (v := 8) zM_X7_areFolders dX7_areFolders_9 (by decide) ?_
  obtain ⟨hk4, h⟩ := h
  refine zw_callI (as := [.ref a0, .int x1, .int 8]) (rest := [.int v3]) zM_X7_areFolders dX7_areFolders_11 (zx_calV zC_7_201) zM_X7_word rfl rfl rfl rfl rfl (zx_args0 hk4 rfl) rfl h (fun v6 σ5 h => ?_)
  refine zw_go (pc1 := 15) (L1 := [some (.ref a0), some (.int x1), some (.int x2), none, none, none, none, none, none]) (st1 := [.int (v3 - v6)]) (σ1 := σ5) zM_X7_areFolders dX7_areFolders_14 rfl rfl rfl rfl ?_
  refine zw_go (pc1 := 16) (L1 := [some (.ref a0), some (.int x1), some (.int x2), some (.int (v3 - v6)), none, none, none, none, none]) (st1 := []) (σ1 := σ5) zM_X7_areFolders dX7_areFolders_15 rfl rfl rfl rfl ?_
  refine zw_iconst (v := 0) zM_X7_areFolders dX7_areFolders_16 (by decide) ?_
  refine zw_go (pc1 := 19) (L1 := [some (.ref a0), some (.int x1), some (.int x2), some (.int (v3 - v6)), some (.int 0), none, none, none, none]) (st1 := []) (σ1 := σ5) zM_X7_areFolders dX7_areFolders_17 rfl rfl rfl rfl ?_
  refine zw_iconst (v := 1) zM_X7_areFolders dX7_areFolders_19 (by decide) ?_
  refine zw_go (pc1 := 22) (L1 := [some (.ref a0), some (.int x1), some (.int x2), some (.int (v3 - v6)), some (.int 0), some (.int 1), none, none, none]) (st1 := []) (σ1 := σ5) zM_X7_areFolders dX7_areFolders_20 rfl rfl rfl rfl ?_
  exact zw_weak2 h ⟨rfl, rfl, rfl, rfl, rfl, rfl, trivial⟩
set_option maxHeartbeats 4000000 in
set_option maxRecDepth 100000 in
theorem vc_X7_areFolders_22 (a0 : Nat) (x1 : Int32) (x2 : Int32) (x3 : Int32) (x4 : Int32) (x5 : Int32) (σ : zx_S) (K : Int32 → zx_S → Prop) (h : ((x2 < x5 → ((¬ (4 * x4) = x3 → K 0 σ) ∧ ((4 * x4) = x3 → K 1 σ))) ∧ (¬ x2 < x5 → zK σ a0 = 20 ∧ zwI 164 0 [some (.ref a0), some (.int x1), some (.int x5)] [] σ (fun v3 σ2 => ((¬ v3 = (0 : Int32) → zK σ2 a0 = 20 ∧ zwI 162 0 [some (.ref a0), some (.int x1), some (.int x5)] [] σ2 (fun v6 σ5 => zK σ5 a0 = 20 ∧ zwI 210 0 [some (.ref a0), some (.int x1), some (.int (v6 + 6))] [] σ5 (fun v9 σ8 => ((¬ v9 = (4 * x4) → K 0 σ8) ∧ (v9 = (4 * x4) → zK σ8 a0 = 20 ∧ zwI 180 0 [some (.ref a0), some (.int x1), some (.int x5)] [] σ8 (fun v12 σ11 => (((4 * (x4 + v12)) ≤ x3 → zwI 138 87 [some (.ref a0), some (.int x1), some (.int x2), some (.int x3), some (.int x4), some (.int x5), some (.int 0), some (.int 0), none] [] σ11 K) ∧ (¬ (4 * (x4 + v12)) ≤ x3 → K 0 σ11)))))))) ∧ (v3 = (0 : Int32) → zwI 138 172 [some (.ref a0), some (.int x1), some (.int x2), some (.int x3), some (.int x4), some (.int x5), none, none, none] [] σ2 K)))))) : zwI 138 22 [some (.ref a0), some (.int x1), some (.int x2), some (.int x3), some (.int x4), some (.int x5), none, none, none] [] σ K := by
  refine zw_go (pc1 := 24) (L1 := [some (.ref a0), some (.int x1), some (.int x2), some (.int x3), some (.int x4), some (.int x5), none, none, none]) (st1 := [.int x5]) (σ1 := σ) zM_X7_areFolders dX7_areFolders_22 rfl rfl rfl rfl ?_
  refine zw_go (pc1 := 25) (L1 := [some (.ref a0), some (.int x1), some (.int x2), some (.int x3), some (.int x4), some (.int x5), none, none, none]) (st1 := [.int x2, .int x5]) (σ1 := σ) zM_X7_areFolders dX7_areFolders_24 rfl rfl rfl rfl ?_
  refine zw_icmp_gt (tgt := 178) zM_X7_areFolders dX7_areFolders_25 rfl rfl (fun q => ?_) (fun q => ?_)
  · replace h := h.1 q
    refine zw_iconst (v := 4) zM_X7_areFolders dX7_areFolders_178 (by decide) ?_
    refine zw_go (pc1 := 181) (L1 := [some (.ref a0), some (.int x1), some (.int x2), some (.int x3), some (.int x4), some (.int x5), none, none, none]) (st1 := [.int x4, .int 4]) (σ1 := σ) zM_X7_areFolders dX7_areFolders_179 rfl rfl rfl rfl ?_
    refine zw_go (pc1 := 182) (L1 := [some (.ref a0), some (.int x1), some (.int x2), some (.int x3), some (.int x4), some (.int x5), none, none, none]) (st1 := [.int (4 * x4)]) (σ1 := σ) zM_X7_areFolders dX7_areFolders_181 rfl rfl rfl rfl ?_
    refine zw_go (pc1 := 183) (L1 := [some (.ref a0), some (.int x1), some (.int x2), some (.int x3), some (.int x4), some (.int x5), none, none, none]) (st1 := [.int x3, .int (4 * x4)]) (σ1 := σ) zM_X7_areFolders dX7_areFolders_182 rfl rfl rfl rfl ?_
    refine zw_icmp_ne (tgt := 190) zM_X7_areFolders dX7_areFolders_183 rfl rfl (fun q => ?_) (fun q => ?_)
    · replace h := h.1 q
      refine zw_iconst (v := 0) zM_X7_areFolders dX7_areFolders_190 (by decide) ?_
      exact zw_retz zM_X7_areFolders dX7_areFolders_191 rfl (by decide) h
    · replace h := h.2 q
      refine zw_iconst (v := 1) zM_X7_areFolders dX7_areFolders_186 (by decide) ?_
      refine zw_goto (tgt := 191) zM_X7_areFolders dX7_areFolders_187 rfl ?_
      exact zw_retz zM_X7_areFolders dX7_areFolders_191 rfl (by decide) h
  · replace h := h.2 q
    refine zw_go (pc1 := 29) (L1 := [some (.ref a0), some (.int x1), some (.int x2), some (.int x3), some (.int x4), some (.int x5), none, none, none]) (st1 := [.ref a0]) (σ1 := σ) zM_X7_areFolders dX7_areFolders_28 rfl rfl rfl rfl ?_
    refine zw_go (pc1 := 30) (L1 := [some (.ref a0), some (.int x1), some (.int x2), some (.int x3), some (.int x4), some (.int x5), none, none, none]) (st1 := [.int x1, .ref a0]) (σ1 := σ) zM_X7_areFolders dX7_areFolders_29 rfl rfl rfl rfl ?_
    refine zw_go (pc1 := 32) (L1 := [some (.ref a0), some (.int x1), some (.int x2), some (.int x3), some (.int x4), some (.int x5), none, none, none]) (st1 := [.int x5, .int x1, .ref a0]) (σ1 := σ) zM_X7_areFolders dX7_areFolders_30 rfl rfl rfl rfl ?_
    obtain ⟨hk1, h⟩ := h
    refine zw_callI (as := [.ref a0, .int x1, .int x5]) (rest := []) zM_X7_areFolders dX7_areFolders_32 (zx_calV zC_7_235) zM_X7_isFolder rfl rfl rfl rfl rfl (zx_args0 hk1 rfl) rfl h (fun v3 σ2 h => ?_)
    refine zw_if_ne (tgt := 41) zM_X7_areFolders dX7_areFolders_35 rfl rfl (fun q => ?_) (fun q => ?_)
    · replace h := h.1 q
      refine zw_go (pc1 := 42) (L1 := [some (.ref a0), some (.int x1), some (.int x2), some (.int x3), some (.int x4), some (.int x5), none, none, none]) (st1 := [.ref a0]) (σ1 := σ2) zM_X7_areFolders dX7_areFolders_41 rfl rfl rfl rfl ?_
      refine zw_go (pc1 := 43) (L1 := [some (.ref a0), some (.int x1), some (.int x2), some (.int x3), some (.int x4), some (.int x5), none, none, none]) (st1 := [.int x1, .ref a0]) (σ1 := σ2) zM_X7_areFolders dX7_areFolders_42 rfl rfl rfl rfl ?_
      refine zw_go (pc1 := 44) (L1 := [some (.ref a0), some (.int x1), some (.int x2), some (.int x3), some (.int x4), some (.int x5), none, none, none]) (st1 := [.ref a0, .int x1, .ref a0]) (σ1 := σ2) zM_X7_areFolders dX7_areFolders_43 rfl rfl rfl rfl ?_
      refine zw_go (pc1 := 45) (L1 := [some (.ref a0), some (.int x1), some (.int x2), some (.int x3), some (.int x4), some (.int x5), none, none, none]) (st1 := [.int x1, .ref a0, .int x1, .ref a0]) (σ1 := σ2) zM_X7_areFolders dX7_areFolders_44 rfl rfl rfl rfl ?_
      refine zw_go (pc1 := 47) (L1 := [some (.ref a0), some (.int x1), some (.int x2), some (.int x3), some (.int x4), some (.int x5), none, none, none]) (st1 := [.int x5, .int x1, .ref a0, .int x1, .ref a0]) (σ1 := σ2) zM_X7_areFolders dX7_areFolders_45 rfl rfl rfl rfl ?_
      obtain ⟨hk4, h⟩ := h
      refine zw_callI (as := [.ref a0, .int x1, .int x5]) (rest := [.int x1, .ref a0]) zM_X7_areFolders dX7_areFolders_47 (zx_calV zC_7_226) zM_X7_inode rfl rfl rfl rfl rfl (zx_args0 hk4 rfl) rfl h (fun v6 σ5 h => ?_)
      refine zw_bipush (v := 6) zM_X7_areFolders dX7_areFolders_50 (by decide) ?_
      refine zw_go (pc1 := 53) (L1 := [some (.ref a0), some (.int x1), some (.int x2), some (.int x3), some (.int x4), some (.int x5), none, none, none]) (st1 := [.int (v6 + 6), .int x1, .ref a0]) (σ1 := σ5) zM_X7_areFolders dX7_areFolders_52 rfl rfl rfl rfl ?_
      obtain ⟨hk7, h⟩ := h
      refine zw_callI (as := [.ref a0, .int x1, .int (v6 + 6)]) (rest := []) zM_X7_areFolders dX7_areFolders_53 (zx_calV zC_7_201) zM_X7_word rfl rfl rfl rfl rfl (zx_args0 hk7 rfl) rfl h (fun v9 σ8 h => ?_)
      refine zw_iconst (v := 4) zM_X7_areFolders dX7_areFolders_56 (by decide) ?_
      refine zw_go (pc1 := 59) (L1 := [some (.ref a0), some (.int x1), some (.int x2), some (.int x3), some (.int x4), some (.int x5), none, none, none]) (st1 := [.int x4, .int 4, .int v9]) (σ1 := σ8) zM_X7_areFolders dX7_areFolders_57 rfl rfl rfl rfl ?_
      refine zw_go (pc1 := 60) (L1 := [some (.ref a0), some (.int x1), some (.int x2), some (.int x3), some (.int x4), some (.int x5), none, none, none]) (st1 := [.int (4 * x4), .int v9]) (σ1 := σ8) zM_X7_areFolders dX7_areFolders_59 rfl rfl rfl rfl ?_
      refine zw_icmp_ne (tgt := 79) zM_X7_areFolders dX7_areFolders_60 rfl rfl (fun q => ?_) (fun q => ?_)
      · replace h := h.1 q
        refine zw_iconst (v := 0) zM_X7_areFolders dX7_areFolders_79 (by decide) ?_
        exact zw_retz zM_X7_areFolders dX7_areFolders_80 rfl (by decide) h
      · replace h := h.2 q
        refine zw_iconst (v := 4) zM_X7_areFolders dX7_areFolders_63 (by decide) ?_
        refine zw_go (pc1 := 66) (L1 := [some (.ref a0), some (.int x1), some (.int x2), some (.int x3), some (.int x4), some (.int x5), none, none, none]) (st1 := [.int x4, .int 4]) (σ1 := σ8) zM_X7_areFolders dX7_areFolders_64 rfl rfl rfl rfl ?_
        refine zw_go (pc1 := 67) (L1 := [some (.ref a0), some (.int x1), some (.int x2), some (.int x3), some (.int x4), some (.int x5), none, none, none]) (st1 := [.ref a0, .int x4, .int 4]) (σ1 := σ8) zM_X7_areFolders dX7_areFolders_66 rfl rfl rfl rfl ?_
        refine zw_go (pc1 := 68) (L1 := [some (.ref a0), some (.int x1), some (.int x2), some (.int x3), some (.int x4), some (.int x5), none, none, none]) (st1 := [.int x1, .ref a0, .int x4, .int 4]) (σ1 := σ8) zM_X7_areFolders dX7_areFolders_67 rfl rfl rfl rfl ?_
        refine zw_go (pc1 := 70) (L1 := [some (.ref a0), some (.int x1), some (.int x2), some (.int x3), some (.int x4), some (.int x5), none, none, none]) (st1 := [.int x5, .int x1, .ref a0, .int x4, .int 4]) (σ1 := σ8) zM_X7_areFolders dX7_areFolders_68 rfl rfl rfl rfl ?_
        obtain ⟨hk10, h⟩ := h
        refine zw_callI (as := [.ref a0, .int x1, .int x5]) (rest := [.int x4, .int 4]) zM_X7_areFolders dX7_areFolders_70 (zx_calV zC_7_238) zM_X7_manyOf rfl rfl rfl rfl rfl (zx_args0 hk10 rfl) rfl h (fun v12 σ11 h => ?_)
        refine zw_go (pc1 := 74) (L1 := [some (.ref a0), some (.int x1), some (.int x2), some (.int x3), some (.int x4), some (.int x5), none, none, none]) (st1 := [.int (x4 + v12), .int 4]) (σ1 := σ11) zM_X7_areFolders dX7_areFolders_73 rfl rfl rfl rfl ?_
        refine zw_go (pc1 := 75) (L1 := [some (.ref a0), some (.int x1), some (.int x2), some (.int x3), some (.int x4), some (.int x5), none, none, none]) (st1 := [.int (4 * (x4 + v12))]) (σ1 := σ11) zM_X7_areFolders dX7_areFolders_74 rfl rfl rfl rfl ?_
        refine zw_go (pc1 := 76) (L1 := [some (.ref a0), some (.int x1), some (.int x2), some (.int x3), some (.int x4), some (.int x5), none, none, none]) (st1 := [.int x3, .int (4 * (x4 + v12))]) (σ1 := σ11) zM_X7_areFolders dX7_areFolders_75 rfl rfl rfl rfl ?_
        refine zw_icmp_le (tgt := 81) zM_X7_areFolders dX7_areFolders_76 rfl rfl (fun q => ?_) (fun q => ?_)
        · replace h := h.1 q
          refine zw_iconst (v := 0) zM_X7_areFolders dX7_areFolders_81 (by decide) ?_
          refine zw_go (pc1 := 84) (L1 := [some (.ref a0), some (.int x1), some (.int x2), some (.int x3), some (.int x4), some (.int x5), some (.int 0), none, none]) (st1 := []) (σ1 := σ11) zM_X7_areFolders dX7_areFolders_82 rfl rfl rfl rfl ?_
          refine zw_iconst (v := 0) zM_X7_areFolders dX7_areFolders_84 (by decide) ?_
          refine zw_go (pc1 := 87) (L1 := [some (.ref a0), some (.int x1), some (.int x2), some (.int x3), some (.int x4), some (.int x5), some (.int 0), some (.int 0), none]) (st1 := []) (σ1 := σ11) zM_X7_areFolders dX7_areFolders_85 rfl rfl rfl rfl ?_
          exact zw_weak2 h ⟨rfl, rfl, rfl, rfl, rfl, rfl, rfl, rfl, trivial⟩
        · replace h := h.2 q
          refine zw_iconst (v := 0) zM_X7_areFolders dX7_areFolders_79 (by decide) ?_
          exact zw_retz zM_X7_areFolders dX7_areFolders_80 rfl (by decide) h
    · replace h := h.2 q
      refine zw_goto (tgt := 172) zM_X7_areFolders dX7_areFolders_38 rfl ?_
      exact zw_weak2 h ⟨rfl, rfl, rfl, rfl, rfl, rfl, trivial⟩
set_option maxHeartbeats 4000000 in
set_option maxRecDepth 100000 in
theorem vc_X7_areFolders_87 (a0 : Nat) (x1 : Int32) (x2 : Int32) (x3 : Int32) (x4 : Int32) (x5 : Int32) (x6 : Int32) (x7 : Int32) (σ : zx_S) (K : Int32 → zx_S → Prop) (h : zK σ a0 = 20 ∧ zwI 180 0 [some (.ref a0), some (.int x1), some (.int x5)] [] σ (fun v3 σ2 => ((v3 ≤ x7 → zK σ2 a0 = 20 ∧ zwI 180 0 [some (.ref a0), some (.int x1), some (.int x5)] [] σ2 (fun v6 σ5 => zwI 138 172 [some (.ref a0), some (.int x1), some (.int x2), some (.int x3), some (.int (x4 + v6)), some (.int x5), none, none, none] [] σ5 K)) ∧ (¬ v3 ≤ x7 → zK σ2 a0 = 20 ∧ zwI 181 0 [some (.ref a0), some (.int x1), some (.int (x4 + x7))] [] σ2 (fun v9 σ8 => zwI 160 0 [some (.int v9), some (.int 1), some (.int 999)] [] σ8 (fun v11 σ10 => ((v11 = (0 : Int32) → K 0 σ10) ∧ (¬ v11 = (0 : Int32) → ((v9 ≤ x6 → K 0 σ10) ∧ (¬ v9 ≤ x6 → zK σ10 a0 = 20 ∧ zwI 190 0 [some (.ref a0), some (.int x1), some (.int (x4 + x7))] [] σ10 (fun v14 σ13 => zwI 160 0 [some (.int v14), some (.int 1), some (.int x2)] [] σ13 (fun v16 σ15 => ((¬ v16 = (0 : Int32) → zwI 138 87 [some (.ref a0), some (.int x1), some (.int x2), some (.int x3), some (.int x4), some (.int x5), some (.int v9), some (.int (x7 + Int32.ofInt 1)), none] [] σ15 K) ∧ (v16 = (0 : Int32) → K 0 σ15)))))))))))))) : zwI 138 87 [some (.ref a0), some (.int x1), some (.int x2), some (.int x3), some (.int x4), some (.int x5), some (.int x6), some (.int x7), none] [] σ K := by
  refine zw_go (pc1 := 89) (L1 := [some (.ref a0), some (.int x1), some (.int x2), some (.int x3), some (.int x4), some (.int x5), some (.int x6), some (.int x7), none]) (st1 := [.int x7]) (σ1 := σ) zM_X7_areFolders dX7_areFolders_87 rfl rfl rfl rfl ?_
  refine zw_go (pc1 := 90) (L1 := [some (.ref a0), some (.int x1), some (.int x2), some (.int x3), some (.int x4), some (.int x5), some (.int x6), some (.int x7), none]) (st1 := [.ref a0, .int x7]) (σ1 := σ) zM_X7_areFolders dX7_areFolders_89 rfl rfl rfl rfl ?_
  refine zw_go (pc1 := 91) (L1 := [some (.ref a0), some (.int x1), some (.int x2), some (.int x3), some (.int x4), some (.int x5), some (.int x6), some (.int x7), none]) (st1 := [.int x1, .ref a0, .int x7]) (σ1 := σ) zM_X7_areFolders dX7_areFolders_90 rfl rfl rfl rfl ?_
  refine zw_go (pc1 := 93) (L1 := [some (.ref a0), some (.int x1), some (.int x2), some (.int x3), some (.int x4), some (.int x5), some (.int x6), some (.int x7), none]) (st1 := [.int x5, .int x1, .ref a0, .int x7]) (σ1 := σ) zM_X7_areFolders dX7_areFolders_91 rfl rfl rfl rfl ?_
  obtain ⟨hk1, h⟩ := h
  refine zw_callI (as := [.ref a0, .int x1, .int x5]) (rest := [.int x7]) zM_X7_areFolders dX7_areFolders_93 (zx_calV zC_7_238) zM_X7_manyOf rfl rfl rfl rfl rfl (zx_args0 hk1 rfl) rfl h (fun v3 σ2 h => ?_)
  refine zw_icmp_ge (tgt := 160) zM_X7_areFolders dX7_areFolders_96 rfl rfl (fun q => ?_) (fun q => ?_)
  · replace h := h.1 q
    refine zw_go (pc1 := 162) (L1 := [some (.ref a0), some (.int x1), some (.int x2), some (.int x3), some (.int x4), some (.int x5), some (.int x6), some (.int x7), none]) (st1 := [.int x4]) (σ1 := σ2) zM_X7_areFolders dX7_areFolders_160 rfl rfl rfl rfl ?_
    refine zw_go (pc1 := 163) (L1 := [some (.ref a0), some (.int x1), some (.int x2), some (.int x3), some (.int x4), some (.int x5), some (.int x6), some (.int x7), none]) (st1 := [.ref a0, .int x4]) (σ1 := σ2) zM_X7_areFolders dX7_areFolders_162 rfl rfl rfl rfl ?_
    refine zw_go (pc1 := 164) (L1 := [some (.ref a0), some (.int x1), some (.int x2), some (.int x3), some (.int x4), some (.int x5), some (.int x6), some (.int x7), none]) (st1 := [.int x1, .ref a0, .int x4]) (σ1 := σ2) zM_X7_areFolders dX7_areFolders_163 rfl rfl rfl rfl ?_
    refine zw_go (pc1 := 166) (L1 := [some (.ref a0), some (.int x1), some (.int x2), some (.int x3), some (.int x4), some (.int x5), some (.int x6), some (.int x7), none]) (st1 := [.int x5, .int x1, .ref a0, .int x4]) (σ1 := σ2) zM_X7_areFolders dX7_areFolders_164 rfl rfl rfl rfl ?_
    obtain ⟨hk4, h⟩ := h
    refine zw_callI (as := [.ref a0, .int x1, .int x5]) (rest := [.int x4]) zM_X7_areFolders dX7_areFolders_166 (zx_calV zC_7_238) zM_X7_manyOf rfl rfl rfl rfl rfl (zx_args0 hk4 rfl) rfl h (fun v6 σ5 h => ?_)
    refine zw_go (pc1 := 170) (L1 := [some (.ref a0), some (.int x1), some (.int x2), some (.int x3), some (.int x4), some (.int x5), some (.int x6), some (.int x7), none]) (st1 := [.int (x4 + v6)]) (σ1 := σ5) zM_X7_areFolders dX7_areFolders_169 rfl rfl rfl rfl ?_
    refine zw_go (pc1 := 172) (L1 := [some (.ref a0), some (.int x1), some (.int x2), some (.int x3), some (.int (x4 + v6)), some (.int x5), some (.int x6), some (.int x7), none]) (st1 := []) (σ1 := σ5) zM_X7_areFolders dX7_areFolders_170 rfl rfl rfl rfl ?_
    exact zw_weak2 h ⟨rfl, rfl, rfl, rfl, rfl, rfl, trivial⟩
  · replace h := h.2 q
    refine zw_go (pc1 := 100) (L1 := [some (.ref a0), some (.int x1), some (.int x2), some (.int x3), some (.int x4), some (.int x5), some (.int x6), some (.int x7), none]) (st1 := [.ref a0]) (σ1 := σ2) zM_X7_areFolders dX7_areFolders_99 rfl rfl rfl rfl ?_
    refine zw_go (pc1 := 101) (L1 := [some (.ref a0), some (.int x1), some (.int x2), some (.int x3), some (.int x4), some (.int x5), some (.int x6), some (.int x7), none]) (st1 := [.int x1, .ref a0]) (σ1 := σ2) zM_X7_areFolders dX7_areFolders_100 rfl rfl rfl rfl ?_
    refine zw_go (pc1 := 103) (L1 := [some (.ref a0), some (.int x1), some (.int x2), some (.int x3), some (.int x4), some (.int x5), some (.int x6), some (.int x7), none]) (st1 := [.int x4, .int x1, .ref a0]) (σ1 := σ2) zM_X7_areFolders dX7_areFolders_101 rfl rfl rfl rfl ?_
    refine zw_go (pc1 := 105) (L1 := [some (.ref a0), some (.int x1), some (.int x2), some (.int x3), some (.int x4), some (.int x5), some (.int x6), some (.int x7), none]) (st1 := [.int x7, .int x4, .int x1, .ref a0]) (σ1 := σ2) zM_X7_areFolders dX7_areFolders_103 rfl rfl rfl rfl ?_
    refine zw_go (pc1 := 106) (L1 := [some (.ref a0), some (.int x1), some (.int x2), some (.int x3), some (.int x4), some (.int x5), some (.int x6), some (.int x7), none]) (st1 := [.int (x4 + x7), .int x1, .ref a0]) (σ1 := σ2) zM_X7_areFolders dX7_areFolders_105 rfl rfl rfl rfl ?_
    obtain ⟨hk7, h⟩ := h
    refine zw_callI (as := [.ref a0, .int x1, .int (x4 + x7)]) (rest := []) zM_X7_areFolders dX7_areFolders_106 (zx_calV zC_7_241) zM_X7_nameAt rfl rfl rfl rfl rfl (zx_args0 hk7 rfl) rfl h (fun v9 σ8 h => ?_)
    refine zw_go (pc1 := 111) (L1 := [some (.ref a0), some (.int x1), some (.int x2), some (.int x3), some (.int x4), some (.int x5), some (.int x6), some (.int x7), some (.int v9)]) (st1 := []) (σ1 := σ8) zM_X7_areFolders dX7_areFolders_109 rfl rfl rfl rfl ?_
    refine zw_go (pc1 := 113) (L1 := [some (.ref a0), some (.int x1), some (.int x2), some (.int x3), some (.int x4), some (.int x5), some (.int x6), some (.int x7), some (.int v9)]) (st1 := [.int v9]) (σ1 := σ8) zM_X7_areFolders dX7_areFolders_111 rfl rfl rfl rfl ?_
    refine zw_iconst (v := 1) zM_X7_areFolders dX7_areFolders_113 (by decide) ?_
    refine zw_sipush (v := 999) zM_X7_areFolders dX7_areFolders_114 (by decide) ?_
    refine zw_callI (as := [.int v9, .int 1, .int 999]) (rest := []) zM_X7_areFolders dX7_areFolders_117 (zx_calS zC_7_101) zM_X7_in rfl rfl rfl rfl rfl rfl rfl h (fun v11 σ10 h => ?_)
    refine zw_if_eq (tgt := 148) zM_X7_areFolders dX7_areFolders_120 rfl rfl (fun q => ?_) (fun q => ?_)
    · replace h := h.1 q
      refine zw_iconst (v := 0) zM_X7_areFolders dX7_areFolders_148 (by decide) ?_
      exact zw_retz zM_X7_areFolders dX7_areFolders_149 rfl (by decide) h
    · replace h := h.2 q
      refine zw_go (pc1 := 125) (L1 := [some (.ref a0), some (.int x1), some (.int x2), some (.int x3), some (.int x4), some (.int x5), some (.int x6), some (.int x7), some (.int v9)]) (st1 := [.int v9]) (σ1 := σ10) zM_X7_areFolders dX7_areFolders_123 rfl rfl rfl rfl ?_
      refine zw_go (pc1 := 127) (L1 := [some (.ref a0), some (.int x1), some (.int x2), some (.int x3), some (.int x4), some (.int x5), some (.int x6), some (.int x7), some (.int v9)]) (st1 := [.int x6, .int v9]) (σ1 := σ10) zM_X7_areFolders dX7_areFolders_125 rfl rfl rfl rfl ?_
      refine zw_icmp_le (tgt := 148) zM_X7_areFolders dX7_areFolders_127 rfl rfl (fun q => ?_) (fun q => ?_)
      · replace h := h.1 q
        refine zw_iconst (v := 0) zM_X7_areFolders dX7_areFolders_148 (by decide) ?_
        exact zw_retz zM_X7_areFolders dX7_areFolders_149 rfl (by decide) h
      · replace h := h.2 q
        refine zw_go (pc1 := 131) (L1 := [some (.ref a0), some (.int x1), some (.int x2), some (.int x3), some (.int x4), some (.int x5), some (.int x6), some (.int x7), some (.int v9)]) (st1 := [.ref a0]) (σ1 := σ10) zM_X7_areFolders dX7_areFolders_130 rfl rfl rfl rfl ?_
        refine zw_go (pc1 := 132) (L1 := [some (.ref a0), some (.int x1), some (.int x2), some (.int x3), some (.int x4), some (.int x5), some (.int x6), some (.int x7), some (.int v9)]) (st1 := [.int x1, .ref a0]) (σ1 := σ10) zM_X7_areFolders dX7_areFolders_131 rfl rfl rfl rfl ?_
        refine zw_go (pc1 := 134) (L1 := [some (.ref a0), some (.int x1), some (.int x2), some (.int x3), some (.int x4), some (.int x5), some (.int x6), some (.int x7), some (.int v9)]) (st1 := [.int x4, .int x1, .ref a0]) (σ1 := σ10) zM_X7_areFolders dX7_areFolders_132 rfl rfl rfl rfl ?_
        refine zw_go (pc1 := 136) (L1 := [some (.ref a0), some (.int x1), some (.int x2), some (.int x3), some (.int x4), some (.int x5), some (.int x6), some (.int x7), some (.int v9)]) (st1 := [.int x7, .int x4, .int x1, .ref a0]) (σ1 := σ10) zM_X7_areFolders dX7_areFolders_134 rfl rfl rfl rfl ?_
        refine zw_go (pc1 := 137) (L1 := [some (.ref a0), some (.int x1), some (.int x2), some (.int x3), some (.int x4), some (.int x5), some (.int x6), some (.int x7), some (.int v9)]) (st1 := [.int (x4 + x7), .int x1, .ref a0]) (σ1 := σ10) zM_X7_areFolders dX7_areFolders_136 rfl rfl rfl rfl ?_
        obtain ⟨hk12, h⟩ := h
        refine zw_callI (as := [.ref a0, .int x1, .int (x4 + x7)]) (rest := []) zM_X7_areFolders dX7_areFolders_137 (zx_calV zC_7_244) zM_X7_numberAt rfl rfl rfl rfl rfl (zx_args0 hk12 rfl) rfl h (fun v14 σ13 h => ?_)
        refine zw_iconst (v := 1) zM_X7_areFolders dX7_areFolders_140 (by decide) ?_
        refine zw_go (pc1 := 142) (L1 := [some (.ref a0), some (.int x1), some (.int x2), some (.int x3), some (.int x4), some (.int x5), some (.int x6), some (.int x7), some (.int v9)]) (st1 := [.int x2, .int 1, .int v14]) (σ1 := σ13) zM_X7_areFolders dX7_areFolders_141 rfl rfl rfl rfl ?_
        refine zw_callI (as := [.int v14, .int 1, .int x2]) (rest := []) zM_X7_areFolders dX7_areFolders_142 (zx_calS zC_7_101) zM_X7_in rfl rfl rfl rfl rfl rfl rfl h (fun v16 σ15 h => ?_)
        refine zw_if_ne (tgt := 150) zM_X7_areFolders dX7_areFolders_145 rfl rfl (fun q => ?_) (fun q => ?_)
        · replace h := h.1 q
          refine zw_go (pc1 := 152) (L1 := [some (.ref a0), some (.int x1), some (.int x2), some (.int x3), some (.int x4), some (.int x5), some (.int x6), some (.int x7), some (.int v9)]) (st1 := [.int v9]) (σ1 := σ15) zM_X7_areFolders dX7_areFolders_150 rfl rfl rfl rfl ?_
          refine zw_go (pc1 := 154) (L1 := [some (.ref a0), some (.int x1), some (.int x2), some (.int x3), some (.int x4), some (.int x5), some (.int v9), some (.int x7), some (.int v9)]) (st1 := []) (σ1 := σ15) zM_X7_areFolders dX7_areFolders_152 rfl rfl rfl rfl ?_
          refine zw_go (pc1 := 157) (L1 := [some (.ref a0), some (.int x1), some (.int x2), some (.int x3), some (.int x4), some (.int x5), some (.int v9), some (.int (x7 + Int32.ofInt 1)), some (.int v9)]) (st1 := []) (σ1 := σ15) zM_X7_areFolders dX7_areFolders_154 rfl rfl rfl rfl ?_
          refine zw_goto (tgt := 87) zM_X7_areFolders dX7_areFolders_157 rfl ?_
          exact zw_weak2 h ⟨rfl, rfl, rfl, rfl, rfl, rfl, rfl, rfl, trivial⟩
        · replace h := h.2 q
          refine zw_iconst (v := 0) zM_X7_areFolders dX7_areFolders_148 (by decide) ?_
          exact zw_retz zM_X7_areFolders dX7_areFolders_149 rfl (by decide) h
set_option maxHeartbeats 4000000 in
set_option maxRecDepth 100000 in
theorem vc_X7_areFolders_172 (a0 : Nat) (x1 : Int32) (x2 : Int32) (x3 : Int32) (x4 : Int32) (x5 : Int32) (σ : zx_S) (K : Int32 → zx_S → Prop) (h : zwI 138 22 [some (.ref a0), some (.int x1), some (.int x2), some (.int x3), some (.int x4), some (.int (x5 + Int32.ofInt 1)), none, none, none] [] σ K) : zwI 138 172 [some (.ref a0), some (.int x1), some (.int x2), some (.int x3), some (.int x4), some (.int x5), none, none, none] [] σ K := by
  refine zw_go (pc1 := 175) (L1 := [some (.ref a0), some (.int x1), some (.int x2), some (.int x3), some (.int x4), some (.int (x5 + Int32.ofInt 1)), none, none, none]) (st1 := []) (σ1 := σ) zM_X7_areFolders dX7_areFolders_172 rfl rfl rfl rfl ?_
  refine zw_goto (tgt := 22) zM_X7_areFolders dX7_areFolders_175 rfl ?_
  exact zw_weak2 h ⟨rfl, rfl, rfl, rfl, rfl, rfl, trivial⟩
set_option maxHeartbeats 4000000 in
set_option maxRecDepth 100000 in
theorem vc_X7_areInodes_0 (a0 : Nat) (x1 : Int32) (x2 : Int32) (x3 : Int32) (σ : zx_S) (K : Int32 → zx_S → Prop) (h : zK σ a0 = 20 ∧ zwI 210 0 [some (.ref a0), some (.int x1), some (.int 6)] [] σ (fun v3 σ2 => zK σ2 a0 = 20 ∧ zwI 210 0 [some (.ref a0), some (.int x1), some (.int 8)] [] σ2 (fun v6 σ5 => zwI 139 21 [some (.ref a0), some (.int x1), some (.int x2), some (.int x3), some (.int v3), some (.int v6), some (.int 1), none, none, none] [] σ5 K))) : zwI 139 0 [some (.ref a0), some (.int x1), some (.int x2), some (.int x3), none, none, none, none, none, none] [] σ K := by
  refine zw_go (pc1 := 1) (L1 := [some (.ref a0), some (.int x1), some (.int x2), some (.int x3), none, none, none, none, none, none]) (st1 := [.ref a0]) (σ1 := σ) zM_X7_areInodes dX7_areInodes_0 rfl rfl rfl rfl ?_
  refine zw_go (pc1 := 2) (L1 := [some (.ref a0), some (.int x1), some (.int x2), some (.int x3), none, none, none, none, none, none]) (st1 := [.int x1, .ref a0]) (σ1 := σ) zM_X7_areInodes dX7_areInodes_1 rfl rfl rfl rfl ?_
  refine zw_bipush (v := 6) zM_X7_areInodes dX7_areInodes_2 (by decide) ?_
  obtain ⟨hk1, h⟩ := h
  refine zw_callI (as := [.ref a0, .int x1, .int 6]) (rest := []) zM_X7_areInodes dX7_areInodes_4 (zx_calV zC_7_201) zM_X7_word rfl rfl rfl rfl rfl (zx_args0 hk1 rfl) rfl h (fun v3 σ2 h => ?_)
  refine zw_go (pc1 := 9) (L1 := [some (.ref a0), some (.int x1), some (.int x2), some (.int x3), some (.int v3), none, none, none, none, none]) (st1 := []) (σ1 := σ2) zM_X7_areInodes dX7_areInodes_7 rfl rfl rfl rfl ?_
  refine zw_go (pc1 := 10) (L1 := [some (.ref a0), some (.int x1), some (.int x2), some (.int x3), some (.int v3), none, none, none, none, none]) (st1 := [.ref a0]) (σ1 := σ2) zM_X7_areInodes dX7_areInodes_9 rfl rfl rfl rfl ?_
  refine zw_go (pc1 := 11) (L1 := [some (.ref a0), some (.int x1), some (.int x2), some (.int x3), some (.int v3), none, none, none, none, none]) (st1 := [.int x1, .ref a0]) (σ1 := σ2) zM_X7_areInodes dX7_areInodes_10 rfl rfl rfl rfl ?_
  refine zw_bipush (v := 8) zM_X7_areInodes dX7_areInodes_11 (by decide) ?_
  obtain ⟨hk4, h⟩ := h
  refine zw_callI (as := [.ref a0, .int x1, .int 8]) (rest := []) zM_X7_areInodes dX7_areInodes_13 (zx_calV zC_7_201) zM_X7_word rfl rfl rfl rfl rfl (zx_args0 hk4 rfl) rfl h (fun v6 σ5 h => ?_)
  refine zw_go (pc1 := 18) (L1 := [some (.ref a0), some (.int x1), some (.int x2), some (.int x3), some (.int v3), some (.int v6), none, none, none, none]) (st1 := []) (σ1 := σ5) zM_X7_areInodes dX7_areInodes_16 rfl rfl rfl rfl ?_
  refine zw_iconst (v := 1) zM_X7_areInodes dX7_areInodes_18 (by decide) ?_
  refine zw_go (pc1 := 21) (L1 := [some (.ref a0), some (.int x1), some (.int x2), some (.int x3), some (.int v3), some (.int v6), some (.int 1), none, none, none]) (st1 := []) (σ1 := σ5) zM_X7_areInodes dX7_areInodes_19 rfl rfl rfl rfl ?_
  exact zw_weak2 h ⟨rfl, rfl, rfl, rfl, rfl, rfl, rfl, trivial⟩
set_option maxHeartbeats 4000000 in
set_option maxRecDepth 100000 in
theorem vc_X7_areInodes_21 (a0 : Nat) (x1 : Int32) (x2 : Int32) (x3 : Int32) (x4 : Int32) (x5 : Int32) (x6 : Int32) (σ : zx_S) (K : Int32 → zx_S → Prop) (h : ((x2 < x6 → ((¬ x4 = x5 → K 0 σ) ∧ (x4 = x5 → K 1 σ))) ∧ (¬ x2 < x6 → zK σ a0 = 20 ∧ zwI 162 0 [some (.ref a0), some (.int x1), some (.int x6)] [] σ (fun v3 σ2 => ((¬ v3 = x4 → K 0 σ2) ∧ (v3 = x4 → ((x4 < x5 → zK σ2 a0 = 20 ∧ zwI 143 0 [some (.ref a0), some (.int x1), some (.int x4)] [] σ2 (fun v6 σ5 => ((¬ v6 = (1 : Int32) → ((¬ v6 = (2 : Int32) → zwI 139 81 [some (.ref a0), some (.int x1), some (.int x2), some (.int x3), some (.int x4), some (.int x5), some (.int x6), some (.int v6), none, none] [.int 6] σ5 K) ∧ (v6 = (2 : Int32) → zwI 139 81 [some (.ref a0), some (.int x1), some (.int x2), some (.int x3), some (.int x4), some (.int x5), some (.int x6), some (.int v6), none, none] [.int 12] σ5 K))) ∧ (v6 = (1 : Int32) → zwI 139 81 [some (.ref a0), some (.int x1), some (.int x2), some (.int x3), some (.int x4), some (.int x5), some (.int x6), some (.int v6), none, none] [.int 12] σ5 K)))) ∧ (¬ x4 < x5 → K 0 σ2)))))))) : zwI 139 21 [some (.ref a0), some (.int x1), some (.int x2), some (.int x3), some (.int x4), some (.int x5), some (.int x6), none, none, none] [] σ K := by
  refine zw_go (pc1 := 23) (L1 := [some (.ref a0), some (.int x1), some (.int x2), some (.int x3), some (.int x4), some (.int x5), some (.int x6), none, none, none]) (st1 := [.int x6]) (σ1 := σ) zM_X7_areInodes dX7_areInodes_21 rfl rfl rfl rfl ?_
  refine zw_go (pc1 := 24) (L1 := [some (.ref a0), some (.int x1), some (.int x2), some (.int x3), some (.int x4), some (.int x5), some (.int x6), none, none, none]) (st1 := [.int x2, .int x6]) (σ1 := σ) zM_X7_areInodes dX7_areInodes_23 rfl rfl rfl rfl ?_
  refine zw_icmp_gt (tgt := 170) zM_X7_areInodes dX7_areInodes_24 rfl rfl (fun q => ?_) (fun q => ?_)
  · replace h := h.1 q
    refine zw_go (pc1 := 172) (L1 := [some (.ref a0), some (.int x1), some (.int x2), some (.int x3), some (.int x4), some (.int x5), some (.int x6), none, none, none]) (st1 := [.int x4]) (σ1 := σ) zM_X7_areInodes dX7_areInodes_170 rfl rfl rfl rfl ?_
    refine zw_go (pc1 := 174) (L1 := [some (.ref a0), some (.int x1), some (.int x2), some (.int x3), some (.int x4), some (.int x5), some (.int x6), none, none, none]) (st1 := [.int x5, .int x4]) (σ1 := σ) zM_X7_areInodes dX7_areInodes_172 rfl rfl rfl rfl ?_
    refine zw_icmp_ne (tgt := 181) zM_X7_areInodes dX7_areInodes_174 rfl rfl (fun q => ?_) (fun q => ?_)
    · replace h := h.1 q
      refine zw_iconst (v := 0) zM_X7_areInodes dX7_areInodes_181 (by decide) ?_
      exact zw_retz zM_X7_areInodes dX7_areInodes_182 rfl (by decide) h
    · replace h := h.2 q
      refine zw_iconst (v := 1) zM_X7_areInodes dX7_areInodes_177 (by decide) ?_
      refine zw_goto (tgt := 182) zM_X7_areInodes dX7_areInodes_178 rfl ?_
      exact zw_retz zM_X7_areInodes dX7_areInodes_182 rfl (by decide) h
  · replace h := h.2 q
    refine zw_go (pc1 := 28) (L1 := [some (.ref a0), some (.int x1), some (.int x2), some (.int x3), some (.int x4), some (.int x5), some (.int x6), none, none, none]) (st1 := [.ref a0]) (σ1 := σ) zM_X7_areInodes dX7_areInodes_27 rfl rfl rfl rfl ?_
    refine zw_go (pc1 := 29) (L1 := [some (.ref a0), some (.int x1), some (.int x2), some (.int x3), some (.int x4), some (.int x5), some (.int x6), none, none, none]) (st1 := [.int x1, .ref a0]) (σ1 := σ) zM_X7_areInodes dX7_areInodes_28 rfl rfl rfl rfl ?_
    refine zw_go (pc1 := 31) (L1 := [some (.ref a0), some (.int x1), some (.int x2), some (.int x3), some (.int x4), some (.int x5), some (.int x6), none, none, none]) (st1 := [.int x6, .int x1, .ref a0]) (σ1 := σ) zM_X7_areInodes dX7_areInodes_29 rfl rfl rfl rfl ?_
    obtain ⟨hk1, h⟩ := h
    refine zw_callI (as := [.ref a0, .int x1, .int x6]) (rest := []) zM_X7_areInodes dX7_areInodes_31 (zx_calV zC_7_226) zM_X7_inode rfl rfl rfl rfl rfl (zx_args0 hk1 rfl) rfl h (fun v3 σ2 h => ?_)
    refine zw_go (pc1 := 36) (L1 := [some (.ref a0), some (.int x1), some (.int x2), some (.int x3), some (.int x4), some (.int x5), some (.int x6), none, none, none]) (st1 := [.int x4, .int v3]) (σ1 := σ2) zM_X7_areInodes dX7_areInodes_34 rfl rfl rfl rfl ?_
    refine zw_icmp_ne (tgt := 46) zM_X7_areInodes dX7_areInodes_36 rfl rfl (fun q => ?_) (fun q => ?_)
    · replace h := h.1 q
      refine zw_iconst (v := 0) zM_X7_areInodes dX7_areInodes_46 (by decide) ?_
      exact zw_retz zM_X7_areInodes dX7_areInodes_47 rfl (by decide) h
    · replace h := h.2 q
      refine zw_go (pc1 := 41) (L1 := [some (.ref a0), some (.int x1), some (.int x2), some (.int x3), some (.int x4), some (.int x5), some (.int x6), none, none, none]) (st1 := [.int x4]) (σ1 := σ2) zM_X7_areInodes dX7_areInodes_39 rfl rfl rfl rfl ?_
      refine zw_go (pc1 := 43) (L1 := [some (.ref a0), some (.int x1), some (.int x2), some (.int x3), some (.int x4), some (.int x5), some (.int x6), none, none, none]) (st1 := [.int x5, .int x4]) (σ1 := σ2) zM_X7_areInodes dX7_areInodes_41 rfl rfl rfl rfl ?_
      refine zw_icmp_lt (tgt := 48) zM_X7_areInodes dX7_areInodes_43 rfl rfl (fun q => ?_) (fun q => ?_)
      · replace h := h.1 q
        refine zw_go (pc1 := 49) (L1 := [some (.ref a0), some (.int x1), some (.int x2), some (.int x3), some (.int x4), some (.int x5), some (.int x6), none, none, none]) (st1 := [.ref a0]) (σ1 := σ2) zM_X7_areInodes dX7_areInodes_48 rfl rfl rfl rfl ?_
        refine zw_go (pc1 := 50) (L1 := [some (.ref a0), some (.int x1), some (.int x2), some (.int x3), some (.int x4), some (.int x5), some (.int x6), none, none, none]) (st1 := [.int x1, .ref a0]) (σ1 := σ2) zM_X7_areInodes dX7_areInodes_49 rfl rfl rfl rfl ?_
        refine zw_go (pc1 := 52) (L1 := [some (.ref a0), some (.int x1), some (.int x2), some (.int x3), some (.int x4), some (.int x5), some (.int x6), none, none, none]) (st1 := [.int x4, .int x1, .ref a0]) (σ1 := σ2) zM_X7_areInodes dX7_areInodes_50 rfl rfl rfl rfl ?_
        obtain ⟨hk4, h⟩ := h
        refine zw_callI (as := [.ref a0, .int x1, .int x4]) (rest := []) zM_X7_areInodes dX7_areInodes_52 (zx_calV zC_7_198) zM_X7_byteAt rfl rfl rfl rfl rfl (zx_args0 hk4 rfl) rfl h (fun v6 σ5 h => ?_)
        refine zw_go (pc1 := 57) (L1 := [some (.ref a0), some (.int x1), some (.int x2), some (.int x3), some (.int x4), some (.int x5), some (.int x6), some (.int v6), none, none]) (st1 := []) (σ1 := σ5) zM_X7_areInodes dX7_areInodes_55 rfl rfl rfl rfl ?_
        refine zw_go (pc1 := 59) (L1 := [some (.ref a0), some (.int x1), some (.int x2), some (.int x3), some (.int x4), some (.int x5), some (.int x6), some (.int v6), none, none]) (st1 := [.int v6]) (σ1 := σ5) zM_X7_areInodes dX7_areInodes_57 rfl rfl rfl rfl ?_
        refine zw_iconst (v := 1) zM_X7_areInodes dX7_areInodes_59 (by decide) ?_
        refine zw_icmp_ne (tgt := 68) zM_X7_areInodes dX7_areInodes_60 rfl rfl (fun q => ?_) (fun q => ?_)
        · replace h := h.1 q
          refine zw_go (pc1 := 70) (L1 := [some (.ref a0), some (.int x1), some (.int x2), some (.int x3), some (.int x4), some (.int x5), some (.int x6), some (.int v6), none, none]) (st1 := [.int v6]) (σ1 := σ5) zM_X7_areInodes dX7_areInodes_68 rfl rfl rfl rfl ?_
          refine zw_iconst (v := 2) zM_X7_areInodes dX7_areInodes_70 (by decide) ?_
          refine zw_icmp_ne (tgt := 79) zM_X7_areInodes dX7_areInodes_71 rfl rfl (fun q => ?_) (fun q => ?_)
          · replace h := h.1 q
            refine zw_bipush (v := 6) zM_X7_areInodes dX7_areInodes_79 (by decide) ?_
            exact zw_weak2 h ⟨rfl, rfl, rfl, rfl, rfl, rfl, rfl, rfl, trivial⟩
          · replace h := h.2 q
            refine zw_bipush (v := 12) zM_X7_areInodes dX7_areInodes_74 (by decide) ?_
            refine zw_goto (tgt := 81) zM_X7_areInodes dX7_areInodes_76 rfl ?_
            exact zw_weak2 h ⟨rfl, rfl, rfl, rfl, rfl, rfl, rfl, rfl, trivial⟩
        · replace h := h.2 q
          refine zw_bipush (v := 12) zM_X7_areInodes dX7_areInodes_63 (by decide) ?_
          refine zw_goto (tgt := 81) zM_X7_areInodes dX7_areInodes_65 rfl ?_
          exact zw_weak2 h ⟨rfl, rfl, rfl, rfl, rfl, rfl, rfl, rfl, trivial⟩
      · replace h := h.2 q
        refine zw_iconst (v := 0) zM_X7_areInodes dX7_areInodes_46 (by decide) ?_
        exact zw_retz zM_X7_areInodes dX7_areInodes_47 rfl (by decide) h
set_option maxHeartbeats 4000000 in
set_option maxRecDepth 100000 in
theorem vc_X7_areInodes_81 (a0 : Nat) (x1 : Int32) (x2 : Int32) (x3 : Int32) (x4 : Int32) (x5 : Int32) (x6 : Int32) (x7 : Int32) (y0 : Int32) (σ : zx_S) (K : Int32 → zx_S → Prop) (h : zwI 160 0 [some (.int x7), some (.int 1), some (.int 3)] [] σ (fun v2 σ1 => ((v2 = (0 : Int32) → K 0 σ1) ∧ (¬ v2 = (0 : Int32) → (((x4 + y0) ≤ x5 → ((¬ x7 = (2 : Int32) → zwI 139 157 [some (.ref a0), some (.int x1), some (.int x2), some (.int x3), some (.int x4), some (.int x5), some (.int x6), none, some (.int y0), none] [] σ1 K) ∧ (x7 = (2 : Int32) → zK σ1 a0 = 20 ∧ zwI 210 0 [some (.ref a0), some (.int x1), some (.int (x4 + 6))] [] σ1 (fun v5 σ4 => ¬ x3 = 0 ∧ ((x5 < (x4 + (y0 + (2 * (v5 / x3)))) → K 0 σ4) ∧ (¬ x5 < (x4 + (y0 + (2 * (v5 / x3)))) → zK σ4 a0 = 20 ∧ zwI 163 0 [some (.ref a0), some (.int x1), some (.int x4), some (.int x3), none, none, none, none, none, none, none, none, none] [] σ4 (fun v9 σ8 => ((¬ v9 = (0 : Int32) → zwI 139 157 [some (.ref a0), some (.int x1), some (.int x2), some (.int x3), some (.int x4), some (.int x5), some (.int x6), none, some (.int (y0 + (2 * (v5 / x3)))), none] [] σ8 K) ∧ (v9 = (0 : Int32) → K 0 σ8))))))))) ∧ (¬ (x4 + y0) ≤ x5 → K 0 σ1)))))) : zwI 139 81 [some (.ref a0), some (.int x1), some (.int x2), some (.int x3), some (.int x4), some (.int x5), some (.int x6), some (.int x7), none, none] [.int y0] σ K := by
  refine zw_go (pc1 := 83) (L1 := [some (.ref a0), some (.int x1), some (.int x2), some (.int x3), some (.int x4), some (.int x5), some (.int x6), some (.int x7), some (.int y0), none]) (st1 := []) (σ1 := σ) zM_X7_areInodes dX7_areInodes_81 rfl rfl rfl rfl ?_
  refine zw_go (pc1 := 85) (L1 := [some (.ref a0), some (.int x1), some (.int x2), some (.int x3), some (.int x4), some (.int x5), some (.int x6), some (.int x7), some (.int y0), none]) (st1 := [.int x7]) (σ1 := σ) zM_X7_areInodes dX7_areInodes_83 rfl rfl rfl rfl ?_
  refine zw_iconst (v := 1) zM_X7_areInodes dX7_areInodes_85 (by decide) ?_
  refine zw_iconst (v := 3) zM_X7_areInodes dX7_areInodes_86 (by decide) ?_
  refine zw_callI (as := [.int x7, .int 1, .int 3]) (rest := []) zM_X7_areInodes dX7_areInodes_87 (zx_calS zC_7_101) zM_X7_in rfl rfl rfl rfl rfl rfl rfl h (fun v2 σ1 h => ?_)
  refine zw_if_eq (tgt := 103) zM_X7_areInodes dX7_areInodes_90 rfl rfl (fun q => ?_) (fun q => ?_)
  · replace h := h.1 q
    refine zw_iconst (v := 0) zM_X7_areInodes dX7_areInodes_103 (by decide) ?_
    exact zw_retz zM_X7_areInodes dX7_areInodes_104 rfl (by decide) h
  · replace h := h.2 q
    refine zw_go (pc1 := 95) (L1 := [some (.ref a0), some (.int x1), some (.int x2), some (.int x3), some (.int x4), some (.int x5), some (.int x6), some (.int x7), some (.int y0), none]) (st1 := [.int x4]) (σ1 := σ1) zM_X7_areInodes dX7_areInodes_93 rfl rfl rfl rfl ?_
    refine zw_go (pc1 := 97) (L1 := [some (.ref a0), some (.int x1), some (.int x2), some (.int x3), some (.int x4), some (.int x5), some (.int x6), some (.int x7), some (.int y0), none]) (st1 := [.int y0, .int x4]) (σ1 := σ1) zM_X7_areInodes dX7_areInodes_95 rfl rfl rfl rfl ?_
    refine zw_go (pc1 := 98) (L1 := [some (.ref a0), some (.int x1), some (.int x2), some (.int x3), some (.int x4), some (.int x5), some (.int x6), some (.int x7), some (.int y0), none]) (st1 := [.int (x4 + y0)]) (σ1 := σ1) zM_X7_areInodes dX7_areInodes_97 rfl rfl rfl rfl ?_
    refine zw_go (pc1 := 100) (L1 := [some (.ref a0), some (.int x1), some (.int x2), some (.int x3), some (.int x4), some (.int x5), some (.int x6), some (.int x7), some (.int y0), none]) (st1 := [.int x5, .int (x4 + y0)]) (σ1 := σ1) zM_X7_areInodes dX7_areInodes_98 rfl rfl rfl rfl ?_
    refine zw_icmp_le (tgt := 105) zM_X7_areInodes dX7_areInodes_100 rfl rfl (fun q => ?_) (fun q => ?_)
    · replace h := h.1 q
      refine zw_go (pc1 := 107) (L1 := [some (.ref a0), some (.int x1), some (.int x2), some (.int x3), some (.int x4), some (.int x5), some (.int x6), some (.int x7), some (.int y0), none]) (st1 := [.int x7]) (σ1 := σ1) zM_X7_areInodes dX7_areInodes_105 rfl rfl rfl rfl ?_
      refine zw_iconst (v := 2) zM_X7_areInodes dX7_areInodes_107 (by decide) ?_
      refine zw_icmp_ne (tgt := 157) zM_X7_areInodes dX7_areInodes_108 rfl rfl (fun q => ?_) (fun q => ?_)
      · replace h := h.1 q
        exact zw_weak2 h ⟨rfl, rfl, rfl, rfl, rfl, rfl, rfl, rfl, trivial⟩
      · replace h := h.2 q
        refine zw_go (pc1 := 112) (L1 := [some (.ref a0), some (.int x1), some (.int x2), some (.int x3), some (.int x4), some (.int x5), some (.int x6), some (.int x7), some (.int y0), none]) (st1 := [.ref a0]) (σ1 := σ1) zM_X7_areInodes dX7_areInodes_111 rfl rfl rfl rfl ?_
        refine zw_go (pc1 := 113) (L1 := [some (.ref a0), some (.int x1), some (.int x2), some (.int x3), some (.int x4), some (.int x5), some (.int x6), some (.int x7), some (.int y0), none]) (st1 := [.int x1, .ref a0]) (σ1 := σ1) zM_X7_areInodes dX7_areInodes_112 rfl rfl rfl rfl ?_
        refine zw_go (pc1 := 115) (L1 := [some (.ref a0), some (.int x1), some (.int x2), some (.int x3), some (.int x4), some (.int x5), some (.int x6), some (.int x7), some (.int y0), none]) (st1 := [.int x4, .int x1, .ref a0]) (σ1 := σ1) zM_X7_areInodes dX7_areInodes_113 rfl rfl rfl rfl ?_
        refine zw_bipush (v := 6) zM_X7_areInodes dX7_areInodes_115 (by decide) ?_
        refine zw_go (pc1 := 118) (L1 := [some (.ref a0), some (.int x1), some (.int x2), some (.int x3), some (.int x4), some (.int x5), some (.int x6), some (.int x7), some (.int y0), none]) (st1 := [.int (x4 + 6), .int x1, .ref a0]) (σ1 := σ1) zM_X7_areInodes dX7_areInodes_117 rfl rfl rfl rfl ?_
        obtain ⟨hk3, h⟩ := h
        refine zw_callI (as := [.ref a0, .int x1, .int (x4 + 6)]) (rest := []) zM_X7_areInodes dX7_areInodes_118 (zx_calV zC_7_201) zM_X7_word rfl rfl rfl rfl rfl (zx_args0 hk3 rfl) rfl h (fun v5 σ4 h => ?_)
        refine zw_go (pc1 := 123) (L1 := [some (.ref a0), some (.int x1), some (.int x2), some (.int x3), some (.int x4), some (.int x5), some (.int x6), some (.int x7), some (.int y0), some (.int v5)]) (st1 := []) (σ1 := σ4) zM_X7_areInodes dX7_areInodes_121 rfl rfl rfl rfl ?_
        refine zw_go (pc1 := 125) (L1 := [some (.ref a0), some (.int x1), some (.int x2), some (.int x3), some (.int x4), some (.int x5), some (.int x6), some (.int x7), some (.int y0), some (.int v5)]) (st1 := [.int y0]) (σ1 := σ4) zM_X7_areInodes dX7_areInodes_123 rfl rfl rfl rfl ?_
        refine zw_iconst (v := 2) zM_X7_areInodes dX7_areInodes_125 (by decide) ?_
        refine zw_go (pc1 := 128) (L1 := [some (.ref a0), some (.int x1), some (.int x2), some (.int x3), some (.int x4), some (.int x5), some (.int x6), some (.int x7), some (.int y0), some (.int v5)]) (st1 := [.int v5, .int 2, .int y0]) (σ1 := σ4) zM_X7_areInodes dX7_areInodes_126 rfl rfl rfl rfl ?_
        refine zw_go (pc1 := 129) (L1 := [some (.ref a0), some (.int x1), some (.int x2), some (.int x3), some (.int x4), some (.int x5), some (.int x6), some (.int x7), some (.int y0), some (.int v5)]) (st1 := [.int x3, .int v5, .int 2, .int y0]) (σ1 := σ4) zM_X7_areInodes dX7_areInodes_128 rfl rfl rfl rfl ?_
        obtain ⟨hz6, h⟩ := h
        refine zw_div zM_X7_areInodes dX7_areInodes_129 hz6 ?_
        refine zw_go (pc1 := 131) (L1 := [some (.ref a0), some (.int x1), some (.int x2), some (.int x3), some (.int x4), some (.int x5), some (.int x6), some (.int x7), some (.int y0), some (.int v5)]) (st1 := [.int (2 * (v5 / x3)), .int y0]) (σ1 := σ4) zM_X7_areInodes dX7_areInodes_130 rfl rfl rfl rfl ?_
        refine zw_go (pc1 := 132) (L1 := [some (.ref a0), some (.int x1), some (.int x2), some (.int x3), some (.int x4), some (.int x5), some (.int x6), some (.int x7), some (.int y0), some (.int v5)]) (st1 := [.int (y0 + (2 * (v5 / x3)))]) (σ1 := σ4) zM_X7_areInodes dX7_areInodes_131 rfl rfl rfl rfl ?_
        refine zw_go (pc1 := 134) (L1 := [some (.ref a0), some (.int x1), some (.int x2), some (.int x3), some (.int x4), some (.int x5), some (.int x6), some (.int x7), some (.int (y0 + (2 * (v5 / x3)))), some (.int v5)]) (st1 := []) (σ1 := σ4) zM_X7_areInodes dX7_areInodes_132 rfl rfl rfl rfl ?_
        refine zw_go (pc1 := 136) (L1 := [some (.ref a0), some (.int x1), some (.int x2), some (.int x3), some (.int x4), some (.int x5), some (.int x6), some (.int x7), some (.int (y0 + (2 * (v5 / x3)))), some (.int v5)]) (st1 := [.int x4]) (σ1 := σ4) zM_X7_areInodes dX7_areInodes_134 rfl rfl rfl rfl ?_
        refine zw_go (pc1 := 138) (L1 := [some (.ref a0), some (.int x1), some (.int x2), some (.int x3), some (.int x4), some (.int x5), some (.int x6), some (.int x7), some (.int (y0 + (2 * (v5 / x3)))), some (.int v5)]) (st1 := [.int (y0 + (2 * (v5 / x3))), .int x4]) (σ1 := σ4) zM_X7_areInodes dX7_areInodes_136 rfl rfl rfl rfl ?_
        refine zw_go (pc1 := 139) (L1 := [some (.ref a0), some (.int x1), some (.int x2), some (.int x3), some (.int x4), some (.int x5), some (.int x6), some (.int x7), some (.int (y0 + (2 * (v5 / x3)))), some (.int v5)]) (st1 := [.int (x4 + (y0 + (2 * (v5 / x3))))]) (σ1 := σ4) zM_X7_areInodes dX7_areInodes_138 rfl rfl rfl rfl ?_
        refine zw_go (pc1 := 141) (L1 := [some (.ref a0), some (.int x1), some (.int x2), some (.int x3), some (.int x4), some (.int x5), some (.int x6), some (.int x7), some (.int (y0 + (2 * (v5 / x3)))), some (.int v5)]) (st1 := [.int x5, .int (x4 + (y0 + (2 * (v5 / x3))))]) (σ1 := σ4) zM_X7_areInodes dX7_areInodes_139 rfl rfl rfl rfl ?_
        refine zw_icmp_gt (tgt := 155) zM_X7_areInodes dX7_areInodes_141 rfl rfl (fun q => ?_) (fun q => ?_)
        · replace h := h.1 q
          refine zw_iconst (v := 0) zM_X7_areInodes dX7_areInodes_155 (by decide) ?_
          exact zw_retz zM_X7_areInodes dX7_areInodes_156 rfl (by decide) h
        · replace h := h.2 q
          refine zw_go (pc1 := 145) (L1 := [some (.ref a0), some (.int x1), some (.int x2), some (.int x3), some (.int x4), some (.int x5), some (.int x6), some (.int x7), some (.int (y0 + (2 * (v5 / x3)))), some (.int v5)]) (st1 := [.ref a0]) (σ1 := σ4) zM_X7_areInodes dX7_areInodes_144 rfl rfl rfl rfl ?_
          refine zw_go (pc1 := 146) (L1 := [some (.ref a0), some (.int x1), some (.int x2), some (.int x3), some (.int x4), some (.int x5), some (.int x6), some (.int x7), some (.int (y0 + (2 * (v5 / x3)))), some (.int v5)]) (st1 := [.int x1, .ref a0]) (σ1 := σ4) zM_X7_areInodes dX7_areInodes_145 rfl rfl rfl rfl ?_
          refine zw_go (pc1 := 148) (L1 := [some (.ref a0), some (.int x1), some (.int x2), some (.int x3), some (.int x4), some (.int x5), some (.int x6), some (.int x7), some (.int (y0 + (2 * (v5 / x3)))), some (.int v5)]) (st1 := [.int x4, .int x1, .ref a0]) (σ1 := σ4) zM_X7_areInodes dX7_areInodes_146 rfl rfl rfl rfl ?_
          refine zw_go (pc1 := 149) (L1 := [some (.ref a0), some (.int x1), some (.int x2), some (.int x3), some (.int x4), some (.int x5), some (.int x6), some (.int x7), some (.int (y0 + (2 * (v5 / x3)))), some (.int v5)]) (st1 := [.int x3, .int x4, .int x1, .ref a0]) (σ1 := σ4) zM_X7_areInodes dX7_areInodes_148 rfl rfl rfl rfl ?_
          obtain ⟨hk7, h⟩ := h
          refine zw_callI (as := [.ref a0, .int x1, .int x4, .int x3]) (rest := []) zM_X7_areInodes dX7_areInodes_149 (zx_calV zC_7_229) zM_X7_isFile rfl rfl rfl rfl rfl (zx_args0 hk7 rfl) rfl h (fun v9 σ8 h => ?_)
          refine zw_if_ne (tgt := 157) zM_X7_areInodes dX7_areInodes_152 rfl rfl (fun q => ?_) (fun q => ?_)
          · replace h := h.1 q
            exact zw_weak2 h ⟨rfl, rfl, rfl, rfl, rfl, rfl, rfl, rfl, trivial⟩
          · replace h := h.2 q
            refine zw_iconst (v := 0) zM_X7_areInodes dX7_areInodes_155 (by decide) ?_
            exact zw_retz zM_X7_areInodes dX7_areInodes_156 rfl (by decide) h
    · replace h := h.2 q
      refine zw_iconst (v := 0) zM_X7_areInodes dX7_areInodes_103 (by decide) ?_
      exact zw_retz zM_X7_areInodes dX7_areInodes_104 rfl (by decide) h
set_option maxHeartbeats 4000000 in
set_option maxRecDepth 100000 in
theorem vc_X7_areInodes_157 (a0 : Nat) (x1 : Int32) (x2 : Int32) (x3 : Int32) (x4 : Int32) (x5 : Int32) (x6 : Int32) (x8 : Int32) (σ : zx_S) (K : Int32 → zx_S → Prop) (h : zwI 139 21 [some (.ref a0), some (.int x1), some (.int x2), some (.int x3), some (.int (x4 + x8)), some (.int x5), some (.int (x6 + Int32.ofInt 1)), none, none, none] [] σ K) : zwI 139 157 [some (.ref a0), some (.int x1), some (.int x2), some (.int x3), some (.int x4), some (.int x5), some (.int x6), none, some (.int x8), none] [] σ K := by
  refine zw_go (pc1 := 159) (L1 := [some (.ref a0), some (.int x1), some (.int x2), some (.int x3), some (.int x4), some (.int x5), some (.int x6), none, some (.int x8), none]) (st1 := [.int x4]) (σ1 := σ) zM_X7_areInodes dX7_areInodes_157 rfl rfl rfl rfl ?_
  refine zw_go (pc1 := 161) (L1 := [some (.ref a0), some (.int x1), some (.int x2), some (.int x3), some (.int x4), some (.int x5), some (.int x6), none, some (.int x8), none]) (st1 := [.int x8, .int x4]) (σ1 := σ) zM_X7_areInodes dX7_areInodes_159 rfl rfl rfl rfl ?_
  refine zw_go (pc1 := 162) (L1 := [some (.ref a0), some (.int x1), some (.int x2), some (.int x3), some (.int x4), some (.int x5), some (.int x6), none, some (.int x8), none]) (st1 := [.int (x4 + x8)]) (σ1 := σ) zM_X7_areInodes dX7_areInodes_161 rfl rfl rfl rfl ?_
  refine zw_go (pc1 := 164) (L1 := [some (.ref a0), some (.int x1), some (.int x2), some (.int x3), some (.int (x4 + x8)), some (.int x5), some (.int x6), none, some (.int x8), none]) (st1 := []) (σ1 := σ) zM_X7_areInodes dX7_areInodes_162 rfl rfl rfl rfl ?_
  refine zw_go (pc1 := 167) (L1 := [some (.ref a0), some (.int x1), some (.int x2), some (.int x3), some (.int (x4 + x8)), some (.int x5), some (.int (x6 + Int32.ofInt 1)), none, some (.int x8), none]) (st1 := []) (σ1 := σ) zM_X7_areInodes dX7_areInodes_164 rfl rfl rfl rfl ?_
  refine zw_goto (tgt := 21) zM_X7_areInodes dX7_areInodes_167 rfl ?_
  exact zw_weak2 h ⟨rfl, rfl, rfl, rfl, rfl, rfl, rfl, trivial⟩
set_option maxHeartbeats 4000000 in
set_option maxRecDepth 100000 in
theorem vc_X7_areTails_0 (a0 : Nat) (x1 : Int32) (x2 : Int32) (σ : zx_S) (K : Int32 → zx_S → Prop) (h : zK σ a0 = 20 ∧ zwI 210 0 [some (.ref a0), some (.int x1), some (.int 10)] [] σ (fun v3 σ2 => zK σ2 a0 = 20 ∧ zwI 210 0 [some (.ref a0), some (.int x1), some (.int 12)] [] σ2 (fun v6 σ5 => ((¬ ((v6 - v3) - (v6 - v3) / 5 * 5) = (0 : Int32) → zwI 140 31 [some (.ref a0), some (.int x1), some (.int x2), some (.int v3), some (.int v6), none, none, none] [.int 0] σ5 K) ∧ (((v6 - v3) - (v6 - v3) / 5 * 5) = (0 : Int32) → zwI 140 31 [some (.ref a0), some (.int x1), some (.int x2), some (.int v3), some (.int v6), none, none, none] [.int 1] σ5 K))))) : zwI 140 0 [some (.ref a0), some (.int x1), some (.int x2), none, none, none, none, none] [] σ K := by
  refine zw_go (pc1 := 1) (L1 := [some (.ref a0), some (.int x1), some (.int x2), none, none, none, none, none]) (st1 := [.ref a0]) (σ1 := σ) zM_X7_areTails dX7_areTails_0 rfl rfl rfl rfl ?_
  refine zw_go (pc1 := 2) (L1 := [some (.ref a0), some (.int x1), some (.int x2), none, none, none, none, none]) (st1 := [.int x1, .ref a0]) (σ1 := σ) zM_X7_areTails dX7_areTails_1 rfl rfl rfl rfl ?_
  refine zw_bipush (v := 10) zM_X7_areTails dX7_areTails_2 (by decide) ?_
  obtain ⟨hk1, h⟩ := h
  refine zw_callI (as := [.ref a0, .int x1, .int 10]) (rest := []) zM_X7_areTails dX7_areTails_4 (zx_calV zC_7_201) zM_X7_word rfl rfl rfl rfl rfl (zx_args0 hk1 rfl) rfl h (fun v3 σ2 h => ?_)
  refine zw_go (pc1 := 8) (L1 := [some (.ref a0), some (.int x1), some (.int x2), some (.int v3), none, none, none, none]) (st1 := []) (σ1 := σ2) zM_X7_areTails dX7_areTails_7 rfl rfl rfl rfl ?_
  refine zw_go (pc1 := 9) (L1 := [some (.ref a0), some (.int x1), some (.int x2), some (.int v3), none, none, none, none]) (st1 := [.ref a0]) (σ1 := σ2) zM_X7_areTails dX7_areTails_8 rfl rfl rfl rfl ?_
  refine zw_go (pc1 := 10) (L1 := [some (.ref a0), some (.int x1), some (.int x2), some (.int v3), none, none, none, none]) (st1 := [.int x1, .ref a0]) (σ1 := σ2) zM_X7_areTails dX7_areTails_9 rfl rfl rfl rfl ?_
  refine zw_bipush (v := 12) zM_X7_areTails dX7_areTails_10 (by decide) ?_
  obtain ⟨hk4, h⟩ := h
  refine zw_callI (as := [.ref a0, .int x1, .int 12]) (rest := []) zM_X7_areTails dX7_areTails_12 (zx_calV zC_7_201) zM_X7_word rfl rfl rfl rfl rfl (zx_args0 hk4 rfl) rfl h (fun v6 σ5 h => ?_)
  refine zw_go (pc1 := 17) (L1 := [some (.ref a0), some (.int x1), some (.int x2), some (.int v3), some (.int v6), none, none, none]) (st1 := []) (σ1 := σ5) zM_X7_areTails dX7_areTails_15 rfl rfl rfl rfl ?_
  refine zw_go (pc1 := 19) (L1 := [some (.ref a0), some (.int x1), some (.int x2), some (.int v3), some (.int v6), none, none, none]) (st1 := [.int v6]) (σ1 := σ5) zM_X7_areTails dX7_areTails_17 rfl rfl rfl rfl ?_
  refine zw_go (pc1 := 20) (L1 := [some (.ref a0), some (.int x1), some (.int x2), some (.int v3), some (.int v6), none, none, none]) (st1 := [.int v3, .int v6]) (σ1 := σ5) zM_X7_areTails dX7_areTails_19 rfl rfl rfl rfl ?_
  refine zw_go (pc1 := 21) (L1 := [some (.ref a0), some (.int x1), some (.int x2), some (.int v3), some (.int v6), none, none, none]) (st1 := [.int (v6 - v3)]) (σ1 := σ5) zM_X7_areTails dX7_areTails_20 rfl rfl rfl rfl ?_
  refine zw_iconst (v := 5) zM_X7_areTails dX7_areTails_21 (by decide) ?_
  refine zw_rem zM_X7_areTails dX7_areTails_22 (by decide) ?_
  refine zw_if_ne (tgt := 30) zM_X7_areTails dX7_areTails_23 rfl rfl (fun q => ?_) (fun q => ?_)
  · replace h := h.1 q
    refine zw_iconst (v := 0) zM_X7_areTails dX7_areTails_30 (by decide) ?_
    exact zw_weak2 h ⟨rfl, rfl, rfl, rfl, rfl, trivial⟩
  · replace h := h.2 q
    refine zw_iconst (v := 1) zM_X7_areTails dX7_areTails_26 (by decide) ?_
    refine zw_goto (tgt := 31) zM_X7_areTails dX7_areTails_27 rfl ?_
    exact zw_weak2 h ⟨rfl, rfl, rfl, rfl, rfl, trivial⟩
set_option maxHeartbeats 4000000 in
set_option maxRecDepth 100000 in
theorem vc_X7_areTails_31 (a0 : Nat) (x1 : Int32) (x2 : Int32) (x3 : Int32) (x4 : Int32) (y0 : Int32) (σ : zx_S) (K : Int32 → zx_S → Prop) (h : zwI 140 36 [some (.ref a0), some (.int x1), some (.int x2), none, some (.int x4), some (.int y0), some (.int x3), none] [] σ K) : zwI 140 31 [some (.ref a0), some (.int x1), some (.int x2), some (.int x3), some (.int x4), none, none, none] [.int y0] σ K := by
  refine zw_go (pc1 := 33) (L1 := [some (.ref a0), some (.int x1), some (.int x2), some (.int x3), some (.int x4), some (.int y0), none, none]) (st1 := []) (σ1 := σ) zM_X7_areTails dX7_areTails_31 rfl rfl rfl rfl ?_
  refine zw_go (pc1 := 34) (L1 := [some (.ref a0), some (.int x1), some (.int x2), some (.int x3), some (.int x4), some (.int y0), none, none]) (st1 := [.int x3]) (σ1 := σ) zM_X7_areTails dX7_areTails_33 rfl rfl rfl rfl ?_
  refine zw_go (pc1 := 36) (L1 := [some (.ref a0), some (.int x1), some (.int x2), some (.int x3), some (.int x4), some (.int y0), some (.int x3), none]) (st1 := []) (σ1 := σ) zM_X7_areTails dX7_areTails_34 rfl rfl rfl rfl ?_
  exact zw_weak2 h ⟨rfl, rfl, rfl, rfl, rfl, rfl, trivial⟩
set_option maxHeartbeats 4000000 in
set_option maxRecDepth 100000 in
theorem vc_X7_areTails_36 (a0 : Nat) (x1 : Int32) (x2 : Int32) (x4 : Int32) (x5 : Int32) (x6 : Int32) (σ : zx_S) (K : Int32 → zx_S → Prop) (h : ((x4 ≤ x6 → (x5 = 0 ∨ x5 = 1) ∧ K x5 σ) ∧ (¬ x4 ≤ x6 → ((x5 = (0 : Int32) → (x5 = 0 ∨ x5 = 1) ∧ K x5 σ) ∧ (¬ x5 = (0 : Int32) → zK σ a0 = 20 ∧ zwI 143 0 [some (.ref a0), some (.int x1), some (.int (x6 + 4))] [] σ (fun v5 σ4 => zwI 160 0 [some (.int v5), some (.int 1), some (.int x2)] [] σ4 (fun v7 σ6 => ((v7 = (0 : Int32) → zwI 140 99 [some (.ref a0), some (.int x1), some (.int x2), none, some (.int x4), none, some (.int x6), none] [] σ6 K) ∧ (¬ v7 = (0 : Int32) → zK σ6 a0 = 20 ∧ zwI 210 0 [some (.ref a0), some (.int x1), some (.int x6)] [] σ6 (fun v10 σ9 => zK σ9 a0 = 20 ∧ zwI 210 0 [some (.ref a0), some (.int x1), some (.int (x6 + 2))] [] σ9 (fun v13 σ12 => zK σ12 a0 = 20 ∧ zwI 144 0 [some (.ref a0), some (.int x1), some (.int v10), some (.int v13), some (.int v5), none, none, none, none] [] σ12 (fun v16 σ15 => ((v16 = (0 : Int32) → zwI 140 99 [some (.ref a0), some (.int x1), some (.int x2), none, some (.int x4), none, some (.int x6), none] [] σ15 K) ∧ (¬ v16 = (0 : Int32) → zwI 140 100 [some (.ref a0), some (.int x1), some (.int x2), none, some (.int x4), none, some (.int x6), none] [.int 1] σ15 K)))))))))))))) : zwI 140 36 [some (.ref a0), some (.int x1), some (.int x2), none, some (.int x4), some (.int x5), some (.int x6), none] [] σ K := by
  refine zw_go (pc1 := 38) (L1 := [some (.ref a0), some (.int x1), some (.int x2), none, some (.int x4), some (.int x5), some (.int x6), none]) (st1 := [.int x6]) (σ1 := σ) zM_X7_areTails dX7_areTails_36 rfl rfl rfl rfl ?_
  refine zw_go (pc1 := 40) (L1 := [some (.ref a0), some (.int x1), some (.int x2), none, some (.int x4), some (.int x5), some (.int x6), none]) (st1 := [.int x4, .int x6]) (σ1 := σ) zM_X7_areTails dX7_areTails_38 rfl rfl rfl rfl ?_
  refine zw_icmp_ge (tgt := 108) zM_X7_areTails dX7_areTails_40 rfl rfl (fun q => ?_) (fun q => ?_)
  · replace h := h.1 q
    refine zw_go (pc1 := 110) (L1 := [some (.ref a0), some (.int x1), some (.int x2), none, some (.int x4), some (.int x5), some (.int x6), none]) (st1 := [.int x5]) (σ1 := σ) zM_X7_areTails dX7_areTails_108 rfl rfl rfl rfl ?_
    obtain ⟨hv1, h⟩ := h
    exact zw_retz zM_X7_areTails dX7_areTails_110 rfl hv1 h
  · replace h := h.2 q
    refine zw_go (pc1 := 45) (L1 := [some (.ref a0), some (.int x1), some (.int x2), none, some (.int x4), some (.int x5), some (.int x6), none]) (st1 := [.int x5]) (σ1 := σ) zM_X7_areTails dX7_areTails_43 rfl rfl rfl rfl ?_
    refine zw_if_eq (tgt := 108) zM_X7_areTails dX7_areTails_45 rfl rfl (fun q => ?_) (fun q => ?_)
    · replace h := h.1 q
      refine zw_go (pc1 := 110) (L1 := [some (.ref a0), some (.int x1), some (.int x2), none, some (.int x4), some (.int x5), some (.int x6), none]) (st1 := [.int x5]) (σ1 := σ) zM_X7_areTails dX7_areTails_108 rfl rfl rfl rfl ?_
      obtain ⟨hv2, h⟩ := h
      exact zw_retz zM_X7_areTails dX7_areTails_110 rfl hv2 h
    · replace h := h.2 q
      refine zw_go (pc1 := 49) (L1 := [some (.ref a0), some (.int x1), some (.int x2), none, some (.int x4), some (.int x5), some (.int x6), none]) (st1 := [.ref a0]) (σ1 := σ) zM_X7_areTails dX7_areTails_48 rfl rfl rfl rfl ?_
      refine zw_go (pc1 := 50) (L1 := [some (.ref a0), some (.int x1), some (.int x2), none, some (.int x4), some (.int x5), some (.int x6), none]) (st1 := [.int x1, .ref a0]) (σ1 := σ) zM_X7_areTails dX7_areTails_49 rfl rfl rfl rfl ?_
      refine zw_go (pc1 := 52) (L1 := [some (.ref a0), some (.int x1), some (.int x2), none, some (.int x4), some (.int x5), some (.int x6), none]) (st1 := [.int x6, .int x1, .ref a0]) (σ1 := σ) zM_X7_areTails dX7_areTails_50 rfl rfl rfl rfl ?_
      refine zw_iconst (v := 4) zM_X7_areTails dX7_areTails_52 (by decide) ?_
      refine zw_go (pc1 := 54) (L1 := [some (.ref a0), some (.int x1), some (.int x2), none, some (.int x4), some (.int x5), some (.int x6), none]) (st1 := [.int (x6 + 4), .int x1, .ref a0]) (σ1 := σ) zM_X7_areTails dX7_areTails_53 rfl rfl rfl rfl ?_
      obtain ⟨hk3, h⟩ := h
      refine zw_callI (as := [.ref a0, .int x1, .int (x6 + 4)]) (rest := []) zM_X7_areTails dX7_areTails_54 (zx_calV zC_7_198) zM_X7_byteAt rfl rfl rfl rfl rfl (zx_args0 hk3 rfl) rfl h (fun v5 σ4 h => ?_)
      refine zw_go (pc1 := 59) (L1 := [some (.ref a0), some (.int x1), some (.int x2), none, some (.int x4), some (.int x5), some (.int x6), some (.int v5)]) (st1 := []) (σ1 := σ4) zM_X7_areTails dX7_areTails_57 rfl rfl rfl rfl ?_
      refine zw_go (pc1 := 61) (L1 := [some (.ref a0), some (.int x1), some (.int x2), none, some (.int x4), some (.int x5), some (.int x6), some (.int v5)]) (st1 := [.int v5]) (σ1 := σ4) zM_X7_areTails dX7_areTails_59 rfl rfl rfl rfl ?_
      refine zw_iconst (v := 1) zM_X7_areTails dX7_areTails_61 (by decide) ?_
      refine zw_go (pc1 := 63) (L1 := [some (.ref a0), some (.int x1), some (.int x2), none, some (.int x4), some (.int x5), some (.int x6), some (.int v5)]) (st1 := [.int x2, .int 1, .int v5]) (σ1 := σ4) zM_X7_areTails dX7_areTails_62 rfl rfl rfl rfl ?_
      refine zw_callI (as := [.int v5, .int 1, .int x2]) (rest := []) zM_X7_areTails dX7_areTails_63 (zx_calS zC_7_101) zM_X7_in rfl rfl rfl rfl rfl rfl rfl h (fun v7 σ6 h => ?_)
      refine zw_if_eq (tgt := 99) zM_X7_areTails dX7_areTails_66 rfl rfl (fun q => ?_) (fun q => ?_)
      · replace h := h.1 q
        exact zw_weak2 h ⟨rfl, rfl, rfl, rfl, rfl, trivial⟩
      · replace h := h.2 q
        refine zw_go (pc1 := 70) (L1 := [some (.ref a0), some (.int x1), some (.int x2), none, some (.int x4), some (.int x5), some (.int x6), some (.int v5)]) (st1 := [.ref a0]) (σ1 := σ6) zM_X7_areTails dX7_areTails_69 rfl rfl rfl rfl ?_
        refine zw_go (pc1 := 71) (L1 := [some (.ref a0), some (.int x1), some (.int x2), none, some (.int x4), some (.int x5), some (.int x6), some (.int v5)]) (st1 := [.int x1, .ref a0]) (σ1 := σ6) zM_X7_areTails dX7_areTails_70 rfl rfl rfl rfl ?_
        refine zw_go (pc1 := 72) (L1 := [some (.ref a0), some (.int x1), some (.int x2), none, some (.int x4), some (.int x5), some (.int x6), some (.int v5)]) (st1 := [.ref a0, .int x1, .ref a0]) (σ1 := σ6) zM_X7_areTails dX7_areTails_71 rfl rfl rfl rfl ?_
        refine zw_go (pc1 := 73) (L1 := [some (.ref a0), some (.int x1), some (.int x2), none, some (.int x4), some (.int x5), some (.int x6), some (.int v5)]) (st1 := [.int x1, .ref a0, .int x1, .ref a0]) (σ1 := σ6) zM_X7_areTails dX7_areTails_72 rfl rfl rfl rfl ?_
        refine zw_go (pc1 := 75) (L1 := [some (.ref a0), some (.int x1), some (.int x2), none, some (.int x4), some (.int x5), some (.int x6), some (.int v5)]) (st1 := [.int x6, .int x1, .ref a0, .int x1, .ref a0]) (σ1 := σ6) zM_X7_areTails dX7_areTails_73 rfl rfl rfl rfl ?_
        obtain ⟨hk8, h⟩ := h
        refine zw_callI (as := [.ref a0, .int x1, .int x6]) (rest := [.int x1, .ref a0]) zM_X7_areTails dX7_areTails_75 (zx_calV zC_7_201) zM_X7_word rfl rfl rfl rfl rfl (zx_args0 hk8 rfl) rfl h (fun v10 σ9 h => ?_)
        refine zw_go (pc1 := 79) (L1 := [some (.ref a0), some (.int x1), some (.int x2), none, some (.int x4), some (.int x5), some (.int x6), some (.int v5)]) (st1 := [.ref a0, .int v10, .int x1, .ref a0]) (σ1 := σ9) zM_X7_areTails dX7_areTails_78 rfl rfl rfl rfl ?_
        refine zw_go (pc1 := 80) (L1 := [some (.ref a0), some (.int x1), some (.int x2), none, some (.int x4), some (.int x5), some (.int x6), some (.int v5)]) (st1 := [.int x1, .ref a0, .int v10, .int x1, .ref a0]) (σ1 := σ9) zM_X7_areTails dX7_areTails_79 rfl rfl rfl rfl ?_
        refine zw_go (pc1 := 82) (L1 := [some (.ref a0), some (.int x1), some (.int x2), none, some (.int x4), some (.int x5), some (.int x6), some (.int v5)]) (st1 := [.int x6, .int x1, .ref a0, .int v10, .int x1, .ref a0]) (σ1 := σ9) zM_X7_areTails dX7_areTails_80 rfl rfl rfl rfl ?_
        refine zw_iconst (v := 2) zM_X7_areTails dX7_areTails_82 (by decide) ?_
        refine zw_go (pc1 := 84) (L1 := [some (.ref a0), some (.int x1), some (.int x2), none, some (.int x4), some (.int x5), some (.int x6), some (.int v5)]) (st1 := [.int (x6 + 2), .int x1, .ref a0, .int v10, .int x1, .ref a0]) (σ1 := σ9) zM_X7_areTails dX7_areTails_83 rfl rfl rfl rfl ?_
        obtain ⟨hk11, h⟩ := h
        refine zw_callI (as := [.ref a0, .int x1, .int (x6 + 2)]) (rest := [.int v10, .int x1, .ref a0]) zM_X7_areTails dX7_areTails_84 (zx_calV zC_7_201) zM_X7_word rfl rfl rfl rfl rfl (zx_args0 hk11 rfl) rfl h (fun v13 σ12 h => ?_)
        refine zw_go (pc1 := 89) (L1 := [some (.ref a0), some (.int x1), some (.int x2), none, some (.int x4), some (.int x5), some (.int x6), some (.int v5)]) (st1 := [.int v5, .int v13, .int v10, .int x1, .ref a0]) (σ1 := σ12) zM_X7_areTails dX7_areTails_87 rfl rfl rfl rfl ?_
        obtain ⟨hk14, h⟩ := h
        refine zw_callI (as := [.ref a0, .int x1, .int v10, .int v13, .int v5]) (rest := []) zM_X7_areTails dX7_areTails_89 (zx_calV zC_7_222) zM_X7_canBe rfl rfl rfl rfl rfl (zx_args0 hk14 rfl) rfl h (fun v16 σ15 h => ?_)
        refine zw_if_eq (tgt := 99) zM_X7_areTails dX7_areTails_92 rfl rfl (fun q => ?_) (fun q => ?_)
        · replace h := h.1 q
          exact zw_weak2 h ⟨rfl, rfl, rfl, rfl, rfl, trivial⟩
        · replace h := h.2 q
          refine zw_iconst (v := 1) zM_X7_areTails dX7_areTails_95 (by decide) ?_
          refine zw_goto (tgt := 100) zM_X7_areTails dX7_areTails_96 rfl ?_
          exact zw_weak2 h ⟨rfl, rfl, rfl, rfl, rfl, trivial⟩
set_option maxHeartbeats 4000000 in
set_option maxRecDepth 100000 in
theorem vc_X7_areTails_99 (a0 : Nat) (x1 : Int32) (x2 : Int32) (x4 : Int32) (x6 : Int32) (σ : zx_S) (K : Int32 → zx_S → Prop) (h : zwI 140 100 [some (.ref a0), some (.int x1), some (.int x2), none, some (.int x4), none, some (.int x6), none] [.int 0] σ K) : zwI 140 99 [some (.ref a0), some (.int x1), some (.int x2), none, some (.int x4), none, some (.int x6), none] [] σ K := by
  refine zw_iconst (v := 0) zM_X7_areTails dX7_areTails_99 (by decide) ?_
  exact zw_weak2 h ⟨rfl, rfl, rfl, rfl, rfl, trivial⟩
set_option maxHeartbeats 4000000 in
set_option maxRecDepth 100000 in
theorem vc_X7_areTails_100 (a0 : Nat) (x1 : Int32) (x2 : Int32) (x4 : Int32) (x6 : Int32) (y0 : Int32) (σ : zx_S) (K : Int32 → zx_S → Prop) (h : zwI 140 36 [some (.ref a0), some (.int x1), some (.int x2), none, some (.int x4), some (.int y0), some (.int (x6 + Int32.ofInt 5)), none] [] σ K) : zwI 140 100 [some (.ref a0), some (.int x1), some (.int x2), none, some (.int x4), none, some (.int x6), none] [.int y0] σ K := by
  refine zw_go (pc1 := 102) (L1 := [some (.ref a0), some (.int x1), some (.int x2), none, some (.int x4), some (.int y0), some (.int x6), none]) (st1 := []) (σ1 := σ) zM_X7_areTails dX7_areTails_100 rfl rfl rfl rfl ?_
  refine zw_go (pc1 := 105) (L1 := [some (.ref a0), some (.int x1), some (.int x2), none, some (.int x4), some (.int y0), some (.int (x6 + Int32.ofInt 5)), none]) (st1 := []) (σ1 := σ) zM_X7_areTails dX7_areTails_102 rfl rfl rfl rfl ?_
  refine zw_goto (tgt := 36) zM_X7_areTails dX7_areTails_105 rfl ?_
  exact zw_weak2 h ⟨rfl, rfl, rfl, rfl, rfl, rfl, trivial⟩
set_option maxHeartbeats 4000000 in
set_option maxRecDepth 100000 in
theorem vc_X7_bare_0 (a0 : Nat) (σ : zx_S) (K : Int32 → zx_S → Prop) (h : zK σ a0 = 20 ∧ ∀ σ2 : zx_S, σ2 = zx_pI σ a0 0 0 → ∀ σ4 : zx_S, σ4 = zx_pI σ2 a0 35 0 → zwV 154 0 [some (.ref a0), none] [] σ4 (fun σ6 => K (zI σ2 a0 35) σ6)) : zwI 141 0 [some (.ref a0), none] [] σ K := by
  refine zw_go (pc1 := 1) (L1 := [some (.ref a0), none]) (st1 := [.ref a0]) (σ1 := σ) zM_X7_bare dX7_bare_0 rfl rfl rfl rfl ?_
  refine zw_iconst (v := 0) zM_X7_bare dX7_bare_1 (by decide) ?_
  obtain ⟨hk1, h⟩ := h
  obtain ⟨σ2, e3⟩ : ∃ z9 : zx_S, z9 = zx_pI σ a0 0 0 := ⟨_, rfl⟩
  replace h := h σ2 e3
  refine zw_putI zM_X7_bare dX7_bare_2 zF_7_98 rfl rfl hk1 e3 ?_
  refine zw_go (pc1 := 6) (L1 := [some (.ref a0), none]) (st1 := [.ref a0]) (σ1 := σ2) zM_X7_bare dX7_bare_5 rfl rfl rfl rfl ?_
  refine zw_getI zM_X7_bare dX7_bare_6 zF_7_257 rfl (by rw [e3]; exact hk1) ?_
  refine zw_go (pc1 := 10) (L1 := [some (.ref a0), some (.int (zI σ2 a0 35))]) (st1 := []) (σ1 := σ2) zM_X7_bare dX7_bare_9 rfl rfl rfl rfl ?_
  refine zw_go (pc1 := 11) (L1 := [some (.ref a0), some (.int (zI σ2 a0 35))]) (st1 := [.ref a0]) (σ1 := σ2) zM_X7_bare dX7_bare_10 rfl rfl rfl rfl ?_
  refine zw_iconst (v := 0) zM_X7_bare dX7_bare_11 (by decide) ?_
  obtain ⟨σ4, e5⟩ : ∃ z9 : zx_S, z9 = zx_pI σ2 a0 35 0 := ⟨_, rfl⟩
  replace h := h σ4 e5
  refine zw_putI zM_X7_bare dX7_bare_12 zF_7_257 rfl rfl (by rw [e3]; exact hk1) e5 ?_
  refine zw_go (pc1 := 16) (L1 := [some (.ref a0), some (.int (zI σ2 a0 35))]) (st1 := [.ref a0]) (σ1 := σ4) zM_X7_bare dX7_bare_15 rfl rfl rfl rfl ?_
  refine zw_callV (as := [.ref a0]) (rest := []) zM_X7_bare dX7_bare_16 (zx_calV zC_7_272) zM_X7_first rfl rfl rfl rfl rfl (zx_args0 (by rw [e5, e3]; exact hk1) rfl) rfl h (fun σ6 h => ?_)
  refine zw_go (pc1 := 20) (L1 := [some (.ref a0), some (.int (zI σ2 a0 35))]) (st1 := [.int (zI σ2 a0 35)]) (σ1 := σ6) zM_X7_bare dX7_bare_19 rfl rfl rfl rfl ?_
  exact zw_reti zM_X7_bare dX7_bare_20 rfl h
set_option maxHeartbeats 4000000 in
set_option maxRecDepth 100000 in
theorem vc_X7_build_0 (a0 : Nat) (x1 : Int32) (σ : zx_S) (K : Int32 → zx_S → Prop) (h : zK σ a0 = 20 ∧ ∀ σ2 : zx_S, σ2 = zx_pI σ a0 0 0 → ((x1 = (8 : Int32) → zwI 142 26 [some (.ref a0), some (.int x1), none, none, none, none, none] [] σ2 K) ∧ (¬ x1 = (8 : Int32) → ((x1 = (16 : Int32) → zwI 142 26 [some (.ref a0), some (.int x1), none, none, none, none, none] [] σ2 K) ∧ (¬ x1 = (16 : Int32) → ((x1 = (32 : Int32) → zwI 142 26 [some (.ref a0), some (.int x1), none, none, none, none, none] [] σ2 K) ∧ (¬ x1 = (32 : Int32) → K (-2) σ2))))))) : zwI 142 0 [some (.ref a0), some (.int x1), none, none, none, none, none] [] σ K := by
  refine zw_go (pc1 := 1) (L1 := [some (.ref a0), some (.int x1), none, none, none, none, none]) (st1 := [.ref a0]) (σ1 := σ) zM_X7_build dX7_build_0 rfl rfl rfl rfl ?_
  refine zw_iconst (v := 0) zM_X7_build dX7_build_1 (by decide) ?_
  obtain ⟨hk1, h⟩ := h
  obtain ⟨σ2, e3⟩ : ∃ z9 : zx_S, z9 = zx_pI σ a0 0 0 := ⟨_, rfl⟩
  replace h := h σ2 e3
  refine zw_putI zM_X7_build dX7_build_2 zF_7_98 rfl rfl hk1 e3 ?_
  refine zw_go (pc1 := 6) (L1 := [some (.ref a0), some (.int x1), none, none, none, none, none]) (st1 := [.int x1]) (σ1 := σ2) zM_X7_build dX7_build_5 rfl rfl rfl rfl ?_
  refine zw_bipush (v := 8) zM_X7_build dX7_build_6 (by decide) ?_
  refine zw_icmp_eq (tgt := 26) zM_X7_build dX7_build_8 rfl rfl (fun q => ?_) (fun q => ?_)
  · replace h := h.1 q
    exact zw_weak2 h ⟨rfl, rfl, trivial⟩
  · replace h := h.2 q
    refine zw_go (pc1 := 12) (L1 := [some (.ref a0), some (.int x1), none, none, none, none, none]) (st1 := [.int x1]) (σ1 := σ2) zM_X7_build dX7_build_11 rfl rfl rfl rfl ?_
    refine zw_bipush (v := 16) zM_X7_build dX7_build_12 (by decide) ?_
    refine zw_icmp_eq (tgt := 26) zM_X7_build dX7_build_14 rfl rfl (fun q => ?_) (fun q => ?_)
    · replace h := h.1 q
      exact zw_weak2 h ⟨rfl, rfl, trivial⟩
    · replace h := h.2 q
      refine zw_go (pc1 := 18) (L1 := [some (.ref a0), some (.int x1), none, none, none, none, none]) (st1 := [.int x1]) (σ1 := σ2) zM_X7_build dX7_build_17 rfl rfl rfl rfl ?_
      refine zw_bipush (v := 32) zM_X7_build dX7_build_18 (by decide) ?_
      refine zw_icmp_eq (tgt := 26) zM_X7_build dX7_build_20 rfl rfl (fun q => ?_) (fun q => ?_)
      · replace h := h.1 q
        exact zw_weak2 h ⟨rfl, rfl, trivial⟩
      · replace h := h.2 q
        refine zw_bipush (v := (-2)) zM_X7_build dX7_build_23 (by decide) ?_
        exact zw_reti zM_X7_build dX7_build_25 rfl h
set_option maxHeartbeats 4000000 in
set_option maxRecDepth 100000 in
theorem vc_X7_build_26 (a0 : Nat) (x1 : Int32) (σ : zx_S) (K : Int32 → zx_S → Prop) (h : zK σ a0 = 20 ∧ ((¬ (zI σ a0 11) = (3 : Int32) → ∀ σ2 : zx_S, σ2 = zx_pI σ a0 14 (zI σ a0 11) → zwV 189 0 [some (.ref a0), none, none, none, none] [] σ2 (fun σ4 => zK σ4 a0 = 20 ∧ ∀ σ6 : zx_S, σ6 = zx_pI σ4 a0 15 18 → ∀ σ8 : zx_S, σ8 = zx_pI σ6 a0 27 0 → zwI 142 62 [some (.ref a0), some (.int x1), some (.int 1), none, none, none, none] [] σ8 K)) ∧ ((zI σ a0 11) = (3 : Int32) → K (-4) σ))) : zwI 142 26 [some (.ref a0), some (.int x1), none, none, none, none, none] [] σ K := by
  refine zw_go (pc1 := 27) (L1 := [some (.ref a0), some (.int x1), none, none, none, none, none]) (st1 := [.ref a0]) (σ1 := σ) zM_X7_build dX7_build_26 rfl rfl rfl rfl ?_
  obtain ⟨hk1, h⟩ := h
  refine zw_getI zM_X7_build dX7_build_27 zF_7_168 rfl hk1 ?_
  refine zw_iconst (v := 3) zM_X7_build dX7_build_30 (by decide) ?_
  refine zw_icmp_ne (tgt := 37) zM_X7_build dX7_build_31 rfl rfl (fun q => ?_) (fun q => ?_)
  · replace h := h.1 q
    refine zw_go (pc1 := 38) (L1 := [some (.ref a0), some (.int x1), none, none, none, none, none]) (st1 := [.ref a0]) (σ1 := σ) zM_X7_build dX7_build_37 rfl rfl rfl rfl ?_
    refine zw_go (pc1 := 39) (L1 := [some (.ref a0), some (.int x1), none, none, none, none, none]) (st1 := [.ref a0, .ref a0]) (σ1 := σ) zM_X7_build dX7_build_38 rfl rfl rfl rfl ?_
    refine zw_getI zM_X7_build dX7_build_39 zF_7_168 rfl hk1 ?_
    obtain ⟨σ2, e3⟩ : ∃ z9 : zx_S, z9 = zx_pI σ a0 14 (zI σ a0 11) := ⟨_, rfl⟩
    replace h := h σ2 e3
    refine zw_putI zM_X7_build dX7_build_42 zF_7_129 rfl rfl hk1 e3 ?_
    refine zw_go (pc1 := 46) (L1 := [some (.ref a0), some (.int x1), none, none, none, none, none]) (st1 := [.ref a0]) (σ1 := σ2) zM_X7_build dX7_build_45 rfl rfl rfl rfl ?_
    refine zw_callV (as := [.ref a0]) (rest := []) zM_X7_build dX7_build_46 (zx_calV zC_7_171) zM_X7_number rfl rfl rfl rfl rfl (zx_args0 (by rw [e3]; exact hk1) rfl) rfl h (fun σ4 h => ?_)
    refine zw_go (pc1 := 50) (L1 := [some (.ref a0), some (.int x1), none, none, none, none, none]) (st1 := [.ref a0]) (σ1 := σ4) zM_X7_build dX7_build_49 rfl rfl rfl rfl ?_
    refine zw_bipush (v := 18) zM_X7_build dX7_build_50 (by decide) ?_
    obtain ⟨hk5, h⟩ := h
    obtain ⟨σ6, e7⟩ : ∃ z9 : zx_S, z9 = zx_pI σ4 a0 15 18 := ⟨_, rfl⟩
    replace h := h σ6 e7
    refine zw_putI zM_X7_build dX7_build_52 zF_7_132 rfl rfl hk5 e7 ?_
    refine zw_go (pc1 := 56) (L1 := [some (.ref a0), some (.int x1), none, none, none, none, none]) (st1 := [.ref a0]) (σ1 := σ6) zM_X7_build dX7_build_55 rfl rfl rfl rfl ?_
    refine zw_iconst (v := 0) zM_X7_build dX7_build_56 (by decide) ?_
    obtain ⟨σ8, e9⟩ : ∃ z9 : zx_S, z9 = zx_pI σ6 a0 27 0 := ⟨_, rfl⟩
    replace h := h σ8 e9
    refine zw_putI zM_X7_build dX7_build_57 zF_7_165 rfl rfl (by rw [e7]; exact hk5) e9 ?_
    refine zw_iconst (v := 1) zM_X7_build dX7_build_60 (by decide) ?_
    refine zw_go (pc1 := 62) (L1 := [some (.ref a0), some (.int x1), some (.int 1), none, none, none, none]) (st1 := []) (σ1 := σ8) zM_X7_build dX7_build_61 rfl rfl rfl rfl ?_
    exact zw_weak2 h ⟨rfl, rfl, rfl, trivial⟩
  · replace h := h.2 q
    refine zw_bipush (v := (-4)) zM_X7_build dX7_build_34 (by decide) ?_
    exact zw_reti zM_X7_build dX7_build_36 rfl h
set_option maxHeartbeats 4000000 in
set_option maxRecDepth 100000 in
theorem vc_X7_build_62 (a0 : Nat) (x1 : Int32) (x2 : Int32) (σ : zx_S) (K : Int32 → zx_S → Prop) (h : zK σ a0 = 20 ∧ (((zI σ a0 18) < x2 → zwI 142 189 [some (.ref a0), some (.int x1), some (.int 0), none, none, none, none] [] σ K) ∧ (¬ (zI σ a0 18) < x2 → ∃ b2 : Nat, zR σ a0 2 = some b2 ∧ ∃ b4 : Nat, zR σ a0 17 = some b4 ∧ zK σ b4 = 1 ∧ zx_in x2 (zN σ b4) = true ∧ zK σ b2 = 1 ∧ zx_in (zI σ b4 (Int32.toNatClampNeg x2)) (zN σ b2) = true ∧ ((¬ (zI σ b2 (Int32.toNatClampNeg (zI σ b4 (Int32.toNatClampNeg x2)))) = (2 : Int32) → zwI 142 181 [some (.ref a0), some (.int x1), some (.int x2), none, none, none, none] [] σ K) ∧ ((zI σ b2 (Int32.toNatClampNeg (zI σ b4 (Int32.toNatClampNeg x2)))) = (2 : Int32) → zwI 155 0 [some (.ref a0), some (.int x2), none, none] [] σ (fun v11 σ10 => ((¬ v11 = x2 → zK σ10 a0 = 20 ∧ ∃ b13 : Nat, zR σ10 a0 23 = some b13 ∧ zK σ10 b13 = 1 ∧ zx_in v11 (zN σ10 b13) = true ∧ zx_in x2 (zN σ10 b13) = true ∧ ∀ σ18 : zx_S, σ18 = zx_pI σ10 b13 (Int32.toNatClampNeg x2) (zI σ10 b13 (Int32.toNatClampNeg v11)) → ∃ b20 : Nat, zR σ18 a0 25 = some b20 ∧ zK σ18 b20 = 1 ∧ zx_in v11 (zN σ18 b20) = true ∧ zx_in x2 (zN σ18 b20) = true ∧ ∀ σ25 : zx_S, σ25 = zx_pI σ18 b20 (Int32.toNatClampNeg x2) (zI σ18 b20 (Int32.toNatClampNeg v11)) → ∃ b27 : Nat, zR σ25 a0 26 = some b27 ∧ zK σ25 b27 = 1 ∧ zx_in v11 (zN σ25 b27) = true ∧ zx_in x2 (zN σ25 b27) = true ∧ ∀ σ32 : zx_S, σ32 = zx_pI σ25 b27 (Int32.toNatClampNeg x2) (zI σ25 b27 (Int32.toNatClampNeg v11)) → zwI 142 144 [some (.ref a0), some (.int x1), some (.int x2), some (.int v11), some (.int 0), none, none] [] σ32 K) ∧ (v11 = x2 → zK σ10 a0 = 20 ∧ zwV 204 0 [some (.ref a0), some (.int x2), some (.int x1), none, none, none, none, none] [] σ10 (fun σ35 => zwI 142 181 [some (.ref a0), some (.int x1), some (.int x2), none, none, none, none] [] σ35 K))))))))) : zwI 142 62 [some (.ref a0), some (.int x1), some (.int x2), none, none, none, none] [] σ K := by
  refine zw_go (pc1 := 63) (L1 := [some (.ref a0), some (.int x1), some (.int x2), none, none, none, none]) (st1 := [.int x2]) (σ1 := σ) zM_X7_build dX7_build_62 rfl rfl rfl rfl ?_
  refine zw_go (pc1 := 64) (L1 := [some (.ref a0), some (.int x1), some (.int x2), none, none, none, none]) (st1 := [.ref a0, .int x2]) (σ1 := σ) zM_X7_build dX7_build_63 rfl rfl rfl rfl ?_
  obtain ⟨hk1, h⟩ := h
  refine zw_getI zM_X7_build dX7_build_64 zF_7_142 rfl hk1 ?_
  refine zw_icmp_gt (tgt := 187) zM_X7_build dX7_build_67 rfl rfl (fun q => ?_) (fun q => ?_)
  · replace h := h.1 q
    refine zw_iconst (v := 0) zM_X7_build dX7_build_187 (by decide) ?_
    refine zw_go (pc1 := 189) (L1 := [some (.ref a0), some (.int x1), some (.int 0), none, none, none, none]) (st1 := []) (σ1 := σ) zM_X7_build dX7_build_188 rfl rfl rfl rfl ?_
    exact zw_weak2 h ⟨rfl, rfl, rfl, trivial⟩
  · replace h := h.2 q
    refine zw_go (pc1 := 71) (L1 := [some (.ref a0), some (.int x1), some (.int x2), none, none, none, none]) (st1 := [.ref a0]) (σ1 := σ) zM_X7_build dX7_build_70 rfl rfl rfl rfl ?_
    obtain ⟨b2, hr3, h⟩ := h
    refine zw_getR (a := b2) zM_X7_build dX7_build_71 zF_7_7 rfl hk1 hr3 ?_
    refine zw_go (pc1 := 75) (L1 := [some (.ref a0), some (.int x1), some (.int x2), none, none, none, none]) (st1 := [.ref a0, .ref b2]) (σ1 := σ) zM_X7_build dX7_build_74 rfl rfl rfl rfl ?_
    obtain ⟨b4, hr5, h⟩ := h
    refine zw_getR (a := b4) zM_X7_build dX7_build_75 zF_7_43 rfl hk1 hr5 ?_
    refine zw_go (pc1 := 79) (L1 := [some (.ref a0), some (.int x1), some (.int x2), none, none, none, none]) (st1 := [.int x2, .ref b4, .ref b2]) (σ1 := σ) zM_X7_build dX7_build_78 rfl rfl rfl rfl ?_
    obtain ⟨hk6, h⟩ := h
    obtain ⟨hi7, h⟩ := h
    refine zw_iald zM_X7_build dX7_build_79 ⟨Or.inl hk6, hi7⟩ ?_
    obtain ⟨hk8, h⟩ := h
    obtain ⟨hi9, h⟩ := h
    refine zw_iald zM_X7_build dX7_build_80 ⟨Or.inl hk8, hi9⟩ ?_
    refine zw_iconst (v := 2) zM_X7_build dX7_build_81 (by decide) ?_
    refine zw_icmp_ne (tgt := 181) zM_X7_build dX7_build_82 rfl rfl (fun q => ?_) (fun q => ?_)
    · replace h := h.1 q
      exact zw_weak2 h ⟨rfl, rfl, rfl, trivial⟩
    · replace h := h.2 q
      refine zw_go (pc1 := 86) (L1 := [some (.ref a0), some (.int x1), some (.int x2), none, none, none, none]) (st1 := [.ref a0]) (σ1 := σ) zM_X7_build dX7_build_85 rfl rfl rfl rfl ?_
      refine zw_go (pc1 := 87) (L1 := [some (.ref a0), some (.int x1), some (.int x2), none, none, none, none]) (st1 := [.int x2, .ref a0]) (σ1 := σ) zM_X7_build dX7_build_86 rfl rfl rfl rfl ?_
      refine zw_callI (as := [.ref a0, .int x2]) (rest := []) zM_X7_build dX7_build_87 (zx_calV zC_7_174) zM_X7_firstLike rfl rfl rfl rfl rfl (zx_args0 hk1 rfl) rfl h (fun v11 σ10 h => ?_)
      refine zw_go (pc1 := 91) (L1 := [some (.ref a0), some (.int x1), some (.int x2), some (.int v11), none, none, none]) (st1 := []) (σ1 := σ10) zM_X7_build dX7_build_90 rfl rfl rfl rfl ?_
      refine zw_go (pc1 := 92) (L1 := [some (.ref a0), some (.int x1), some (.int x2), some (.int v11), none, none, none]) (st1 := [.int v11]) (σ1 := σ10) zM_X7_build dX7_build_91 rfl rfl rfl rfl ?_
      refine zw_go (pc1 := 93) (L1 := [some (.ref a0), some (.int x1), some (.int x2), some (.int v11), none, none, none]) (st1 := [.int x2, .int v11]) (σ1 := σ10) zM_X7_build dX7_build_92 rfl rfl rfl rfl ?_
      refine zw_icmp_ne (tgt := 105) zM_X7_build dX7_build_93 rfl rfl (fun q => ?_) (fun q => ?_)
      · replace h := h.1 q
        refine zw_go (pc1 := 106) (L1 := [some (.ref a0), some (.int x1), some (.int x2), some (.int v11), none, none, none]) (st1 := [.ref a0]) (σ1 := σ10) zM_X7_build dX7_build_105 rfl rfl rfl rfl ?_
        obtain ⟨hk12, h⟩ := h
        obtain ⟨b13, hr14, h⟩ := h
        refine zw_getR (a := b13) zM_X7_build dX7_build_106 zF_7_52 rfl hk12 hr14 ?_
        refine zw_go (pc1 := 110) (L1 := [some (.ref a0), some (.int x1), some (.int x2), some (.int v11), none, none, none]) (st1 := [.int x2, .ref b13]) (σ1 := σ10) zM_X7_build dX7_build_109 rfl rfl rfl rfl ?_
        refine zw_go (pc1 := 111) (L1 := [some (.ref a0), some (.int x1), some (.int x2), some (.int v11), none, none, none]) (st1 := [.ref a0, .int x2, .ref b13]) (σ1 := σ10) zM_X7_build dX7_build_110 rfl rfl rfl rfl ?_
        refine zw_getR (a := b13) zM_X7_build dX7_build_111 zF_7_52 rfl hk12 hr14 ?_
        refine zw_go (pc1 := 115) (L1 := [some (.ref a0), some (.int x1), some (.int x2), some (.int v11), none, none, none]) (st1 := [.int v11, .ref b13, .int x2, .ref b13]) (σ1 := σ10) zM_X7_build dX7_build_114 rfl rfl rfl rfl ?_
        obtain ⟨hk15, h⟩ := h
        obtain ⟨hi16, h⟩ := h
        refine zw_iald zM_X7_build dX7_build_115 ⟨Or.inl hk15, hi16⟩ ?_
        obtain ⟨hi17, h⟩ := h
        obtain ⟨σ18, e19⟩ : ∃ z9 : zx_S, z9 = zx_pI σ10 b13 (Int32.toNatClampNeg x2) (zI σ10 b13 (Int32.toNatClampNeg v11)) := ⟨_, rfl⟩
        replace h := h σ18 e19
        refine zw_iast zM_X7_build dX7_build_116 ⟨hk15, hi17⟩ e19 ?_
        refine zw_go (pc1 := 118) (L1 := [some (.ref a0), some (.int x1), some (.int x2), some (.int v11), none, none, none]) (st1 := [.ref a0]) (σ1 := σ18) zM_X7_build dX7_build_117 rfl rfl rfl rfl ?_
        obtain ⟨b20, hr21, h⟩ := h
        refine zw_getR (a := b20) zM_X7_build dX7_build_118 zF_7_58 rfl (by rw [e19]; exact hk12) hr21 ?_
        refine zw_go (pc1 := 122) (L1 := [some (.ref a0), some (.int x1), some (.int x2), some (.int v11), none, none, none]) (st1 := [.int x2, .ref b20]) (σ1 := σ18) zM_X7_build dX7_build_121 rfl rfl rfl rfl ?_
        refine zw_go (pc1 := 123) (L1 := [some (.ref a0), some (.int x1), some (.int x2), some (.int v11), none, none, none]) (st1 := [.ref a0, .int x2, .ref b20]) (σ1 := σ18) zM_X7_build dX7_build_122 rfl rfl rfl rfl ?_
        refine zw_getR (a := b20) zM_X7_build dX7_build_123 zF_7_58 rfl (by rw [e19]; exact hk12) hr21 ?_
        refine zw_go (pc1 := 127) (L1 := [some (.ref a0), some (.int x1), some (.int x2), some (.int v11), none, none, none]) (st1 := [.int v11, .ref b20, .int x2, .ref b20]) (σ1 := σ18) zM_X7_build dX7_build_126 rfl rfl rfl rfl ?_
        obtain ⟨hk22, h⟩ := h
        obtain ⟨hi23, h⟩ := h
        refine zw_iald zM_X7_build dX7_build_127 ⟨Or.inl hk22, hi23⟩ ?_
        obtain ⟨hi24, h⟩ := h
        obtain ⟨σ25, e26⟩ : ∃ z9 : zx_S, z9 = zx_pI σ18 b20 (Int32.toNatClampNeg x2) (zI σ18 b20 (Int32.toNatClampNeg v11)) := ⟨_, rfl⟩
        replace h := h σ25 e26
        refine zw_iast zM_X7_build dX7_build_128 ⟨hk22, hi24⟩ e26 ?_
        refine zw_go (pc1 := 130) (L1 := [some (.ref a0), some (.int x1), some (.int x2), some (.int v11), none, none, none]) (st1 := [.ref a0]) (σ1 := σ25) zM_X7_build dX7_build_129 rfl rfl rfl rfl ?_
        obtain ⟨b27, hr28, h⟩ := h
        refine zw_getR (a := b27) zM_X7_build dX7_build_130 zF_7_61 rfl (by rw [e26, e19]; exact hk12) hr28 ?_
        refine zw_go (pc1 := 134) (L1 := [some (.ref a0), some (.int x1), some (.int x2), some (.int v11), none, none, none]) (st1 := [.int x2, .ref b27]) (σ1 := σ25) zM_X7_build dX7_build_133 rfl rfl rfl rfl ?_
        refine zw_go (pc1 := 135) (L1 := [some (.ref a0), some (.int x1), some (.int x2), some (.int v11), none, none, none]) (st1 := [.ref a0, .int x2, .ref b27]) (σ1 := σ25) zM_X7_build dX7_build_134 rfl rfl rfl rfl ?_
        refine zw_getR (a := b27) zM_X7_build dX7_build_135 zF_7_61 rfl (by rw [e26, e19]; exact hk12) hr28 ?_
        refine zw_go (pc1 := 139) (L1 := [some (.ref a0), some (.int x1), some (.int x2), some (.int v11), none, none, none]) (st1 := [.int v11, .ref b27, .int x2, .ref b27]) (σ1 := σ25) zM_X7_build dX7_build_138 rfl rfl rfl rfl ?_
        obtain ⟨hk29, h⟩ := h
        obtain ⟨hi30, h⟩ := h
        refine zw_iald zM_X7_build dX7_build_139 ⟨Or.inl hk29, hi30⟩ ?_
        obtain ⟨hi31, h⟩ := h
        obtain ⟨σ32, e33⟩ : ∃ z9 : zx_S, z9 = zx_pI σ25 b27 (Int32.toNatClampNeg x2) (zI σ25 b27 (Int32.toNatClampNeg v11)) := ⟨_, rfl⟩
        replace h := h σ32 e33
        refine zw_iast zM_X7_build dX7_build_140 ⟨hk29, hi31⟩ e33 ?_
        refine zw_iconst (v := 0) zM_X7_build dX7_build_141 (by decide) ?_
        refine zw_go (pc1 := 144) (L1 := [some (.ref a0), some (.int x1), some (.int x2), some (.int v11), some (.int 0), none, none]) (st1 := []) (σ1 := σ32) zM_X7_build dX7_build_142 rfl rfl rfl rfl ?_
        exact zw_weak2 h ⟨rfl, rfl, rfl, rfl, rfl, trivial⟩
      · replace h := h.2 q
        refine zw_go (pc1 := 97) (L1 := [some (.ref a0), some (.int x1), some (.int x2), some (.int v11), none, none, none]) (st1 := [.ref a0]) (σ1 := σ10) zM_X7_build dX7_build_96 rfl rfl rfl rfl ?_
        refine zw_go (pc1 := 98) (L1 := [some (.ref a0), some (.int x1), some (.int x2), some (.int v11), none, none, none]) (st1 := [.int x2, .ref a0]) (σ1 := σ10) zM_X7_build dX7_build_97 rfl rfl rfl rfl ?_
        refine zw_go (pc1 := 99) (L1 := [some (.ref a0), some (.int x1), some (.int x2), some (.int v11), none, none, none]) (st1 := [.int x1, .int x2, .ref a0]) (σ1 := σ10) zM_X7_build dX7_build_98 rfl rfl rfl rfl ?_
        obtain ⟨hk34, h⟩ := h
        refine zw_callV (as := [.ref a0, .int x2, .int x1]) (rest := []) zM_X7_build dX7_build_99 (zx_calV zC_7_177) zM_X7_tellFile rfl rfl rfl rfl rfl (zx_args0 hk34 rfl) rfl h (fun σ35 h => ?_)
        refine zw_goto (tgt := 181) zM_X7_build dX7_build_102 rfl ?_
        exact zw_weak2 h ⟨rfl, rfl, rfl, trivial⟩
set_option maxHeartbeats 4000000 in
set_option maxRecDepth 100000 in
theorem vc_X7_build_144 (a0 : Nat) (x1 : Int32) (x2 : Int32) (x3 : Int32) (x4 : Int32) (σ : zx_S) (K : Int32 → zx_S → Prop) (h : (((13 : Int32) ≤ x4 → zwI 142 181 [some (.ref a0), some (.int x1), some (.int x2), none, none, none, none] [] σ K) ∧ (¬ (13 : Int32) ≤ x4 → zK σ a0 = 20 ∧ ∃ b2 : Nat, zR σ a0 24 = some b2 ∧ zK σ b2 = 1 ∧ zx_in ((13 * x3) + x4) (zN σ b2) = true ∧ zx_in ((13 * x2) + x4) (zN σ b2) = true ∧ ∀ σ7 : zx_S, σ7 = zx_pI σ b2 (Int32.toNatClampNeg ((13 * x2) + x4)) (zI σ b2 (Int32.toNatClampNeg ((13 * x3) + x4))) → zwI 142 144 [some (.ref a0), some (.int x1), some (.int x2), some (.int x3), some (.int (x4 + Int32.ofInt 1)), none, none] [] σ7 K))) : zwI 142 144 [some (.ref a0), some (.int x1), some (.int x2), some (.int x3), some (.int x4), none, none] [] σ K := by
  refine zw_go (pc1 := 146) (L1 := [some (.ref a0), some (.int x1), some (.int x2), some (.int x3), some (.int x4), none, none]) (st1 := [.int x4]) (σ1 := σ) zM_X7_build dX7_build_144 rfl rfl rfl rfl ?_
  refine zw_bipush (v := 13) zM_X7_build dX7_build_146 (by decide) ?_
  refine zw_icmp_ge (tgt := 181) zM_X7_build dX7_build_148 rfl rfl (fun q => ?_) (fun q => ?_)
  · replace h := h.1 q
    exact zw_weak2 h ⟨rfl, rfl, rfl, trivial⟩
  · replace h := h.2 q
    refine zw_go (pc1 := 152) (L1 := [some (.ref a0), some (.int x1), some (.int x2), some (.int x3), some (.int x4), none, none]) (st1 := [.ref a0]) (σ1 := σ) zM_X7_build dX7_build_151 rfl rfl rfl rfl ?_
    obtain ⟨hk1, h⟩ := h
    obtain ⟨b2, hr3, h⟩ := h
    refine zw_getR (a := b2) zM_X7_build dX7_build_152 zF_7_55 rfl hk1 hr3 ?_
    refine zw_bipush (v := 13) zM_X7_build dX7_build_155 (by decide) ?_
    refine zw_go (pc1 := 158) (L1 := [some (.ref a0), some (.int x1), some (.int x2), some (.int x3), some (.int x4), none, none]) (st1 := [.int x2, .int 13, .ref b2]) (σ1 := σ) zM_X7_build dX7_build_157 rfl rfl rfl rfl ?_
    refine zw_go (pc1 := 159) (L1 := [some (.ref a0), some (.int x1), some (.int x2), some (.int x3), some (.int x4), none, none]) (st1 := [.int (13 * x2), .ref b2]) (σ1 := σ) zM_X7_build dX7_build_158 rfl rfl rfl rfl ?_
    refine zw_go (pc1 := 161) (L1 := [some (.ref a0), some (.int x1), some (.int x2), some (.int x3), some (.int x4), none, none]) (st1 := [.int x4, .int (13 * x2), .ref b2]) (σ1 := σ) zM_X7_build dX7_build_159 rfl rfl rfl rfl ?_
    refine zw_go (pc1 := 162) (L1 := [some (.ref a0), some (.int x1), some (.int x2), some (.int x3), some (.int x4), none, none]) (st1 := [.int ((13 * x2) + x4), .ref b2]) (σ1 := σ) zM_X7_build dX7_build_161 rfl rfl rfl rfl ?_
    refine zw_go (pc1 := 163) (L1 := [some (.ref a0), some (.int x1), some (.int x2), some (.int x3), some (.int x4), none, none]) (st1 := [.ref a0, .int ((13 * x2) + x4), .ref b2]) (σ1 := σ) zM_X7_build dX7_build_162 rfl rfl rfl rfl ?_
    refine zw_getR (a := b2) zM_X7_build dX7_build_163 zF_7_55 rfl hk1 hr3 ?_
    refine zw_bipush (v := 13) zM_X7_build dX7_build_166 (by decide) ?_
    refine zw_go (pc1 := 169) (L1 := [some (.ref a0), some (.int x1), some (.int x2), some (.int x3), some (.int x4), none, none]) (st1 := [.int x3, .int 13, .ref b2, .int ((13 * x2) + x4), .ref b2]) (σ1 := σ) zM_X7_build dX7_build_168 rfl rfl rfl rfl ?_
    refine zw_go (pc1 := 170) (L1 := [some (.ref a0), some (.int x1), some (.int x2), some (.int x3), some (.int x4), none, none]) (st1 := [.int (13 * x3), .ref b2, .int ((13 * x2) + x4), .ref b2]) (σ1 := σ) zM_X7_build dX7_build_169 rfl rfl rfl rfl ?_
    refine zw_go (pc1 := 172) (L1 := [some (.ref a0), some (.int x1), some (.int x2), some (.int x3), some (.int x4), none, none]) (st1 := [.int x4, .int (13 * x3), .ref b2, .int ((13 * x2) + x4), .ref b2]) (σ1 := σ) zM_X7_build dX7_build_170 rfl rfl rfl rfl ?_
    refine zw_go (pc1 := 173) (L1 := [some (.ref a0), some (.int x1), some (.int x2), some (.int x3), some (.int x4), none, none]) (st1 := [.int ((13 * x3) + x4), .ref b2, .int ((13 * x2) + x4), .ref b2]) (σ1 := σ) zM_X7_build dX7_build_172 rfl rfl rfl rfl ?_
    obtain ⟨hk4, h⟩ := h
    obtain ⟨hi5, h⟩ := h
    refine zw_iald zM_X7_build dX7_build_173 ⟨Or.inl hk4, hi5⟩ ?_
    obtain ⟨hi6, h⟩ := h
    obtain ⟨σ7, e8⟩ : ∃ z9 : zx_S, z9 = zx_pI σ b2 (Int32.toNatClampNeg ((13 * x2) + x4)) (zI σ b2 (Int32.toNatClampNeg ((13 * x3) + x4))) := ⟨_, rfl⟩
    replace h := h σ7 e8
    refine zw_iast zM_X7_build dX7_build_174 ⟨hk4, hi6⟩ e8 ?_
    refine zw_go (pc1 := 178) (L1 := [some (.ref a0), some (.int x1), some (.int x2), some (.int x3), some (.int (x4 + Int32.ofInt 1)), none, none]) (st1 := []) (σ1 := σ7) zM_X7_build dX7_build_175 rfl rfl rfl rfl ?_
    refine zw_goto (tgt := 144) zM_X7_build dX7_build_178 rfl ?_
    exact zw_weak2 h ⟨rfl, rfl, rfl, rfl, rfl, trivial⟩
set_option maxHeartbeats 4000000 in
set_option maxRecDepth 100000 in
theorem vc_X7_build_181 (a0 : Nat) (x1 : Int32) (x2 : Int32) (σ : zx_S) (K : Int32 → zx_S → Prop) (h : zwI 142 62 [some (.ref a0), some (.int x1), some (.int (x2 + Int32.ofInt 1)), none, none, none, none] [] σ K) : zwI 142 181 [some (.ref a0), some (.int x1), some (.int x2), none, none, none, none] [] σ K := by
  refine zw_go (pc1 := 184) (L1 := [some (.ref a0), some (.int x1), some (.int (x2 + Int32.ofInt 1)), none, none, none, none]) (st1 := []) (σ1 := σ) zM_X7_build dX7_build_181 rfl rfl rfl rfl ?_
  refine zw_goto (tgt := 62) zM_X7_build dX7_build_184 rfl ?_
  exact zw_weak2 h ⟨rfl, rfl, rfl, trivial⟩
set_option maxHeartbeats 4000000 in
set_option maxRecDepth 100000 in
theorem vc_X7_build_189 (a0 : Nat) (x1 : Int32) (x2 : Int32) (σ : zx_S) (K : Int32 → zx_S → Prop) (h : zK σ a0 = 20 ∧ (((zI σ a0 27) ≤ x2 → zwV 205 0 [some (.ref a0), some (.int x1), none, none, none, none, none, none, none] [] σ (fun σ2 => zK σ2 a0 = 20 ∧ zwI 142 282 [some (.ref a0), some (.int x1), some (.int (zI σ a0 15)), some (.int (zI σ2 a0 15)), some (.int 1), none, none] [] σ2 K)) ∧ (¬ (zI σ a0 27) ≤ x2 → zwI 142 199 [some (.ref a0), some (.int x1), some (.int x2), some (.int 0), none, none, none] [] σ K))) : zwI 142 189 [some (.ref a0), some (.int x1), some (.int x2), none, none, none, none] [] σ K := by
  refine zw_go (pc1 := 190) (L1 := [some (.ref a0), some (.int x1), some (.int x2), none, none, none, none]) (st1 := [.int x2]) (σ1 := σ) zM_X7_build dX7_build_189 rfl rfl rfl rfl ?_
  refine zw_go (pc1 := 191) (L1 := [some (.ref a0), some (.int x1), some (.int x2), none, none, none, none]) (st1 := [.ref a0, .int x2]) (σ1 := σ) zM_X7_build dX7_build_190 rfl rfl rfl rfl ?_
  obtain ⟨hk1, h⟩ := h
  refine zw_getI zM_X7_build dX7_build_191 zF_7_165 rfl hk1 ?_
  refine zw_icmp_ge (tgt := 264) zM_X7_build dX7_build_194 rfl rfl (fun q => ?_) (fun q => ?_)
  · replace h := h.1 q
    refine zw_go (pc1 := 265) (L1 := [some (.ref a0), some (.int x1), some (.int x2), none, none, none, none]) (st1 := [.ref a0]) (σ1 := σ) zM_X7_build dX7_build_264 rfl rfl rfl rfl ?_
    refine zw_getI zM_X7_build dX7_build_265 zF_7_132 rfl hk1 ?_
    refine zw_go (pc1 := 269) (L1 := [some (.ref a0), some (.int x1), some (.int (zI σ a0 15)), none, none, none, none]) (st1 := []) (σ1 := σ) zM_X7_build dX7_build_268 rfl rfl rfl rfl ?_
    refine zw_go (pc1 := 270) (L1 := [some (.ref a0), some (.int x1), some (.int (zI σ a0 15)), none, none, none, none]) (st1 := [.ref a0]) (σ1 := σ) zM_X7_build dX7_build_269 rfl rfl rfl rfl ?_
    refine zw_go (pc1 := 271) (L1 := [some (.ref a0), some (.int x1), some (.int (zI σ a0 15)), none, none, none, none]) (st1 := [.int x1, .ref a0]) (σ1 := σ) zM_X7_build dX7_build_270 rfl rfl rfl rfl ?_
    refine zw_callV (as := [.ref a0, .int x1]) (rest := []) zM_X7_build dX7_build_271 (zx_calV zC_7_181) zM_X7_tellInodes rfl rfl rfl rfl rfl (zx_args0 hk1 rfl) rfl h (fun σ2 h => ?_)
    refine zw_go (pc1 := 275) (L1 := [some (.ref a0), some (.int x1), some (.int (zI σ a0 15)), none, none, none, none]) (st1 := [.ref a0]) (σ1 := σ2) zM_X7_build dX7_build_274 rfl rfl rfl rfl ?_
    obtain ⟨hk3, h⟩ := h
    refine zw_getI zM_X7_build dX7_build_275 zF_7_132 rfl hk3 ?_
    refine zw_go (pc1 := 279) (L1 := [some (.ref a0), some (.int x1), some (.int (zI σ a0 15)), some (.int (zI σ2 a0 15)), none, none, none]) (st1 := []) (σ1 := σ2) zM_X7_build dX7_build_278 rfl rfl rfl rfl ?_
    refine zw_iconst (v := 1) zM_X7_build dX7_build_279 (by decide) ?_
    refine zw_go (pc1 := 282) (L1 := [some (.ref a0), some (.int x1), some (.int (zI σ a0 15)), some (.int (zI σ2 a0 15)), some (.int 1), none, none]) (st1 := []) (σ1 := σ2) zM_X7_build dX7_build_280 rfl rfl rfl rfl ?_
    exact zw_weak2 h ⟨rfl, rfl, rfl, rfl, rfl, trivial⟩
  · replace h := h.2 q
    refine zw_iconst (v := 0) zM_X7_build dX7_build_197 (by decide) ?_
    refine zw_go (pc1 := 199) (L1 := [some (.ref a0), some (.int x1), some (.int x2), some (.int 0), none, none, none]) (st1 := []) (σ1 := σ) zM_X7_build dX7_build_198 rfl rfl rfl rfl ?_
    exact zw_weak2 h ⟨rfl, rfl, rfl, rfl, trivial⟩
set_option maxHeartbeats 4000000 in
set_option maxRecDepth 100000 in
theorem vc_X7_build_199 (a0 : Nat) (x1 : Int32) (x2 : Int32) (x3 : Int32) (σ : zx_S) (K : Int32 → zx_S → Prop) (h : zK σ a0 = 20 ∧ ∃ b2 : Nat, zR σ a0 28 = some b2 ∧ zK σ b2 = 1 ∧ zx_in x2 (zN σ b2) = true ∧ (((zI σ b2 (Int32.toNatClampNeg x2)) ≤ x3 → ∃ b6 : Nat, zR σ a0 30 = some b6 ∧ zK σ b6 = 1 ∧ zx_in x2 (zN σ b6) = true ∧ ∀ σ10 : zx_S, σ10 = zx_pI σ b6 (Int32.toNatClampNeg x2) (zI σ a0 15) → ∃ b12 : Nat, zR σ10 a0 31 = some b12 ∧ zx_in x2 (zN σ10 b2) = true ∧ zwI 200 0 [some (.ref a0), some (.int (zI σ10 b2 (Int32.toNatClampNeg x2))), none, none] [] σ10 (fun v16 σ15 => zK σ15 b12 = 1 ∧ zx_in x2 (zN σ15 b12) = true ∧ ∀ σ19 : zx_S, σ19 = zx_pI σ15 b12 (Int32.toNatClampNeg x2) v16 → zwI 142 189 [some (.ref a0), some (.int x1), some (.int (x2 + Int32.ofInt 1)), none, none, none, none] [] σ19 K)) ∧ (¬ (zI σ b2 (Int32.toNatClampNeg x2)) ≤ x3 → ∃ b21 : Nat, zR σ a0 20 = some b21 ∧ ∃ b23 : Nat, zR σ a0 29 = some b23 ∧ zK σ b23 = 1 ∧ zx_in ((32 * x2) + x3) (zN σ b23) = true ∧ zK σ b21 = 1 ∧ zx_in x3 (zN σ b21) = true ∧ ∀ σ29 : zx_S, σ29 = zx_pI σ b21 (Int32.toNatClampNeg x3) (zI σ b23 (Int32.toNatClampNeg ((32 * x2) + x3))) → zwI 142 199 [some (.ref a0), some (.int x1), some (.int x2), some (.int (x3 + Int32.ofInt 1)), none, none, none] [] σ29 K))) : zwI 142 199 [some (.ref a0), some (.int x1), some (.int x2), some (.int x3), none, none, none] [] σ K := by
  refine zw_go (pc1 := 200) (L1 := [some (.ref a0), some (.int x1), some (.int x2), some (.int x3), none, none, none]) (st1 := [.int x3]) (σ1 := σ) zM_X7_build dX7_build_199 rfl rfl rfl rfl ?_
  refine zw_go (pc1 := 201) (L1 := [some (.ref a0), some (.int x1), some (.int x2), some (.int x3), none, none, none]) (st1 := [.ref a0, .int x3]) (σ1 := σ) zM_X7_build dX7_build_200 rfl rfl rfl rfl ?_
  obtain ⟨hk1, h⟩ := h
  obtain ⟨b2, hr3, h⟩ := h
  refine zw_getR (a := b2) zM_X7_build dX7_build_201 zF_7_64 rfl hk1 hr3 ?_
  refine zw_go (pc1 := 205) (L1 := [some (.ref a0), some (.int x1), some (.int x2), some (.int x3), none, none, none]) (st1 := [.int x2, .ref b2, .int x3]) (σ1 := σ) zM_X7_build dX7_build_204 rfl rfl rfl rfl ?_
  obtain ⟨hk4, h⟩ := h
  obtain ⟨hi5, h⟩ := h
  refine zw_iald zM_X7_build dX7_build_205 ⟨Or.inl hk4, hi5⟩ ?_
  refine zw_icmp_ge (tgt := 232) zM_X7_build dX7_build_206 rfl rfl (fun q => ?_) (fun q => ?_)
  · replace h := h.1 q
    refine zw_go (pc1 := 233) (L1 := [some (.ref a0), some (.int x1), some (.int x2), some (.int x3), none, none, none]) (st1 := [.ref a0]) (σ1 := σ) zM_X7_build dX7_build_232 rfl rfl rfl rfl ?_
    obtain ⟨b6, hr7, h⟩ := h
    refine zw_getR (a := b6) zM_X7_build dX7_build_233 zF_7_70 rfl hk1 hr7 ?_
    refine zw_go (pc1 := 237) (L1 := [some (.ref a0), some (.int x1), some (.int x2), some (.int x3), none, none, none]) (st1 := [.int x2, .ref b6]) (σ1 := σ) zM_X7_build dX7_build_236 rfl rfl rfl rfl ?_
    refine zw_go (pc1 := 238) (L1 := [some (.ref a0), some (.int x1), some (.int x2), some (.int x3), none, none, none]) (st1 := [.ref a0, .int x2, .ref b6]) (σ1 := σ) zM_X7_build dX7_build_237 rfl rfl rfl rfl ?_
    refine zw_getI zM_X7_build dX7_build_238 zF_7_132 rfl hk1 ?_
    obtain ⟨hk8, h⟩ := h
    obtain ⟨hi9, h⟩ := h
    obtain ⟨σ10, e11⟩ : ∃ z9 : zx_S, z9 = zx_pI σ b6 (Int32.toNatClampNeg x2) (zI σ a0 15) := ⟨_, rfl⟩
    replace h := h σ10 e11
    refine zw_iast zM_X7_build dX7_build_241 ⟨hk8, hi9⟩ e11 ?_
    refine zw_go (pc1 := 243) (L1 := [some (.ref a0), some (.int x1), some (.int x2), some (.int x3), none, none, none]) (st1 := [.ref a0]) (σ1 := σ10) zM_X7_build dX7_build_242 rfl rfl rfl rfl ?_
    obtain ⟨b12, hr13, h⟩ := h
    refine zw_getR (a := b12) zM_X7_build dX7_build_243 zF_7_73 rfl (by rw [e11]; exact hk1) hr13 ?_
    refine zw_go (pc1 := 247) (L1 := [some (.ref a0), some (.int x1), some (.int x2), some (.int x3), none, none, none]) (st1 := [.int x2, .ref b12]) (σ1 := σ10) zM_X7_build dX7_build_246 rfl rfl rfl rfl ?_
    refine zw_go (pc1 := 248) (L1 := [some (.ref a0), some (.int x1), some (.int x2), some (.int x3), none, none, none]) (st1 := [.ref a0, .int x2, .ref b12]) (σ1 := σ10) zM_X7_build dX7_build_247 rfl rfl rfl rfl ?_
    refine zw_go (pc1 := 249) (L1 := [some (.ref a0), some (.int x1), some (.int x2), some (.int x3), none, none, none]) (st1 := [.ref a0, .ref a0, .int x2, .ref b12]) (σ1 := σ10) zM_X7_build dX7_build_248 rfl rfl rfl rfl ?_
    refine zw_getR (a := b2) zM_X7_build dX7_build_249 zF_7_64 rfl (by rw [e11]; exact hk1) (by rw [e11]; exact hr3) ?_
    refine zw_go (pc1 := 253) (L1 := [some (.ref a0), some (.int x1), some (.int x2), some (.int x3), none, none, none]) (st1 := [.int x2, .ref b2, .ref a0, .int x2, .ref b12]) (σ1 := σ10) zM_X7_build dX7_build_252 rfl rfl rfl rfl ?_
    obtain ⟨hi14, h⟩ := h
    refine zw_iald zM_X7_build dX7_build_253 ⟨Or.inl (by rw [e11]; exact hk4), hi14⟩ ?_
    refine zw_callI (as := [.ref a0, .int (zI σ10 b2 (Int32.toNatClampNeg x2))]) (rest := [.int x2, .ref b12]) zM_X7_build dX7_build_254 (zx_calV zC_7_162) zM_X7_store rfl rfl rfl rfl rfl (zx_args0 (by rw [e11]; exact hk1) rfl) rfl h (fun v16 σ15 h => ?_)
    obtain ⟨hk17, h⟩ := h
    obtain ⟨hi18, h⟩ := h
    obtain ⟨σ19, e20⟩ : ∃ z9 : zx_S, z9 = zx_pI σ15 b12 (Int32.toNatClampNeg x2) v16 := ⟨_, rfl⟩
    replace h := h σ19 e20
    refine zw_iast zM_X7_build dX7_build_257 ⟨hk17, hi18⟩ e20 ?_
    refine zw_go (pc1 := 261) (L1 := [some (.ref a0), some (.int x1), some (.int (x2 + Int32.ofInt 1)), some (.int x3), none, none, none]) (st1 := []) (σ1 := σ19) zM_X7_build dX7_build_258 rfl rfl rfl rfl ?_
    refine zw_goto (tgt := 189) zM_X7_build dX7_build_261 rfl ?_
    exact zw_weak2 h ⟨rfl, rfl, rfl, trivial⟩
  · replace h := h.2 q
    refine zw_go (pc1 := 210) (L1 := [some (.ref a0), some (.int x1), some (.int x2), some (.int x3), none, none, none]) (st1 := [.ref a0]) (σ1 := σ) zM_X7_build dX7_build_209 rfl rfl rfl rfl ?_
    obtain ⟨b21, hr22, h⟩ := h
    refine zw_getR (a := b21) zM_X7_build dX7_build_210 zF_7_46 rfl hk1 hr22 ?_
    refine zw_go (pc1 := 214) (L1 := [some (.ref a0), some (.int x1), some (.int x2), some (.int x3), none, none, none]) (st1 := [.int x3, .ref b21]) (σ1 := σ) zM_X7_build dX7_build_213 rfl rfl rfl rfl ?_
    refine zw_go (pc1 := 215) (L1 := [some (.ref a0), some (.int x1), some (.int x2), some (.int x3), none, none, none]) (st1 := [.ref a0, .int x3, .ref b21]) (σ1 := σ) zM_X7_build dX7_build_214 rfl rfl rfl rfl ?_
    obtain ⟨b23, hr24, h⟩ := h
    refine zw_getR (a := b23) zM_X7_build dX7_build_215 zF_7_67 rfl hk1 hr24 ?_
    refine zw_bipush (v := 32) zM_X7_build dX7_build_218 (by decide) ?_
    refine zw_go (pc1 := 221) (L1 := [some (.ref a0), some (.int x1), some (.int x2), some (.int x3), none, none, none]) (st1 := [.int x2, .int 32, .ref b23, .int x3, .ref b21]) (σ1 := σ) zM_X7_build dX7_build_220 rfl rfl rfl rfl ?_
    refine zw_go (pc1 := 222) (L1 := [some (.ref a0), some (.int x1), some (.int x2), some (.int x3), none, none, none]) (st1 := [.int (32 * x2), .ref b23, .int x3, .ref b21]) (σ1 := σ) zM_X7_build dX7_build_221 rfl rfl rfl rfl ?_
    refine zw_go (pc1 := 223) (L1 := [some (.ref a0), some (.int x1), some (.int x2), some (.int x3), none, none, none]) (st1 := [.int x3, .int (32 * x2), .ref b23, .int x3, .ref b21]) (σ1 := σ) zM_X7_build dX7_build_222 rfl rfl rfl rfl ?_
    refine zw_go (pc1 := 224) (L1 := [some (.ref a0), some (.int x1), some (.int x2), some (.int x3), none, none, none]) (st1 := [.int ((32 * x2) + x3), .ref b23, .int x3, .ref b21]) (σ1 := σ) zM_X7_build dX7_build_223 rfl rfl rfl rfl ?_
    obtain ⟨hk25, h⟩ := h
    obtain ⟨hi26, h⟩ := h
    refine zw_iald zM_X7_build dX7_build_224 ⟨Or.inl hk25, hi26⟩ ?_
    obtain ⟨hk27, h⟩ := h
    obtain ⟨hi28, h⟩ := h
    obtain ⟨σ29, e30⟩ : ∃ z9 : zx_S, z9 = zx_pI σ b21 (Int32.toNatClampNeg x3) (zI σ b23 (Int32.toNatClampNeg ((32 * x2) + x3))) := ⟨_, rfl⟩
    replace h := h σ29 e30
    refine zw_iast zM_X7_build dX7_build_225 ⟨hk27, hi28⟩ e30 ?_
    refine zw_go (pc1 := 229) (L1 := [some (.ref a0), some (.int x1), some (.int x2), some (.int (x3 + Int32.ofInt 1)), none, none, none]) (st1 := []) (σ1 := σ29) zM_X7_build dX7_build_226 rfl rfl rfl rfl ?_
    refine zw_goto (tgt := 199) zM_X7_build dX7_build_229 rfl ?_
    exact zw_weak2 h ⟨rfl, rfl, rfl, rfl, trivial⟩
set_option maxHeartbeats 4000000 in
set_option maxRecDepth 100000 in
theorem vc_X7_build_282 (a0 : Nat) (x1 : Int32) (x2 : Int32) (x3 : Int32) (x4 : Int32) (σ : zx_S) (K : Int32 → zx_S → Prop) (h : zK σ a0 = 20 ∧ (((zI σ a0 18) < x4 → zwI 142 386 [some (.ref a0), some (.int x1), some (.int x2), some (.int x3), some (.int (zI σ a0 15)), some (.int 0), none] [] σ K) ∧ (¬ (zI σ a0 18) < x4 → ∃ b2 : Nat, zR σ a0 17 = some b2 ∧ zK σ b2 = 1 ∧ zx_in x4 (zN σ b2) = true ∧ ∃ b6 : Nat, zR σ a0 2 = some b6 ∧ zK σ b6 = 1 ∧ zx_in (zI σ b2 (Int32.toNatClampNeg x4)) (zN σ b6) = true ∧ ((¬ (zI σ b6 (Int32.toNatClampNeg (zI σ b2 (Int32.toNatClampNeg x4)))) = (1 : Int32) → zwI 142 324 [some (.ref a0), some (.int x1), some (.int x2), some (.int x3), some (.int x4), some (.int (zI σ b2 (Int32.toNatClampNeg x4))), none] [.int 1000] σ K) ∧ ((zI σ b6 (Int32.toNatClampNeg (zI σ b2 (Int32.toNatClampNeg x4)))) = (1 : Int32) → zwI 187 0 [some (.ref a0), some (.int (zI σ b2 (Int32.toNatClampNeg x4))), some (.int 0), none, none] [] σ (fun v11 σ10 => zwI 142 324 [some (.ref a0), some (.int x1), some (.int x2), some (.int x3), some (.int x4), some (.int (zI σ b2 (Int32.toNatClampNeg x4))), none] [.int v11] σ10 K)))))) : zwI 142 282 [some (.ref a0), some (.int x1), some (.int x2), some (.int x3), some (.int x4), none, none] [] σ K := by
  refine zw_go (pc1 := 284) (L1 := [some (.ref a0), some (.int x1), some (.int x2), some (.int x3), some (.int x4), none, none]) (st1 := [.int x4]) (σ1 := σ) zM_X7_build dX7_build_282 rfl rfl rfl rfl ?_
  refine zw_go (pc1 := 285) (L1 := [some (.ref a0), some (.int x1), some (.int x2), some (.int x3), some (.int x4), none, none]) (st1 := [.ref a0, .int x4]) (σ1 := σ) zM_X7_build dX7_build_284 rfl rfl rfl rfl ?_
  obtain ⟨hk1, h⟩ := h
  refine zw_getI zM_X7_build dX7_build_285 zF_7_142 rfl hk1 ?_
  refine zw_icmp_gt (tgt := 377) zM_X7_build dX7_build_288 rfl rfl (fun q => ?_) (fun q => ?_)
  · replace h := h.1 q
    refine zw_go (pc1 := 378) (L1 := [some (.ref a0), some (.int x1), some (.int x2), some (.int x3), some (.int x4), none, none]) (st1 := [.ref a0]) (σ1 := σ) zM_X7_build dX7_build_377 rfl rfl rfl rfl ?_
    refine zw_getI zM_X7_build dX7_build_378 zF_7_132 rfl hk1 ?_
    refine zw_go (pc1 := 383) (L1 := [some (.ref a0), some (.int x1), some (.int x2), some (.int x3), some (.int (zI σ a0 15)), none, none]) (st1 := []) (σ1 := σ) zM_X7_build dX7_build_381 rfl rfl rfl rfl ?_
    refine zw_iconst (v := 0) zM_X7_build dX7_build_383 (by decide) ?_
    refine zw_go (pc1 := 386) (L1 := [some (.ref a0), some (.int x1), some (.int x2), some (.int x3), some (.int (zI σ a0 15)), some (.int 0), none]) (st1 := []) (σ1 := σ) zM_X7_build dX7_build_384 rfl rfl rfl rfl ?_
    exact zw_weak2 h ⟨rfl, rfl, rfl, rfl, rfl, rfl, trivial⟩
  · replace h := h.2 q
    refine zw_go (pc1 := 292) (L1 := [some (.ref a0), some (.int x1), some (.int x2), some (.int x3), some (.int x4), none, none]) (st1 := [.ref a0]) (σ1 := σ) zM_X7_build dX7_build_291 rfl rfl rfl rfl ?_
    obtain ⟨b2, hr3, h⟩ := h
    refine zw_getR (a := b2) zM_X7_build dX7_build_292 zF_7_43 rfl hk1 hr3 ?_
    refine zw_go (pc1 := 297) (L1 := [some (.ref a0), some (.int x1), some (.int x2), some (.int x3), some (.int x4), none, none]) (st1 := [.int x4, .ref b2]) (σ1 := σ) zM_X7_build dX7_build_295 rfl rfl rfl rfl ?_
    obtain ⟨hk4, h⟩ := h
    obtain ⟨hi5, h⟩ := h
    refine zw_iald zM_X7_build dX7_build_297 ⟨Or.inl hk4, hi5⟩ ?_
    refine zw_go (pc1 := 300) (L1 := [some (.ref a0), some (.int x1), some (.int x2), some (.int x3), some (.int x4), some (.int (zI σ b2 (Int32.toNatClampNeg x4))), none]) (st1 := []) (σ1 := σ) zM_X7_build dX7_build_298 rfl rfl rfl rfl ?_
    refine zw_go (pc1 := 301) (L1 := [some (.ref a0), some (.int x1), some (.int x2), some (.int x3), some (.int x4), some (.int (zI σ b2 (Int32.toNatClampNeg x4))), none]) (st1 := [.ref a0]) (σ1 := σ) zM_X7_build dX7_build_300 rfl rfl rfl rfl ?_
    obtain ⟨b6, hr7, h⟩ := h
    refine zw_getR (a := b6) zM_X7_build dX7_build_301 zF_7_7 rfl hk1 hr7 ?_
    refine zw_go (pc1 := 306) (L1 := [some (.ref a0), some (.int x1), some (.int x2), some (.int x3), some (.int x4), some (.int (zI σ b2 (Int32.toNatClampNeg x4))), none]) (st1 := [.int (zI σ b2 (Int32.toNatClampNeg x4)), .ref b6]) (σ1 := σ) zM_X7_build dX7_build_304 rfl rfl rfl rfl ?_
    obtain ⟨hk8, h⟩ := h
    obtain ⟨hi9, h⟩ := h
    refine zw_iald zM_X7_build dX7_build_306 ⟨Or.inl hk8, hi9⟩ ?_
    refine zw_iconst (v := 1) zM_X7_build dX7_build_307 (by decide) ?_
    refine zw_icmp_ne (tgt := 321) zM_X7_build dX7_build_308 rfl rfl (fun q => ?_) (fun q => ?_)
    · replace h := h.1 q
      refine zw_sipush (v := 1000) zM_X7_build dX7_build_321 (by decide) ?_
      exact zw_weak2 h ⟨rfl, rfl, rfl, rfl, rfl, rfl, trivial⟩
    · replace h := h.2 q
      refine zw_go (pc1 := 312) (L1 := [some (.ref a0), some (.int x1), some (.int x2), some (.int x3), some (.int x4), some (.int (zI σ b2 (Int32.toNatClampNeg x4))), none]) (st1 := [.ref a0]) (σ1 := σ) zM_X7_build dX7_build_311 rfl rfl rfl rfl ?_
      refine zw_go (pc1 := 314) (L1 := [some (.ref a0), some (.int x1), some (.int x2), some (.int x3), some (.int x4), some (.int (zI σ b2 (Int32.toNatClampNeg x4))), none]) (st1 := [.int (zI σ b2 (Int32.toNatClampNeg x4)), .ref a0]) (σ1 := σ) zM_X7_build dX7_build_312 rfl rfl rfl rfl ?_
      refine zw_iconst (v := 0) zM_X7_build dX7_build_314 (by decide) ?_
      refine zw_callI (as := [.ref a0, .int (zI σ b2 (Int32.toNatClampNeg x4)), .int 0]) (rest := []) zM_X7_build dX7_build_315 (zx_calV zC_7_145) zM_X7_nextName rfl rfl rfl rfl rfl (zx_args0 hk1 rfl) rfl h (fun v11 σ10 h => ?_)
      refine zw_goto (tgt := 324) zM_X7_build dX7_build_318 rfl ?_
      exact zw_weak2 h ⟨rfl, rfl, rfl, rfl, rfl, rfl, trivial⟩
set_option maxHeartbeats 4000000 in
set_option maxRecDepth 100000 in
theorem vc_X7_build_324 (a0 : Nat) (x1 : Int32) (x2 : Int32) (x3 : Int32) (x4 : Int32) (x5 : Int32) (y0 : Int32) (σ : zx_S) (K : Int32 → zx_S → Prop) (h : zwI 142 326 [some (.ref a0), some (.int x1), some (.int x2), some (.int x3), some (.int x4), some (.int x5), some (.int y0)] [] σ K) : zwI 142 324 [some (.ref a0), some (.int x1), some (.int x2), some (.int x3), some (.int x4), some (.int x5), none] [.int y0] σ K := by
  refine zw_go (pc1 := 326) (L1 := [some (.ref a0), some (.int x1), some (.int x2), some (.int x3), some (.int x4), some (.int x5), some (.int y0)]) (st1 := []) (σ1 := σ) zM_X7_build dX7_build_324 rfl rfl rfl rfl ?_
  exact zw_weak2 h ⟨rfl, rfl, rfl, rfl, rfl, rfl, rfl, trivial⟩
set_option maxHeartbeats 4000000 in
set_option maxRecDepth 100000 in
theorem vc_X7_build_326 (a0 : Nat) (x1 : Int32) (x2 : Int32) (x3 : Int32) (x4 : Int32) (x5 : Int32) (x6 : Int32) (σ : zx_S) (K : Int32 → zx_S → Prop) (h : (((1000 : Int32) ≤ x6 → zwI 142 282 [some (.ref a0), some (.int x1), some (.int x2), some (.int x3), some (.int (x4 + Int32.ofInt 1)), none, none] [] σ K) ∧ (¬ (1000 : Int32) ≤ x6 → zK σ a0 = 20 ∧ zwV 206 0 [some (.ref a0), some (.int x6)] [] σ (fun σ2 => zK σ2 a0 = 20 ∧ ∃ b4 : Nat, zR σ2 a0 16 = some b4 ∧ ∃ b6 : Nat, zR σ2 a0 10 = some b6 ∧ zK σ2 b6 = 1 ∧ zx_in (zI σ2 a0 19) (zN σ2 b6) = true ∧ zK σ2 b4 = 1 ∧ zx_in (zI σ2 b6 (Int32.toNatClampNeg (zI σ2 a0 19))) (zN σ2 b4) = true ∧ zwV 206 0 [some (.ref a0), some (.int (zI σ2 b4 (Int32.toNatClampNeg (zI σ2 b6 (Int32.toNatClampNeg (zI σ2 a0 19))))))] [] σ2 (fun σ12 => zK σ12 a0 = 20 ∧ zwI 187 0 [some (.ref a0), some (.int x5), some (.int x6), none, none] [] σ12 (fun v15 σ14 => zwI 142 326 [some (.ref a0), some (.int x1), some (.int x2), some (.int x3), some (.int x4), some (.int x5), some (.int v15)] [] σ14 K)))))) : zwI 142 326 [some (.ref a0), some (.int x1), some (.int x2), some (.int x3), some (.int x4), some (.int x5), some (.int x6)] [] σ K := by
  refine zw_go (pc1 := 328) (L1 := [some (.ref a0), some (.int x1), some (.int x2), some (.int x3), some (.int x4), some (.int x5), some (.int x6)]) (st1 := [.int x6]) (σ1 := σ) zM_X7_build dX7_build_326 rfl rfl rfl rfl ?_
  refine zw_sipush (v := 1000) zM_X7_build dX7_build_328 (by decide) ?_
  refine zw_icmp_ge (tgt := 371) zM_X7_build dX7_build_331 rfl rfl (fun q => ?_) (fun q => ?_)
  · replace h := h.1 q
    refine zw_go (pc1 := 374) (L1 := [some (.ref a0), some (.int x1), some (.int x2), some (.int x3), some (.int (x4 + Int32.ofInt 1)), some (.int x5), some (.int x6)]) (st1 := []) (σ1 := σ) zM_X7_build dX7_build_371 rfl rfl rfl rfl ?_
    refine zw_goto (tgt := 282) zM_X7_build dX7_build_374 rfl ?_
    exact zw_weak2 h ⟨rfl, rfl, rfl, rfl, rfl, trivial⟩
  · replace h := h.2 q
    refine zw_go (pc1 := 335) (L1 := [some (.ref a0), some (.int x1), some (.int x2), some (.int x3), some (.int x4), some (.int x5), some (.int x6)]) (st1 := [.ref a0]) (σ1 := σ) zM_X7_build dX7_build_334 rfl rfl rfl rfl ?_
    refine zw_go (pc1 := 337) (L1 := [some (.ref a0), some (.int x1), some (.int x2), some (.int x3), some (.int x4), some (.int x5), some (.int x6)]) (st1 := [.int x6, .ref a0]) (σ1 := σ) zM_X7_build dX7_build_335 rfl rfl rfl rfl ?_
    obtain ⟨hk1, h⟩ := h
    refine zw_callV (as := [.ref a0, .int x6]) (rest := []) zM_X7_build dX7_build_337 (zx_calV zC_7_184) zM_X7_tellWord rfl rfl rfl rfl rfl (zx_args0 hk1 rfl) rfl h (fun σ2 h => ?_)
    refine zw_go (pc1 := 341) (L1 := [some (.ref a0), some (.int x1), some (.int x2), some (.int x3), some (.int x4), some (.int x5), some (.int x6)]) (st1 := [.ref a0]) (σ1 := σ2) zM_X7_build dX7_build_340 rfl rfl rfl rfl ?_
    refine zw_go (pc1 := 342) (L1 := [some (.ref a0), some (.int x1), some (.int x2), some (.int x3), some (.int x4), some (.int x5), some (.int x6)]) (st1 := [.ref a0, .ref a0]) (σ1 := σ2) zM_X7_build dX7_build_341 rfl rfl rfl rfl ?_
    obtain ⟨hk3, h⟩ := h
    obtain ⟨b4, hr5, h⟩ := h
    refine zw_getR (a := b4) zM_X7_build dX7_build_342 zF_7_40 rfl hk3 hr5 ?_
    refine zw_go (pc1 := 346) (L1 := [some (.ref a0), some (.int x1), some (.int x2), some (.int x3), some (.int x4), some (.int x5), some (.int x6)]) (st1 := [.ref a0, .ref b4, .ref a0]) (σ1 := σ2) zM_X7_build dX7_build_345 rfl rfl rfl rfl ?_
    obtain ⟨b6, hr7, h⟩ := h
    refine zw_getR (a := b6) zM_X7_build dX7_build_346 zF_7_31 rfl hk3 hr7 ?_
    refine zw_go (pc1 := 350) (L1 := [some (.ref a0), some (.int x1), some (.int x2), some (.int x3), some (.int x4), some (.int x5), some (.int x6)]) (st1 := [.ref a0, .ref b6, .ref b4, .ref a0]) (σ1 := σ2) zM_X7_build dX7_build_349 rfl rfl rfl rfl ?_
    refine zw_getI zM_X7_build dX7_build_350 zF_7_139 rfl hk3 ?_
    obtain ⟨hk8, h⟩ := h
    obtain ⟨hi9, h⟩ := h
    refine zw_iald zM_X7_build dX7_build_353 ⟨Or.inl hk8, hi9⟩ ?_
    obtain ⟨hk10, h⟩ := h
    obtain ⟨hi11, h⟩ := h
    refine zw_iald zM_X7_build dX7_build_354 ⟨Or.inl hk10, hi11⟩ ?_
    refine zw_callV (as := [.ref a0, .int (zI σ2 b4 (Int32.toNatClampNeg (zI σ2 b6 (Int32.toNatClampNeg (zI σ2 a0 19)))))]) (rest := []) zM_X7_build dX7_build_355 (zx_calV zC_7_184) zM_X7_tellWord rfl rfl rfl rfl rfl (zx_args0 hk3 rfl) rfl h (fun σ12 h => ?_)
    refine zw_go (pc1 := 359) (L1 := [some (.ref a0), some (.int x1), some (.int x2), some (.int x3), some (.int x4), some (.int x5), some (.int x6)]) (st1 := [.ref a0]) (σ1 := σ12) zM_X7_build dX7_build_358 rfl rfl rfl rfl ?_
    refine zw_go (pc1 := 361) (L1 := [some (.ref a0), some (.int x1), some (.int x2), some (.int x3), some (.int x4), some (.int x5), some (.int x6)]) (st1 := [.int x5, .ref a0]) (σ1 := σ12) zM_X7_build dX7_build_359 rfl rfl rfl rfl ?_
    refine zw_go (pc1 := 363) (L1 := [some (.ref a0), some (.int x1), some (.int x2), some (.int x3), some (.int x4), some (.int x5), some (.int x6)]) (st1 := [.int x6, .int x5, .ref a0]) (σ1 := σ12) zM_X7_build dX7_build_361 rfl rfl rfl rfl ?_
    obtain ⟨hk13, h⟩ := h
    refine zw_callI (as := [.ref a0, .int x5, .int x6]) (rest := []) zM_X7_build dX7_build_363 (zx_calV zC_7_145) zM_X7_nextName rfl rfl rfl rfl rfl (zx_args0 hk13 rfl) rfl h (fun v15 σ14 h => ?_)
    refine zw_go (pc1 := 368) (L1 := [some (.ref a0), some (.int x1), some (.int x2), some (.int x3), some (.int x4), some (.int x5), some (.int v15)]) (st1 := []) (σ1 := σ14) zM_X7_build dX7_build_366 rfl rfl rfl rfl ?_
    refine zw_goto (tgt := 326) zM_X7_build dX7_build_368 rfl ?_
    exact zw_weak2 h ⟨rfl, rfl, rfl, rfl, rfl, rfl, rfl, trivial⟩
set_option maxHeartbeats 4000000 in
set_option maxRecDepth 100000 in
theorem vc_X7_build_386 (a0 : Nat) (x1 : Int32) (x2 : Int32) (x3 : Int32) (x4 : Int32) (x5 : Int32) (σ : zx_S) (K : Int32 → zx_S → Prop) (h : zK σ a0 = 20 ∧ (((zI σ a0 27) ≤ x5 → zwI 142 443 [some (.ref a0), some (.int x1), some (.int x2), some (.int x3), some (.int x4), some (.int (zI σ a0 15)), some (.int 1)] [] σ K) ∧ (¬ (zI σ a0 27) ≤ x5 → ∃ b2 : Nat, zR σ a0 30 = some b2 ∧ zK σ b2 = 1 ∧ zx_in x5 (zN σ b2) = true ∧ zwV 206 0 [some (.ref a0), some (.int (zI σ b2 (Int32.toNatClampNeg x5)))] [] σ (fun σ6 => zK σ6 a0 = 20 ∧ ∃ b8 : Nat, zR σ6 a0 31 = some b8 ∧ zK σ6 b8 = 1 ∧ zx_in x5 (zN σ6 b8) = true ∧ zwV 206 0 [some (.ref a0), some (.int (zI σ6 b8 (Int32.toNatClampNeg x5)))] [] σ6 (fun σ12 => zK σ12 a0 = 20 ∧ ∃ b14 : Nat, zR σ12 a0 28 = some b14 ∧ zK σ12 b14 = 1 ∧ zx_in x5 (zN σ12 b14) = true ∧ zwV 203 0 [some (.ref a0), some (.int (zI σ12 b14 (Int32.toNatClampNeg x5)))] [] σ12 (fun σ18 => zwI 142 386 [some (.ref a0), some (.int x1), some (.int x2), some (.int x3), some (.int x4), some (.int (x5 + Int32.ofInt 1)), none] [] σ18 K)))))) : zwI 142 386 [some (.ref a0), some (.int x1), some (.int x2), some (.int x3), some (.int x4), some (.int x5), none] [] σ K := by
  refine zw_go (pc1 := 388) (L1 := [some (.ref a0), some (.int x1), some (.int x2), some (.int x3), some (.int x4), some (.int x5), none]) (st1 := [.int x5]) (σ1 := σ) zM_X7_build dX7_build_386 rfl rfl rfl rfl ?_
  refine zw_go (pc1 := 389) (L1 := [some (.ref a0), some (.int x1), some (.int x2), some (.int x3), some (.int x4), some (.int x5), none]) (st1 := [.ref a0, .int x5]) (σ1 := σ) zM_X7_build dX7_build_388 rfl rfl rfl rfl ?_
  obtain ⟨hk1, h⟩ := h
  refine zw_getI zM_X7_build dX7_build_389 zF_7_165 rfl hk1 ?_
  refine zw_icmp_ge (tgt := 434) zM_X7_build dX7_build_392 rfl rfl (fun q => ?_) (fun q => ?_)
  · replace h := h.1 q
    refine zw_go (pc1 := 435) (L1 := [some (.ref a0), some (.int x1), some (.int x2), some (.int x3), some (.int x4), some (.int x5), none]) (st1 := [.ref a0]) (σ1 := σ) zM_X7_build dX7_build_434 rfl rfl rfl rfl ?_
    refine zw_getI zM_X7_build dX7_build_435 zF_7_132 rfl hk1 ?_
    refine zw_go (pc1 := 440) (L1 := [some (.ref a0), some (.int x1), some (.int x2), some (.int x3), some (.int x4), some (.int (zI σ a0 15)), none]) (st1 := []) (σ1 := σ) zM_X7_build dX7_build_438 rfl rfl rfl rfl ?_
    refine zw_iconst (v := 1) zM_X7_build dX7_build_440 (by decide) ?_
    refine zw_go (pc1 := 443) (L1 := [some (.ref a0), some (.int x1), some (.int x2), some (.int x3), some (.int x4), some (.int (zI σ a0 15)), some (.int 1)]) (st1 := []) (σ1 := σ) zM_X7_build dX7_build_441 rfl rfl rfl rfl ?_
    exact zw_weak2 h ⟨rfl, rfl, rfl, rfl, rfl, rfl, rfl, trivial⟩
  · replace h := h.2 q
    refine zw_go (pc1 := 396) (L1 := [some (.ref a0), some (.int x1), some (.int x2), some (.int x3), some (.int x4), some (.int x5), none]) (st1 := [.ref a0]) (σ1 := σ) zM_X7_build dX7_build_395 rfl rfl rfl rfl ?_
    refine zw_go (pc1 := 397) (L1 := [some (.ref a0), some (.int x1), some (.int x2), some (.int x3), some (.int x4), some (.int x5), none]) (st1 := [.ref a0, .ref a0]) (σ1 := σ) zM_X7_build dX7_build_396 rfl rfl rfl rfl ?_
    obtain ⟨b2, hr3, h⟩ := h
    refine zw_getR (a := b2) zM_X7_build dX7_build_397 zF_7_70 rfl hk1 hr3 ?_
    refine zw_go (pc1 := 402) (L1 := [some (.ref a0), some (.int x1), some (.int x2), some (.int x3), some (.int x4), some (.int x5), none]) (st1 := [.int x5, .ref b2, .ref a0]) (σ1 := σ) zM_X7_build dX7_build_400 rfl rfl rfl rfl ?_
    obtain ⟨hk4, h⟩ := h
    obtain ⟨hi5, h⟩ := h
    refine zw_iald zM_X7_build dX7_build_402 ⟨Or.inl hk4, hi5⟩ ?_
    refine zw_callV (as := [.ref a0, .int (zI σ b2 (Int32.toNatClampNeg x5))]) (rest := []) zM_X7_build dX7_build_403 (zx_calV zC_7_184) zM_X7_tellWord rfl rfl rfl rfl rfl (zx_args0 hk1 rfl) rfl h (fun σ6 h => ?_)
    refine zw_go (pc1 := 407) (L1 := [some (.ref a0), some (.int x1), some (.int x2), some (.int x3), some (.int x4), some (.int x5), none]) (st1 := [.ref a0]) (σ1 := σ6) zM_X7_build dX7_build_406 rfl rfl rfl rfl ?_
    refine zw_go (pc1 := 408) (L1 := [some (.ref a0), some (.int x1), some (.int x2), some (.int x3), some (.int x4), some (.int x5), none]) (st1 := [.ref a0, .ref a0]) (σ1 := σ6) zM_X7_build dX7_build_407 rfl rfl rfl rfl ?_
    obtain ⟨hk7, h⟩ := h
    obtain ⟨b8, hr9, h⟩ := h
    refine zw_getR (a := b8) zM_X7_build dX7_build_408 zF_7_73 rfl hk7 hr9 ?_
    refine zw_go (pc1 := 413) (L1 := [some (.ref a0), some (.int x1), some (.int x2), some (.int x3), some (.int x4), some (.int x5), none]) (st1 := [.int x5, .ref b8, .ref a0]) (σ1 := σ6) zM_X7_build dX7_build_411 rfl rfl rfl rfl ?_
    obtain ⟨hk10, h⟩ := h
    obtain ⟨hi11, h⟩ := h
    refine zw_iald zM_X7_build dX7_build_413 ⟨Or.inl hk10, hi11⟩ ?_
    refine zw_callV (as := [.ref a0, .int (zI σ6 b8 (Int32.toNatClampNeg x5))]) (rest := []) zM_X7_build dX7_build_414 (zx_calV zC_7_184) zM_X7_tellWord rfl rfl rfl rfl rfl (zx_args0 hk7 rfl) rfl h (fun σ12 h => ?_)
    refine zw_go (pc1 := 418) (L1 := [some (.ref a0), some (.int x1), some (.int x2), some (.int x3), some (.int x4), some (.int x5), none]) (st1 := [.ref a0]) (σ1 := σ12) zM_X7_build dX7_build_417 rfl rfl rfl rfl ?_
    refine zw_go (pc1 := 419) (L1 := [some (.ref a0), some (.int x1), some (.int x2), some (.int x3), some (.int x4), some (.int x5), none]) (st1 := [.ref a0, .ref a0]) (σ1 := σ12) zM_X7_build dX7_build_418 rfl rfl rfl rfl ?_
    obtain ⟨hk13, h⟩ := h
    obtain ⟨b14, hr15, h⟩ := h
    refine zw_getR (a := b14) zM_X7_build dX7_build_419 zF_7_64 rfl hk13 hr15 ?_
    refine zw_go (pc1 := 424) (L1 := [some (.ref a0), some (.int x1), some (.int x2), some (.int x3), some (.int x4), some (.int x5), none]) (st1 := [.int x5, .ref b14, .ref a0]) (σ1 := σ12) zM_X7_build dX7_build_422 rfl rfl rfl rfl ?_
    obtain ⟨hk16, h⟩ := h
    obtain ⟨hi17, h⟩ := h
    refine zw_iald zM_X7_build dX7_build_424 ⟨Or.inl hk16, hi17⟩ ?_
    refine zw_callV (as := [.ref a0, .int (zI σ12 b14 (Int32.toNatClampNeg x5))]) (rest := []) zM_X7_build dX7_build_425 (zx_calV zC_7_135) zM_X7_tell rfl rfl rfl rfl rfl (zx_args0 hk13 rfl) rfl h (fun σ18 h => ?_)
    refine zw_go (pc1 := 431) (L1 := [some (.ref a0), some (.int x1), some (.int x2), some (.int x3), some (.int x4), some (.int (x5 + Int32.ofInt 1)), none]) (st1 := []) (σ1 := σ18) zM_X7_build dX7_build_428 rfl rfl rfl rfl ?_
    refine zw_goto (tgt := 386) zM_X7_build dX7_build_431 rfl ?_
    exact zw_weak2 h ⟨rfl, rfl, rfl, rfl, rfl, rfl, trivial⟩
set_option maxHeartbeats 4000000 in
set_option maxRecDepth 100000 in
theorem vc_X7_build_443 (a0 : Nat) (x1 : Int32) (x2 : Int32) (x3 : Int32) (x4 : Int32) (x5 : Int32) (x6 : Int32) (σ : zx_S) (K : Int32 → zx_S → Prop) (h : zK σ a0 = 20 ∧ (((zI σ a0 18) < x6 → ∃ b2 : Nat, zR σ a0 13 = some b2 ∧ zK σ b2 = 1 ∧ zx_in (zI σ a0 14) (zN σ b2) = true ∧ ∀ σ6 : zx_S, σ6 = zx_pI σ b2 (Int32.toNatClampNeg (zI σ a0 14)) (zI σ a0 15) → ∀ σ8 : zx_S, σ8 = zx_pI σ6 a0 15 0 → zwV 203 0 [some (.ref a0), some (.int 84)] [] σ8 (fun σ10 => zK σ10 a0 = 20 ∧ zwV 203 0 [some (.ref a0), some (.int 73)] [] σ10 (fun σ12 => zK σ12 a0 = 20 ∧ zwV 203 0 [some (.ref a0), some (.int x1)] [] σ12 (fun σ14 => zK σ14 a0 = 20 ∧ zwV 203 0 [some (.ref a0), some (.int 0)] [] σ14 (fun σ16 => zK σ16 a0 = 20 ∧ zwV 206 0 [some (.ref a0), some (.int (zI σ16 a0 18))] [] σ16 (fun σ18 => zK σ18 a0 = 20 ∧ zwV 206 0 [some (.ref a0), some (.int x2)] [] σ18 (fun σ20 => zK σ20 a0 = 20 ∧ zwV 206 0 [some (.ref a0), some (.int x3)] [] σ20 (fun σ22 => zK σ22 a0 = 20 ∧ zwV 206 0 [some (.ref a0), some (.int x4)] [] σ22 (fun σ24 => zK σ24 a0 = 20 ∧ zwV 206 0 [some (.ref a0), some (.int x5)] [] σ24 (fun σ26 => zK σ26 a0 = 20 ∧ ∃ b28 : Nat, zR σ26 a0 13 = some b28 ∧ zK σ26 b28 = 1 ∧ zx_in (zI σ26 a0 14) (zN σ26 b28) = true ∧ zwV 206 0 [some (.ref a0), some (.int (zI σ26 b28 (Int32.toNatClampNeg (zI σ26 a0 14))))] [] σ26 (fun σ32 => zK σ32 a0 = 20 ∧ zwI 201 0 [some (.ref a0), some (.int (zI σ32 a0 14)), none, none, none] [] σ32 (fun v35 σ34 => zK σ34 a0 = 20 ∧ zwV 197 0 [some (.ref a0), some (.int 16), some (.int v35)] [] σ34 (fun σ37 => zK σ37 a0 = 20 ∧ ∀ σ39 : zx_S, σ39 = zx_pI σ37 a0 11 ((zI σ37 a0 11) + 1) → K ((zI σ39 a0 11) - 1) σ39))))))))))))) ∧ (¬ (zI σ a0 18) < x6 → ∃ b41 : Nat, zR σ a0 32 = some b41 ∧ zK σ b41 = 1 ∧ zx_in x6 (zN σ b41) = true ∧ zwV 206 0 [some (.ref a0), some (.int (zI σ b41 (Int32.toNatClampNeg x6)))] [] σ (fun σ45 => zwI 142 443 [some (.ref a0), some (.int x1), some (.int x2), some (.int x3), some (.int x4), some (.int x5), some (.int (x6 + Int32.ofInt 1))] [] σ45 K)))) : zwI 142 443 [some (.ref a0), some (.int x1), some (.int x2), some (.int x3), some (.int x4), some (.int x5), some (.int x6)] [] σ K := by
  refine zw_go (pc1 := 445) (L1 := [some (.ref a0), some (.int x1), some (.int x2), some (.int x3), some (.int x4), some (.int x5), some (.int x6)]) (st1 := [.int x6]) (σ1 := σ) zM_X7_build dX7_build_443 rfl rfl rfl rfl ?_
  refine zw_go (pc1 := 446) (L1 := [some (.ref a0), some (.int x1), some (.int x2), some (.int x3), some (.int x4), some (.int x5), some (.int x6)]) (st1 := [.ref a0, .int x6]) (σ1 := σ) zM_X7_build dX7_build_445 rfl rfl rfl rfl ?_
  obtain ⟨hk1, h⟩ := h
  refine zw_getI zM_X7_build dX7_build_446 zF_7_142 rfl hk1 ?_
  refine zw_icmp_gt (tgt := 469) zM_X7_build dX7_build_449 rfl rfl (fun q => ?_) (fun q => ?_)
  · replace h := h.1 q
    refine zw_go (pc1 := 470) (L1 := [some (.ref a0), some (.int x1), some (.int x2), some (.int x3), some (.int x4), some (.int x5), some (.int x6)]) (st1 := [.ref a0]) (σ1 := σ) zM_X7_build dX7_build_469 rfl rfl rfl rfl ?_
    obtain ⟨b2, hr3, h⟩ := h
    refine zw_getR (a := b2) zM_X7_build dX7_build_470 zF_7_37 rfl hk1 hr3 ?_
    refine zw_go (pc1 := 474) (L1 := [some (.ref a0), some (.int x1), some (.int x2), some (.int x3), some (.int x4), some (.int x5), some (.int x6)]) (st1 := [.ref a0, .ref b2]) (σ1 := σ) zM_X7_build dX7_build_473 rfl rfl rfl rfl ?_
    refine zw_getI zM_X7_build dX7_build_474 zF_7_129 rfl hk1 ?_
    refine zw_go (pc1 := 478) (L1 := [some (.ref a0), some (.int x1), some (.int x2), some (.int x3), some (.int x4), some (.int x5), some (.int x6)]) (st1 := [.ref a0, .int (zI σ a0 14), .ref b2]) (σ1 := σ) zM_X7_build dX7_build_477 rfl rfl rfl rfl ?_
    refine zw_getI zM_X7_build dX7_build_478 zF_7_132 rfl hk1 ?_
    obtain ⟨hk4, h⟩ := h
    obtain ⟨hi5, h⟩ := h
    obtain ⟨σ6, e7⟩ : ∃ z9 : zx_S, z9 = zx_pI σ b2 (Int32.toNatClampNeg (zI σ a0 14)) (zI σ a0 15) := ⟨_, rfl⟩
    replace h := h σ6 e7
    refine zw_iast zM_X7_build dX7_build_481 ⟨hk4, hi5⟩ e7 ?_
    refine zw_go (pc1 := 483) (L1 := [some (.ref a0), some (.int x1), some (.int x2), some (.int x3), some (.int x4), some (.int x5), some (.int x6)]) (st1 := [.ref a0]) (σ1 := σ6) zM_X7_build dX7_build_482 rfl rfl rfl rfl ?_
    refine zw_iconst (v := 0) zM_X7_build dX7_build_483 (by decide) ?_
    obtain ⟨σ8, e9⟩ : ∃ z9 : zx_S, z9 = zx_pI σ6 a0 15 0 := ⟨_, rfl⟩
    replace h := h σ8 e9
    refine zw_putI zM_X7_build dX7_build_484 zF_7_132 rfl rfl (by rw [e7]; exact hk1) e9 ?_
    refine zw_go (pc1 := 488) (L1 := [some (.ref a0), some (.int x1), some (.int x2), some (.int x3), some (.int x4), some (.int x5), some (.int x6)]) (st1 := [.ref a0]) (σ1 := σ8) zM_X7_build dX7_build_487 rfl rfl rfl rfl ?_
    refine zw_bipush (v := 84) zM_X7_build dX7_build_488 (by decide) ?_
    refine zw_callV (as := [.ref a0, .int 84]) (rest := []) zM_X7_build dX7_build_490 (zx_calV zC_7_135) zM_X7_tell rfl rfl rfl rfl rfl (zx_args0 (by rw [e9, e7]; exact hk1) rfl) rfl h (fun σ10 h => ?_)
    refine zw_go (pc1 := 494) (L1 := [some (.ref a0), some (.int x1), some (.int x2), some (.int x3), some (.int x4), some (.int x5), some (.int x6)]) (st1 := [.ref a0]) (σ1 := σ10) zM_X7_build dX7_build_493 rfl rfl rfl rfl ?_
    refine zw_bipush (v := 73) zM_X7_build dX7_build_494 (by decide) ?_
    obtain ⟨hk11, h⟩ := h
    refine zw_callV (as := [.ref a0, .int 73]) (rest := []) zM_X7_build dX7_build_496 (zx_calV zC_7_135) zM_X7_tell rfl rfl rfl rfl rfl (zx_args0 hk11 rfl) rfl h (fun σ12 h => ?_)
    refine zw_go (pc1 := 500) (L1 := [some (.ref a0), some (.int x1), some (.int x2), some (.int x3), some (.int x4), some (.int x5), some (.int x6)]) (st1 := [.ref a0]) (σ1 := σ12) zM_X7_build dX7_build_499 rfl rfl rfl rfl ?_
    refine zw_go (pc1 := 501) (L1 := [some (.ref a0), some (.int x1), some (.int x2), some (.int x3), some (.int x4), some (.int x5), some (.int x6)]) (st1 := [.int x1, .ref a0]) (σ1 := σ12) zM_X7_build dX7_build_500 rfl rfl rfl rfl ?_
    obtain ⟨hk13, h⟩ := h
    refine zw_callV (as := [.ref a0, .int x1]) (rest := []) zM_X7_build dX7_build_501 (zx_calV zC_7_135) zM_X7_tell rfl rfl rfl rfl rfl (zx_args0 hk13 rfl) rfl h (fun σ14 h => ?_)
    refine zw_go (pc1 := 505) (L1 := [some (.ref a0), some (.int x1), some (.int x2), some (.int x3), some (.int x4), some (.int x5), some (.int x6)]) (st1 := [.ref a0]) (σ1 := σ14) zM_X7_build dX7_build_504 rfl rfl rfl rfl ?_
    refine zw_iconst (v := 0) zM_X7_build dX7_build_505 (by decide) ?_
    obtain ⟨hk15, h⟩ := h
    refine zw_callV (as := [.ref a0, .int 0]) (rest := []) zM_X7_build dX7_build_506 (zx_calV zC_7_135) zM_X7_tell rfl rfl rfl rfl rfl (zx_args0 hk15 rfl) rfl h (fun σ16 h => ?_)
    refine zw_go (pc1 := 510) (L1 := [some (.ref a0), some (.int x1), some (.int x2), some (.int x3), some (.int x4), some (.int x5), some (.int x6)]) (st1 := [.ref a0]) (σ1 := σ16) zM_X7_build dX7_build_509 rfl rfl rfl rfl ?_
    refine zw_go (pc1 := 511) (L1 := [some (.ref a0), some (.int x1), some (.int x2), some (.int x3), some (.int x4), some (.int x5), some (.int x6)]) (st1 := [.ref a0, .ref a0]) (σ1 := σ16) zM_X7_build dX7_build_510 rfl rfl rfl rfl ?_
    obtain ⟨hk17, h⟩ := h
    refine zw_getI zM_X7_build dX7_build_511 zF_7_142 rfl hk17 ?_
    refine zw_callV (as := [.ref a0, .int (zI σ16 a0 18)]) (rest := []) zM_X7_build dX7_build_514 (zx_calV zC_7_184) zM_X7_tellWord rfl rfl rfl rfl rfl (zx_args0 hk17 rfl) rfl h (fun σ18 h => ?_)
    refine zw_go (pc1 := 518) (L1 := [some (.ref a0), some (.int x1), some (.int x2), some (.int x3), some (.int x4), some (.int x5), some (.int x6)]) (st1 := [.ref a0]) (σ1 := σ18) zM_X7_build dX7_build_517 rfl rfl rfl rfl ?_
    refine zw_go (pc1 := 519) (L1 := [some (.ref a0), some (.int x1), some (.int x2), some (.int x3), some (.int x4), some (.int x5), some (.int x6)]) (st1 := [.int x2, .ref a0]) (σ1 := σ18) zM_X7_build dX7_build_518 rfl rfl rfl rfl ?_
    obtain ⟨hk19, h⟩ := h
    refine zw_callV (as := [.ref a0, .int x2]) (rest := []) zM_X7_build dX7_build_519 (zx_calV zC_7_184) zM_X7_tellWord rfl rfl rfl rfl rfl (zx_args0 hk19 rfl) rfl h (fun σ20 h => ?_)
    refine zw_go (pc1 := 523) (L1 := [some (.ref a0), some (.int x1), some (.int x2), some (.int x3), some (.int x4), some (.int x5), some (.int x6)]) (st1 := [.ref a0]) (σ1 := σ20) zM_X7_build dX7_build_522 rfl rfl rfl rfl ?_
    refine zw_go (pc1 := 524) (L1 := [some (.ref a0), some (.int x1), some (.int x2), some (.int x3), some (.int x4), some (.int x5), some (.int x6)]) (st1 := [.int x3, .ref a0]) (σ1 := σ20) zM_X7_build dX7_build_523 rfl rfl rfl rfl ?_
    obtain ⟨hk21, h⟩ := h
    refine zw_callV (as := [.ref a0, .int x3]) (rest := []) zM_X7_build dX7_build_524 (zx_calV zC_7_184) zM_X7_tellWord rfl rfl rfl rfl rfl (zx_args0 hk21 rfl) rfl h (fun σ22 h => ?_)
    refine zw_go (pc1 := 528) (L1 := [some (.ref a0), some (.int x1), some (.int x2), some (.int x3), some (.int x4), some (.int x5), some (.int x6)]) (st1 := [.ref a0]) (σ1 := σ22) zM_X7_build dX7_build_527 rfl rfl rfl rfl ?_
    refine zw_go (pc1 := 530) (L1 := [some (.ref a0), some (.int x1), some (.int x2), some (.int x3), some (.int x4), some (.int x5), some (.int x6)]) (st1 := [.int x4, .ref a0]) (σ1 := σ22) zM_X7_build dX7_build_528 rfl rfl rfl rfl ?_
    obtain ⟨hk23, h⟩ := h
    refine zw_callV (as := [.ref a0, .int x4]) (rest := []) zM_X7_build dX7_build_530 (zx_calV zC_7_184) zM_X7_tellWord rfl rfl rfl rfl rfl (zx_args0 hk23 rfl) rfl h (fun σ24 h => ?_)
    refine zw_go (pc1 := 534) (L1 := [some (.ref a0), some (.int x1), some (.int x2), some (.int x3), some (.int x4), some (.int x5), some (.int x6)]) (st1 := [.ref a0]) (σ1 := σ24) zM_X7_build dX7_build_533 rfl rfl rfl rfl ?_
    refine zw_go (pc1 := 536) (L1 := [some (.ref a0), some (.int x1), some (.int x2), some (.int x3), some (.int x4), some (.int x5), some (.int x6)]) (st1 := [.int x5, .ref a0]) (σ1 := σ24) zM_X7_build dX7_build_534 rfl rfl rfl rfl ?_
    obtain ⟨hk25, h⟩ := h
    refine zw_callV (as := [.ref a0, .int x5]) (rest := []) zM_X7_build dX7_build_536 (zx_calV zC_7_184) zM_X7_tellWord rfl rfl rfl rfl rfl (zx_args0 hk25 rfl) rfl h (fun σ26 h => ?_)
    refine zw_go (pc1 := 540) (L1 := [some (.ref a0), some (.int x1), some (.int x2), some (.int x3), some (.int x4), some (.int x5), some (.int x6)]) (st1 := [.ref a0]) (σ1 := σ26) zM_X7_build dX7_build_539 rfl rfl rfl rfl ?_
    refine zw_go (pc1 := 541) (L1 := [some (.ref a0), some (.int x1), some (.int x2), some (.int x3), some (.int x4), some (.int x5), some (.int x6)]) (st1 := [.ref a0, .ref a0]) (σ1 := σ26) zM_X7_build dX7_build_540 rfl rfl rfl rfl ?_
    obtain ⟨hk27, h⟩ := h
    obtain ⟨b28, hr29, h⟩ := h
    refine zw_getR (a := b28) zM_X7_build dX7_build_541 zF_7_37 rfl hk27 hr29 ?_
    refine zw_go (pc1 := 545) (L1 := [some (.ref a0), some (.int x1), some (.int x2), some (.int x3), some (.int x4), some (.int x5), some (.int x6)]) (st1 := [.ref a0, .ref b28, .ref a0]) (σ1 := σ26) zM_X7_build dX7_build_544 rfl rfl rfl rfl ?_
    refine zw_getI zM_X7_build dX7_build_545 zF_7_129 rfl hk27 ?_
    obtain ⟨hk30, h⟩ := h
    obtain ⟨hi31, h⟩ := h
    refine zw_iald zM_X7_build dX7_build_548 ⟨Or.inl hk30, hi31⟩ ?_
    refine zw_callV (as := [.ref a0, .int (zI σ26 b28 (Int32.toNatClampNeg (zI σ26 a0 14)))]) (rest := []) zM_X7_build dX7_build_549 (zx_calV zC_7_184) zM_X7_tellWord rfl rfl rfl rfl rfl (zx_args0 hk27 rfl) rfl h (fun σ32 h => ?_)
    refine zw_go (pc1 := 553) (L1 := [some (.ref a0), some (.int x1), some (.int x2), some (.int x3), some (.int x4), some (.int x5), some (.int x6)]) (st1 := [.ref a0]) (σ1 := σ32) zM_X7_build dX7_build_552 rfl rfl rfl rfl ?_
    refine zw_bipush (v := 16) zM_X7_build dX7_build_553 (by decide) ?_
    refine zw_go (pc1 := 556) (L1 := [some (.ref a0), some (.int x1), some (.int x2), some (.int x3), some (.int x4), some (.int x5), some (.int x6)]) (st1 := [.ref a0, .int 16, .ref a0]) (σ1 := σ32) zM_X7_build dX7_build_555 rfl rfl rfl rfl ?_
    refine zw_go (pc1 := 557) (L1 := [some (.ref a0), some (.int x1), some (.int x2), some (.int x3), some (.int x4), some (.int x5), some (.int x6)]) (st1 := [.ref a0, .ref a0, .int 16, .ref a0]) (σ1 := σ32) zM_X7_build dX7_build_556 rfl rfl rfl rfl ?_
    obtain ⟨hk33, h⟩ := h
    refine zw_getI zM_X7_build dX7_build_557 zF_7_129 rfl hk33 ?_
    refine zw_callI (as := [.ref a0, .int (zI σ32 a0 14)]) (rest := [.int 16, .ref a0]) zM_X7_build dX7_build_560 (zx_calV zC_7_187) zM_X7_sumOf rfl rfl rfl rfl rfl (zx_args0 hk33 rfl) rfl h (fun v35 σ34 h => ?_)
    obtain ⟨hk36, h⟩ := h
    refine zw_callV (as := [.ref a0, .int 16, .int v35]) (rest := []) zM_X7_build dX7_build_563 (zx_calV zC_7_190) zM_X7_putWord rfl rfl rfl rfl rfl (zx_args0 hk36 rfl) rfl h (fun σ37 h => ?_)
    refine zw_go (pc1 := 567) (L1 := [some (.ref a0), some (.int x1), some (.int x2), some (.int x3), some (.int x4), some (.int x5), some (.int x6)]) (st1 := [.ref a0]) (σ1 := σ37) zM_X7_build dX7_build_566 rfl rfl rfl rfl ?_
    refine zw_go (pc1 := 568) (L1 := [some (.ref a0), some (.int x1), some (.int x2), some (.int x3), some (.int x4), some (.int x5), some (.int x6)]) (st1 := [.ref a0, .ref a0]) (σ1 := σ37) zM_X7_build dX7_build_567 rfl rfl rfl rfl ?_
    obtain ⟨hk38, h⟩ := h
    refine zw_getI zM_X7_build dX7_build_568 zF_7_168 rfl hk38 ?_
    refine zw_iconst (v := 1) zM_X7_build dX7_build_571 (by decide) ?_
    refine zw_go (pc1 := 573) (L1 := [some (.ref a0), some (.int x1), some (.int x2), some (.int x3), some (.int x4), some (.int x5), some (.int x6)]) (st1 := [.int ((zI σ37 a0 11) + 1), .ref a0]) (σ1 := σ37) zM_X7_build dX7_build_572 rfl rfl rfl rfl ?_
    obtain ⟨σ39, e40⟩ : ∃ z9 : zx_S, z9 = zx_pI σ37 a0 11 ((zI σ37 a0 11) + 1) := ⟨_, rfl⟩
    replace h := h σ39 e40
    refine zw_putI zM_X7_build dX7_build_573 zF_7_168 rfl rfl hk38 e40 ?_
    refine zw_go (pc1 := 577) (L1 := [some (.ref a0), some (.int x1), some (.int x2), some (.int x3), some (.int x4), some (.int x5), some (.int x6)]) (st1 := [.ref a0]) (σ1 := σ39) zM_X7_build dX7_build_576 rfl rfl rfl rfl ?_
    refine zw_getI zM_X7_build dX7_build_577 zF_7_168 rfl (by rw [e40]; exact hk38) ?_
    refine zw_iconst (v := 1) zM_X7_build dX7_build_580 (by decide) ?_
    refine zw_go (pc1 := 582) (L1 := [some (.ref a0), some (.int x1), some (.int x2), some (.int x3), some (.int x4), some (.int x5), some (.int x6)]) (st1 := [.int ((zI σ39 a0 11) - 1)]) (σ1 := σ39) zM_X7_build dX7_build_581 rfl rfl rfl rfl ?_
    exact zw_reti zM_X7_build dX7_build_582 rfl h
  · replace h := h.2 q
    refine zw_go (pc1 := 453) (L1 := [some (.ref a0), some (.int x1), some (.int x2), some (.int x3), some (.int x4), some (.int x5), some (.int x6)]) (st1 := [.ref a0]) (σ1 := σ) zM_X7_build dX7_build_452 rfl rfl rfl rfl ?_
    refine zw_go (pc1 := 454) (L1 := [some (.ref a0), some (.int x1), some (.int x2), some (.int x3), some (.int x4), some (.int x5), some (.int x6)]) (st1 := [.ref a0, .ref a0]) (σ1 := σ) zM_X7_build dX7_build_453 rfl rfl rfl rfl ?_
    obtain ⟨b41, hr42, h⟩ := h
    refine zw_getR (a := b41) zM_X7_build dX7_build_454 zF_7_76 rfl hk1 hr42 ?_
    refine zw_go (pc1 := 459) (L1 := [some (.ref a0), some (.int x1), some (.int x2), some (.int x3), some (.int x4), some (.int x5), some (.int x6)]) (st1 := [.int x6, .ref b41, .ref a0]) (σ1 := σ) zM_X7_build dX7_build_457 rfl rfl rfl rfl ?_
    obtain ⟨hk43, h⟩ := h
    obtain ⟨hi44, h⟩ := h
    refine zw_iald zM_X7_build dX7_build_459 ⟨Or.inl hk43, hi44⟩ ?_
    refine zw_callV (as := [.ref a0, .int (zI σ b41 (Int32.toNatClampNeg x6))]) (rest := []) zM_X7_build dX7_build_460 (zx_calV zC_7_184) zM_X7_tellWord rfl rfl rfl rfl rfl (zx_args0 hk1 rfl) rfl h (fun σ45 h => ?_)
    refine zw_go (pc1 := 466) (L1 := [some (.ref a0), some (.int x1), some (.int x2), some (.int x3), some (.int x4), some (.int x5), some (.int (x6 + Int32.ofInt 1))]) (st1 := []) (σ1 := σ45) zM_X7_build dX7_build_463 rfl rfl rfl rfl ?_
    refine zw_goto (tgt := 443) zM_X7_build dX7_build_466 rfl ?_
    exact zw_weak2 h ⟨rfl, rfl, rfl, rfl, rfl, rfl, rfl, trivial⟩
set_option maxHeartbeats 4000000 in
set_option maxRecDepth 100000 in
theorem vc_X7_byteAt_0 (a0 : Nat) (x1 : Int32) (x2 : Int32) (σ : zx_S) (K : Int32 → zx_S → Prop) (h : zK σ a0 = 20 ∧ ∃ b2 : Nat, zR σ a0 12 = some b2 ∧ zK σ b2 = 1 ∧ zx_in ((6000 * x1) + x2) (zN σ b2) = true ∧ K (zI σ b2 (Int32.toNatClampNeg ((6000 * x1) + x2))) σ) : zwI 143 0 [some (.ref a0), some (.int x1), some (.int x2)] [] σ K := by
  refine zw_go (pc1 := 1) (L1 := [some (.ref a0), some (.int x1), some (.int x2)]) (st1 := [.ref a0]) (σ1 := σ) zM_X7_byteAt dX7_byteAt_0 rfl rfl rfl rfl ?_
  obtain ⟨hk1, h⟩ := h
  obtain ⟨b2, hr3, h⟩ := h
  refine zw_getR (a := b2) zM_X7_byteAt dX7_byteAt_1 zF_7_34 rfl hk1 hr3 ?_
  refine zw_sipush (v := 6000) zM_X7_byteAt dX7_byteAt_4 (by decide) ?_
  refine zw_go (pc1 := 8) (L1 := [some (.ref a0), some (.int x1), some (.int x2)]) (st1 := [.int x1, .int 6000, .ref b2]) (σ1 := σ) zM_X7_byteAt dX7_byteAt_7 rfl rfl rfl rfl ?_
  refine zw_go (pc1 := 9) (L1 := [some (.ref a0), some (.int x1), some (.int x2)]) (st1 := [.int (6000 * x1), .ref b2]) (σ1 := σ) zM_X7_byteAt dX7_byteAt_8 rfl rfl rfl rfl ?_
  refine zw_go (pc1 := 10) (L1 := [some (.ref a0), some (.int x1), some (.int x2)]) (st1 := [.int x2, .int (6000 * x1), .ref b2]) (σ1 := σ) zM_X7_byteAt dX7_byteAt_9 rfl rfl rfl rfl ?_
  refine zw_go (pc1 := 11) (L1 := [some (.ref a0), some (.int x1), some (.int x2)]) (st1 := [.int ((6000 * x1) + x2), .ref b2]) (σ1 := σ) zM_X7_byteAt dX7_byteAt_10 rfl rfl rfl rfl ?_
  obtain ⟨hk4, h⟩ := h
  obtain ⟨hi5, h⟩ := h
  refine zw_iald zM_X7_byteAt dX7_byteAt_11 ⟨Or.inl hk4, hi5⟩ ?_
  exact zw_reti zM_X7_byteAt dX7_byteAt_12 rfl h
