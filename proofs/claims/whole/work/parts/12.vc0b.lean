set_option maxHeartbeats 4000000 in
set_option maxRecDepth 100000 in
theorem vc_X0_putInodes_0 (a0 : Nat) (a1 : Nat) (x2 : Int32) (a3 : Nat) (σ : zx_S) (K : zx_S → Prop) (h : zK σ a3 = 14 ∧ zwV 16 12 [some (.ref a0), some (.ref a1), some (.int x2), some (.ref a3), some (.int (zI σ a3 1)), some (.int 0), some (.int 1), none, none] [] σ K) : zwV 16 0 [some (.ref a0), some (.ref a1), some (.int x2), some (.ref a3), none, none, none, none, none] [] σ K := by
  refine zw_go (pc1 := 1) (L1 := [some (.ref a0), some (.ref a1), some (.int x2), some (.ref a3), none, none, none, none, none]) (st1 := [.ref a3]) (σ1 := σ) zM_X0_putInodes dX0_putInodes_0 rfl rfl rfl rfl ?_
  obtain ⟨hk1, h⟩ := h
  refine zw_getI zM_X0_putInodes dX0_putInodes_1 zF_0_70 rfl hk1 ?_
  refine zw_go (pc1 := 6) (L1 := [some (.ref a0), some (.ref a1), some (.int x2), some (.ref a3), some (.int (zI σ a3 1)), none, none, none, none]) (st1 := []) (σ1 := σ) zM_X0_putInodes dX0_putInodes_4 rfl rfl rfl rfl ?_
  refine zw_iconst (v := 0) zM_X0_putInodes dX0_putInodes_6 (by decide) ?_
  refine zw_go (pc1 := 9) (L1 := [some (.ref a0), some (.ref a1), some (.int x2), some (.ref a3), some (.int (zI σ a3 1)), some (.int 0), none, none, none]) (st1 := []) (σ1 := σ) zM_X0_putInodes dX0_putInodes_7 rfl rfl rfl rfl ?_
  refine zw_iconst (v := 1) zM_X0_putInodes dX0_putInodes_9 (by decide) ?_
  refine zw_go (pc1 := 12) (L1 := [some (.ref a0), some (.ref a1), some (.int x2), some (.ref a3), some (.int (zI σ a3 1)), some (.int 0), some (.int 1), none, none]) (st1 := []) (σ1 := σ) zM_X0_putInodes dX0_putInodes_10 rfl rfl rfl rfl ?_
  exact zw_weak2 h ⟨rfl, rfl, rfl, rfl, rfl, rfl, rfl, trivial⟩
set_option maxHeartbeats 4000000 in
set_option maxRecDepth 100000 in
theorem vc_X0_putInodes_12 (a0 : Nat) (a1 : Nat) (x2 : Int32) (a3 : Nat) (x4 : Int32) (x5 : Int32) (x6 : Int32) (σ : zx_S) (K : zx_S → Prop) (h : zK σ a0 = 13 ∧ (((zI σ a0 13) < x6 → K σ) ∧ (¬ (zI σ a0 13) < x6 → ∃ b2 : Nat, zR σ a0 2 = some b2 ∧ zK σ b2 = 1 ∧ zx_in x6 (zN σ b2) = true ∧ ∃ b6 : Nat, zR σ a0 8 = some b6 ∧ zK σ a3 = 14 ∧ zK σ b6 = 1 ∧ zx_in x6 (zN σ b6) = true ∧ ∀ σ11 : zx_S, σ11 = zx_pI σ b6 (Int32.toNatClampNeg x6) ((zI σ a3 1) - x4) → zK σ11 a1 = 18 ∧ ∃ b14 : Nat, zR σ11 a1 0 = some b14 ∧ zK σ11 b14 = 1 ∧ zx_in (zI σ b2 (Int32.toNatClampNeg x6)) (zN σ11 b14) = true ∧ zwV 38 0 [some (.ref a3), some (.int (zI σ11 b14 (Int32.toNatClampNeg (zI σ b2 (Int32.toNatClampNeg x6)))))] [] σ11 (fun σ18 => zK σ18 a1 = 18 ∧ ∃ b20 : Nat, zR σ18 a1 2 = some b20 ∧ zK σ18 b20 = 1 ∧ zx_in (zI σ b2 (Int32.toNatClampNeg x6)) (zN σ18 b20) = true ∧ zK σ18 a3 = 14 ∧ zwV 40 0 [some (.ref a3), some (.int (zI σ18 b20 (Int32.toNatClampNeg (zI σ b2 (Int32.toNatClampNeg x6)))))] [] σ18 (fun σ25 => zK σ25 a1 = 18 ∧ ∃ b27 : Nat, zR σ25 a1 1 = some b27 ∧ zK σ25 b27 = 1 ∧ zx_in (zI σ b2 (Int32.toNatClampNeg x6)) (zN σ25 b27) = true ∧ zK σ25 a3 = 14 ∧ zwV 40 0 [some (.ref a3), some (.int (zI σ25 b27 (Int32.toNatClampNeg (zI σ b2 (Int32.toNatClampNeg x6)))))] [] σ25 (fun σ32 => ((¬ x6 = (1 : Int32) → zK σ32 a1 = 18 ∧ ∃ b34 : Nat, zR σ32 a1 3 = some b34 ∧ zK σ32 b34 = 1 ∧ zx_in (zI σ b2 (Int32.toNatClampNeg x6)) (zN σ32 b34) = true ∧ zwV 16 95 [some (.ref a0), some (.ref a1), some (.int x2), some (.ref a3), some (.int x4), some (.int x5), some (.int x6), some (.int (zI σ b2 (Int32.toNatClampNeg x6))), none] [.int (zI σ32 b34 (Int32.toNatClampNeg (zI σ b2 (Int32.toNatClampNeg x6)))), .ref a3] σ32 K) ∧ (x6 = (1 : Int32) → zwV 16 95 [some (.ref a0), some (.ref a1), some (.int x2), some (.ref a3), some (.int x4), some (.int x5), some (.int x6), some (.int (zI σ b2 (Int32.toNatClampNeg x6))), none] [.int 1, .ref a3] σ32 K)))))))) : zwV 16 12 [some (.ref a0), some (.ref a1), some (.int x2), some (.ref a3), some (.int x4), some (.int x5), some (.int x6), none, none] [] σ K := by
  refine zw_go (pc1 := 14) (L1 := [some (.ref a0), some (.ref a1), some (.int x2), some (.ref a3), some (.int x4), some (.int x5), some (.int x6), none, none]) (st1 := [.int x6]) (σ1 := σ) zM_X0_putInodes dX0_putInodes_12 rfl rfl rfl rfl ?_
  refine zw_go (pc1 := 15) (L1 := [some (.ref a0), some (.ref a1), some (.int x2), some (.ref a3), some (.int x4), some (.int x5), some (.int x6), none, none]) (st1 := [.ref a0, .int x6]) (σ1 := σ) zM_X0_putInodes dX0_putInodes_14 rfl rfl rfl rfl ?_
  obtain ⟨hk1, h⟩ := h
  refine zw_getI zM_X0_putInodes dX0_putInodes_15 zF_0_107 rfl hk1 ?_
  refine zw_icmp_gt (tgt := 198) zM_X0_putInodes dX0_putInodes_18 rfl rfl (fun q => ?_) (fun q => ?_)
  · replace h := h.1 q
    exact zw_retv zM_X0_putInodes dX0_putInodes_198 rfl h
  · replace h := h.2 q
    refine zw_go (pc1 := 22) (L1 := [some (.ref a0), some (.ref a1), some (.int x2), some (.ref a3), some (.int x4), some (.int x5), some (.int x6), none, none]) (st1 := [.ref a0]) (σ1 := σ) zM_X0_putInodes dX0_putInodes_21 rfl rfl rfl rfl ?_
    obtain ⟨b2, hr3, h⟩ := h
    refine zw_getR (a := b2) zM_X0_putInodes dX0_putInodes_22 zF_0_22 rfl hk1 hr3 ?_
    refine zw_go (pc1 := 27) (L1 := [some (.ref a0), some (.ref a1), some (.int x2), some (.ref a3), some (.int x4), some (.int x5), some (.int x6), none, none]) (st1 := [.int x6, .ref b2]) (σ1 := σ) zM_X0_putInodes dX0_putInodes_25 rfl rfl rfl rfl ?_
    obtain ⟨hk4, h⟩ := h
    obtain ⟨hi5, h⟩ := h
    refine zw_iald zM_X0_putInodes dX0_putInodes_27 ⟨Or.inl hk4, hi5⟩ ?_
    refine zw_go (pc1 := 30) (L1 := [some (.ref a0), some (.ref a1), some (.int x2), some (.ref a3), some (.int x4), some (.int x5), some (.int x6), some (.int (zI σ b2 (Int32.toNatClampNeg x6))), none]) (st1 := []) (σ1 := σ) zM_X0_putInodes dX0_putInodes_28 rfl rfl rfl rfl ?_
    refine zw_go (pc1 := 31) (L1 := [some (.ref a0), some (.ref a1), some (.int x2), some (.ref a3), some (.int x4), some (.int x5), some (.int x6), some (.int (zI σ b2 (Int32.toNatClampNeg x6))), none]) (st1 := [.ref a0]) (σ1 := σ) zM_X0_putInodes dX0_putInodes_30 rfl rfl rfl rfl ?_
    obtain ⟨b6, hr7, h⟩ := h
    refine zw_getR (a := b6) zM_X0_putInodes dX0_putInodes_31 zF_0_40 rfl hk1 hr7 ?_
    refine zw_go (pc1 := 36) (L1 := [some (.ref a0), some (.ref a1), some (.int x2), some (.ref a3), some (.int x4), some (.int x5), some (.int x6), some (.int (zI σ b2 (Int32.toNatClampNeg x6))), none]) (st1 := [.int x6, .ref b6]) (σ1 := σ) zM_X0_putInodes dX0_putInodes_34 rfl rfl rfl rfl ?_
    refine zw_go (pc1 := 37) (L1 := [some (.ref a0), some (.ref a1), some (.int x2), some (.ref a3), some (.int x4), some (.int x5), some (.int x6), some (.int (zI σ b2 (Int32.toNatClampNeg x6))), none]) (st1 := [.ref a3, .int x6, .ref b6]) (σ1 := σ) zM_X0_putInodes dX0_putInodes_36 rfl rfl rfl rfl ?_
    obtain ⟨hk8, h⟩ := h
    refine zw_getI zM_X0_putInodes dX0_putInodes_37 zF_0_70 rfl hk8 ?_
    refine zw_go (pc1 := 42) (L1 := [some (.ref a0), some (.ref a1), some (.int x2), some (.ref a3), some (.int x4), some (.int x5), some (.int x6), some (.int (zI σ b2 (Int32.toNatClampNeg x6))), none]) (st1 := [.int x4, .int (zI σ a3 1), .int x6, .ref b6]) (σ1 := σ) zM_X0_putInodes dX0_putInodes_40 rfl rfl rfl rfl ?_
    refine zw_go (pc1 := 43) (L1 := [some (.ref a0), some (.ref a1), some (.int x2), some (.ref a3), some (.int x4), some (.int x5), some (.int x6), some (.int (zI σ b2 (Int32.toNatClampNeg x6))), none]) (st1 := [.int ((zI σ a3 1) - x4), .int x6, .ref b6]) (σ1 := σ) zM_X0_putInodes dX0_putInodes_42 rfl rfl rfl rfl ?_
    obtain ⟨hk9, h⟩ := h
    obtain ⟨hi10, h⟩ := h
    obtain ⟨σ11, e12⟩ : ∃ z9 : zx_S, z9 = zx_pI σ b6 (Int32.toNatClampNeg x6) ((zI σ a3 1) - x4) := ⟨_, rfl⟩
    replace h := h σ11 e12
    refine zw_iast zM_X0_putInodes dX0_putInodes_43 ⟨hk9, hi10⟩ e12 ?_
    refine zw_go (pc1 := 45) (L1 := [some (.ref a0), some (.ref a1), some (.int x2), some (.ref a3), some (.int x4), some (.int x5), some (.int x6), some (.int (zI σ b2 (Int32.toNatClampNeg x6))), none]) (st1 := [.ref a3]) (σ1 := σ11) zM_X0_putInodes dX0_putInodes_44 rfl rfl rfl rfl ?_
    refine zw_go (pc1 := 46) (L1 := [some (.ref a0), some (.ref a1), some (.int x2), some (.ref a3), some (.int x4), some (.int x5), some (.int x6), some (.int (zI σ b2 (Int32.toNatClampNeg x6))), none]) (st1 := [.ref a1, .ref a3]) (σ1 := σ11) zM_X0_putInodes dX0_putInodes_45 rfl rfl rfl rfl ?_
    obtain ⟨hk13, h⟩ := h
    obtain ⟨b14, hr15, h⟩ := h
    refine zw_getR (a := b14) zM_X0_putInodes dX0_putInodes_46 zF_0_110 rfl hk13 hr15 ?_
    refine zw_go (pc1 := 51) (L1 := [some (.ref a0), some (.ref a1), some (.int x2), some (.ref a3), some (.int x4), some (.int x5), some (.int x6), some (.int (zI σ b2 (Int32.toNatClampNeg x6))), none]) (st1 := [.int (zI σ b2 (Int32.toNatClampNeg x6)), .ref b14, .ref a3]) (σ1 := σ11) zM_X0_putInodes dX0_putInodes_49 rfl rfl rfl rfl ?_
    obtain ⟨hk16, h⟩ := h
    obtain ⟨hi17, h⟩ := h
    refine zw_iald zM_X0_putInodes dX0_putInodes_51 ⟨Or.inl hk16, hi17⟩ ?_
    refine zw_callV (as := [.ref a3, .int (zI σ11 b14 (Int32.toNatClampNeg (zI σ b2 (Int32.toNatClampNeg x6))))]) (rest := []) zM_X0_putInodes dX0_putInodes_52 (zx_calV zC_0_126) zM_X1_putByte rfl rfl rfl rfl rfl (zx_args0 (by rw [e12]; exact hk8) rfl) rfl h (fun σ18 h => ?_)
    refine zw_go (pc1 := 56) (L1 := [some (.ref a0), some (.ref a1), some (.int x2), some (.ref a3), some (.int x4), some (.int x5), some (.int x6), some (.int (zI σ b2 (Int32.toNatClampNeg x6))), none]) (st1 := [.ref a3]) (σ1 := σ18) zM_X0_putInodes dX0_putInodes_55 rfl rfl rfl rfl ?_
    refine zw_go (pc1 := 57) (L1 := [some (.ref a0), some (.ref a1), some (.int x2), some (.ref a3), some (.int x4), some (.int x5), some (.int x6), some (.int (zI σ b2 (Int32.toNatClampNeg x6))), none]) (st1 := [.ref a1, .ref a3]) (σ1 := σ18) zM_X0_putInodes dX0_putInodes_56 rfl rfl rfl rfl ?_
    obtain ⟨hk19, h⟩ := h
    obtain ⟨b20, hr21, h⟩ := h
    refine zw_getR (a := b20) zM_X0_putInodes dX0_putInodes_57 zF_0_172 rfl hk19 hr21 ?_
    refine zw_go (pc1 := 62) (L1 := [some (.ref a0), some (.ref a1), some (.int x2), some (.ref a3), some (.int x4), some (.int x5), some (.int x6), some (.int (zI σ b2 (Int32.toNatClampNeg x6))), none]) (st1 := [.int (zI σ b2 (Int32.toNatClampNeg x6)), .ref b20, .ref a3]) (σ1 := σ18) zM_X0_putInodes dX0_putInodes_60 rfl rfl rfl rfl ?_
    obtain ⟨hk22, h⟩ := h
    obtain ⟨hi23, h⟩ := h
    refine zw_iald zM_X0_putInodes dX0_putInodes_62 ⟨Or.inl hk22, hi23⟩ ?_
    obtain ⟨hk24, h⟩ := h
    refine zw_callV (as := [.ref a3, .int (zI σ18 b20 (Int32.toNatClampNeg (zI σ b2 (Int32.toNatClampNeg x6))))]) (rest := []) zM_X0_putInodes dX0_putInodes_63 (zx_calV zC_0_130) zM_X1_putWord rfl rfl rfl rfl rfl (zx_args0 hk24 rfl) rfl h (fun σ25 h => ?_)
    refine zw_go (pc1 := 67) (L1 := [some (.ref a0), some (.ref a1), some (.int x2), some (.ref a3), some (.int x4), some (.int x5), some (.int x6), some (.int (zI σ b2 (Int32.toNatClampNeg x6))), none]) (st1 := [.ref a3]) (σ1 := σ25) zM_X0_putInodes dX0_putInodes_66 rfl rfl rfl rfl ?_
    refine zw_go (pc1 := 68) (L1 := [some (.ref a0), some (.ref a1), some (.int x2), some (.ref a3), some (.int x4), some (.int x5), some (.int x6), some (.int (zI σ b2 (Int32.toNatClampNeg x6))), none]) (st1 := [.ref a1, .ref a3]) (σ1 := σ25) zM_X0_putInodes dX0_putInodes_67 rfl rfl rfl rfl ?_
    obtain ⟨hk26, h⟩ := h
    obtain ⟨b27, hr28, h⟩ := h
    refine zw_getR (a := b27) zM_X0_putInodes dX0_putInodes_68 zF_0_175 rfl hk26 hr28 ?_
    refine zw_go (pc1 := 73) (L1 := [some (.ref a0), some (.ref a1), some (.int x2), some (.ref a3), some (.int x4), some (.int x5), some (.int x6), some (.int (zI σ b2 (Int32.toNatClampNeg x6))), none]) (st1 := [.int (zI σ b2 (Int32.toNatClampNeg x6)), .ref b27, .ref a3]) (σ1 := σ25) zM_X0_putInodes dX0_putInodes_71 rfl rfl rfl rfl ?_
    obtain ⟨hk29, h⟩ := h
    obtain ⟨hi30, h⟩ := h
    refine zw_iald zM_X0_putInodes dX0_putInodes_73 ⟨Or.inl hk29, hi30⟩ ?_
    obtain ⟨hk31, h⟩ := h
    refine zw_callV (as := [.ref a3, .int (zI σ25 b27 (Int32.toNatClampNeg (zI σ b2 (Int32.toNatClampNeg x6))))]) (rest := []) zM_X0_putInodes dX0_putInodes_74 (zx_calV zC_0_130) zM_X1_putWord rfl rfl rfl rfl rfl (zx_args0 hk31 rfl) rfl h (fun σ32 h => ?_)
    refine zw_go (pc1 := 78) (L1 := [some (.ref a0), some (.ref a1), some (.int x2), some (.ref a3), some (.int x4), some (.int x5), some (.int x6), some (.int (zI σ b2 (Int32.toNatClampNeg x6))), none]) (st1 := [.ref a3]) (σ1 := σ32) zM_X0_putInodes dX0_putInodes_77 rfl rfl rfl rfl ?_
    refine zw_go (pc1 := 80) (L1 := [some (.ref a0), some (.ref a1), some (.int x2), some (.ref a3), some (.int x4), some (.int x5), some (.int x6), some (.int (zI σ b2 (Int32.toNatClampNeg x6))), none]) (st1 := [.int x6, .ref a3]) (σ1 := σ32) zM_X0_putInodes dX0_putInodes_78 rfl rfl rfl rfl ?_
    refine zw_iconst (v := 1) zM_X0_putInodes dX0_putInodes_80 (by decide) ?_
    refine zw_icmp_ne (tgt := 88) zM_X0_putInodes dX0_putInodes_81 rfl rfl (fun q => ?_) (fun q => ?_)
    · replace h := h.1 q
      refine zw_go (pc1 := 89) (L1 := [some (.ref a0), some (.ref a1), some (.int x2), some (.ref a3), some (.int x4), some (.int x5), some (.int x6), some (.int (zI σ b2 (Int32.toNatClampNeg x6))), none]) (st1 := [.ref a1, .ref a3]) (σ1 := σ32) zM_X0_putInodes dX0_putInodes_88 rfl rfl rfl rfl ?_
      obtain ⟨hk33, h⟩ := h
      obtain ⟨b34, hr35, h⟩ := h
      refine zw_getR (a := b34) zM_X0_putInodes dX0_putInodes_89 zF_0_178 rfl hk33 hr35 ?_
      refine zw_go (pc1 := 94) (L1 := [some (.ref a0), some (.ref a1), some (.int x2), some (.ref a3), some (.int x4), some (.int x5), some (.int x6), some (.int (zI σ b2 (Int32.toNatClampNeg x6))), none]) (st1 := [.int (zI σ b2 (Int32.toNatClampNeg x6)), .ref b34, .ref a3]) (σ1 := σ32) zM_X0_putInodes dX0_putInodes_92 rfl rfl rfl rfl ?_
      obtain ⟨hk36, h⟩ := h
      obtain ⟨hi37, h⟩ := h
      refine zw_iald zM_X0_putInodes dX0_putInodes_94 ⟨Or.inl hk36, hi37⟩ ?_
      exact zw_weak2 h ⟨rfl, rfl, rfl, rfl, rfl, rfl, rfl, rfl, trivial⟩
    · replace h := h.2 q
      refine zw_iconst (v := 1) zM_X0_putInodes dX0_putInodes_84 (by decide) ?_
      refine zw_goto (tgt := 95) zM_X0_putInodes dX0_putInodes_85 rfl ?_
      exact zw_weak2 h ⟨rfl, rfl, rfl, rfl, rfl, rfl, rfl, rfl, trivial⟩
set_option maxHeartbeats 4000000 in
set_option maxRecDepth 100000 in
theorem vc_X0_putInodes_95 (a0 : Nat) (a1 : Nat) (x2 : Int32) (a3 : Nat) (x4 : Int32) (x5 : Int32) (x6 : Int32) (x7 : Int32) (y0 : Int32) (c1 : Nat) (σ : zx_S) (K : zx_S → Prop) (h : zK σ c1 = 14 ∧ zwV 38 0 [some (.ref c1), some (.int y0)] [] σ (fun σ2 => zK σ2 a1 = 18 ∧ ∃ b4 : Nat, zR σ2 a1 0 = some b4 ∧ zK σ2 b4 = 1 ∧ zx_in x7 (zN σ2 b4) = true ∧ ((¬ (zI σ2 b4 (Int32.toNatClampNeg x7)) = (1 : Int32) → zx_in x7 (zN σ2 b4) = true ∧ ((¬ (zI σ2 b4 (Int32.toNatClampNeg x7)) = (2 : Int32) → zwV 16 192 [some (.ref a0), some (.ref a1), some (.int x2), some (.ref a3), some (.int x4), some (.int x5), some (.int x6), none, none] [] σ2 K) ∧ ((zI σ2 b4 (Int32.toNatClampNeg x7)) = (2 : Int32) → ∃ b9 : Nat, zR σ2 a1 5 = some b9 ∧ zK σ2 b9 = 1 ∧ zx_in x7 (zN σ2 b9) = true ∧ zK σ2 a0 = 13 ∧ zwV 13 0 [some (.ref a0), some (.int x6), some (.int (zI σ2 b9 (Int32.toNatClampNeg x7))), some (.int x2), some (.ref a3), none, none, none] [] σ2 (fun σ14 => zwV 16 192 [some (.ref a0), some (.ref a1), some (.int x2), some (.ref a3), some (.int x4), some (.int x5), some (.int x6), none, none] [] σ14 K)))) ∧ ((zI σ2 b4 (Int32.toNatClampNeg x7)) = (1 : Int32) → zwI 100 0 [some (.ref a1), some (.int (x7 + 1))] [] σ2 (fun v16 σ15 => zK σ15 a1 = 18 ∧ zwI 100 0 [some (.ref a1), some (.int x7)] [] σ15 (fun v19 σ18 => zK σ18 a3 = 14 ∧ zwV 40 0 [some (.ref a3), some (.int x5)] [] σ18 (fun σ21 => zK σ21 a3 = 14 ∧ zwV 40 0 [some (.ref a3), some (.int (v16 - v19))] [] σ21 (fun σ23 => zK σ23 a0 = 13 ∧ ∃ b25 : Nat, zR σ23 a0 1 = some b25 ∧ zK σ23 a1 = 18 ∧ ∃ b28 : Nat, zR σ23 a1 4 = some b28 ∧ zK σ23 b28 = 1 ∧ zx_in x7 (zN σ23 b28) = true ∧ zK σ23 b25 = 1 ∧ zx_in (zI σ23 b28 (Int32.toNatClampNeg x7)) (zN σ23 b25) = true ∧ zK σ23 a3 = 14 ∧ zwV 40 0 [some (.ref a3), some (.int (zI σ23 b25 (Int32.toNatClampNeg (zI σ23 b28 (Int32.toNatClampNeg x7)))))] [] σ23 (fun σ35 => zwV 16 192 [some (.ref a0), some (.ref a1), some (.int x2), some (.ref a3), some (.int x4), some (.int (x5 + (4 * (v16 - v19)))), some (.int x6), none, none] [] σ35 K))))))))) : zwV 16 95 [some (.ref a0), some (.ref a1), some (.int x2), some (.ref a3), some (.int x4), some (.int x5), some (.int x6), some (.int x7), none] [.int y0, .ref c1] σ K := by
  obtain ⟨hk1, h⟩ := h
  refine zw_callV (as := [.ref c1, .int y0]) (rest := []) zM_X0_putInodes dX0_putInodes_95 (zx_calV zC_0_126) zM_X1_putByte rfl rfl rfl rfl rfl (zx_args0 hk1 rfl) rfl h (fun σ2 h => ?_)
  refine zw_go (pc1 := 99) (L1 := [some (.ref a0), some (.ref a1), some (.int x2), some (.ref a3), some (.int x4), some (.int x5), some (.int x6), some (.int x7), none]) (st1 := [.ref a1]) (σ1 := σ2) zM_X0_putInodes dX0_putInodes_98 rfl rfl rfl rfl ?_
  obtain ⟨hk3, h⟩ := h
  obtain ⟨b4, hr5, h⟩ := h
  refine zw_getR (a := b4) zM_X0_putInodes dX0_putInodes_99 zF_0_110 rfl hk3 hr5 ?_
  refine zw_go (pc1 := 104) (L1 := [some (.ref a0), some (.ref a1), some (.int x2), some (.ref a3), some (.int x4), some (.int x5), some (.int x6), some (.int x7), none]) (st1 := [.int x7, .ref b4]) (σ1 := σ2) zM_X0_putInodes dX0_putInodes_102 rfl rfl rfl rfl ?_
  obtain ⟨hk6, h⟩ := h
  obtain ⟨hi7, h⟩ := h
  refine zw_iald zM_X0_putInodes dX0_putInodes_104 ⟨Or.inl hk6, hi7⟩ ?_
  refine zw_iconst (v := 1) zM_X0_putInodes dX0_putInodes_105 (by decide) ?_
  refine zw_icmp_ne (tgt := 166) zM_X0_putInodes dX0_putInodes_106 rfl rfl (fun q => ?_) (fun q => ?_)
  · replace h := h.1 q
    refine zw_go (pc1 := 167) (L1 := [some (.ref a0), some (.ref a1), some (.int x2), some (.ref a3), some (.int x4), some (.int x5), some (.int x6), some (.int x7), none]) (st1 := [.ref a1]) (σ1 := σ2) zM_X0_putInodes dX0_putInodes_166 rfl rfl rfl rfl ?_
    refine zw_getR (a := b4) zM_X0_putInodes dX0_putInodes_167 zF_0_110 rfl hk3 hr5 ?_
    refine zw_go (pc1 := 172) (L1 := [some (.ref a0), some (.ref a1), some (.int x2), some (.ref a3), some (.int x4), some (.int x5), some (.int x6), some (.int x7), none]) (st1 := [.int x7, .ref b4]) (σ1 := σ2) zM_X0_putInodes dX0_putInodes_170 rfl rfl rfl rfl ?_
    obtain ⟨hi8, h⟩ := h
    refine zw_iald zM_X0_putInodes dX0_putInodes_172 ⟨Or.inl hk6, hi8⟩ ?_
    refine zw_iconst (v := 2) zM_X0_putInodes dX0_putInodes_173 (by decide) ?_
    refine zw_icmp_ne (tgt := 192) zM_X0_putInodes dX0_putInodes_174 rfl rfl (fun q => ?_) (fun q => ?_)
    · replace h := h.1 q
      exact zw_weak2 h ⟨rfl, rfl, rfl, rfl, rfl, rfl, rfl, trivial⟩
    · replace h := h.2 q
      refine zw_go (pc1 := 178) (L1 := [some (.ref a0), some (.ref a1), some (.int x2), some (.ref a3), some (.int x4), some (.int x5), some (.int x6), some (.int x7), none]) (st1 := [.ref a0]) (σ1 := σ2) zM_X0_putInodes dX0_putInodes_177 rfl rfl rfl rfl ?_
      refine zw_go (pc1 := 180) (L1 := [some (.ref a0), some (.ref a1), some (.int x2), some (.ref a3), some (.int x4), some (.int x5), some (.int x6), some (.int x7), none]) (st1 := [.int x6, .ref a0]) (σ1 := σ2) zM_X0_putInodes dX0_putInodes_178 rfl rfl rfl rfl ?_
      refine zw_go (pc1 := 181) (L1 := [some (.ref a0), some (.ref a1), some (.int x2), some (.ref a3), some (.int x4), some (.int x5), some (.int x6), some (.int x7), none]) (st1 := [.ref a1, .int x6, .ref a0]) (σ1 := σ2) zM_X0_putInodes dX0_putInodes_180 rfl rfl rfl rfl ?_
      obtain ⟨b9, hr10, h⟩ := h
      refine zw_getR (a := b9) zM_X0_putInodes dX0_putInodes_181 zF_0_141 rfl hk3 hr10 ?_
      refine zw_go (pc1 := 186) (L1 := [some (.ref a0), some (.ref a1), some (.int x2), some (.ref a3), some (.int x4), some (.int x5), some (.int x6), some (.int x7), none]) (st1 := [.int x7, .ref b9, .int x6, .ref a0]) (σ1 := σ2) zM_X0_putInodes dX0_putInodes_184 rfl rfl rfl rfl ?_
      obtain ⟨hk11, h⟩ := h
      obtain ⟨hi12, h⟩ := h
      refine zw_iald zM_X0_putInodes dX0_putInodes_186 ⟨Or.inl hk11, hi12⟩ ?_
      refine zw_go (pc1 := 188) (L1 := [some (.ref a0), some (.ref a1), some (.int x2), some (.ref a3), some (.int x4), some (.int x5), some (.int x6), some (.int x7), none]) (st1 := [.int x2, .int (zI σ2 b9 (Int32.toNatClampNeg x7)), .int x6, .ref a0]) (σ1 := σ2) zM_X0_putInodes dX0_putInodes_187 rfl rfl rfl rfl ?_
      refine zw_go (pc1 := 189) (L1 := [some (.ref a0), some (.ref a1), some (.int x2), some (.ref a3), some (.int x4), some (.int x5), some (.int x6), some (.int x7), none]) (st1 := [.ref a3, .int x2, .int (zI σ2 b9 (Int32.toNatClampNeg x7)), .int x6, .ref a0]) (σ1 := σ2) zM_X0_putInodes dX0_putInodes_188 rfl rfl rfl rfl ?_
      obtain ⟨hk13, h⟩ := h
      refine zw_callV (as := [.ref a0, .int x6, .int (zI σ2 b9 (Int32.toNatClampNeg x7)), .int x2, .ref a3]) (rest := []) zM_X0_putInodes dX0_putInodes_189 (zx_calV zC_0_184) zM_X0_putFileRow rfl rfl rfl rfl rfl (zx_args0 hk13 rfl) rfl h (fun σ14 h => ?_)
      exact zw_weak2 h ⟨rfl, rfl, rfl, rfl, rfl, rfl, rfl, trivial⟩
  · replace h := h.2 q
    refine zw_go (pc1 := 110) (L1 := [some (.ref a0), some (.ref a1), some (.int x2), some (.ref a3), some (.int x4), some (.int x5), some (.int x6), some (.int x7), none]) (st1 := [.ref a1]) (σ1 := σ2) zM_X0_putInodes dX0_putInodes_109 rfl rfl rfl rfl ?_
    refine zw_go (pc1 := 112) (L1 := [some (.ref a0), some (.ref a1), some (.int x2), some (.ref a3), some (.int x4), some (.int x5), some (.int x6), some (.int x7), none]) (st1 := [.int x7, .ref a1]) (σ1 := σ2) zM_X0_putInodes dX0_putInodes_110 rfl rfl rfl rfl ?_
    refine zw_iconst (v := 1) zM_X0_putInodes dX0_putInodes_112 (by decide) ?_
    refine zw_go (pc1 := 114) (L1 := [some (.ref a0), some (.ref a1), some (.int x2), some (.ref a3), some (.int x4), some (.int x5), some (.int x6), some (.int x7), none]) (st1 := [.int (x7 + 1), .ref a1]) (σ1 := σ2) zM_X0_putInodes dX0_putInodes_113 rfl rfl rfl rfl ?_
    refine zw_callI (as := [.ref a1, .int (x7 + 1)]) (rest := []) zM_X0_putInodes dX0_putInodes_114 (zx_calV zC_0_119) zM_X5_firstNameOf rfl rfl rfl rfl rfl (zx_args0 hk3 rfl) rfl h (fun v16 σ15 h => ?_)
    refine zw_go (pc1 := 118) (L1 := [some (.ref a0), some (.ref a1), some (.int x2), some (.ref a3), some (.int x4), some (.int x5), some (.int x6), some (.int x7), none]) (st1 := [.ref a1, .int v16]) (σ1 := σ15) zM_X0_putInodes dX0_putInodes_117 rfl rfl rfl rfl ?_
    refine zw_go (pc1 := 120) (L1 := [some (.ref a0), some (.ref a1), some (.int x2), some (.ref a3), some (.int x4), some (.int x5), some (.int x6), some (.int x7), none]) (st1 := [.int x7, .ref a1, .int v16]) (σ1 := σ15) zM_X0_putInodes dX0_putInodes_118 rfl rfl rfl rfl ?_
    obtain ⟨hk17, h⟩ := h
    refine zw_callI (as := [.ref a1, .int x7]) (rest := [.int v16]) zM_X0_putInodes dX0_putInodes_120 (zx_calV zC_0_119) zM_X5_firstNameOf rfl rfl rfl rfl rfl (zx_args0 hk17 rfl) rfl h (fun v19 σ18 h => ?_)
    refine zw_go (pc1 := 124) (L1 := [some (.ref a0), some (.ref a1), some (.int x2), some (.ref a3), some (.int x4), some (.int x5), some (.int x6), some (.int x7), none]) (st1 := [.int (v16 - v19)]) (σ1 := σ18) zM_X0_putInodes dX0_putInodes_123 rfl rfl rfl rfl ?_
    refine zw_go (pc1 := 126) (L1 := [some (.ref a0), some (.ref a1), some (.int x2), some (.ref a3), some (.int x4), some (.int x5), some (.int x6), some (.int x7), some (.int (v16 - v19))]) (st1 := []) (σ1 := σ18) zM_X0_putInodes dX0_putInodes_124 rfl rfl rfl rfl ?_
    refine zw_go (pc1 := 127) (L1 := [some (.ref a0), some (.ref a1), some (.int x2), some (.ref a3), some (.int x4), some (.int x5), some (.int x6), some (.int x7), some (.int (v16 - v19))]) (st1 := [.ref a3]) (σ1 := σ18) zM_X0_putInodes dX0_putInodes_126 rfl rfl rfl rfl ?_
    refine zw_go (pc1 := 129) (L1 := [some (.ref a0), some (.ref a1), some (.int x2), some (.ref a3), some (.int x4), some (.int x5), some (.int x6), some (.int x7), some (.int (v16 - v19))]) (st1 := [.int x5, .ref a3]) (σ1 := σ18) zM_X0_putInodes dX0_putInodes_127 rfl rfl rfl rfl ?_
    obtain ⟨hk20, h⟩ := h
    refine zw_callV (as := [.ref a3, .int x5]) (rest := []) zM_X0_putInodes dX0_putInodes_129 (zx_calV zC_0_130) zM_X1_putWord rfl rfl rfl rfl rfl (zx_args0 hk20 rfl) rfl h (fun σ21 h => ?_)
    refine zw_go (pc1 := 133) (L1 := [some (.ref a0), some (.ref a1), some (.int x2), some (.ref a3), some (.int x4), some (.int x5), some (.int x6), some (.int x7), some (.int (v16 - v19))]) (st1 := [.ref a3]) (σ1 := σ21) zM_X0_putInodes dX0_putInodes_132 rfl rfl rfl rfl ?_
    refine zw_go (pc1 := 135) (L1 := [some (.ref a0), some (.ref a1), some (.int x2), some (.ref a3), some (.int x4), some (.int x5), some (.int x6), some (.int x7), some (.int (v16 - v19))]) (st1 := [.int (v16 - v19), .ref a3]) (σ1 := σ21) zM_X0_putInodes dX0_putInodes_133 rfl rfl rfl rfl ?_
    obtain ⟨hk22, h⟩ := h
    refine zw_callV (as := [.ref a3, .int (v16 - v19)]) (rest := []) zM_X0_putInodes dX0_putInodes_135 (zx_calV zC_0_130) zM_X1_putWord rfl rfl rfl rfl rfl (zx_args0 hk22 rfl) rfl h (fun σ23 h => ?_)
    refine zw_go (pc1 := 139) (L1 := [some (.ref a0), some (.ref a1), some (.int x2), some (.ref a3), some (.int x4), some (.int x5), some (.int x6), some (.int x7), some (.int (v16 - v19))]) (st1 := [.ref a3]) (σ1 := σ23) zM_X0_putInodes dX0_putInodes_138 rfl rfl rfl rfl ?_
    refine zw_go (pc1 := 140) (L1 := [some (.ref a0), some (.ref a1), some (.int x2), some (.ref a3), some (.int x4), some (.int x5), some (.int x6), some (.int x7), some (.int (v16 - v19))]) (st1 := [.ref a0, .ref a3]) (σ1 := σ23) zM_X0_putInodes dX0_putInodes_139 rfl rfl rfl rfl ?_
    obtain ⟨hk24, h⟩ := h
    obtain ⟨b25, hr26, h⟩ := h
    refine zw_getR (a := b25) zM_X0_putInodes dX0_putInodes_140 zF_0_18 rfl hk24 hr26 ?_
    refine zw_go (pc1 := 144) (L1 := [some (.ref a0), some (.ref a1), some (.int x2), some (.ref a3), some (.int x4), some (.int x5), some (.int x6), some (.int x7), some (.int (v16 - v19))]) (st1 := [.ref a1, .ref b25, .ref a3]) (σ1 := σ23) zM_X0_putInodes dX0_putInodes_143 rfl rfl rfl rfl ?_
    obtain ⟨hk27, h⟩ := h
    obtain ⟨b28, hr29, h⟩ := h
    refine zw_getR (a := b28) zM_X0_putInodes dX0_putInodes_144 zF_0_181 rfl hk27 hr29 ?_
    refine zw_go (pc1 := 149) (L1 := [some (.ref a0), some (.ref a1), some (.int x2), some (.ref a3), some (.int x4), some (.int x5), some (.int x6), some (.int x7), some (.int (v16 - v19))]) (st1 := [.int x7, .ref b28, .ref b25, .ref a3]) (σ1 := σ23) zM_X0_putInodes dX0_putInodes_147 rfl rfl rfl rfl ?_
    obtain ⟨hk30, h⟩ := h
    obtain ⟨hi31, h⟩ := h
    refine zw_iald zM_X0_putInodes dX0_putInodes_149 ⟨Or.inl hk30, hi31⟩ ?_
    obtain ⟨hk32, h⟩ := h
    obtain ⟨hi33, h⟩ := h
    refine zw_iald zM_X0_putInodes dX0_putInodes_150 ⟨Or.inl hk32, hi33⟩ ?_
    obtain ⟨hk34, h⟩ := h
    refine zw_callV (as := [.ref a3, .int (zI σ23 b25 (Int32.toNatClampNeg (zI σ23 b28 (Int32.toNatClampNeg x7))))]) (rest := []) zM_X0_putInodes dX0_putInodes_151 (zx_calV zC_0_130) zM_X1_putWord rfl rfl rfl rfl rfl (zx_args0 hk34 rfl) rfl h (fun σ35 h => ?_)
    refine zw_go (pc1 := 156) (L1 := [some (.ref a0), some (.ref a1), some (.int x2), some (.ref a3), some (.int x4), some (.int x5), some (.int x6), some (.int x7), some (.int (v16 - v19))]) (st1 := [.int x5]) (σ1 := σ35) zM_X0_putInodes dX0_putInodes_154 rfl rfl rfl rfl ?_
    refine zw_iconst (v := 4) zM_X0_putInodes dX0_putInodes_156 (by decide) ?_
    refine zw_go (pc1 := 159) (L1 := [some (.ref a0), some (.ref a1), some (.int x2), some (.ref a3), some (.int x4), some (.int x5), some (.int x6), some (.int x7), some (.int (v16 - v19))]) (st1 := [.int (v16 - v19), .int 4, .int x5]) (σ1 := σ35) zM_X0_putInodes dX0_putInodes_157 rfl rfl rfl rfl ?_
    refine zw_go (pc1 := 160) (L1 := [some (.ref a0), some (.ref a1), some (.int x2), some (.ref a3), some (.int x4), some (.int x5), some (.int x6), some (.int x7), some (.int (v16 - v19))]) (st1 := [.int (4 * (v16 - v19)), .int x5]) (σ1 := σ35) zM_X0_putInodes dX0_putInodes_159 rfl rfl rfl rfl ?_
    refine zw_go (pc1 := 161) (L1 := [some (.ref a0), some (.ref a1), some (.int x2), some (.ref a3), some (.int x4), some (.int x5), some (.int x6), some (.int x7), some (.int (v16 - v19))]) (st1 := [.int (x5 + (4 * (v16 - v19)))]) (σ1 := σ35) zM_X0_putInodes dX0_putInodes_160 rfl rfl rfl rfl ?_
    refine zw_go (pc1 := 163) (L1 := [some (.ref a0), some (.ref a1), some (.int x2), some (.ref a3), some (.int x4), some (.int (x5 + (4 * (v16 - v19)))), some (.int x6), some (.int x7), some (.int (v16 - v19))]) (st1 := []) (σ1 := σ35) zM_X0_putInodes dX0_putInodes_161 rfl rfl rfl rfl ?_
    refine zw_goto (tgt := 192) zM_X0_putInodes dX0_putInodes_163 rfl ?_
    exact zw_weak2 h ⟨rfl, rfl, rfl, rfl, rfl, rfl, rfl, trivial⟩
set_option maxHeartbeats 4000000 in
set_option maxRecDepth 100000 in
theorem vc_X0_putInodes_192 (a0 : Nat) (a1 : Nat) (x2 : Int32) (a3 : Nat) (x4 : Int32) (x5 : Int32) (x6 : Int32) (σ : zx_S) (K : zx_S → Prop) (h : zwV 16 12 [some (.ref a0), some (.ref a1), some (.int x2), some (.ref a3), some (.int x4), some (.int x5), some (.int (x6 + Int32.ofInt 1)), none, none] [] σ K) : zwV 16 192 [some (.ref a0), some (.ref a1), some (.int x2), some (.ref a3), some (.int x4), some (.int x5), some (.int x6), none, none] [] σ K := by
  refine zw_go (pc1 := 195) (L1 := [some (.ref a0), some (.ref a1), some (.int x2), some (.ref a3), some (.int x4), some (.int x5), some (.int (x6 + Int32.ofInt 1)), none, none]) (st1 := []) (σ1 := σ) zM_X0_putInodes dX0_putInodes_192 rfl rfl rfl rfl ?_
  refine zw_goto (tgt := 12) zM_X0_putInodes dX0_putInodes_195 rfl ?_
  exact zw_weak2 h ⟨rfl, rfl, rfl, rfl, rfl, rfl, rfl, trivial⟩
set_option maxHeartbeats 4000000 in
set_option maxRecDepth 100000 in
theorem vc_X0_putTailBlocks_0 (a0 : Nat) (a1 : Nat) (x2 : Int32) (a3 : Nat) (σ : zx_S) (K : zx_S → Prop) (h : zK σ a0 = 13 ∧ ∀ σ2 : zx_S, σ2 = zx_pI σ a0 14 0 → ∀ σ4 : zx_S, σ4 = zx_pI σ2 a0 15 0 → zwV 17 13 [some (.ref a0), some (.ref a1), some (.int x2), some (.ref a3), some (.int 1), none, none] [] σ4 K) : zwV 17 0 [some (.ref a0), some (.ref a1), some (.int x2), some (.ref a3), none, none, none] [] σ K := by
  refine zw_go (pc1 := 1) (L1 := [some (.ref a0), some (.ref a1), some (.int x2), some (.ref a3), none, none, none]) (st1 := [.ref a0]) (σ1 := σ) zM_X0_putTailBlocks dX0_putTailBlocks_0 rfl rfl rfl rfl ?_
  refine zw_iconst (v := 0) zM_X0_putTailBlocks dX0_putTailBlocks_1 (by decide) ?_
  obtain ⟨hk1, h⟩ := h
  obtain ⟨σ2, e3⟩ : ∃ z9 : zx_S, z9 = zx_pI σ a0 14 0 := ⟨_, rfl⟩
  replace h := h σ2 e3
  refine zw_putI zM_X0_putTailBlocks dX0_putTailBlocks_2 zF_0_159 rfl rfl hk1 e3 ?_
  refine zw_go (pc1 := 6) (L1 := [some (.ref a0), some (.ref a1), some (.int x2), some (.ref a3), none, none, none]) (st1 := [.ref a0]) (σ1 := σ2) zM_X0_putTailBlocks dX0_putTailBlocks_5 rfl rfl rfl rfl ?_
  refine zw_iconst (v := 0) zM_X0_putTailBlocks dX0_putTailBlocks_6 (by decide) ?_
  obtain ⟨σ4, e5⟩ : ∃ z9 : zx_S, z9 = zx_pI σ2 a0 15 0 := ⟨_, rfl⟩
  replace h := h σ4 e5
  refine zw_putI zM_X0_putTailBlocks dX0_putTailBlocks_7 zF_0_162 rfl rfl (by rw [e3]; exact hk1) e5 ?_
  refine zw_iconst (v := 1) zM_X0_putTailBlocks dX0_putTailBlocks_10 (by decide) ?_
  refine zw_go (pc1 := 13) (L1 := [some (.ref a0), some (.ref a1), some (.int x2), some (.ref a3), some (.int 1), none, none]) (st1 := []) (σ1 := σ4) zM_X0_putTailBlocks dX0_putTailBlocks_11 rfl rfl rfl rfl ?_
  exact zw_weak2 h ⟨rfl, rfl, rfl, rfl, rfl, trivial⟩
set_option maxHeartbeats 4000000 in
set_option maxRecDepth 100000 in
theorem vc_X0_putTailBlocks_13 (a0 : Nat) (a1 : Nat) (x2 : Int32) (a3 : Nat) (x4 : Int32) (σ : zx_S) (K : zx_S → Prop) (h : zK σ a0 = 13 ∧ (((zI σ a0 13) < x4 → (((zI σ a0 15) ≤ (0 : Int32) → K σ) ∧ (¬ (zI σ a0 15) ≤ (0 : Int32) → zwV 4 0 [some (.ref a0), some (.ref a3)] [] σ (fun σ2 => K σ2)))) ∧ (¬ (zI σ a0 13) < x4 → ∃ b3 : Nat, zR σ a0 2 = some b3 ∧ zK σ b3 = 1 ∧ zx_in x4 (zN σ b3) = true ∧ ∃ b7 : Nat, zR σ a0 6 = some b7 ∧ zK σ b7 = 1 ∧ zx_in x4 (zN σ b7) = true ∧ ∀ σ11 : zx_S, σ11 = zx_pI σ b7 (Int32.toNatClampNeg x4) 0 → ∃ b13 : Nat, zR σ11 a0 7 = some b13 ∧ zK σ11 b13 = 1 ∧ zx_in x4 (zN σ11 b13) = true ∧ ∀ σ17 : zx_S, σ17 = zx_pI σ11 b13 (Int32.toNatClampNeg x4) 0 → zK σ17 a1 = 18 ∧ ∃ b20 : Nat, zR σ17 a1 0 = some b20 ∧ zK σ17 b20 = 1 ∧ zx_in (zI σ b3 (Int32.toNatClampNeg x4)) (zN σ17 b20) = true ∧ ((¬ (zI σ17 b20 (Int32.toNatClampNeg (zI σ b3 (Int32.toNatClampNeg x4)))) = (2 : Int32) → zwV 17 116 [some (.ref a0), some (.ref a1), some (.int x2), some (.ref a3), some (.int x4), none, none] [] σ17 K) ∧ ((zI σ17 b20 (Int32.toNatClampNeg (zI σ b3 (Int32.toNatClampNeg x4)))) = (2 : Int32) → ∃ b24 : Nat, zR σ17 a0 3 = some b24 ∧ zK σ17 b24 = 1 ∧ zx_in x4 (zN σ17 b24) = true ∧ ((¬ (zI σ17 b24 (Int32.toNatClampNeg x4)) = (0 : Int32) → zwV 17 116 [some (.ref a0), some (.ref a1), some (.int x2), some (.ref a3), some (.int x4), none, none] [] σ17 K) ∧ ((zI σ17 b24 (Int32.toNatClampNeg x4)) = (0 : Int32) → ∃ b28 : Nat, zR σ17 a1 5 = some b28 ∧ zK σ17 b28 = 1 ∧ zx_in (zI σ b3 (Int32.toNatClampNeg x4)) (zN σ17 b28) = true ∧ zx_in (zI σ b3 (Int32.toNatClampNeg x4)) (zN σ17 b28) = true ∧ zwI 19 0 [some (.int (zI σ17 b28 (Int32.toNatClampNeg (zI σ b3 (Int32.toNatClampNeg x4))))), some (.int x2)] [] σ17 (fun v34 σ33 => zK σ33 a0 = 13 ∧ ((((zI σ33 a0 15) + ((zI σ17 b28 (Int32.toNatClampNeg (zI σ b3 (Int32.toNatClampNeg x4)))) - (v34 * x2))) ≤ x2 → zwV 17 107 [some (.ref a0), some (.ref a1), some (.int x2), some (.ref a3), some (.int x4), none, some (.int ((zI σ17 b28 (Int32.toNatClampNeg (zI σ b3 (Int32.toNatClampNeg x4)))) - (v34 * x2)))] [] σ33 K) ∧ (¬ ((zI σ33 a0 15) + ((zI σ17 b28 (Int32.toNatClampNeg (zI σ b3 (Int32.toNatClampNeg x4)))) - (v34 * x2))) ≤ x2 → zwV 4 0 [some (.ref a0), some (.ref a3)] [] σ33 (fun σ36 => zwV 17 107 [some (.ref a0), some (.ref a1), some (.int x2), some (.ref a3), some (.int x4), none, some (.int ((zI σ17 b28 (Int32.toNatClampNeg (zI σ b3 (Int32.toNatClampNeg x4)))) - (v34 * x2)))] [] σ36 K))))))))))) : zwV 17 13 [some (.ref a0), some (.ref a1), some (.int x2), some (.ref a3), some (.int x4), none, none] [] σ K := by
  refine zw_go (pc1 := 15) (L1 := [some (.ref a0), some (.ref a1), some (.int x2), some (.ref a3), some (.int x4), none, none]) (st1 := [.int x4]) (σ1 := σ) zM_X0_putTailBlocks dX0_putTailBlocks_13 rfl rfl rfl rfl ?_
  refine zw_go (pc1 := 16) (L1 := [some (.ref a0), some (.ref a1), some (.int x2), some (.ref a3), some (.int x4), none, none]) (st1 := [.ref a0, .int x4]) (σ1 := σ) zM_X0_putTailBlocks dX0_putTailBlocks_15 rfl rfl rfl rfl ?_
  obtain ⟨hk1, h⟩ := h
  refine zw_getI zM_X0_putTailBlocks dX0_putTailBlocks_16 zF_0_107 rfl hk1 ?_
  refine zw_icmp_gt (tgt := 122) zM_X0_putTailBlocks dX0_putTailBlocks_19 rfl rfl (fun q => ?_) (fun q => ?_)
  · replace h := h.1 q
    refine zw_go (pc1 := 123) (L1 := [some (.ref a0), some (.ref a1), some (.int x2), some (.ref a3), some (.int x4), none, none]) (st1 := [.ref a0]) (σ1 := σ) zM_X0_putTailBlocks dX0_putTailBlocks_122 rfl rfl rfl rfl ?_
    refine zw_getI zM_X0_putTailBlocks dX0_putTailBlocks_123 zF_0_162 rfl hk1 ?_
    refine zw_if_le (tgt := 134) zM_X0_putTailBlocks dX0_putTailBlocks_126 rfl rfl (fun q => ?_) (fun q => ?_)
    · replace h := h.1 q
      exact zw_retv zM_X0_putTailBlocks dX0_putTailBlocks_134 rfl h
    · replace h := h.2 q
      refine zw_go (pc1 := 130) (L1 := [some (.ref a0), some (.ref a1), some (.int x2), some (.ref a3), some (.int x4), none, none]) (st1 := [.ref a0]) (σ1 := σ) zM_X0_putTailBlocks dX0_putTailBlocks_129 rfl rfl rfl rfl ?_
      refine zw_go (pc1 := 131) (L1 := [some (.ref a0), some (.ref a1), some (.int x2), some (.ref a3), some (.int x4), none, none]) (st1 := [.ref a3, .ref a0]) (σ1 := σ) zM_X0_putTailBlocks dX0_putTailBlocks_130 rfl rfl rfl rfl ?_
      refine zw_callV (as := [.ref a0, .ref a3]) (rest := []) zM_X0_putTailBlocks dX0_putTailBlocks_131 (zx_calV zC_0_165) zM_X0_closeTailBlock rfl rfl rfl rfl rfl (zx_args0 hk1 rfl) rfl h (fun σ2 h => ?_)
      exact zw_retv zM_X0_putTailBlocks dX0_putTailBlocks_134 rfl h
  · replace h := h.2 q
    refine zw_go (pc1 := 23) (L1 := [some (.ref a0), some (.ref a1), some (.int x2), some (.ref a3), some (.int x4), none, none]) (st1 := [.ref a0]) (σ1 := σ) zM_X0_putTailBlocks dX0_putTailBlocks_22 rfl rfl rfl rfl ?_
    obtain ⟨b3, hr4, h⟩ := h
    refine zw_getR (a := b3) zM_X0_putTailBlocks dX0_putTailBlocks_23 zF_0_22 rfl hk1 hr4 ?_
    refine zw_go (pc1 := 28) (L1 := [some (.ref a0), some (.ref a1), some (.int x2), some (.ref a3), some (.int x4), none, none]) (st1 := [.int x4, .ref b3]) (σ1 := σ) zM_X0_putTailBlocks dX0_putTailBlocks_26 rfl rfl rfl rfl ?_
    obtain ⟨hk5, h⟩ := h
    obtain ⟨hi6, h⟩ := h
    refine zw_iald zM_X0_putTailBlocks dX0_putTailBlocks_28 ⟨Or.inl hk5, hi6⟩ ?_
    refine zw_go (pc1 := 31) (L1 := [some (.ref a0), some (.ref a1), some (.int x2), some (.ref a3), some (.int x4), some (.int (zI σ b3 (Int32.toNatClampNeg x4))), none]) (st1 := []) (σ1 := σ) zM_X0_putTailBlocks dX0_putTailBlocks_29 rfl rfl rfl rfl ?_
    refine zw_go (pc1 := 32) (L1 := [some (.ref a0), some (.ref a1), some (.int x2), some (.ref a3), some (.int x4), some (.int (zI σ b3 (Int32.toNatClampNeg x4))), none]) (st1 := [.ref a0]) (σ1 := σ) zM_X0_putTailBlocks dX0_putTailBlocks_31 rfl rfl rfl rfl ?_
    obtain ⟨b7, hr8, h⟩ := h
    refine zw_getR (a := b7) zM_X0_putTailBlocks dX0_putTailBlocks_32 zF_0_34 rfl hk1 hr8 ?_
    refine zw_go (pc1 := 37) (L1 := [some (.ref a0), some (.ref a1), some (.int x2), some (.ref a3), some (.int x4), some (.int (zI σ b3 (Int32.toNatClampNeg x4))), none]) (st1 := [.int x4, .ref b7]) (σ1 := σ) zM_X0_putTailBlocks dX0_putTailBlocks_35 rfl rfl rfl rfl ?_
    refine zw_iconst (v := 0) zM_X0_putTailBlocks dX0_putTailBlocks_37 (by decide) ?_
    obtain ⟨hk9, h⟩ := h
    obtain ⟨hi10, h⟩ := h
    obtain ⟨σ11, e12⟩ : ∃ z9 : zx_S, z9 = zx_pI σ b7 (Int32.toNatClampNeg x4) 0 := ⟨_, rfl⟩
    replace h := h σ11 e12
    refine zw_iast zM_X0_putTailBlocks dX0_putTailBlocks_38 ⟨hk9, hi10⟩ e12 ?_
    refine zw_go (pc1 := 40) (L1 := [some (.ref a0), some (.ref a1), some (.int x2), some (.ref a3), some (.int x4), some (.int (zI σ b3 (Int32.toNatClampNeg x4))), none]) (st1 := [.ref a0]) (σ1 := σ11) zM_X0_putTailBlocks dX0_putTailBlocks_39 rfl rfl rfl rfl ?_
    obtain ⟨b13, hr14, h⟩ := h
    refine zw_getR (a := b13) zM_X0_putTailBlocks dX0_putTailBlocks_40 zF_0_37 rfl (by rw [e12]; exact hk1) hr14 ?_
    refine zw_go (pc1 := 45) (L1 := [some (.ref a0), some (.ref a1), some (.int x2), some (.ref a3), some (.int x4), some (.int (zI σ b3 (Int32.toNatClampNeg x4))), none]) (st1 := [.int x4, .ref b13]) (σ1 := σ11) zM_X0_putTailBlocks dX0_putTailBlocks_43 rfl rfl rfl rfl ?_
    refine zw_iconst (v := 0) zM_X0_putTailBlocks dX0_putTailBlocks_45 (by decide) ?_
    obtain ⟨hk15, h⟩ := h
    obtain ⟨hi16, h⟩ := h
    obtain ⟨σ17, e18⟩ : ∃ z9 : zx_S, z9 = zx_pI σ11 b13 (Int32.toNatClampNeg x4) 0 := ⟨_, rfl⟩
    replace h := h σ17 e18
    refine zw_iast zM_X0_putTailBlocks dX0_putTailBlocks_46 ⟨hk15, hi16⟩ e18 ?_
    refine zw_go (pc1 := 48) (L1 := [some (.ref a0), some (.ref a1), some (.int x2), some (.ref a3), some (.int x4), some (.int (zI σ b3 (Int32.toNatClampNeg x4))), none]) (st1 := [.ref a1]) (σ1 := σ17) zM_X0_putTailBlocks dX0_putTailBlocks_47 rfl rfl rfl rfl ?_
    obtain ⟨hk19, h⟩ := h
    obtain ⟨b20, hr21, h⟩ := h
    refine zw_getR (a := b20) zM_X0_putTailBlocks dX0_putTailBlocks_48 zF_0_110 rfl hk19 hr21 ?_
    refine zw_go (pc1 := 53) (L1 := [some (.ref a0), some (.ref a1), some (.int x2), some (.ref a3), some (.int x4), some (.int (zI σ b3 (Int32.toNatClampNeg x4))), none]) (st1 := [.int (zI σ b3 (Int32.toNatClampNeg x4)), .ref b20]) (σ1 := σ17) zM_X0_putTailBlocks dX0_putTailBlocks_51 rfl rfl rfl rfl ?_
    obtain ⟨hk22, h⟩ := h
    obtain ⟨hi23, h⟩ := h
    refine zw_iald zM_X0_putTailBlocks dX0_putTailBlocks_53 ⟨Or.inl hk22, hi23⟩ ?_
    refine zw_iconst (v := 2) zM_X0_putTailBlocks dX0_putTailBlocks_54 (by decide) ?_
    refine zw_icmp_ne (tgt := 116) zM_X0_putTailBlocks dX0_putTailBlocks_55 rfl rfl (fun q => ?_) (fun q => ?_)
    · replace h := h.1 q
      exact zw_weak2 h ⟨rfl, rfl, rfl, rfl, rfl, trivial⟩
    · replace h := h.2 q
      refine zw_go (pc1 := 59) (L1 := [some (.ref a0), some (.ref a1), some (.int x2), some (.ref a3), some (.int x4), some (.int (zI σ b3 (Int32.toNatClampNeg x4))), none]) (st1 := [.ref a0]) (σ1 := σ17) zM_X0_putTailBlocks dX0_putTailBlocks_58 rfl rfl rfl rfl ?_
      obtain ⟨b24, hr25, h⟩ := h
      refine zw_getR (a := b24) zM_X0_putTailBlocks dX0_putTailBlocks_59 zF_0_25 rfl (by rw [e18, e12]; exact hk1) hr25 ?_
      refine zw_go (pc1 := 64) (L1 := [some (.ref a0), some (.ref a1), some (.int x2), some (.ref a3), some (.int x4), some (.int (zI σ b3 (Int32.toNatClampNeg x4))), none]) (st1 := [.int x4, .ref b24]) (σ1 := σ17) zM_X0_putTailBlocks dX0_putTailBlocks_62 rfl rfl rfl rfl ?_
      obtain ⟨hk26, h⟩ := h
      obtain ⟨hi27, h⟩ := h
      refine zw_iald zM_X0_putTailBlocks dX0_putTailBlocks_64 ⟨Or.inl hk26, hi27⟩ ?_
      refine zw_if_ne (tgt := 116) zM_X0_putTailBlocks dX0_putTailBlocks_65 rfl rfl (fun q => ?_) (fun q => ?_)
      · replace h := h.1 q
        exact zw_weak2 h ⟨rfl, rfl, rfl, rfl, rfl, trivial⟩
      · replace h := h.2 q
        refine zw_go (pc1 := 69) (L1 := [some (.ref a0), some (.ref a1), some (.int x2), some (.ref a3), some (.int x4), some (.int (zI σ b3 (Int32.toNatClampNeg x4))), none]) (st1 := [.ref a1]) (σ1 := σ17) zM_X0_putTailBlocks dX0_putTailBlocks_68 rfl rfl rfl rfl ?_
        obtain ⟨b28, hr29, h⟩ := h
        refine zw_getR (a := b28) zM_X0_putTailBlocks dX0_putTailBlocks_69 zF_0_141 rfl hk19 hr29 ?_
        refine zw_go (pc1 := 74) (L1 := [some (.ref a0), some (.ref a1), some (.int x2), some (.ref a3), some (.int x4), some (.int (zI σ b3 (Int32.toNatClampNeg x4))), none]) (st1 := [.int (zI σ b3 (Int32.toNatClampNeg x4)), .ref b28]) (σ1 := σ17) zM_X0_putTailBlocks dX0_putTailBlocks_72 rfl rfl rfl rfl ?_
        obtain ⟨hk30, h⟩ := h
        obtain ⟨hi31, h⟩ := h
        refine zw_iald zM_X0_putTailBlocks dX0_putTailBlocks_74 ⟨Or.inl hk30, hi31⟩ ?_
        refine zw_go (pc1 := 76) (L1 := [some (.ref a0), some (.ref a1), some (.int x2), some (.ref a3), some (.int x4), some (.int (zI σ b3 (Int32.toNatClampNeg x4))), none]) (st1 := [.ref a1, .int (zI σ17 b28 (Int32.toNatClampNeg (zI σ b3 (Int32.toNatClampNeg x4))))]) (σ1 := σ17) zM_X0_putTailBlocks dX0_putTailBlocks_75 rfl rfl rfl rfl ?_
        refine zw_getR (a := b28) zM_X0_putTailBlocks dX0_putTailBlocks_76 zF_0_141 rfl hk19 hr29 ?_
        refine zw_go (pc1 := 81) (L1 := [some (.ref a0), some (.ref a1), some (.int x2), some (.ref a3), some (.int x4), some (.int (zI σ b3 (Int32.toNatClampNeg x4))), none]) (st1 := [.int (zI σ b3 (Int32.toNatClampNeg x4)), .ref b28, .int (zI σ17 b28 (Int32.toNatClampNeg (zI σ b3 (Int32.toNatClampNeg x4))))]) (σ1 := σ17) zM_X0_putTailBlocks dX0_putTailBlocks_79 rfl rfl rfl rfl ?_
        obtain ⟨hi32, h⟩ := h
        refine zw_iald zM_X0_putTailBlocks dX0_putTailBlocks_81 ⟨Or.inl hk30, hi32⟩ ?_
        refine zw_go (pc1 := 83) (L1 := [some (.ref a0), some (.ref a1), some (.int x2), some (.ref a3), some (.int x4), some (.int (zI σ b3 (Int32.toNatClampNeg x4))), none]) (st1 := [.int x2, .int (zI σ17 b28 (Int32.toNatClampNeg (zI σ b3 (Int32.toNatClampNeg x4)))), .int (zI σ17 b28 (Int32.toNatClampNeg (zI σ b3 (Int32.toNatClampNeg x4))))]) (σ1 := σ17) zM_X0_putTailBlocks dX0_putTailBlocks_82 rfl rfl rfl rfl ?_
        refine zw_callI (as := [.int (zI σ17 b28 (Int32.toNatClampNeg (zI σ b3 (Int32.toNatClampNeg x4)))), .int x2]) (rest := [.int (zI σ17 b28 (Int32.toNatClampNeg (zI σ b3 (Int32.toNatClampNeg x4))))]) zM_X0_putTailBlocks dX0_putTailBlocks_83 (zx_calS zC_0_148) zM_X0_wholeBlocks rfl rfl rfl rfl rfl rfl rfl h (fun v34 σ33 h => ?_)
        refine zw_go (pc1 := 87) (L1 := [some (.ref a0), some (.ref a1), some (.int x2), some (.ref a3), some (.int x4), some (.int (zI σ b3 (Int32.toNatClampNeg x4))), none]) (st1 := [.int x2, .int v34, .int (zI σ17 b28 (Int32.toNatClampNeg (zI σ b3 (Int32.toNatClampNeg x4))))]) (σ1 := σ33) zM_X0_putTailBlocks dX0_putTailBlocks_86 rfl rfl rfl rfl ?_
        refine zw_go (pc1 := 88) (L1 := [some (.ref a0), some (.ref a1), some (.int x2), some (.ref a3), some (.int x4), some (.int (zI σ b3 (Int32.toNatClampNeg x4))), none]) (st1 := [.int (v34 * x2), .int (zI σ17 b28 (Int32.toNatClampNeg (zI σ b3 (Int32.toNatClampNeg x4))))]) (σ1 := σ33) zM_X0_putTailBlocks dX0_putTailBlocks_87 rfl rfl rfl rfl ?_
        refine zw_go (pc1 := 89) (L1 := [some (.ref a0), some (.ref a1), some (.int x2), some (.ref a3), some (.int x4), some (.int (zI σ b3 (Int32.toNatClampNeg x4))), none]) (st1 := [.int ((zI σ17 b28 (Int32.toNatClampNeg (zI σ b3 (Int32.toNatClampNeg x4)))) - (v34 * x2))]) (σ1 := σ33) zM_X0_putTailBlocks dX0_putTailBlocks_88 rfl rfl rfl rfl ?_
        refine zw_go (pc1 := 91) (L1 := [some (.ref a0), some (.ref a1), some (.int x2), some (.ref a3), some (.int x4), some (.int (zI σ b3 (Int32.toNatClampNeg x4))), some (.int ((zI σ17 b28 (Int32.toNatClampNeg (zI σ b3 (Int32.toNatClampNeg x4)))) - (v34 * x2)))]) (st1 := []) (σ1 := σ33) zM_X0_putTailBlocks dX0_putTailBlocks_89 rfl rfl rfl rfl ?_
        refine zw_go (pc1 := 92) (L1 := [some (.ref a0), some (.ref a1), some (.int x2), some (.ref a3), some (.int x4), some (.int (zI σ b3 (Int32.toNatClampNeg x4))), some (.int ((zI σ17 b28 (Int32.toNatClampNeg (zI σ b3 (Int32.toNatClampNeg x4)))) - (v34 * x2)))]) (st1 := [.ref a0]) (σ1 := σ33) zM_X0_putTailBlocks dX0_putTailBlocks_91 rfl rfl rfl rfl ?_
        obtain ⟨hk35, h⟩ := h
        refine zw_getI zM_X0_putTailBlocks dX0_putTailBlocks_92 zF_0_162 rfl hk35 ?_
        refine zw_go (pc1 := 97) (L1 := [some (.ref a0), some (.ref a1), some (.int x2), some (.ref a3), some (.int x4), some (.int (zI σ b3 (Int32.toNatClampNeg x4))), some (.int ((zI σ17 b28 (Int32.toNatClampNeg (zI σ b3 (Int32.toNatClampNeg x4)))) - (v34 * x2)))]) (st1 := [.int ((zI σ17 b28 (Int32.toNatClampNeg (zI σ b3 (Int32.toNatClampNeg x4)))) - (v34 * x2)), .int (zI σ33 a0 15)]) (σ1 := σ33) zM_X0_putTailBlocks dX0_putTailBlocks_95 rfl rfl rfl rfl ?_
        refine zw_go (pc1 := 98) (L1 := [some (.ref a0), some (.ref a1), some (.int x2), some (.ref a3), some (.int x4), some (.int (zI σ b3 (Int32.toNatClampNeg x4))), some (.int ((zI σ17 b28 (Int32.toNatClampNeg (zI σ b3 (Int32.toNatClampNeg x4)))) - (v34 * x2)))]) (st1 := [.int ((zI σ33 a0 15) + ((zI σ17 b28 (Int32.toNatClampNeg (zI σ b3 (Int32.toNatClampNeg x4)))) - (v34 * x2)))]) (σ1 := σ33) zM_X0_putTailBlocks dX0_putTailBlocks_97 rfl rfl rfl rfl ?_
        refine zw_go (pc1 := 99) (L1 := [some (.ref a0), some (.ref a1), some (.int x2), some (.ref a3), some (.int x4), some (.int (zI σ b3 (Int32.toNatClampNeg x4))), some (.int ((zI σ17 b28 (Int32.toNatClampNeg (zI σ b3 (Int32.toNatClampNeg x4)))) - (v34 * x2)))]) (st1 := [.int x2, .int ((zI σ33 a0 15) + ((zI σ17 b28 (Int32.toNatClampNeg (zI σ b3 (Int32.toNatClampNeg x4)))) - (v34 * x2)))]) (σ1 := σ33) zM_X0_putTailBlocks dX0_putTailBlocks_98 rfl rfl rfl rfl ?_
        refine zw_icmp_le (tgt := 107) zM_X0_putTailBlocks dX0_putTailBlocks_99 rfl rfl (fun q => ?_) (fun q => ?_)
        · replace h := h.1 q
          exact zw_weak2 h ⟨rfl, rfl, rfl, rfl, rfl, rfl, trivial⟩
        · replace h := h.2 q
          refine zw_go (pc1 := 103) (L1 := [some (.ref a0), some (.ref a1), some (.int x2), some (.ref a3), some (.int x4), some (.int (zI σ b3 (Int32.toNatClampNeg x4))), some (.int ((zI σ17 b28 (Int32.toNatClampNeg (zI σ b3 (Int32.toNatClampNeg x4)))) - (v34 * x2)))]) (st1 := [.ref a0]) (σ1 := σ33) zM_X0_putTailBlocks dX0_putTailBlocks_102 rfl rfl rfl rfl ?_
          refine zw_go (pc1 := 104) (L1 := [some (.ref a0), some (.ref a1), some (.int x2), some (.ref a3), some (.int x4), some (.int (zI σ b3 (Int32.toNatClampNeg x4))), some (.int ((zI σ17 b28 (Int32.toNatClampNeg (zI σ b3 (Int32.toNatClampNeg x4)))) - (v34 * x2)))]) (st1 := [.ref a3, .ref a0]) (σ1 := σ33) zM_X0_putTailBlocks dX0_putTailBlocks_103 rfl rfl rfl rfl ?_
          refine zw_callV (as := [.ref a0, .ref a3]) (rest := []) zM_X0_putTailBlocks dX0_putTailBlocks_104 (zx_calV zC_0_165) zM_X0_closeTailBlock rfl rfl rfl rfl rfl (zx_args0 hk35 rfl) rfl h (fun σ36 h => ?_)
          exact zw_weak2 h ⟨rfl, rfl, rfl, rfl, rfl, rfl, trivial⟩
set_option maxHeartbeats 4000000 in
set_option maxRecDepth 100000 in
theorem vc_X0_putTailBlocks_107 (a0 : Nat) (a1 : Nat) (x2 : Int32) (a3 : Nat) (x4 : Int32) (x6 : Int32) (σ : zx_S) (K : zx_S → Prop) (h : zK σ a0 = 13 ∧ zwV 9 0 [some (.ref a0), some (.ref a1), some (.int x4), some (.int x6), none, none, none] [] σ (fun σ2 => zwV 17 116 [some (.ref a0), some (.ref a1), some (.int x2), some (.ref a3), some (.int x4), none, none] [] σ2 K)) : zwV 17 107 [some (.ref a0), some (.ref a1), some (.int x2), some (.ref a3), some (.int x4), none, some (.int x6)] [] σ K := by
  refine zw_go (pc1 := 108) (L1 := [some (.ref a0), some (.ref a1), some (.int x2), some (.ref a3), some (.int x4), none, some (.int x6)]) (st1 := [.ref a0]) (σ1 := σ) zM_X0_putTailBlocks dX0_putTailBlocks_107 rfl rfl rfl rfl ?_
  refine zw_go (pc1 := 109) (L1 := [some (.ref a0), some (.ref a1), some (.int x2), some (.ref a3), some (.int x4), none, some (.int x6)]) (st1 := [.ref a1, .ref a0]) (σ1 := σ) zM_X0_putTailBlocks dX0_putTailBlocks_108 rfl rfl rfl rfl ?_
  refine zw_go (pc1 := 111) (L1 := [some (.ref a0), some (.ref a1), some (.int x2), some (.ref a3), some (.int x4), none, some (.int x6)]) (st1 := [.int x4, .ref a1, .ref a0]) (σ1 := σ) zM_X0_putTailBlocks dX0_putTailBlocks_109 rfl rfl rfl rfl ?_
  refine zw_go (pc1 := 113) (L1 := [some (.ref a0), some (.ref a1), some (.int x2), some (.ref a3), some (.int x4), none, some (.int x6)]) (st1 := [.int x6, .int x4, .ref a1, .ref a0]) (σ1 := σ) zM_X0_putTailBlocks dX0_putTailBlocks_111 rfl rfl rfl rfl ?_
  obtain ⟨hk1, h⟩ := h
  refine zw_callV (as := [.ref a0, .ref a1, .int x4, .int x6]) (rest := []) zM_X0_putTailBlocks dX0_putTailBlocks_113 (zx_calV zC_0_168) zM_X0_joinTail rfl rfl rfl rfl rfl (zx_args0 hk1 rfl) rfl h (fun σ2 h => ?_)
  exact zw_weak2 h ⟨rfl, rfl, rfl, rfl, rfl, trivial⟩
set_option maxHeartbeats 4000000 in
set_option maxRecDepth 100000 in
theorem vc_X0_putTailBlocks_116 (a0 : Nat) (a1 : Nat) (x2 : Int32) (a3 : Nat) (x4 : Int32) (σ : zx_S) (K : zx_S → Prop) (h : zwV 17 13 [some (.ref a0), some (.ref a1), some (.int x2), some (.ref a3), some (.int (x4 + Int32.ofInt 1)), none, none] [] σ K) : zwV 17 116 [some (.ref a0), some (.ref a1), some (.int x2), some (.ref a3), some (.int x4), none, none] [] σ K := by
  refine zw_go (pc1 := 119) (L1 := [some (.ref a0), some (.ref a1), some (.int x2), some (.ref a3), some (.int (x4 + Int32.ofInt 1)), none, none]) (st1 := []) (σ1 := σ) zM_X0_putTailBlocks dX0_putTailBlocks_116 rfl rfl rfl rfl ?_
  refine zw_goto (tgt := 13) zM_X0_putTailBlocks dX0_putTailBlocks_119 rfl ?_
  exact zw_weak2 h ⟨rfl, rfl, rfl, rfl, rfl, trivial⟩
set_option maxHeartbeats 4000000 in
set_option maxRecDepth 100000 in
theorem vc_X0_putTails_0 (a0 : Nat) (a1 : Nat) (σ : zx_S) (K : zx_S → Prop) (h : zwV 18 2 [some (.ref a0), some (.ref a1), some (.int 0)] [] σ K) : zwV 18 0 [some (.ref a0), some (.ref a1), none] [] σ K := by
  refine zw_iconst (v := 0) zM_X0_putTails dX0_putTails_0 (by decide) ?_
  refine zw_go (pc1 := 2) (L1 := [some (.ref a0), some (.ref a1), some (.int 0)]) (st1 := []) (σ1 := σ) zM_X0_putTails dX0_putTails_1 rfl rfl rfl rfl ?_
  exact zw_weak2 h ⟨rfl, rfl, rfl, trivial⟩
set_option maxHeartbeats 4000000 in
set_option maxRecDepth 100000 in
theorem vc_X0_putTails_2 (a0 : Nat) (a1 : Nat) (x2 : Int32) (σ : zx_S) (K : zx_S → Prop) (h : zK σ a0 = 13 ∧ (((zI σ a0 14) ≤ x2 → K σ) ∧ (¬ (zI σ a0 14) ≤ x2 → ∃ b2 : Nat, zR σ a0 9 = some b2 ∧ zK σ b2 = 1 ∧ zx_in x2 (zN σ b2) = true ∧ zK σ a1 = 14 ∧ zwV 40 0 [some (.ref a1), some (.int (zI σ b2 (Int32.toNatClampNeg x2)))] [] σ (fun σ7 => zK σ7 a0 = 13 ∧ ∃ b9 : Nat, zR σ7 a0 10 = some b9 ∧ zK σ7 b9 = 1 ∧ zx_in x2 (zN σ7 b9) = true ∧ zK σ7 a1 = 14 ∧ zwV 40 0 [some (.ref a1), some (.int (zI σ7 b9 (Int32.toNatClampNeg x2)))] [] σ7 (fun σ14 => zK σ14 a0 = 13 ∧ ∃ b16 : Nat, zR σ14 a0 11 = some b16 ∧ zK σ14 b16 = 1 ∧ zx_in x2 (zN σ14 b16) = true ∧ zK σ14 a1 = 14 ∧ zwV 38 0 [some (.ref a1), some (.int (zI σ14 b16 (Int32.toNatClampNeg x2)))] [] σ14 (fun σ21 => zwV 18 2 [some (.ref a0), some (.ref a1), some (.int (x2 + Int32.ofInt 1))] [] σ21 K)))))) : zwV 18 2 [some (.ref a0), some (.ref a1), some (.int x2)] [] σ K := by
  refine zw_go (pc1 := 3) (L1 := [some (.ref a0), some (.ref a1), some (.int x2)]) (st1 := [.int x2]) (σ1 := σ) zM_X0_putTails dX0_putTails_2 rfl rfl rfl rfl ?_
  refine zw_go (pc1 := 4) (L1 := [some (.ref a0), some (.ref a1), some (.int x2)]) (st1 := [.ref a0, .int x2]) (σ1 := σ) zM_X0_putTails dX0_putTails_3 rfl rfl rfl rfl ?_
  obtain ⟨hk1, h⟩ := h
  refine zw_getI zM_X0_putTails dX0_putTails_4 zF_0_159 rfl hk1 ?_
  refine zw_icmp_ge (tgt := 46) zM_X0_putTails dX0_putTails_7 rfl rfl (fun q => ?_) (fun q => ?_)
  · replace h := h.1 q
    exact zw_retv zM_X0_putTails dX0_putTails_46 rfl h
  · replace h := h.2 q
    refine zw_go (pc1 := 11) (L1 := [some (.ref a0), some (.ref a1), some (.int x2)]) (st1 := [.ref a1]) (σ1 := σ) zM_X0_putTails dX0_putTails_10 rfl rfl rfl rfl ?_
    refine zw_go (pc1 := 12) (L1 := [some (.ref a0), some (.ref a1), some (.int x2)]) (st1 := [.ref a0, .ref a1]) (σ1 := σ) zM_X0_putTails dX0_putTails_11 rfl rfl rfl rfl ?_
    obtain ⟨b2, hr3, h⟩ := h
    refine zw_getR (a := b2) zM_X0_putTails dX0_putTails_12 zF_0_43 rfl hk1 hr3 ?_
    refine zw_go (pc1 := 16) (L1 := [some (.ref a0), some (.ref a1), some (.int x2)]) (st1 := [.int x2, .ref b2, .ref a1]) (σ1 := σ) zM_X0_putTails dX0_putTails_15 rfl rfl rfl rfl ?_
    obtain ⟨hk4, h⟩ := h
    obtain ⟨hi5, h⟩ := h
    refine zw_iald zM_X0_putTails dX0_putTails_16 ⟨Or.inl hk4, hi5⟩ ?_
    obtain ⟨hk6, h⟩ := h
    refine zw_callV (as := [.ref a1, .int (zI σ b2 (Int32.toNatClampNeg x2))]) (rest := []) zM_X0_putTails dX0_putTails_17 (zx_calV zC_0_130) zM_X1_putWord rfl rfl rfl rfl rfl (zx_args0 hk6 rfl) rfl h (fun σ7 h => ?_)
    refine zw_go (pc1 := 21) (L1 := [some (.ref a0), some (.ref a1), some (.int x2)]) (st1 := [.ref a1]) (σ1 := σ7) zM_X0_putTails dX0_putTails_20 rfl rfl rfl rfl ?_
    refine zw_go (pc1 := 22) (L1 := [some (.ref a0), some (.ref a1), some (.int x2)]) (st1 := [.ref a0, .ref a1]) (σ1 := σ7) zM_X0_putTails dX0_putTails_21 rfl rfl rfl rfl ?_
    obtain ⟨hk8, h⟩ := h
    obtain ⟨b9, hr10, h⟩ := h
    refine zw_getR (a := b9) zM_X0_putTails dX0_putTails_22 zF_0_46 rfl hk8 hr10 ?_
    refine zw_go (pc1 := 26) (L1 := [some (.ref a0), some (.ref a1), some (.int x2)]) (st1 := [.int x2, .ref b9, .ref a1]) (σ1 := σ7) zM_X0_putTails dX0_putTails_25 rfl rfl rfl rfl ?_
    obtain ⟨hk11, h⟩ := h
    obtain ⟨hi12, h⟩ := h
    refine zw_iald zM_X0_putTails dX0_putTails_26 ⟨Or.inl hk11, hi12⟩ ?_
    obtain ⟨hk13, h⟩ := h
    refine zw_callV (as := [.ref a1, .int (zI σ7 b9 (Int32.toNatClampNeg x2))]) (rest := []) zM_X0_putTails dX0_putTails_27 (zx_calV zC_0_130) zM_X1_putWord rfl rfl rfl rfl rfl (zx_args0 hk13 rfl) rfl h (fun σ14 h => ?_)
    refine zw_go (pc1 := 31) (L1 := [some (.ref a0), some (.ref a1), some (.int x2)]) (st1 := [.ref a1]) (σ1 := σ14) zM_X0_putTails dX0_putTails_30 rfl rfl rfl rfl ?_
    refine zw_go (pc1 := 32) (L1 := [some (.ref a0), some (.ref a1), some (.int x2)]) (st1 := [.ref a0, .ref a1]) (σ1 := σ14) zM_X0_putTails dX0_putTails_31 rfl rfl rfl rfl ?_
    obtain ⟨hk15, h⟩ := h
    obtain ⟨b16, hr17, h⟩ := h
    refine zw_getR (a := b16) zM_X0_putTails dX0_putTails_32 zF_0_49 rfl hk15 hr17 ?_
    refine zw_go (pc1 := 36) (L1 := [some (.ref a0), some (.ref a1), some (.int x2)]) (st1 := [.int x2, .ref b16, .ref a1]) (σ1 := σ14) zM_X0_putTails dX0_putTails_35 rfl rfl rfl rfl ?_
    obtain ⟨hk18, h⟩ := h
    obtain ⟨hi19, h⟩ := h
    refine zw_iald zM_X0_putTails dX0_putTails_36 ⟨Or.inl hk18, hi19⟩ ?_
    obtain ⟨hk20, h⟩ := h
    refine zw_callV (as := [.ref a1, .int (zI σ14 b16 (Int32.toNatClampNeg x2))]) (rest := []) zM_X0_putTails dX0_putTails_37 (zx_calV zC_0_126) zM_X1_putByte rfl rfl rfl rfl rfl (zx_args0 hk20 rfl) rfl h (fun σ21 h => ?_)
    refine zw_go (pc1 := 43) (L1 := [some (.ref a0), some (.ref a1), some (.int (x2 + Int32.ofInt 1))]) (st1 := []) (σ1 := σ21) zM_X0_putTails dX0_putTails_40 rfl rfl rfl rfl ?_
    refine zw_goto (tgt := 2) zM_X0_putTails dX0_putTails_43 rfl ?_
    exact zw_weak2 h ⟨rfl, rfl, rfl, trivial⟩
set_option maxHeartbeats 4000000 in
set_option maxRecDepth 100000 in
theorem vc_X0_wholeBlocks_0 (x0 : Int32) (x1 : Int32) (σ : zx_S) (K : Int32 → zx_S → Prop) (h : (((1 : Int32) ≤ x1 → ¬ x1 = 0 ∧ K (x0 / x1) σ) ∧ (¬ (1 : Int32) ≤ x1 → K 0 σ))) : zwI 19 0 [some (.int x0), some (.int x1)] [] σ K := by
  refine zw_go (pc1 := 1) (L1 := [some (.int x0), some (.int x1)]) (st1 := [.int x1]) (σ1 := σ) zM_X0_wholeBlocks dX0_wholeBlocks_0 rfl rfl rfl rfl ?_
  refine zw_iconst (v := 1) zM_X0_wholeBlocks dX0_wholeBlocks_1 (by decide) ?_
  refine zw_icmp_ge (tgt := 9) zM_X0_wholeBlocks dX0_wholeBlocks_2 rfl rfl (fun q => ?_) (fun q => ?_)
  · replace h := h.1 q
    refine zw_go (pc1 := 10) (L1 := [some (.int x0), some (.int x1)]) (st1 := [.int x0]) (σ1 := σ) zM_X0_wholeBlocks dX0_wholeBlocks_9 rfl rfl rfl rfl ?_
    refine zw_go (pc1 := 11) (L1 := [some (.int x0), some (.int x1)]) (st1 := [.int x1, .int x0]) (σ1 := σ) zM_X0_wholeBlocks dX0_wholeBlocks_10 rfl rfl rfl rfl ?_
    obtain ⟨hz1, h⟩ := h
    refine zw_div zM_X0_wholeBlocks dX0_wholeBlocks_11 hz1 ?_
    exact zw_reti zM_X0_wholeBlocks dX0_wholeBlocks_12 rfl h
  · replace h := h.2 q
    refine zw_iconst (v := 0) zM_X0_wholeBlocks dX0_wholeBlocks_5 (by decide) ?_
    refine zw_goto (tgt := 12) zM_X0_wholeBlocks dX0_wholeBlocks_6 rfl ?_
    exact zw_reti zM_X0_wholeBlocks dX0_wholeBlocks_12 rfl h
