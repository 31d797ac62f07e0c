set_option maxHeartbeats 4000000 in
set_option maxRecDepth 100000 in
theorem vc_X7_tellInodes_0 (a0 : Nat) (x1 : Int32) (σ : zx_S) (K : zx_S → Prop) (h : zK σ a0 = 20 ∧ zwV 205 10 [some (.ref a0), some (.int x1), some (.int (zI σ a0 15)), some (.int 0), some (.int 1), none, none, none, none] [] σ K) : zwV 205 0 [some (.ref a0), some (.int x1), none, none, none, none, none, none, none] [] σ K := by
  refine zw_go (pc1 := 1) (L1 := [some (.ref a0), some (.int x1), none, none, none, none, none, none, none]) (st1 := [.ref a0]) (σ1 := σ) zM_X7_tellInodes dX7_tellInodes_0 rfl rfl rfl rfl ?_
  obtain ⟨hk1, h⟩ := h
  refine zw_getI zM_X7_tellInodes dX7_tellInodes_1 zF_7_132 rfl hk1 ?_
  refine zw_go (pc1 := 5) (L1 := [some (.ref a0), some (.int x1), some (.int (zI σ a0 15)), none, none, none, none, none, none]) (st1 := []) (σ1 := σ) zM_X7_tellInodes dX7_tellInodes_4 rfl rfl rfl rfl ?_
  refine zw_iconst (v := 0) zM_X7_tellInodes dX7_tellInodes_5 (by decide) ?_
  refine zw_go (pc1 := 7) (L1 := [some (.ref a0), some (.int x1), some (.int (zI σ a0 15)), some (.int 0), none, none, none, none, none]) (st1 := []) (σ1 := σ) zM_X7_tellInodes dX7_tellInodes_6 rfl rfl rfl rfl ?_
  refine zw_iconst (v := 1) zM_X7_tellInodes dX7_tellInodes_7 (by decide) ?_
  refine zw_go (pc1 := 10) (L1 := [some (.ref a0), some (.int x1), some (.int (zI σ a0 15)), some (.int 0), some (.int 1), none, none, none, none]) (st1 := []) (σ1 := σ) zM_X7_tellInodes dX7_tellInodes_8 rfl rfl rfl rfl ?_
  exact zw_weak2 h ⟨rfl, rfl, rfl, rfl, rfl, trivial⟩
set_option maxHeartbeats 4000000 in
set_option maxRecDepth 100000 in
theorem vc_X7_tellInodes_10 (a0 : Nat) (x1 : Int32) (x2 : Int32) (x3 : Int32) (x4 : Int32) (σ : zx_S) (K : zx_S → Prop) (h : zK σ a0 = 20 ∧ (((zI σ a0 18) < x4 → K σ) ∧ (¬ (zI σ a0 18) < x4 → ∃ b2 : Nat, zR σ a0 17 = some b2 ∧ zK σ b2 = 1 ∧ zx_in x4 (zN σ b2) = true ∧ ∃ b6 : Nat, zR σ a0 32 = some b6 ∧ zK σ b6 = 1 ∧ zx_in x4 (zN σ b6) = true ∧ ∀ σ10 : zx_S, σ10 = zx_pI σ b6 (Int32.toNatClampNeg x4) ((zI σ a0 15) - x2) → ∃ b12 : Nat, zR σ10 a0 2 = some b12 ∧ zK σ10 b12 = 1 ∧ zx_in (zI σ b2 (Int32.toNatClampNeg x4)) (zN σ10 b12) = true ∧ zwV 203 0 [some (.ref a0), some (.int (zI σ10 b12 (Int32.toNatClampNeg (zI σ b2 (Int32.toNatClampNeg x4)))))] [] σ10 (fun σ16 => zK σ16 a0 = 20 ∧ ∃ b18 : Nat, zR σ16 a0 3 = some b18 ∧ zK σ16 b18 = 1 ∧ zx_in (zI σ b2 (Int32.toNatClampNeg x4)) (zN σ16 b18) = true ∧ zwV 206 0 [some (.ref a0), some (.int (zI σ16 b18 (Int32.toNatClampNeg (zI σ b2 (Int32.toNatClampNeg x4)))))] [] σ16 (fun σ22 => zK σ22 a0 = 20 ∧ ∃ b24 : Nat, zR σ22 a0 4 = some b24 ∧ zK σ22 b24 = 1 ∧ zx_in (zI σ b2 (Int32.toNatClampNeg x4)) (zN σ22 b24) = true ∧ zwV 206 0 [some (.ref a0), some (.int (zI σ22 b24 (Int32.toNatClampNeg (zI σ b2 (Int32.toNatClampNeg x4)))))] [] σ22 (fun σ28 => ((¬ x4 = (1 : Int32) → zK σ28 a0 = 20 ∧ zwI 185 0 [some (.ref a0), some (.int (zI σ b2 (Int32.toNatClampNeg x4))), none, none] [] σ28 (fun v31 σ30 => zwV 205 91 [some (.ref a0), some (.int x1), some (.int x2), some (.int x3), some (.int x4), some (.int (zI σ b2 (Int32.toNatClampNeg x4))), none, none, none] [.int v31, .ref a0] σ30 K)) ∧ (x4 = (1 : Int32) → zwV 205 91 [some (.ref a0), some (.int x1), some (.int x2), some (.int x3), some (.int x4), some (.int (zI σ b2 (Int32.toNatClampNeg x4))), none, none, none] [.int 1, .ref a0] σ28 K)))))))) : zwV 205 10 [some (.ref a0), some (.int x1), some (.int x2), some (.int x3), some (.int x4), none, none, none, none] [] σ K := by
  refine zw_go (pc1 := 12) (L1 := [some (.ref a0), some (.int x1), some (.int x2), some (.int x3), some (.int x4), none, none, none, none]) (st1 := [.int x4]) (σ1 := σ) zM_X7_tellInodes dX7_tellInodes_10 rfl rfl rfl rfl ?_
  refine zw_go (pc1 := 13) (L1 := [some (.ref a0), some (.int x1), some (.int x2), some (.int x3), some (.int x4), none, none, none, none]) (st1 := [.ref a0, .int x4]) (σ1 := σ) zM_X7_tellInodes dX7_tellInodes_12 rfl rfl rfl rfl ?_
  obtain ⟨hk1, h⟩ := h
  refine zw_getI zM_X7_tellInodes dX7_tellInodes_13 zF_7_142 rfl hk1 ?_
  refine zw_icmp_gt (tgt := 310) zM_X7_tellInodes dX7_tellInodes_16 rfl rfl (fun q => ?_) (fun q => ?_)
  · replace h := h.1 q
    exact zw_retv zM_X7_tellInodes dX7_tellInodes_310 rfl h
  · replace h := h.2 q
    refine zw_go (pc1 := 20) (L1 := [some (.ref a0), some (.int x1), some (.int x2), some (.int x3), some (.int x4), none, none, none, none]) (st1 := [.ref a0]) (σ1 := σ) zM_X7_tellInodes dX7_tellInodes_19 rfl rfl rfl rfl ?_
    obtain ⟨b2, hr3, h⟩ := h
    refine zw_getR (a := b2) zM_X7_tellInodes dX7_tellInodes_20 zF_7_43 rfl hk1 hr3 ?_
    refine zw_go (pc1 := 25) (L1 := [some (.ref a0), some (.int x1), some (.int x2), some (.int x3), some (.int x4), none, none, none, none]) (st1 := [.int x4, .ref b2]) (σ1 := σ) zM_X7_tellInodes dX7_tellInodes_23 rfl rfl rfl rfl ?_
    obtain ⟨hk4, h⟩ := h
    obtain ⟨hi5, h⟩ := h
    refine zw_iald zM_X7_tellInodes dX7_tellInodes_25 ⟨Or.inl hk4, hi5⟩ ?_
    refine zw_go (pc1 := 28) (L1 := [some (.ref a0), some (.int x1), some (.int x2), some (.int x3), some (.int x4), some (.int (zI σ b2 (Int32.toNatClampNeg x4))), none, none, none]) (st1 := []) (σ1 := σ) zM_X7_tellInodes dX7_tellInodes_26 rfl rfl rfl rfl ?_
    refine zw_go (pc1 := 29) (L1 := [some (.ref a0), some (.int x1), some (.int x2), some (.int x3), some (.int x4), some (.int (zI σ b2 (Int32.toNatClampNeg x4))), none, none, none]) (st1 := [.ref a0]) (σ1 := σ) zM_X7_tellInodes dX7_tellInodes_28 rfl rfl rfl rfl ?_
    obtain ⟨b6, hr7, h⟩ := h
    refine zw_getR (a := b6) zM_X7_tellInodes dX7_tellInodes_29 zF_7_76 rfl hk1 hr7 ?_
    refine zw_go (pc1 := 34) (L1 := [some (.ref a0), some (.int x1), some (.int x2), some (.int x3), some (.int x4), some (.int (zI σ b2 (Int32.toNatClampNeg x4))), none, none, none]) (st1 := [.int x4, .ref b6]) (σ1 := σ) zM_X7_tellInodes dX7_tellInodes_32 rfl rfl rfl rfl ?_
    refine zw_go (pc1 := 35) (L1 := [some (.ref a0), some (.int x1), some (.int x2), some (.int x3), some (.int x4), some (.int (zI σ b2 (Int32.toNatClampNeg x4))), none, none, none]) (st1 := [.ref a0, .int x4, .ref b6]) (σ1 := σ) zM_X7_tellInodes dX7_tellInodes_34 rfl rfl rfl rfl ?_
    refine zw_getI zM_X7_tellInodes dX7_tellInodes_35 zF_7_132 rfl hk1 ?_
    refine zw_go (pc1 := 39) (L1 := [some (.ref a0), some (.int x1), some (.int x2), some (.int x3), some (.int x4), some (.int (zI σ b2 (Int32.toNatClampNeg x4))), none, none, none]) (st1 := [.int x2, .int (zI σ a0 15), .int x4, .ref b6]) (σ1 := σ) zM_X7_tellInodes dX7_tellInodes_38 rfl rfl rfl rfl ?_
    refine zw_go (pc1 := 40) (L1 := [some (.ref a0), some (.int x1), some (.int x2), some (.int x3), some (.int x4), some (.int (zI σ b2 (Int32.toNatClampNeg x4))), none, none, none]) (st1 := [.int ((zI σ a0 15) - x2), .int x4, .ref b6]) (σ1 := σ) zM_X7_tellInodes dX7_tellInodes_39 rfl rfl rfl rfl ?_
    obtain ⟨hk8, h⟩ := h
    obtain ⟨hi9, h⟩ := h
    obtain ⟨σ10, e11⟩ : ∃ z9 : zx_S, z9 = zx_pI σ b6 (Int32.toNatClampNeg x4) ((zI σ a0 15) - x2) := ⟨_, rfl⟩
    replace h := h σ10 e11
    refine zw_iast zM_X7_tellInodes dX7_tellInodes_40 ⟨hk8, hi9⟩ e11 ?_
    refine zw_go (pc1 := 42) (L1 := [some (.ref a0), some (.int x1), some (.int x2), some (.int x3), some (.int x4), some (.int (zI σ b2 (Int32.toNatClampNeg x4))), none, none, none]) (st1 := [.ref a0]) (σ1 := σ10) zM_X7_tellInodes dX7_tellInodes_41 rfl rfl rfl rfl ?_
    refine zw_go (pc1 := 43) (L1 := [some (.ref a0), some (.int x1), some (.int x2), some (.int x3), some (.int x4), some (.int (zI σ b2 (Int32.toNatClampNeg x4))), none, none, none]) (st1 := [.ref a0, .ref a0]) (σ1 := σ10) zM_X7_tellInodes dX7_tellInodes_42 rfl rfl rfl rfl ?_
    obtain ⟨b12, hr13, h⟩ := h
    refine zw_getR (a := b12) zM_X7_tellInodes dX7_tellInodes_43 zF_7_7 rfl (by rw [e11]; exact hk1) hr13 ?_
    refine zw_go (pc1 := 48) (L1 := [some (.ref a0), some (.int x1), some (.int x2), some (.int x3), some (.int x4), some (.int (zI σ b2 (Int32.toNatClampNeg x4))), none, none, none]) (st1 := [.int (zI σ b2 (Int32.toNatClampNeg x4)), .ref b12, .ref a0]) (σ1 := σ10) zM_X7_tellInodes dX7_tellInodes_46 rfl rfl rfl rfl ?_
    obtain ⟨hk14, h⟩ := h
    obtain ⟨hi15, h⟩ := h
    refine zw_iald zM_X7_tellInodes dX7_tellInodes_48 ⟨Or.inl hk14, hi15⟩ ?_
    refine zw_callV (as := [.ref a0, .int (zI σ10 b12 (Int32.toNatClampNeg (zI σ b2 (Int32.toNatClampNeg x4))))]) (rest := []) zM_X7_tellInodes dX7_tellInodes_49 (zx_calV zC_7_135) zM_X7_tell rfl rfl rfl rfl rfl (zx_args0 (by rw [e11]; exact hk1) rfl) rfl h (fun σ16 h => ?_)
    refine zw_go (pc1 := 53) (L1 := [some (.ref a0), some (.int x1), some (.int x2), some (.int x3), some (.int x4), some (.int (zI σ b2 (Int32.toNatClampNeg x4))), none, none, none]) (st1 := [.ref a0]) (σ1 := σ16) zM_X7_tellInodes dX7_tellInodes_52 rfl rfl rfl rfl ?_
    refine zw_go (pc1 := 54) (L1 := [some (.ref a0), some (.int x1), some (.int x2), some (.int x3), some (.int x4), some (.int (zI σ b2 (Int32.toNatClampNeg x4))), none, none, none]) (st1 := [.ref a0, .ref a0]) (σ1 := σ16) zM_X7_tellInodes dX7_tellInodes_53 rfl rfl rfl rfl ?_
    obtain ⟨hk17, h⟩ := h
    obtain ⟨b18, hr19, h⟩ := h
    refine zw_getR (a := b18) zM_X7_tellInodes dX7_tellInodes_54 zF_7_13 rfl hk17 hr19 ?_
    refine zw_go (pc1 := 59) (L1 := [some (.ref a0), some (.int x1), some (.int x2), some (.int x3), some (.int x4), some (.int (zI σ b2 (Int32.toNatClampNeg x4))), none, none, none]) (st1 := [.int (zI σ b2 (Int32.toNatClampNeg x4)), .ref b18, .ref a0]) (σ1 := σ16) zM_X7_tellInodes dX7_tellInodes_57 rfl rfl rfl rfl ?_
    obtain ⟨hk20, h⟩ := h
    obtain ⟨hi21, h⟩ := h
    refine zw_iald zM_X7_tellInodes dX7_tellInodes_59 ⟨Or.inl hk20, hi21⟩ ?_
    refine zw_callV (as := [.ref a0, .int (zI σ16 b18 (Int32.toNatClampNeg (zI σ b2 (Int32.toNatClampNeg x4))))]) (rest := []) zM_X7_tellInodes dX7_tellInodes_60 (zx_calV zC_7_184) zM_X7_tellWord rfl rfl rfl rfl rfl (zx_args0 hk17 rfl) rfl h (fun σ22 h => ?_)
    refine zw_go (pc1 := 64) (L1 := [some (.ref a0), some (.int x1), some (.int x2), some (.int x3), some (.int x4), some (.int (zI σ b2 (Int32.toNatClampNeg x4))), none, none, none]) (st1 := [.ref a0]) (σ1 := σ22) zM_X7_tellInodes dX7_tellInodes_63 rfl rfl rfl rfl ?_
    refine zw_go (pc1 := 65) (L1 := [some (.ref a0), some (.int x1), some (.int x2), some (.int x3), some (.int x4), some (.int (zI σ b2 (Int32.toNatClampNeg x4))), none, none, none]) (st1 := [.ref a0, .ref a0]) (σ1 := σ22) zM_X7_tellInodes dX7_tellInodes_64 rfl rfl rfl rfl ?_
    obtain ⟨hk23, h⟩ := h
    obtain ⟨b24, hr25, h⟩ := h
    refine zw_getR (a := b24) zM_X7_tellInodes dX7_tellInodes_65 zF_7_16 rfl hk23 hr25 ?_
    refine zw_go (pc1 := 70) (L1 := [some (.ref a0), some (.int x1), some (.int x2), some (.int x3), some (.int x4), some (.int (zI σ b2 (Int32.toNatClampNeg x4))), none, none, none]) (st1 := [.int (zI σ b2 (Int32.toNatClampNeg x4)), .ref b24, .ref a0]) (σ1 := σ22) zM_X7_tellInodes dX7_tellInodes_68 rfl rfl rfl rfl ?_
    obtain ⟨hk26, h⟩ := h
    obtain ⟨hi27, h⟩ := h
    refine zw_iald zM_X7_tellInodes dX7_tellInodes_70 ⟨Or.inl hk26, hi27⟩ ?_
    refine zw_callV (as := [.ref a0, .int (zI σ22 b24 (Int32.toNatClampNeg (zI σ b2 (Int32.toNatClampNeg x4))))]) (rest := []) zM_X7_tellInodes dX7_tellInodes_71 (zx_calV zC_7_184) zM_X7_tellWord rfl rfl rfl rfl rfl (zx_args0 hk23 rfl) rfl h (fun σ28 h => ?_)
    refine zw_go (pc1 := 75) (L1 := [some (.ref a0), some (.int x1), some (.int x2), some (.int x3), some (.int x4), some (.int (zI σ b2 (Int32.toNatClampNeg x4))), none, none, none]) (st1 := [.ref a0]) (σ1 := σ28) zM_X7_tellInodes dX7_tellInodes_74 rfl rfl rfl rfl ?_
    refine zw_go (pc1 := 77) (L1 := [some (.ref a0), some (.int x1), some (.int x2), some (.int x3), some (.int x4), some (.int (zI σ b2 (Int32.toNatClampNeg x4))), none, none, none]) (st1 := [.int x4, .ref a0]) (σ1 := σ28) zM_X7_tellInodes dX7_tellInodes_75 rfl rfl rfl rfl ?_
    refine zw_iconst (v := 1) zM_X7_tellInodes dX7_tellInodes_77 (by decide) ?_
    refine zw_icmp_ne (tgt := 85) zM_X7_tellInodes dX7_tellInodes_78 rfl rfl (fun q => ?_) (fun q => ?_)
    · replace h := h.1 q
      refine zw_go (pc1 := 86) (L1 := [some (.ref a0), some (.int x1), some (.int x2), some (.int x3), some (.int x4), some (.int (zI σ b2 (Int32.toNatClampNeg x4))), none, none, none]) (st1 := [.ref a0, .ref a0]) (σ1 := σ28) zM_X7_tellInodes dX7_tellInodes_85 rfl rfl rfl rfl ?_
      refine zw_go (pc1 := 88) (L1 := [some (.ref a0), some (.int x1), some (.int x2), some (.int x3), some (.int x4), some (.int (zI σ b2 (Int32.toNatClampNeg x4))), none, none, none]) (st1 := [.int (zI σ b2 (Int32.toNatClampNeg x4)), .ref a0, .ref a0]) (σ1 := σ28) zM_X7_tellInodes dX7_tellInodes_86 rfl rfl rfl rfl ?_
      obtain ⟨hk29, h⟩ := h
      refine zw_callI (as := [.ref a0, .int (zI σ b2 (Int32.toNatClampNeg x4))]) (rest := [.ref a0]) zM_X7_tellInodes dX7_tellInodes_88 (zx_calV zC_7_124) zM_X7_namesOf rfl rfl rfl rfl rfl (zx_args0 hk29 rfl) rfl h (fun v31 σ30 h => ?_)
      exact zw_weak2 h ⟨rfl, rfl, rfl, rfl, rfl, rfl, trivial⟩
    · replace h := h.2 q
      refine zw_iconst (v := 1) zM_X7_tellInodes dX7_tellInodes_81 (by decide) ?_
      refine zw_goto (tgt := 91) zM_X7_tellInodes dX7_tellInodes_82 rfl ?_
      exact zw_weak2 h ⟨rfl, rfl, rfl, rfl, rfl, rfl, trivial⟩
set_option maxHeartbeats 4000000 in
set_option maxRecDepth 100000 in
theorem vc_X7_tellInodes_91 (a0 : Nat) (x1 : Int32) (x2 : Int32) (x3 : Int32) (x4 : Int32) (x5 : Int32) (y0 : Int32) (c1 : Nat) (σ : zx_S) (K : zx_S → Prop) (h : zK σ c1 = 20 ∧ zwV 203 0 [some (.ref c1), some (.int y0)] [] σ (fun σ2 => zK σ2 a0 = 20 ∧ ∃ b4 : Nat, zR σ2 a0 2 = some b4 ∧ zK σ2 b4 = 1 ∧ zx_in x5 (zN σ2 b4) = true ∧ ((¬ (zI σ2 b4 (Int32.toNatClampNeg x5)) = (1 : Int32) → zx_in x5 (zN σ2 b4) = true ∧ ((¬ (zI σ2 b4 (Int32.toNatClampNeg x5)) = (2 : Int32) → zwV 205 304 [some (.ref a0), some (.int x1), some (.int x2), some (.int x3), some (.int x4), none, none, none, none] [] σ2 K) ∧ ((zI σ2 b4 (Int32.toNatClampNeg x5)) = (2 : Int32) → ∃ b9 : Nat, zR σ2 a0 5 = some b9 ∧ zK σ2 b9 = 1 ∧ zx_in x5 (zN σ2 b9) = true ∧ zwV 206 0 [some (.ref a0), some (.int (zI σ2 b9 (Int32.toNatClampNeg x5)))] [] σ2 (fun σ13 => zK σ13 a0 = 20 ∧ ∃ b15 : Nat, zR σ13 a0 23 = some b15 ∧ zK σ13 b15 = 1 ∧ zx_in x4 (zN σ13 b15) = true ∧ zwV 206 0 [some (.ref a0), some (.int (zI σ13 b15 (Int32.toNatClampNeg x4)))] [] σ13 (fun σ19 => zK σ19 a0 = 20 ∧ ∃ b21 : Nat, zR σ19 a0 25 = some b21 ∧ zK σ19 b21 = 1 ∧ zx_in x4 (zN σ19 b21) = true ∧ zwV 203 0 [some (.ref a0), some (.int (zI σ19 b21 (Int32.toNatClampNeg x4)))] [] σ19 (fun σ25 => zK σ25 a0 = 20 ∧ ∃ b27 : Nat, zR σ25 a0 26 = some b27 ∧ zK σ25 b27 = 1 ∧ zx_in x4 (zN σ25 b27) = true ∧ zwV 203 0 [some (.ref a0), some (.int (zI σ25 b27 (Int32.toNatClampNeg x4)))] [] σ25 (fun σ31 => zwV 205 267 [some (.ref a0), some (.int x1), some (.int x2), some (.int x3), some (.int x4), some (.int x5), some (.int 0), none, none] [] σ31 K))))))) ∧ ((zI σ2 b4 (Int32.toNatClampNeg x5)) = (1 : Int32) → zwV 205 114 [some (.ref a0), some (.int x1), some (.int x2), some (.int x3), some (.int x4), some (.int x5), some (.int 0), some (.int 1), some (.int 0)] [] σ2 K)))) : zwV 205 91 [some (.ref a0), some (.int x1), some (.int x2), some (.int x3), some (.int x4), some (.int x5), none, none, none] [.int y0, .ref c1] σ K := by
  obtain ⟨hk1, h⟩ := h
  refine zw_callV (as := [.ref c1, .int y0]) (rest := []) zM_X7_tellInodes dX7_tellInodes_91 (zx_calV zC_7_135) zM_X7_tell rfl rfl rfl rfl rfl (zx_args0 hk1 rfl) rfl h (fun σ2 h => ?_)
  refine zw_go (pc1 := 95) (L1 := [some (.ref a0), some (.int x1), some (.int x2), some (.int x3), some (.int x4), some (.int x5), none, none, none]) (st1 := [.ref a0]) (σ1 := σ2) zM_X7_tellInodes dX7_tellInodes_94 rfl rfl rfl rfl ?_
  obtain ⟨hk3, h⟩ := h
  obtain ⟨b4, hr5, h⟩ := h
  refine zw_getR (a := b4) zM_X7_tellInodes dX7_tellInodes_95 zF_7_7 rfl hk3 hr5 ?_
  refine zw_go (pc1 := 100) (L1 := [some (.ref a0), some (.int x1), some (.int x2), some (.int x3), some (.int x4), some (.int x5), none, none, none]) (st1 := [.int x5, .ref b4]) (σ1 := σ2) zM_X7_tellInodes dX7_tellInodes_98 rfl rfl rfl rfl ?_
  obtain ⟨hk6, h⟩ := h
  obtain ⟨hi7, h⟩ := h
  refine zw_iald zM_X7_tellInodes dX7_tellInodes_100 ⟨Or.inl hk6, hi7⟩ ?_
  refine zw_iconst (v := 1) zM_X7_tellInodes dX7_tellInodes_101 (by decide) ?_
  refine zw_icmp_ne (tgt := 209) zM_X7_tellInodes dX7_tellInodes_102 rfl rfl (fun q => ?_) (fun q => ?_)
  · replace h := h.1 q
    refine zw_go (pc1 := 210) (L1 := [some (.ref a0), some (.int x1), some (.int x2), some (.int x3), some (.int x4), some (.int x5), none, none, none]) (st1 := [.ref a0]) (σ1 := σ2) zM_X7_tellInodes dX7_tellInodes_209 rfl rfl rfl rfl ?_
    refine zw_getR (a := b4) zM_X7_tellInodes dX7_tellInodes_210 zF_7_7 rfl hk3 hr5 ?_
    refine zw_go (pc1 := 215) (L1 := [some (.ref a0), some (.int x1), some (.int x2), some (.int x3), some (.int x4), some (.int x5), none, none, none]) (st1 := [.int x5, .ref b4]) (σ1 := σ2) zM_X7_tellInodes dX7_tellInodes_213 rfl rfl rfl rfl ?_
    obtain ⟨hi8, h⟩ := h
    refine zw_iald zM_X7_tellInodes dX7_tellInodes_215 ⟨Or.inl hk6, hi8⟩ ?_
    refine zw_iconst (v := 2) zM_X7_tellInodes dX7_tellInodes_216 (by decide) ?_
    refine zw_icmp_ne (tgt := 304) zM_X7_tellInodes dX7_tellInodes_217 rfl rfl (fun q => ?_) (fun q => ?_)
    · replace h := h.1 q
      exact zw_weak2 h ⟨rfl, rfl, rfl, rfl, rfl, trivial⟩
    · replace h := h.2 q
      refine zw_go (pc1 := 221) (L1 := [some (.ref a0), some (.int x1), some (.int x2), some (.int x3), some (.int x4), some (.int x5), none, none, none]) (st1 := [.ref a0]) (σ1 := σ2) zM_X7_tellInodes dX7_tellInodes_220 rfl rfl rfl rfl ?_
      refine zw_go (pc1 := 222) (L1 := [some (.ref a0), some (.int x1), some (.int x2), some (.int x3), some (.int x4), some (.int x5), none, none, none]) (st1 := [.ref a0, .ref a0]) (σ1 := σ2) zM_X7_tellInodes dX7_tellInodes_221 rfl rfl rfl rfl ?_
      obtain ⟨b9, hr10, h⟩ := h
      refine zw_getR (a := b9) zM_X7_tellInodes dX7_tellInodes_222 zF_7_19 rfl hk3 hr10 ?_
      refine zw_go (pc1 := 227) (L1 := [some (.ref a0), some (.int x1), some (.int x2), some (.int x3), some (.int x4), some (.int x5), none, none, none]) (st1 := [.int x5, .ref b9, .ref a0]) (σ1 := σ2) zM_X7_tellInodes dX7_tellInodes_225 rfl rfl rfl rfl ?_
      obtain ⟨hk11, h⟩ := h
      obtain ⟨hi12, h⟩ := h
      refine zw_iald zM_X7_tellInodes dX7_tellInodes_227 ⟨Or.inl hk11, hi12⟩ ?_
      refine zw_callV (as := [.ref a0, .int (zI σ2 b9 (Int32.toNatClampNeg x5))]) (rest := []) zM_X7_tellInodes dX7_tellInodes_228 (zx_calV zC_7_184) zM_X7_tellWord rfl rfl rfl rfl rfl (zx_args0 hk3 rfl) rfl h (fun σ13 h => ?_)
      refine zw_go (pc1 := 232) (L1 := [some (.ref a0), some (.int x1), some (.int x2), some (.int x3), some (.int x4), some (.int x5), none, none, none]) (st1 := [.ref a0]) (σ1 := σ13) zM_X7_tellInodes dX7_tellInodes_231 rfl rfl rfl rfl ?_
      refine zw_go (pc1 := 233) (L1 := [some (.ref a0), some (.int x1), some (.int x2), some (.int x3), some (.int x4), some (.int x5), none, none, none]) (st1 := [.ref a0, .ref a0]) (σ1 := σ13) zM_X7_tellInodes dX7_tellInodes_232 rfl rfl rfl rfl ?_
      obtain ⟨hk14, h⟩ := h
      obtain ⟨b15, hr16, h⟩ := h
      refine zw_getR (a := b15) zM_X7_tellInodes dX7_tellInodes_233 zF_7_52 rfl hk14 hr16 ?_
      refine zw_go (pc1 := 238) (L1 := [some (.ref a0), some (.int x1), some (.int x2), some (.int x3), some (.int x4), some (.int x5), none, none, none]) (st1 := [.int x4, .ref b15, .ref a0]) (σ1 := σ13) zM_X7_tellInodes dX7_tellInodes_236 rfl rfl rfl rfl ?_
      obtain ⟨hk17, h⟩ := h
      obtain ⟨hi18, h⟩ := h
      refine zw_iald zM_X7_tellInodes dX7_tellInodes_238 ⟨Or.inl hk17, hi18⟩ ?_
      refine zw_callV (as := [.ref a0, .int (zI σ13 b15 (Int32.toNatClampNeg x4))]) (rest := []) zM_X7_tellInodes dX7_tellInodes_239 (zx_calV zC_7_184) zM_X7_tellWord rfl rfl rfl rfl rfl (zx_args0 hk14 rfl) rfl h (fun σ19 h => ?_)
      refine zw_go (pc1 := 243) (L1 := [some (.ref a0), some (.int x1), some (.int x2), some (.int x3), some (.int x4), some (.int x5), none, none, none]) (st1 := [.ref a0]) (σ1 := σ19) zM_X7_tellInodes dX7_tellInodes_242 rfl rfl rfl rfl ?_
      refine zw_go (pc1 := 244) (L1 := [some (.ref a0), some (.int x1), some (.int x2), some (.int x3), some (.int x4), some (.int x5), none, none, none]) (st1 := [.ref a0, .ref a0]) (σ1 := σ19) zM_X7_tellInodes dX7_tellInodes_243 rfl rfl rfl rfl ?_
      obtain ⟨hk20, h⟩ := h
      obtain ⟨b21, hr22, h⟩ := h
      refine zw_getR (a := b21) zM_X7_tellInodes dX7_tellInodes_244 zF_7_58 rfl hk20 hr22 ?_
      refine zw_go (pc1 := 249) (L1 := [some (.ref a0), some (.int x1), some (.int x2), some (.int x3), some (.int x4), some (.int x5), none, none, none]) (st1 := [.int x4, .ref b21, .ref a0]) (σ1 := σ19) zM_X7_tellInodes dX7_tellInodes_247 rfl rfl rfl rfl ?_
      obtain ⟨hk23, h⟩ := h
      obtain ⟨hi24, h⟩ := h
      refine zw_iald zM_X7_tellInodes dX7_tellInodes_249 ⟨Or.inl hk23, hi24⟩ ?_
      refine zw_callV (as := [.ref a0, .int (zI σ19 b21 (Int32.toNatClampNeg x4))]) (rest := []) zM_X7_tellInodes dX7_tellInodes_250 (zx_calV zC_7_135) zM_X7_tell rfl rfl rfl rfl rfl (zx_args0 hk20 rfl) rfl h (fun σ25 h => ?_)
      refine zw_go (pc1 := 254) (L1 := [some (.ref a0), some (.int x1), some (.int x2), some (.int x3), some (.int x4), some (.int x5), none, none, none]) (st1 := [.ref a0]) (σ1 := σ25) zM_X7_tellInodes dX7_tellInodes_253 rfl rfl rfl rfl ?_
      refine zw_go (pc1 := 255) (L1 := [some (.ref a0), some (.int x1), some (.int x2), some (.int x3), some (.int x4), some (.int x5), none, none, none]) (st1 := [.ref a0, .ref a0]) (σ1 := σ25) zM_X7_tellInodes dX7_tellInodes_254 rfl rfl rfl rfl ?_
      obtain ⟨hk26, h⟩ := h
      obtain ⟨b27, hr28, h⟩ := h
      refine zw_getR (a := b27) zM_X7_tellInodes dX7_tellInodes_255 zF_7_61 rfl hk26 hr28 ?_
      refine zw_go (pc1 := 260) (L1 := [some (.ref a0), some (.int x1), some (.int x2), some (.int x3), some (.int x4), some (.int x5), none, none, none]) (st1 := [.int x4, .ref b27, .ref a0]) (σ1 := σ25) zM_X7_tellInodes dX7_tellInodes_258 rfl rfl rfl rfl ?_
      obtain ⟨hk29, h⟩ := h
      obtain ⟨hi30, h⟩ := h
      refine zw_iald zM_X7_tellInodes dX7_tellInodes_260 ⟨Or.inl hk29, hi30⟩ ?_
      refine zw_callV (as := [.ref a0, .int (zI σ25 b27 (Int32.toNatClampNeg x4))]) (rest := []) zM_X7_tellInodes dX7_tellInodes_261 (zx_calV zC_7_135) zM_X7_tell rfl rfl rfl rfl rfl (zx_args0 hk26 rfl) rfl h (fun σ31 h => ?_)
      refine zw_iconst (v := 0) zM_X7_tellInodes dX7_tellInodes_264 (by decide) ?_
      refine zw_go (pc1 := 267) (L1 := [some (.ref a0), some (.int x1), some (.int x2), some (.int x3), some (.int x4), some (.int x5), some (.int 0), none, none]) (st1 := []) (σ1 := σ31) zM_X7_tellInodes dX7_tellInodes_265 rfl rfl rfl rfl ?_
      exact zw_weak2 h ⟨rfl, rfl, rfl, rfl, rfl, rfl, rfl, trivial⟩
  · replace h := h.2 q
    refine zw_iconst (v := 0) zM_X7_tellInodes dX7_tellInodes_105 (by decide) ?_
    refine zw_go (pc1 := 108) (L1 := [some (.ref a0), some (.int x1), some (.int x2), some (.int x3), some (.int x4), some (.int x5), some (.int 0), none, none]) (st1 := []) (σ1 := σ2) zM_X7_tellInodes dX7_tellInodes_106 rfl rfl rfl rfl ?_
    refine zw_iconst (v := 1) zM_X7_tellInodes dX7_tellInodes_108 (by decide) ?_
    refine zw_go (pc1 := 111) (L1 := [some (.ref a0), some (.int x1), some (.int x2), some (.int x3), some (.int x4), some (.int x5), some (.int 0), some (.int 1), none]) (st1 := []) (σ1 := σ2) zM_X7_tellInodes dX7_tellInodes_109 rfl rfl rfl rfl ?_
    refine zw_iconst (v := 0) zM_X7_tellInodes dX7_tellInodes_111 (by decide) ?_
    refine zw_go (pc1 := 114) (L1 := [some (.ref a0), some (.int x1), some (.int x2), some (.int x3), some (.int x4), some (.int x5), some (.int 0), some (.int 1), some (.int 0)]) (st1 := []) (σ1 := σ2) zM_X7_tellInodes dX7_tellInodes_112 rfl rfl rfl rfl ?_
    exact zw_weak2 h ⟨rfl, rfl, rfl, rfl, rfl, rfl, rfl, rfl, rfl, trivial⟩
set_option maxHeartbeats 4000000 in
set_option maxRecDepth 100000 in
theorem vc_X7_tellInodes_114 (a0 : Nat) (x1 : Int32) (x2 : Int32) (x3 : Int32) (x4 : Int32) (x5 : Int32) (x6 : Int32) (x7 : Int32) (x8 : Int32) (σ : zx_S) (K : zx_S → Prop) (h : zK σ a0 = 20 ∧ (((zI σ a0 7) ≤ x8 → zwV 206 0 [some (.ref a0), some (.int (4 * x3))] [] σ (fun σ2 => zK σ2 a0 = 20 ∧ zwV 206 0 [some (.ref a0), some (.int x6)] [] σ2 (fun σ4 => zK σ4 a0 = 20 ∧ zwV 206 0 [some (.ref a0), some (.int x7)] [] σ4 (fun σ6 => zwV 205 304 [some (.ref a0), some (.int x1), some (.int x2), some (.int (x3 + x6)), some (.int x4), none, none, none, none] [] σ6 K)))) ∧ (¬ (zI σ a0 7) ≤ x8 → ∃ b7 : Nat, zR σ a0 8 = some b7 ∧ zK σ b7 = 1 ∧ zx_in x8 (zN σ b7) = true ∧ ((¬ (zI σ b7 (Int32.toNatClampNeg x8)) = x5 → zwV 205 142 [some (.ref a0), some (.int x1), some (.int x2), some (.int x3), some (.int x4), some (.int x5), none, some (.int x7), some (.int x8)] [.int 0, .int x6] σ K) ∧ ((zI σ b7 (Int32.toNatClampNeg x8)) = x5 → zwV 205 142 [some (.ref a0), some (.int x1), some (.int x2), some (.int x3), some (.int x4), some (.int x5), none, some (.int x7), some (.int x8)] [.int 1, .int x6] σ K))))) : zwV 205 114 [some (.ref a0), some (.int x1), some (.int x2), some (.int x3), some (.int x4), some (.int x5), some (.int x6), some (.int x7), some (.int x8)] [] σ K := by
  refine zw_go (pc1 := 116) (L1 := [some (.ref a0), some (.int x1), some (.int x2), some (.int x3), some (.int x4), some (.int x5), some (.int x6), some (.int x7), some (.int x8)]) (st1 := [.int x8]) (σ1 := σ) zM_X7_tellInodes dX7_tellInodes_114 rfl rfl rfl rfl ?_
  refine zw_go (pc1 := 117) (L1 := [some (.ref a0), some (.int x1), some (.int x2), some (.int x3), some (.int x4), some (.int x5), some (.int x6), some (.int x7), some (.int x8)]) (st1 := [.ref a0, .int x8]) (σ1 := σ) zM_X7_tellInodes dX7_tellInodes_116 rfl rfl rfl rfl ?_
  obtain ⟨hk1, h⟩ := h
  refine zw_getI zM_X7_tellInodes dX7_tellInodes_117 zF_7_105 rfl hk1 ?_
  refine zw_icmp_ge (tgt := 182) zM_X7_tellInodes dX7_tellInodes_120 rfl rfl (fun q => ?_) (fun q => ?_)
  · replace h := h.1 q
    refine zw_go (pc1 := 183) (L1 := [some (.ref a0), some (.int x1), some (.int x2), some (.int x3), some (.int x4), some (.int x5), some (.int x6), some (.int x7), some (.int x8)]) (st1 := [.ref a0]) (σ1 := σ) zM_X7_tellInodes dX7_tellInodes_182 rfl rfl rfl rfl ?_
    refine zw_iconst (v := 4) zM_X7_tellInodes dX7_tellInodes_183 (by decide) ?_
    refine zw_go (pc1 := 185) (L1 := [some (.ref a0), some (.int x1), some (.int x2), some (.int x3), some (.int x4), some (.int x5), some (.int x6), some (.int x7), some (.int x8)]) (st1 := [.int x3, .int 4, .ref a0]) (σ1 := σ) zM_X7_tellInodes dX7_tellInodes_184 rfl rfl rfl rfl ?_
    refine zw_go (pc1 := 186) (L1 := [some (.ref a0), some (.int x1), some (.int x2), some (.int x3), some (.int x4), some (.int x5), some (.int x6), some (.int x7), some (.int x8)]) (st1 := [.int (4 * x3), .ref a0]) (σ1 := σ) zM_X7_tellInodes dX7_tellInodes_185 rfl rfl rfl rfl ?_
    refine zw_callV (as := [.ref a0, .int (4 * x3)]) (rest := []) zM_X7_tellInodes dX7_tellInodes_186 (zx_calV zC_7_184) zM_X7_tellWord rfl rfl rfl rfl rfl (zx_args0 hk1 rfl) rfl h (fun σ2 h => ?_)
    refine zw_go (pc1 := 190) (L1 := [some (.ref a0), some (.int x1), some (.int x2), some (.int x3), some (.int x4), some (.int x5), some (.int x6), some (.int x7), some (.int x8)]) (st1 := [.ref a0]) (σ1 := σ2) zM_X7_tellInodes dX7_tellInodes_189 rfl rfl rfl rfl ?_
    refine zw_go (pc1 := 192) (L1 := [some (.ref a0), some (.int x1), some (.int x2), some (.int x3), some (.int x4), some (.int x5), some (.int x6), some (.int x7), some (.int x8)]) (st1 := [.int x6, .ref a0]) (σ1 := σ2) zM_X7_tellInodes dX7_tellInodes_190 rfl rfl rfl rfl ?_
    obtain ⟨hk3, h⟩ := h
    refine zw_callV (as := [.ref a0, .int x6]) (rest := []) zM_X7_tellInodes dX7_tellInodes_192 (zx_calV zC_7_184) zM_X7_tellWord rfl rfl rfl rfl rfl (zx_args0 hk3 rfl) rfl h (fun σ4 h => ?_)
    refine zw_go (pc1 := 196) (L1 := [some (.ref a0), some (.int x1), some (.int x2), some (.int x3), some (.int x4), some (.int x5), some (.int x6), some (.int x7), some (.int x8)]) (st1 := [.ref a0]) (σ1 := σ4) zM_X7_tellInodes dX7_tellInodes_195 rfl rfl rfl rfl ?_
    refine zw_go (pc1 := 198) (L1 := [some (.ref a0), some (.int x1), some (.int x2), some (.int x3), some (.int x4), some (.int x5), some (.int x6), some (.int x7), some (.int x8)]) (st1 := [.int x7, .ref a0]) (σ1 := σ4) zM_X7_tellInodes dX7_tellInodes_196 rfl rfl rfl rfl ?_
    obtain ⟨hk5, h⟩ := h
    refine zw_callV (as := [.ref a0, .int x7]) (rest := []) zM_X7_tellInodes dX7_tellInodes_198 (zx_calV zC_7_184) zM_X7_tellWord rfl rfl rfl rfl rfl (zx_args0 hk5 rfl) rfl h (fun σ6 h => ?_)
    refine zw_go (pc1 := 202) (L1 := [some (.ref a0), some (.int x1), some (.int x2), some (.int x3), some (.int x4), some (.int x5), some (.int x6), some (.int x7), some (.int x8)]) (st1 := [.int x3]) (σ1 := σ6) zM_X7_tellInodes dX7_tellInodes_201 rfl rfl rfl rfl ?_
    refine zw_go (pc1 := 204) (L1 := [some (.ref a0), some (.int x1), some (.int x2), some (.int x3), some (.int x4), some (.int x5), some (.int x6), some (.int x7), some (.int x8)]) (st1 := [.int x6, .int x3]) (σ1 := σ6) zM_X7_tellInodes dX7_tellInodes_202 rfl rfl rfl rfl ?_
    refine zw_go (pc1 := 205) (L1 := [some (.ref a0), some (.int x1), some (.int x2), some (.int x3), some (.int x4), some (.int x5), some (.int x6), some (.int x7), some (.int x8)]) (st1 := [.int (x3 + x6)]) (σ1 := σ6) zM_X7_tellInodes dX7_tellInodes_204 rfl rfl rfl rfl ?_
    refine zw_go (pc1 := 206) (L1 := [some (.ref a0), some (.int x1), some (.int x2), some (.int (x3 + x6)), some (.int x4), some (.int x5), some (.int x6), some (.int x7), some (.int x8)]) (st1 := []) (σ1 := σ6) zM_X7_tellInodes dX7_tellInodes_205 rfl rfl rfl rfl ?_
    refine zw_goto (tgt := 304) zM_X7_tellInodes dX7_tellInodes_206 rfl ?_
    exact zw_weak2 h ⟨rfl, rfl, rfl, rfl, rfl, trivial⟩
  · replace h := h.2 q
    refine zw_go (pc1 := 125) (L1 := [some (.ref a0), some (.int x1), some (.int x2), some (.int x3), some (.int x4), some (.int x5), some (.int x6), some (.int x7), some (.int x8)]) (st1 := [.int x6]) (σ1 := σ) zM_X7_tellInodes dX7_tellInodes_123 rfl rfl rfl rfl ?_
    refine zw_go (pc1 := 126) (L1 := [some (.ref a0), some (.int x1), some (.int x2), some (.int x3), some (.int x4), some (.int x5), some (.int x6), some (.int x7), some (.int x8)]) (st1 := [.ref a0, .int x6]) (σ1 := σ) zM_X7_tellInodes dX7_tellInodes_125 rfl rfl rfl rfl ?_
    obtain ⟨b7, hr8, h⟩ := h
    refine zw_getR (a := b7) zM_X7_tellInodes dX7_tellInodes_126 zF_7_25 rfl hk1 hr8 ?_
    refine zw_go (pc1 := 131) (L1 := [some (.ref a0), some (.int x1), some (.int x2), some (.int x3), some (.int x4), some (.int x5), some (.int x6), some (.int x7), some (.int x8)]) (st1 := [.int x8, .ref b7, .int x6]) (σ1 := σ) zM_X7_tellInodes dX7_tellInodes_129 rfl rfl rfl rfl ?_
    obtain ⟨hk9, h⟩ := h
    obtain ⟨hi10, h⟩ := h
    refine zw_iald zM_X7_tellInodes dX7_tellInodes_131 ⟨Or.inl hk9, hi10⟩ ?_
    refine zw_go (pc1 := 134) (L1 := [some (.ref a0), some (.int x1), some (.int x2), some (.int x3), some (.int x4), some (.int x5), some (.int x6), some (.int x7), some (.int x8)]) (st1 := [.int x5, .int (zI σ b7 (Int32.toNatClampNeg x8)), .int x6]) (σ1 := σ) zM_X7_tellInodes dX7_tellInodes_132 rfl rfl rfl rfl ?_
    refine zw_icmp_ne (tgt := 141) zM_X7_tellInodes dX7_tellInodes_134 rfl rfl (fun q => ?_) (fun q => ?_)
    · replace h := h.1 q
      refine zw_iconst (v := 0) zM_X7_tellInodes dX7_tellInodes_141 (by decide) ?_
      exact zw_weak2 h ⟨rfl, rfl, rfl, rfl, rfl, rfl, rfl, rfl, trivial⟩
    · replace h := h.2 q
      refine zw_iconst (v := 1) zM_X7_tellInodes dX7_tellInodes_137 (by decide) ?_
      refine zw_goto (tgt := 142) zM_X7_tellInodes dX7_tellInodes_138 rfl ?_
      exact zw_weak2 h ⟨rfl, rfl, rfl, rfl, rfl, rfl, rfl, rfl, trivial⟩
set_option maxHeartbeats 4000000 in
set_option maxRecDepth 100000 in
theorem vc_X7_tellInodes_142 (a0 : Nat) (x1 : Int32) (x2 : Int32) (x3 : Int32) (x4 : Int32) (x5 : Int32) (x7 : Int32) (x8 : Int32) (y0 : Int32) (y1 : Int32) (σ : zx_S) (K : zx_S → Prop) (h : zK σ a0 = 20 ∧ ∃ b2 : Nat, zR σ a0 10 = some b2 ∧ zK σ b2 = 1 ∧ zx_in x8 (zN σ b2) = true ∧ ((¬ (zI σ b2 (Int32.toNatClampNeg x8)) = x5 → zwV 205 174 [some (.ref a0), some (.int x1), some (.int x2), some (.int x3), some (.int x4), some (.int x5), some (.int (y1 + y0)), none, some (.int x8)] [.int x7] σ K) ∧ ((zI σ b2 (Int32.toNatClampNeg x8)) = x5 → ∃ b6 : Nat, zR σ a0 16 = some b6 ∧ ∃ b8 : Nat, zR σ a0 8 = some b8 ∧ zK σ b8 = 1 ∧ zx_in x8 (zN σ b8) = true ∧ zK σ b6 = 1 ∧ zx_in (zI σ b8 (Int32.toNatClampNeg x8)) (zN σ b6) = true ∧ zwV 205 174 [some (.ref a0), some (.int x1), some (.int x2), some (.int x3), some (.int x4), some (.int x5), some (.int (y1 + y0)), none, some (.int x8)] [.int (zI σ b6 (Int32.toNatClampNeg (zI σ b8 (Int32.toNatClampNeg x8))))] σ K))) : zwV 205 142 [some (.ref a0), some (.int x1), some (.int x2), some (.int x3), some (.int x4), some (.int x5), none, some (.int x7), some (.int x8)] [.int y0, .int y1] σ K := by
  refine zw_go (pc1 := 143) (L1 := [some (.ref a0), some (.int x1), some (.int x2), some (.int x3), some (.int x4), some (.int x5), none, some (.int x7), some (.int x8)]) (st1 := [.int (y1 + y0)]) (σ1 := σ) zM_X7_tellInodes dX7_tellInodes_142 rfl rfl rfl rfl ?_
  refine zw_go (pc1 := 145) (L1 := [some (.ref a0), some (.int x1), some (.int x2), some (.int x3), some (.int x4), some (.int x5), some (.int (y1 + y0)), some (.int x7), some (.int x8)]) (st1 := []) (σ1 := σ) zM_X7_tellInodes dX7_tellInodes_143 rfl rfl rfl rfl ?_
  refine zw_go (pc1 := 146) (L1 := [some (.ref a0), some (.int x1), some (.int x2), some (.int x3), some (.int x4), some (.int x5), some (.int (y1 + y0)), some (.int x7), some (.int x8)]) (st1 := [.ref a0]) (σ1 := σ) zM_X7_tellInodes dX7_tellInodes_145 rfl rfl rfl rfl ?_
  obtain ⟨hk1, h⟩ := h
  obtain ⟨b2, hr3, h⟩ := h
  refine zw_getR (a := b2) zM_X7_tellInodes dX7_tellInodes_146 zF_7_31 rfl hk1 hr3 ?_
  refine zw_go (pc1 := 151) (L1 := [some (.ref a0), some (.int x1), some (.int x2), some (.int x3), some (.int x4), some (.int x5), some (.int (y1 + y0)), some (.int x7), some (.int x8)]) (st1 := [.int x8, .ref b2]) (σ1 := σ) zM_X7_tellInodes dX7_tellInodes_149 rfl rfl rfl rfl ?_
  obtain ⟨hk4, h⟩ := h
  obtain ⟨hi5, h⟩ := h
  refine zw_iald zM_X7_tellInodes dX7_tellInodes_151 ⟨Or.inl hk4, hi5⟩ ?_
  refine zw_go (pc1 := 154) (L1 := [some (.ref a0), some (.int x1), some (.int x2), some (.int x3), some (.int x4), some (.int x5), some (.int (y1 + y0)), some (.int x7), some (.int x8)]) (st1 := [.int x5, .int (zI σ b2 (Int32.toNatClampNeg x8))]) (σ1 := σ) zM_X7_tellInodes dX7_tellInodes_152 rfl rfl rfl rfl ?_
  refine zw_icmp_ne (tgt := 172) zM_X7_tellInodes dX7_tellInodes_154 rfl rfl (fun q => ?_) (fun q => ?_)
  · replace h := h.1 q
    refine zw_go (pc1 := 174) (L1 := [some (.ref a0), some (.int x1), some (.int x2), some (.int x3), some (.int x4), some (.int x5), some (.int (y1 + y0)), some (.int x7), some (.int x8)]) (st1 := [.int x7]) (σ1 := σ) zM_X7_tellInodes dX7_tellInodes_172 rfl rfl rfl rfl ?_
    exact zw_weak2 h ⟨rfl, rfl, rfl, rfl, rfl, rfl, rfl, rfl, trivial⟩
  · replace h := h.2 q
    refine zw_go (pc1 := 158) (L1 := [some (.ref a0), some (.int x1), some (.int x2), some (.int x3), some (.int x4), some (.int x5), some (.int (y1 + y0)), some (.int x7), some (.int x8)]) (st1 := [.ref a0]) (σ1 := σ) zM_X7_tellInodes dX7_tellInodes_157 rfl rfl rfl rfl ?_
    obtain ⟨b6, hr7, h⟩ := h
    refine zw_getR (a := b6) zM_X7_tellInodes dX7_tellInodes_158 zF_7_40 rfl hk1 hr7 ?_
    refine zw_go (pc1 := 162) (L1 := [some (.ref a0), some (.int x1), some (.int x2), some (.int x3), some (.int x4), some (.int x5), some (.int (y1 + y0)), some (.int x7), some (.int x8)]) (st1 := [.ref a0, .ref b6]) (σ1 := σ) zM_X7_tellInodes dX7_tellInodes_161 rfl rfl rfl rfl ?_
    obtain ⟨b8, hr9, h⟩ := h
    refine zw_getR (a := b8) zM_X7_tellInodes dX7_tellInodes_162 zF_7_25 rfl hk1 hr9 ?_
    refine zw_go (pc1 := 167) (L1 := [some (.ref a0), some (.int x1), some (.int x2), some (.int x3), some (.int x4), some (.int x5), some (.int (y1 + y0)), some (.int x7), some (.int x8)]) (st1 := [.int x8, .ref b8, .ref b6]) (σ1 := σ) zM_X7_tellInodes dX7_tellInodes_165 rfl rfl rfl rfl ?_
    obtain ⟨hk10, h⟩ := h
    obtain ⟨hi11, h⟩ := h
    refine zw_iald zM_X7_tellInodes dX7_tellInodes_167 ⟨Or.inl hk10, hi11⟩ ?_
    obtain ⟨hk12, h⟩ := h
    obtain ⟨hi13, h⟩ := h
    refine zw_iald zM_X7_tellInodes dX7_tellInodes_168 ⟨Or.inl hk12, hi13⟩ ?_
    refine zw_goto (tgt := 174) zM_X7_tellInodes dX7_tellInodes_169 rfl ?_
    exact zw_weak2 h ⟨rfl, rfl, rfl, rfl, rfl, rfl, rfl, rfl, trivial⟩
set_option maxHeartbeats 4000000 in
set_option maxRecDepth 100000 in
theorem vc_X7_tellInodes_174 (a0 : Nat) (x1 : Int32) (x2 : Int32) (x3 : Int32) (x4 : Int32) (x5 : Int32) (x6 : Int32) (x8 : Int32) (y0 : Int32) (σ : zx_S) (K : zx_S → Prop) (h : zwV 205 114 [some (.ref a0), some (.int x1), some (.int x2), some (.int x3), some (.int x4), some (.int x5), some (.int x6), some (.int y0), some (.int (x8 + Int32.ofInt 1))] [] σ K) : zwV 205 174 [some (.ref a0), some (.int x1), some (.int x2), some (.int x3), some (.int x4), some (.int x5), some (.int x6), none, some (.int x8)] [.int y0] σ K := by
  refine zw_go (pc1 := 176) (L1 := [some (.ref a0), some (.int x1), some (.int x2), some (.int x3), some (.int x4), some (.int x5), some (.int x6), some (.int y0), some (.int x8)]) (st1 := []) (σ1 := σ) zM_X7_tellInodes dX7_tellInodes_174 rfl rfl rfl rfl ?_
  refine zw_go (pc1 := 179) (L1 := [some (.ref a0), some (.int x1), some (.int x2), some (.int x3), some (.int x4), some (.int x5), some (.int x6), some (.int y0), some (.int (x8 + Int32.ofInt 1))]) (st1 := []) (σ1 := σ) zM_X7_tellInodes dX7_tellInodes_176 rfl rfl rfl rfl ?_
  refine zw_goto (tgt := 114) zM_X7_tellInodes dX7_tellInodes_179 rfl ?_
  exact zw_weak2 h ⟨rfl, rfl, rfl, rfl, rfl, rfl, rfl, rfl, rfl, trivial⟩
set_option maxHeartbeats 4000000 in
set_option maxRecDepth 100000 in
theorem vc_X7_tellInodes_267 (a0 : Nat) (x1 : Int32) (x2 : Int32) (x3 : Int32) (x4 : Int32) (x5 : Int32) (x6 : Int32) (σ : zx_S) (K : zx_S → Prop) (h : zK σ a0 = 20 ∧ ∃ b2 : Nat, zR σ a0 5 = some b2 ∧ zK σ b2 = 1 ∧ zx_in x5 (zN σ b2) = true ∧ ¬ x1 = 0 ∧ ((((zI σ b2 (Int32.toNatClampNeg x5)) / x1) ≤ x6 → zwV 205 304 [some (.ref a0), some (.int x1), some (.int x2), some (.int x3), some (.int x4), none, none, none, none] [] σ K) ∧ (¬ ((zI σ b2 (Int32.toNatClampNeg x5)) / x1) ≤ x6 → ∃ b7 : Nat, zR σ a0 24 = some b7 ∧ zK σ b7 = 1 ∧ zx_in ((13 * x4) + x6) (zN σ b7) = true ∧ zwV 206 0 [some (.ref a0), some (.int (zI σ b7 (Int32.toNatClampNeg ((13 * x4) + x6))))] [] σ (fun σ11 => zwV 205 267 [some (.ref a0), some (.int x1), some (.int x2), some (.int x3), some (.int x4), some (.int x5), some (.int (x6 + Int32.ofInt 1)), none, none] [] σ11 K)))) : zwV 205 267 [some (.ref a0), some (.int x1), some (.int x2), some (.int x3), some (.int x4), some (.int x5), some (.int x6), none, none] [] σ K := by
  refine zw_go (pc1 := 269) (L1 := [some (.ref a0), some (.int x1), some (.int x2), some (.int x3), some (.int x4), some (.int x5), some (.int x6), none, none]) (st1 := [.int x6]) (σ1 := σ) zM_X7_tellInodes dX7_tellInodes_267 rfl rfl rfl rfl ?_
  refine zw_go (pc1 := 270) (L1 := [some (.ref a0), some (.int x1), some (.int x2), some (.int x3), some (.int x4), some (.int x5), some (.int x6), none, none]) (st1 := [.ref a0, .int x6]) (σ1 := σ) zM_X7_tellInodes dX7_tellInodes_269 rfl rfl rfl rfl ?_
  obtain ⟨hk1, h⟩ := h
  obtain ⟨b2, hr3, h⟩ := h
  refine zw_getR (a := b2) zM_X7_tellInodes dX7_tellInodes_270 zF_7_19 rfl hk1 hr3 ?_
  refine zw_go (pc1 := 275) (L1 := [some (.ref a0), some (.int x1), some (.int x2), some (.int x3), some (.int x4), some (.int x5), some (.int x6), none, none]) (st1 := [.int x5, .ref b2, .int x6]) (σ1 := σ) zM_X7_tellInodes dX7_tellInodes_273 rfl rfl rfl rfl ?_
  obtain ⟨hk4, h⟩ := h
  obtain ⟨hi5, h⟩ := h
  refine zw_iald zM_X7_tellInodes dX7_tellInodes_275 ⟨Or.inl hk4, hi5⟩ ?_
  refine zw_go (pc1 := 277) (L1 := [some (.ref a0), some (.int x1), some (.int x2), some (.int x3), some (.int x4), some (.int x5), some (.int x6), none, none]) (st1 := [.int x1, .int (zI σ b2 (Int32.toNatClampNeg x5)), .int x6]) (σ1 := σ) zM_X7_tellInodes dX7_tellInodes_276 rfl rfl rfl rfl ?_
  obtain ⟨hz6, h⟩ := h
  refine zw_div zM_X7_tellInodes dX7_tellInodes_277 hz6 ?_
  refine zw_icmp_ge (tgt := 304) zM_X7_tellInodes dX7_tellInodes_278 rfl rfl (fun q => ?_) (fun q => ?_)
  · replace h := h.1 q
    exact zw_weak2 h ⟨rfl, rfl, rfl, rfl, rfl, trivial⟩
  · replace h := h.2 q
    refine zw_go (pc1 := 282) (L1 := [some (.ref a0), some (.int x1), some (.int x2), some (.int x3), some (.int x4), some (.int x5), some (.int x6), none, none]) (st1 := [.ref a0]) (σ1 := σ) zM_X7_tellInodes dX7_tellInodes_281 rfl rfl rfl rfl ?_
    refine zw_go (pc1 := 283) (L1 := [some (.ref a0), some (.int x1), some (.int x2), some (.int x3), some (.int x4), some (.int x5), some (.int x6), none, none]) (st1 := [.ref a0, .ref a0]) (σ1 := σ) zM_X7_tellInodes dX7_tellInodes_282 rfl rfl rfl rfl ?_
    obtain ⟨b7, hr8, h⟩ := h
    refine zw_getR (a := b7) zM_X7_tellInodes dX7_tellInodes_283 zF_7_55 rfl hk1 hr8 ?_
    refine zw_bipush (v := 13) zM_X7_tellInodes dX7_tellInodes_286 (by decide) ?_
    refine zw_go (pc1 := 290) (L1 := [some (.ref a0), some (.int x1), some (.int x2), some (.int x3), some (.int x4), some (.int x5), some (.int x6), none, none]) (st1 := [.int x4, .int 13, .ref b7, .ref a0]) (σ1 := σ) zM_X7_tellInodes dX7_tellInodes_288 rfl rfl rfl rfl ?_
    refine zw_go (pc1 := 291) (L1 := [some (.ref a0), some (.int x1), some (.int x2), some (.int x3), some (.int x4), some (.int x5), some (.int x6), none, none]) (st1 := [.int (13 * x4), .ref b7, .ref a0]) (σ1 := σ) zM_X7_tellInodes dX7_tellInodes_290 rfl rfl rfl rfl ?_
    refine zw_go (pc1 := 293) (L1 := [some (.ref a0), some (.int x1), some (.int x2), some (.int x3), some (.int x4), some (.int x5), some (.int x6), none, none]) (st1 := [.int x6, .int (13 * x4), .ref b7, .ref a0]) (σ1 := σ) zM_X7_tellInodes dX7_tellInodes_291 rfl rfl rfl rfl ?_
    refine zw_go (pc1 := 294) (L1 := [some (.ref a0), some (.int x1), some (.int x2), some (.int x3), some (.int x4), some (.int x5), some (.int x6), none, none]) (st1 := [.int ((13 * x4) + x6), .ref b7, .ref a0]) (σ1 := σ) zM_X7_tellInodes dX7_tellInodes_293 rfl rfl rfl rfl ?_
    obtain ⟨hk9, h⟩ := h
    obtain ⟨hi10, h⟩ := h
    refine zw_iald zM_X7_tellInodes dX7_tellInodes_294 ⟨Or.inl hk9, hi10⟩ ?_
    refine zw_callV (as := [.ref a0, .int (zI σ b7 (Int32.toNatClampNeg ((13 * x4) + x6)))]) (rest := []) zM_X7_tellInodes dX7_tellInodes_295 (zx_calV zC_7_184) zM_X7_tellWord rfl rfl rfl rfl rfl (zx_args0 hk1 rfl) rfl h (fun σ11 h => ?_)
    refine zw_go (pc1 := 301) (L1 := [some (.ref a0), some (.int x1), some (.int x2), some (.int x3), some (.int x4), some (.int x5), some (.int (x6 + Int32.ofInt 1)), none, none]) (st1 := []) (σ1 := σ11) zM_X7_tellInodes dX7_tellInodes_298 rfl rfl rfl rfl ?_
    refine zw_goto (tgt := 267) zM_X7_tellInodes dX7_tellInodes_301 rfl ?_
    exact zw_weak2 h ⟨rfl, rfl, rfl, rfl, rfl, rfl, rfl, trivial⟩
set_option maxHeartbeats 4000000 in
set_option maxRecDepth 100000 in
theorem vc_X7_tellInodes_304 (a0 : Nat) (x1 : Int32) (x2 : Int32) (x3 : Int32) (x4 : Int32) (σ : zx_S) (K : zx_S → Prop) (h : zwV 205 10 [some (.ref a0), some (.int x1), some (.int x2), some (.int x3), some (.int (x4 + Int32.ofInt 1)), none, none, none, none] [] σ K) : zwV 205 304 [some (.ref a0), some (.int x1), some (.int x2), some (.int x3), some (.int x4), none, none, none, none] [] σ K := by
  refine zw_go (pc1 := 307) (L1 := [some (.ref a0), some (.int x1), some (.int x2), some (.int x3), some (.int (x4 + Int32.ofInt 1)), none, none, none, none]) (st1 := []) (σ1 := σ) zM_X7_tellInodes dX7_tellInodes_304 rfl rfl rfl rfl ?_
  refine zw_goto (tgt := 10) zM_X7_tellInodes dX7_tellInodes_307 rfl ?_
  exact zw_weak2 h ⟨rfl, rfl, rfl, rfl, rfl, trivial⟩
set_option maxHeartbeats 4000000 in
set_option maxRecDepth 100000 in
theorem vc_X7_tellWord_0 (a0 : Nat) (x1 : Int32) (σ : zx_S) (K : zx_S → Prop) (h : zK σ a0 = 20 ∧ zwV 203 0 [some (.ref a0), some (.int ((x1 >>> (8 &&& 31)) &&& 255))] [] σ (fun σ2 => zK σ2 a0 = 20 ∧ zwV 203 0 [some (.ref a0), some (.int (x1 &&& 255))] [] σ2 (fun σ4 => K σ4))) : zwV 206 0 [some (.ref a0), some (.int x1)] [] σ K := by
  refine zw_go (pc1 := 1) (L1 := [some (.ref a0), some (.int x1)]) (st1 := [.ref a0]) (σ1 := σ) zM_X7_tellWord dX7_tellWord_0 rfl rfl rfl rfl ?_
  refine zw_go (pc1 := 2) (L1 := [some (.ref a0), some (.int x1)]) (st1 := [.int x1, .ref a0]) (σ1 := σ) zM_X7_tellWord dX7_tellWord_1 rfl rfl rfl rfl ?_
  refine zw_bipush (v := 8) zM_X7_tellWord dX7_tellWord_2 (by decide) ?_
  refine zw_go (pc1 := 5) (L1 := [some (.ref a0), some (.int x1)]) (st1 := [.int (x1 >>> (8 &&& 31)), .ref a0]) (σ1 := σ) zM_X7_tellWord dX7_tellWord_4 rfl rfl rfl rfl ?_
  refine zw_sipush (v := 255) zM_X7_tellWord dX7_tellWord_5 (by decide) ?_
  refine zw_go (pc1 := 9) (L1 := [some (.ref a0), some (.int x1)]) (st1 := [.int ((x1 >>> (8 &&& 31)) &&& 255), .ref a0]) (σ1 := σ) zM_X7_tellWord dX7_tellWord_8 rfl rfl rfl rfl ?_
  obtain ⟨hk1, h⟩ := h
  refine zw_callV (as := [.ref a0, .int ((x1 >>> (8 &&& 31)) &&& 255)]) (rest := []) zM_X7_tellWord dX7_tellWord_9 (zx_calV zC_7_135) zM_X7_tell rfl rfl rfl rfl rfl (zx_args0 hk1 rfl) rfl h (fun σ2 h => ?_)
  refine zw_go (pc1 := 13) (L1 := [some (.ref a0), some (.int x1)]) (st1 := [.ref a0]) (σ1 := σ2) zM_X7_tellWord dX7_tellWord_12 rfl rfl rfl rfl ?_
  refine zw_go (pc1 := 14) (L1 := [some (.ref a0), some (.int x1)]) (st1 := [.int x1, .ref a0]) (σ1 := σ2) zM_X7_tellWord dX7_tellWord_13 rfl rfl rfl rfl ?_
  refine zw_sipush (v := 255) zM_X7_tellWord dX7_tellWord_14 (by decide) ?_
  refine zw_go (pc1 := 18) (L1 := [some (.ref a0), some (.int x1)]) (st1 := [.int (x1 &&& 255), .ref a0]) (σ1 := σ2) zM_X7_tellWord dX7_tellWord_17 rfl rfl rfl rfl ?_
  obtain ⟨hk3, h⟩ := h
  refine zw_callV (as := [.ref a0, .int (x1 &&& 255)]) (rest := []) zM_X7_tellWord dX7_tellWord_18 (zx_calV zC_7_135) zM_X7_tell rfl rfl rfl rfl rfl (zx_args0 hk3 rfl) rfl h (fun σ4 h => ?_)
  exact zw_retv zM_X7_tellWord dX7_tellWord_21 rfl h
set_option maxHeartbeats 4000000 in
set_option maxRecDepth 100000 in
theorem vc_X7_thrown_0 (a0 : Nat) (σ : zx_S) (K : Int32 → zx_S → Prop) (h : zK σ a0 = 20 ∧ K (zI σ a0 0) σ) : zwI 207 0 [some (.ref a0)] [] σ K := by
  refine zw_go (pc1 := 1) (L1 := [some (.ref a0)]) (st1 := [.ref a0]) (σ1 := σ) zM_X7_thrown dX7_thrown_0 rfl rfl rfl rfl ?_
  obtain ⟨hk1, h⟩ := h
  refine zw_getI zM_X7_thrown dX7_thrown_1 zF_7_98 rfl hk1 ?_
  exact zw_reti zM_X7_thrown dX7_thrown_4 rfl h
set_option maxHeartbeats 4000000 in
set_option maxRecDepth 100000 in
theorem vc_X7_told_0 (a0 : Nat) (x1 : Int32) (x2 : Int32) (x3 : Int32) (σ : zx_S) (K : Int32 → zx_S → Prop) (h : zK σ a0 = 20 ∧ zwI 162 0 [some (.ref a0), some (.int x1), some (.int x2)] [] σ (fun v3 σ2 => zK σ2 a0 = 20 ∧ zwI 143 0 [some (.ref a0), some (.int x1), some (.int v3)] [] σ2 (fun v6 σ5 => ((x3 = 0 → K v6 σ5) ∧ (¬ x3 = 0 → ((x3 = 1 → zK σ5 a0 = 20 ∧ zwI 210 0 [some (.ref a0), some (.int x1), some (.int (v3 + 1))] [] σ5 (fun v10 σ9 => K v10 σ9)) ∧ (¬ x3 = 1 → ((x3 = 2 → zK σ5 a0 = 20 ∧ zwI 210 0 [some (.ref a0), some (.int x1), some (.int (v3 + 3))] [] σ5 (fun v14 σ13 => K v14 σ13)) ∧ (¬ x3 = 2 → ((x3 = 3 → zK σ5 a0 = 20 ∧ zwI 143 0 [some (.ref a0), some (.int x1), some (.int (v3 + 5))] [] σ5 (fun v18 σ17 => K v18 σ17)) ∧ (¬ x3 = 3 → ((¬ v6 = (1 : Int32) → ((¬ v6 = (2 : Int32) → K 0 σ5) ∧ (v6 = (2 : Int32) → zK σ5 a0 = 20 ∧ zwI 210 0 [some (.ref a0), some (.int x1), some (.int (v3 + 6))] [] σ5 (fun v22 σ21 => K v22 σ21)))) ∧ (v6 = (1 : Int32) → zK σ5 a0 = 20 ∧ zwI 210 0 [some (.ref a0), some (.int x1), some (.int (v3 + 8))] [] σ5 (fun v25 σ24 => K v25 σ24)))))))))))))) : zwI 208 0 [some (.ref a0), some (.int x1), some (.int x2), some (.int x3), none, none] [] σ K := by
  refine zw_go (pc1 := 1) (L1 := [some (.ref a0), some (.int x1), some (.int x2), some (.int x3), none, none]) (st1 := [.ref a0]) (σ1 := σ) zM_X7_told dX7_told_0 rfl rfl rfl rfl ?_
  refine zw_go (pc1 := 2) (L1 := [some (.ref a0), some (.int x1), some (.int x2), some (.int x3), none, none]) (st1 := [.int x1, .ref a0]) (σ1 := σ) zM_X7_told dX7_told_1 rfl rfl rfl rfl ?_
  refine zw_go (pc1 := 3) (L1 := [some (.ref a0), some (.int x1), some (.int x2), some (.int x3), none, none]) (st1 := [.int x2, .int x1, .ref a0]) (σ1 := σ) zM_X7_told dX7_told_2 rfl rfl rfl rfl ?_
  obtain ⟨hk1, h⟩ := h
  refine zw_callI (as := [.ref a0, .int x1, .int x2]) (rest := []) zM_X7_told dX7_told_3 (zx_calV zC_7_226) zM_X7_inode rfl rfl rfl rfl rfl (zx_args0 hk1 rfl) rfl h (fun v3 σ2 h => ?_)
  refine zw_go (pc1 := 8) (L1 := [some (.ref a0), some (.int x1), some (.int x2), some (.int x3), some (.int v3), none]) (st1 := []) (σ1 := σ2) zM_X7_told dX7_told_6 rfl rfl rfl rfl ?_
  refine zw_go (pc1 := 9) (L1 := [some (.ref a0), some (.int x1), some (.int x2), some (.int x3), some (.int v3), none]) (st1 := [.ref a0]) (σ1 := σ2) zM_X7_told dX7_told_8 rfl rfl rfl rfl ?_
  refine zw_go (pc1 := 10) (L1 := [some (.ref a0), some (.int x1), some (.int x2), some (.int x3), some (.int v3), none]) (st1 := [.int x1, .ref a0]) (σ1 := σ2) zM_X7_told dX7_told_9 rfl rfl rfl rfl ?_
  refine zw_go (pc1 := 12) (L1 := [some (.ref a0), some (.int x1), some (.int x2), some (.int x3), some (.int v3), none]) (st1 := [.int v3, .int x1, .ref a0]) (σ1 := σ2) zM_X7_told dX7_told_10 rfl rfl rfl rfl ?_
  obtain ⟨hk4, h⟩ := h
  refine zw_callI (as := [.ref a0, .int x1, .int v3]) (rest := []) zM_X7_told dX7_told_12 (zx_calV zC_7_198) zM_X7_byteAt rfl rfl rfl rfl rfl (zx_args0 hk4 rfl) rfl h (fun v6 σ5 h => ?_)
  refine zw_go (pc1 := 17) (L1 := [some (.ref a0), some (.int x1), some (.int x2), some (.int x3), some (.int v3), some (.int v6)]) (st1 := []) (σ1 := σ5) zM_X7_told dX7_told_15 rfl rfl rfl rfl ?_
  refine zw_go (pc1 := 18) (L1 := [some (.ref a0), some (.int x1), some (.int x2), some (.int x3), some (.int v3), some (.int v6)]) (st1 := [.int x3]) (σ1 := σ5) zM_X7_told dX7_told_17 rfl rfl rfl rfl ?_
  by_cases hs7 : x3 = 0
  · replace h := h.1 hs7
    refine zw_sw (tgt := 48) zM_X7_told dX7_told_18 (zx_sw_in hs7 rfl) rfl ?_
    refine zw_go (pc1 := 50) (L1 := [some (.ref a0), some (.int x1), some (.int x2), some (.int x3), some (.int v3), some (.int v6)]) (st1 := [.int v6]) (σ1 := σ5) zM_X7_told dX7_told_48 rfl rfl rfl rfl ?_
    exact zw_reti zM_X7_told dX7_told_50 rfl h
  · replace h := h.2 hs7
    by_cases hs11 : x3 = 1
    · replace h := h.1 hs11
      refine zw_sw (tgt := 51) zM_X7_told dX7_told_18 (zx_sw_in hs11 rfl) rfl ?_
      refine zw_go (pc1 := 52) (L1 := [some (.ref a0), some (.int x1), some (.int x2), some (.int x3), some (.int v3), some (.int v6)]) (st1 := [.ref a0]) (σ1 := σ5) zM_X7_told dX7_told_51 rfl rfl rfl rfl ?_
      refine zw_go (pc1 := 53) (L1 := [some (.ref a0), some (.int x1), some (.int x2), some (.int x3), some (.int v3), some (.int v6)]) (st1 := [.int x1, .ref a0]) (σ1 := σ5) zM_X7_told dX7_told_52 rfl rfl rfl rfl ?_
      refine zw_go (pc1 := 55) (L1 := [some (.ref a0), some (.int x1), some (.int x2), some (.int x3), some (.int v3), some (.int v6)]) (st1 := [.int v3, .int x1, .ref a0]) (σ1 := σ5) zM_X7_told dX7_told_53 rfl rfl rfl rfl ?_
      refine zw_iconst (v := 1) zM_X7_told dX7_told_55 (by decide) ?_
      refine zw_go (pc1 := 57) (L1 := [some (.ref a0), some (.int x1), some (.int x2), some (.int x3), some (.int v3), some (.int v6)]) (st1 := [.int (v3 + 1), .int x1, .ref a0]) (σ1 := σ5) zM_X7_told dX7_told_56 rfl rfl rfl rfl ?_
      obtain ⟨hk8, h⟩ := h
      refine zw_callI (as := [.ref a0, .int x1, .int (v3 + 1)]) (rest := []) zM_X7_told dX7_told_57 (zx_calV zC_7_201) zM_X7_word rfl rfl rfl rfl rfl (zx_args0 hk8 rfl) rfl h (fun v10 σ9 h => ?_)
      exact zw_reti zM_X7_told dX7_told_60 rfl h
    · replace h := h.2 hs11
      by_cases hs15 : x3 = 2
      · replace h := h.1 hs15
        refine zw_sw (tgt := 61) zM_X7_told dX7_told_18 (zx_sw_in hs15 rfl) rfl ?_
        refine zw_go (pc1 := 62) (L1 := [some (.ref a0), some (.int x1), some (.int x2), some (.int x3), some (.int v3), some (.int v6)]) (st1 := [.ref a0]) (σ1 := σ5) zM_X7_told dX7_told_61 rfl rfl rfl rfl ?_
        refine zw_go (pc1 := 63) (L1 := [some (.ref a0), some (.int x1), some (.int x2), some (.int x3), some (.int v3), some (.int v6)]) (st1 := [.int x1, .ref a0]) (σ1 := σ5) zM_X7_told dX7_told_62 rfl rfl rfl rfl ?_
        refine zw_go (pc1 := 65) (L1 := [some (.ref a0), some (.int x1), some (.int x2), some (.int x3), some (.int v3), some (.int v6)]) (st1 := [.int v3, .int x1, .ref a0]) (σ1 := σ5) zM_X7_told dX7_told_63 rfl rfl rfl rfl ?_
        refine zw_iconst (v := 3) zM_X7_told dX7_told_65 (by decide) ?_
        refine zw_go (pc1 := 67) (L1 := [some (.ref a0), some (.int x1), some (.int x2), some (.int x3), some (.int v3), some (.int v6)]) (st1 := [.int (v3 + 3), .int x1, .ref a0]) (σ1 := σ5) zM_X7_told dX7_told_66 rfl rfl rfl rfl ?_
        obtain ⟨hk12, h⟩ := h
        refine zw_callI (as := [.ref a0, .int x1, .int (v3 + 3)]) (rest := []) zM_X7_told dX7_told_67 (zx_calV zC_7_201) zM_X7_word rfl rfl rfl rfl rfl (zx_args0 hk12 rfl) rfl h (fun v14 σ13 h => ?_)
        exact zw_reti zM_X7_told dX7_told_70 rfl h
      · replace h := h.2 hs15
        by_cases hs19 : x3 = 3
        · replace h := h.1 hs19
          refine zw_sw (tgt := 71) zM_X7_told dX7_told_18 (zx_sw_in hs19 rfl) rfl ?_
          refine zw_go (pc1 := 72) (L1 := [some (.ref a0), some (.int x1), some (.int x2), some (.int x3), some (.int v3), some (.int v6)]) (st1 := [.ref a0]) (σ1 := σ5) zM_X7_told dX7_told_71 rfl rfl rfl rfl ?_
          refine zw_go (pc1 := 73) (L1 := [some (.ref a0), some (.int x1), some (.int x2), some (.int x3), some (.int v3), some (.int v6)]) (st1 := [.int x1, .ref a0]) (σ1 := σ5) zM_X7_told dX7_told_72 rfl rfl rfl rfl ?_
          refine zw_go (pc1 := 75) (L1 := [some (.ref a0), some (.int x1), some (.int x2), some (.int x3), some (.int v3), some (.int v6)]) (st1 := [.int v3, .int x1, .ref a0]) (σ1 := σ5) zM_X7_told dX7_told_73 rfl rfl rfl rfl ?_
          refine zw_iconst (v := 5) zM_X7_told dX7_told_75 (by decide) ?_
          refine zw_go (pc1 := 77) (L1 := [some (.ref a0), some (.int x1), some (.int x2), some (.int x3), some (.int v3), some (.int v6)]) (st1 := [.int (v3 + 5), .int x1, .ref a0]) (σ1 := σ5) zM_X7_told dX7_told_76 rfl rfl rfl rfl ?_
          obtain ⟨hk16, h⟩ := h
          refine zw_callI (as := [.ref a0, .int x1, .int (v3 + 5)]) (rest := []) zM_X7_told dX7_told_77 (zx_calV zC_7_198) zM_X7_byteAt rfl rfl rfl rfl rfl (zx_args0 hk16 rfl) rfl h (fun v18 σ17 h => ?_)
          exact zw_reti zM_X7_told dX7_told_80 rfl h
        · replace h := h.2 hs19
          have n0 := zx_ne (n := 0) hs7 (by decide)
          have n1 := zx_ne (n := 1) hs11 (by decide)
          have n2 := zx_ne (n := 2) hs15 (by decide)
          have n3 := zx_ne (n := 3) hs19 (by decide)
          refine zw_sw (tgt := 81) zM_X7_told dX7_told_18 (zx_sw_out (by omega)) rfl ?_
          refine zw_go (pc1 := 83) (L1 := [some (.ref a0), some (.int x1), some (.int x2), some (.int x3), some (.int v3), some (.int v6)]) (st1 := [.int v6]) (σ1 := σ5) zM_X7_told dX7_told_81 rfl rfl rfl rfl ?_
          refine zw_iconst (v := 1) zM_X7_told dX7_told_83 (by decide) ?_
          refine zw_icmp_ne (tgt := 100) zM_X7_told dX7_told_84 rfl rfl (fun q => ?_) (fun q => ?_)
          · replace h := h.1 q
            refine zw_go (pc1 := 102) (L1 := [some (.ref a0), some (.int x1), some (.int x2), some (.int x3), some (.int v3), some (.int v6)]) (st1 := [.int v6]) (σ1 := σ5) zM_X7_told dX7_told_100 rfl rfl rfl rfl ?_
            refine zw_iconst (v := 2) zM_X7_told dX7_told_102 (by decide) ?_
            refine zw_icmp_ne (tgt := 119) zM_X7_told dX7_told_103 rfl rfl (fun q => ?_) (fun q => ?_)
            · replace h := h.1 q
              refine zw_iconst (v := 0) zM_X7_told dX7_told_119 (by decide) ?_
              exact zw_reti zM_X7_told dX7_told_120 rfl h
            · replace h := h.2 q
              refine zw_go (pc1 := 107) (L1 := [some (.ref a0), some (.int x1), some (.int x2), some (.int x3), some (.int v3), some (.int v6)]) (st1 := [.ref a0]) (σ1 := σ5) zM_X7_told dX7_told_106 rfl rfl rfl rfl ?_
              refine zw_go (pc1 := 108) (L1 := [some (.ref a0), some (.int x1), some (.int x2), some (.int x3), some (.int v3), some (.int v6)]) (st1 := [.int x1, .ref a0]) (σ1 := σ5) zM_X7_told dX7_told_107 rfl rfl rfl rfl ?_
              refine zw_go (pc1 := 110) (L1 := [some (.ref a0), some (.int x1), some (.int x2), some (.int x3), some (.int v3), some (.int v6)]) (st1 := [.int v3, .int x1, .ref a0]) (σ1 := σ5) zM_X7_told dX7_told_108 rfl rfl rfl rfl ?_
              refine zw_bipush (v := 6) zM_X7_told dX7_told_110 (by decide) ?_
              refine zw_go (pc1 := 113) (L1 := [some (.ref a0), some (.int x1), some (.int x2), some (.int x3), some (.int v3), some (.int v6)]) (st1 := [.int (v3 + 6), .int x1, .ref a0]) (σ1 := σ5) zM_X7_told dX7_told_112 rfl rfl rfl rfl ?_
              obtain ⟨hk20, h⟩ := h
              refine zw_callI (as := [.ref a0, .int x1, .int (v3 + 6)]) (rest := []) zM_X7_told dX7_told_113 (zx_calV zC_7_201) zM_X7_word rfl rfl rfl rfl rfl (zx_args0 hk20 rfl) rfl h (fun v22 σ21 h => ?_)
              refine zw_goto (tgt := 120) zM_X7_told dX7_told_116 rfl ?_
              exact zw_reti zM_X7_told dX7_told_120 rfl h
          · replace h := h.2 q
            refine zw_go (pc1 := 88) (L1 := [some (.ref a0), some (.int x1), some (.int x2), some (.int x3), some (.int v3), some (.int v6)]) (st1 := [.ref a0]) (σ1 := σ5) zM_X7_told dX7_told_87 rfl rfl rfl rfl ?_
            refine zw_go (pc1 := 89) (L1 := [some (.ref a0), some (.int x1), some (.int x2), some (.int x3), some (.int v3), some (.int v6)]) (st1 := [.int x1, .ref a0]) (σ1 := σ5) zM_X7_told dX7_told_88 rfl rfl rfl rfl ?_
            refine zw_go (pc1 := 91) (L1 := [some (.ref a0), some (.int x1), some (.int x2), some (.int x3), some (.int v3), some (.int v6)]) (st1 := [.int v3, .int x1, .ref a0]) (σ1 := σ5) zM_X7_told dX7_told_89 rfl rfl rfl rfl ?_
            refine zw_bipush (v := 8) zM_X7_told dX7_told_91 (by decide) ?_
            refine zw_go (pc1 := 94) (L1 := [some (.ref a0), some (.int x1), some (.int x2), some (.int x3), some (.int v3), some (.int v6)]) (st1 := [.int (v3 + 8), .int x1, .ref a0]) (σ1 := σ5) zM_X7_told dX7_told_93 rfl rfl rfl rfl ?_
            obtain ⟨hk23, h⟩ := h
            refine zw_callI (as := [.ref a0, .int x1, .int (v3 + 8)]) (rest := []) zM_X7_told dX7_told_94 (zx_calV zC_7_201) zM_X7_word rfl rfl rfl rfl rfl (zx_args0 hk23 rfl) rfl h (fun v25 σ24 h => ?_)
            refine zw_goto (tgt := 120) zM_X7_told dX7_told_97 rfl ?_
            exact zw_reti zM_X7_told dX7_told_120 rfl h
set_option maxHeartbeats 4000000 in
set_option maxRecDepth 100000 in
theorem vc_X7_view_0 (a0 : Nat) (x1 : Int32) (x2 : Int32) (σ : zx_S) (K : Int32 → zx_S → Prop) (h : zK σ a0 = 20 ∧ ∀ σ2 : zx_S, σ2 = zx_pI σ a0 0 0 → zwI 171 0 [some (.ref a0), some (.int x1)] [] σ2 (fun v5 σ4 => ((¬ v5 = (0 : Int32) → zK σ4 a0 = 20 ∧ ∃ b7 : Nat, zR σ4 a0 39 = some b7 ∧ zK σ4 b7 = 1 ∧ zx_in (3 * x1) (zN σ4 b7) = true ∧ ∃ b11 : Nat, zR σ4 a0 40 = some b11 ∧ zK σ4 b11 = 1 ∧ zx_in (3 * x1) (zN σ4 b11) = true ∧ ((x2 = 0 → zwI 173 0 [some (.ref a0), some (.int x1)] [] σ4 (fun v16 σ15 => K v16 σ15)) ∧ (¬ x2 = 0 → ((x2 = 1 → K (zI σ4 b7 (Int32.toNatClampNeg (3 * x1))) σ4) ∧ (¬ x2 = 1 → ((x2 = 2 → K (zI σ4 b11 (Int32.toNatClampNeg (3 * x1))) σ4) ∧ (¬ x2 = 2 → ((x2 = 3 → zwI 173 0 [some (.ref a0), some (.int x1)] [] σ4 (fun v21 σ20 => ((¬ v21 = (1 : Int32) → zK σ20 a0 = 20 ∧ zwI 208 0 [some (.ref a0), some (.int (zI σ4 b7 (Int32.toNatClampNeg (3 * x1)))), some (.int (zI σ4 b11 (Int32.toNatClampNeg (3 * x1)))), some (.int 4), none, none] [] σ20 (fun v24 σ23 => K v24 σ23)) ∧ (v21 = (1 : Int32) → zK σ20 a0 = 20 ∧ zwI 184 0 [some (.ref a0), some (.int x1), none, none] [] σ20 (fun v27 σ26 => K v27 σ26))))) ∧ (¬ x2 = 3 → ((x2 = 4 → zwI 208 0 [some (.ref a0), some (.int (zI σ4 b7 (Int32.toNatClampNeg (3 * x1)))), some (.int (zI σ4 b11 (Int32.toNatClampNeg (3 * x1)))), some (.int 1), none, none] [] σ4 (fun v30 σ29 => K v30 σ29)) ∧ (¬ x2 = 4 → ((x2 = 5 → zwI 208 0 [some (.ref a0), some (.int (zI σ4 b7 (Int32.toNatClampNeg (3 * x1)))), some (.int (zI σ4 b11 (Int32.toNatClampNeg (3 * x1)))), some (.int 2), none, none] [] σ4 (fun v33 σ32 => K v33 σ32)) ∧ (¬ x2 = 5 → ((x2 = 6 → ∃ b35 : Nat, zR σ4 a0 38 = some b35 ∧ zK σ4 b35 = 1 ∧ zx_in x1 (zN σ4 b35) = true ∧ K (zI σ4 b35 (Int32.toNatClampNeg x1)) σ4) ∧ (¬ x2 = 6 → K (-2) σ4))))))))))))))) ∧ (v5 = (0 : Int32) → K (-1) σ4)))) : zwI 209 0 [some (.ref a0), some (.int x1), some (.int x2), none, none] [] σ K := by
  refine zw_go (pc1 := 1) (L1 := [some (.ref a0), some (.int x1), some (.int x2), none, none]) (st1 := [.ref a0]) (σ1 := σ) zM_X7_view dX7_view_0 rfl rfl rfl rfl ?_
  refine zw_iconst (v := 0) zM_X7_view dX7_view_1 (by decide) ?_
  obtain ⟨hk1, h⟩ := h
  obtain ⟨σ2, e3⟩ : ∃ z9 : zx_S, z9 = zx_pI σ a0 0 0 := ⟨_, rfl⟩
  replace h := h σ2 e3
  refine zw_putI zM_X7_view dX7_view_2 zF_7_98 rfl rfl hk1 e3 ?_
  refine zw_go (pc1 := 6) (L1 := [some (.ref a0), some (.int x1), some (.int x2), none, none]) (st1 := [.ref a0]) (σ1 := σ2) zM_X7_view dX7_view_5 rfl rfl rfl rfl ?_
  refine zw_go (pc1 := 7) (L1 := [some (.ref a0), some (.int x1), some (.int x2), none, none]) (st1 := [.int x1, .ref a0]) (σ1 := σ2) zM_X7_view dX7_view_6 rfl rfl rfl rfl ?_
  refine zw_callI (as := [.ref a0, .int x1]) (rest := []) zM_X7_view dX7_view_7 (zx_calV zC_7_278) zM_X7_isView rfl rfl rfl rfl rfl (zx_args0 (by rw [e3]; exact hk1) rfl) rfl h (fun v5 σ4 h => ?_)
  refine zw_if_ne (tgt := 15) zM_X7_view dX7_view_10 rfl rfl (fun q => ?_) (fun q => ?_)
  · replace h := h.1 q
    refine zw_go (pc1 := 16) (L1 := [some (.ref a0), some (.int x1), some (.int x2), none, none]) (st1 := [.ref a0]) (σ1 := σ4) zM_X7_view dX7_view_15 rfl rfl rfl rfl ?_
    obtain ⟨hk6, h⟩ := h
    obtain ⟨b7, hr8, h⟩ := h
    refine zw_getR (a := b7) zM_X7_view dX7_view_16 zF_7_88 rfl hk6 hr8 ?_
    refine zw_iconst (v := 3) zM_X7_view dX7_view_19 (by decide) ?_
    refine zw_go (pc1 := 21) (L1 := [some (.ref a0), some (.int x1), some (.int x2), none, none]) (st1 := [.int x1, .int 3, .ref b7]) (σ1 := σ4) zM_X7_view dX7_view_20 rfl rfl rfl rfl ?_
    refine zw_go (pc1 := 22) (L1 := [some (.ref a0), some (.int x1), some (.int x2), none, none]) (st1 := [.int (3 * x1), .ref b7]) (σ1 := σ4) zM_X7_view dX7_view_21 rfl rfl rfl rfl ?_
    obtain ⟨hk9, h⟩ := h
    obtain ⟨hi10, h⟩ := h
    refine zw_iald zM_X7_view dX7_view_22 ⟨Or.inl hk9, hi10⟩ ?_
    refine zw_go (pc1 := 24) (L1 := [some (.ref a0), some (.int x1), some (.int x2), some (.int (zI σ4 b7 (Int32.toNatClampNeg (3 * x1)))), none]) (st1 := []) (σ1 := σ4) zM_X7_view dX7_view_23 rfl rfl rfl rfl ?_
    refine zw_go (pc1 := 25) (L1 := [some (.ref a0), some (.int x1), some (.int x2), some (.int (zI σ4 b7 (Int32.toNatClampNeg (3 * x1)))), none]) (st1 := [.ref a0]) (σ1 := σ4) zM_X7_view dX7_view_24 rfl rfl rfl rfl ?_
    obtain ⟨b11, hr12, h⟩ := h
    refine zw_getR (a := b11) zM_X7_view dX7_view_25 zF_7_91 rfl hk6 hr12 ?_
    refine zw_iconst (v := 3) zM_X7_view dX7_view_28 (by decide) ?_
    refine zw_go (pc1 := 30) (L1 := [some (.ref a0), some (.int x1), some (.int x2), some (.int (zI σ4 b7 (Int32.toNatClampNeg (3 * x1)))), none]) (st1 := [.int x1, .int 3, .ref b11]) (σ1 := σ4) zM_X7_view dX7_view_29 rfl rfl rfl rfl ?_
    refine zw_go (pc1 := 31) (L1 := [some (.ref a0), some (.int x1), some (.int x2), some (.int (zI σ4 b7 (Int32.toNatClampNeg (3 * x1)))), none]) (st1 := [.int (3 * x1), .ref b11]) (σ1 := σ4) zM_X7_view dX7_view_30 rfl rfl rfl rfl ?_
    obtain ⟨hk13, h⟩ := h
    obtain ⟨hi14, h⟩ := h
    refine zw_iald zM_X7_view dX7_view_31 ⟨Or.inl hk13, hi14⟩ ?_
    refine zw_go (pc1 := 34) (L1 := [some (.ref a0), some (.int x1), some (.int x2), some (.int (zI σ4 b7 (Int32.toNatClampNeg (3 * x1)))), some (.int (zI σ4 b11 (Int32.toNatClampNeg (3 * x1))))]) (st1 := []) (σ1 := σ4) zM_X7_view dX7_view_32 rfl rfl rfl rfl ?_
    refine zw_go (pc1 := 35) (L1 := [some (.ref a0), some (.int x1), some (.int x2), some (.int (zI σ4 b7 (Int32.toNatClampNeg (3 * x1)))), some (.int (zI σ4 b11 (Int32.toNatClampNeg (3 * x1))))]) (st1 := [.int x2]) (σ1 := σ4) zM_X7_view dX7_view_34 rfl rfl rfl rfl ?_
    by_cases hs17 : x2 = 0
    · replace h := h.1 hs17
      refine zw_sw (tgt := 76) zM_X7_view dX7_view_35 (zx_sw_in hs17 rfl) rfl ?_
      refine zw_go (pc1 := 77) (L1 := [some (.ref a0), some (.int x1), some (.int x2), some (.int (zI σ4 b7 (Int32.toNatClampNeg (3 * x1)))), some (.int (zI σ4 b11 (Int32.toNatClampNeg (3 * x1))))]) (st1 := [.ref a0]) (σ1 := σ4) zM_X7_view dX7_view_76 rfl rfl rfl rfl ?_
      refine zw_go (pc1 := 78) (L1 := [some (.ref a0), some (.int x1), some (.int x2), some (.int (zI σ4 b7 (Int32.toNatClampNeg (3 * x1)))), some (.int (zI σ4 b11 (Int32.toNatClampNeg (3 * x1))))]) (st1 := [.int x1, .ref a0]) (σ1 := σ4) zM_X7_view dX7_view_77 rfl rfl rfl rfl ?_
      refine zw_callI (as := [.ref a0, .int x1]) (rest := []) zM_X7_view dX7_view_78 (zx_calV zC_7_281) zM_X7_kindOf rfl rfl rfl rfl rfl (zx_args0 hk6 rfl) rfl h (fun v16 σ15 h => ?_)
      exact zw_reti zM_X7_view dX7_view_81 rfl h
    · replace h := h.2 hs17
      by_cases hs18 : x2 = 1
      · replace h := h.1 hs18
        refine zw_sw (tgt := 82) zM_X7_view dX7_view_35 (zx_sw_in hs18 rfl) rfl ?_
        refine zw_go (pc1 := 83) (L1 := [some (.ref a0), some (.int x1), some (.int x2), some (.int (zI σ4 b7 (Int32.toNatClampNeg (3 * x1)))), some (.int (zI σ4 b11 (Int32.toNatClampNeg (3 * x1))))]) (st1 := [.int (zI σ4 b7 (Int32.toNatClampNeg (3 * x1)))]) (σ1 := σ4) zM_X7_view dX7_view_82 rfl rfl rfl rfl ?_
        exact zw_reti zM_X7_view dX7_view_83 rfl h
      · replace h := h.2 hs18
        by_cases hs19 : x2 = 2
        · replace h := h.1 hs19
          refine zw_sw (tgt := 84) zM_X7_view dX7_view_35 (zx_sw_in hs19 rfl) rfl ?_
          refine zw_go (pc1 := 86) (L1 := [some (.ref a0), some (.int x1), some (.int x2), some (.int (zI σ4 b7 (Int32.toNatClampNeg (3 * x1)))), some (.int (zI σ4 b11 (Int32.toNatClampNeg (3 * x1))))]) (st1 := [.int (zI σ4 b11 (Int32.toNatClampNeg (3 * x1)))]) (σ1 := σ4) zM_X7_view dX7_view_84 rfl rfl rfl rfl ?_
          exact zw_reti zM_X7_view dX7_view_86 rfl h
        · replace h := h.2 hs19
          by_cases hs28 : x2 = 3
          · replace h := h.1 hs28
            refine zw_sw (tgt := 87) zM_X7_view dX7_view_35 (zx_sw_in hs28 rfl) rfl ?_
            refine zw_go (pc1 := 88) (L1 := [some (.ref a0), some (.int x1), some (.int x2), some (.int (zI σ4 b7 (Int32.toNatClampNeg (3 * x1)))), some (.int (zI σ4 b11 (Int32.toNatClampNeg (3 * x1))))]) (st1 := [.ref a0]) (σ1 := σ4) zM_X7_view dX7_view_87 rfl rfl rfl rfl ?_
            refine zw_go (pc1 := 89) (L1 := [some (.ref a0), some (.int x1), some (.int x2), some (.int (zI σ4 b7 (Int32.toNatClampNeg (3 * x1)))), some (.int (zI σ4 b11 (Int32.toNatClampNeg (3 * x1))))]) (st1 := [.int x1, .ref a0]) (σ1 := σ4) zM_X7_view dX7_view_88 rfl rfl rfl rfl ?_
            refine zw_callI (as := [.ref a0, .int x1]) (rest := []) zM_X7_view dX7_view_89 (zx_calV zC_7_281) zM_X7_kindOf rfl rfl rfl rfl rfl (zx_args0 hk6 rfl) rfl h (fun v21 σ20 h => ?_)
            refine zw_iconst (v := 1) zM_X7_view dX7_view_92 (by decide) ?_
            refine zw_icmp_ne (tgt := 104) zM_X7_view dX7_view_93 rfl rfl (fun q => ?_) (fun q => ?_)
            · replace h := h.1 q
              refine zw_go (pc1 := 105) (L1 := [some (.ref a0), some (.int x1), some (.int x2), some (.int (zI σ4 b7 (Int32.toNatClampNeg (3 * x1)))), some (.int (zI σ4 b11 (Int32.toNatClampNeg (3 * x1))))]) (st1 := [.ref a0]) (σ1 := σ20) zM_X7_view dX7_view_104 rfl rfl rfl rfl ?_
              refine zw_go (pc1 := 106) (L1 := [some (.ref a0), some (.int x1), some (.int x2), some (.int (zI σ4 b7 (Int32.toNatClampNeg (3 * x1)))), some (.int (zI σ4 b11 (Int32.toNatClampNeg (3 * x1))))]) (st1 := [.int (zI σ4 b7 (Int32.toNatClampNeg (3 * x1))), .ref a0]) (σ1 := σ20) zM_X7_view dX7_view_105 rfl rfl rfl rfl ?_
              refine zw_go (pc1 := 108) (L1 := [some (.ref a0), some (.int x1), some (.int x2), some (.int (zI σ4 b7 (Int32.toNatClampNeg (3 * x1)))), some (.int (zI σ4 b11 (Int32.toNatClampNeg (3 * x1))))]) (st1 := [.int (zI σ4 b11 (Int32.toNatClampNeg (3 * x1))), .int (zI σ4 b7 (Int32.toNatClampNeg (3 * x1))), .ref a0]) (σ1 := σ20) zM_X7_view dX7_view_106 rfl rfl rfl rfl ?_
              refine zw_iconst (v := 4) zM_X7_view dX7_view_108 (by decide) ?_
              obtain ⟨hk22, h⟩ := h
              refine zw_callI (as := [.ref a0, .int (zI σ4 b7 (Int32.toNatClampNeg (3 * x1))), .int (zI σ4 b11 (Int32.toNatClampNeg (3 * x1))), .int 4]) (rest := []) zM_X7_view dX7_view_109 (zx_calV zC_7_266) zM_X7_told rfl rfl rfl rfl rfl (zx_args0 hk22 rfl) rfl h (fun v24 σ23 h => ?_)
              exact zw_reti zM_X7_view dX7_view_112 rfl h
            · replace h := h.2 q
              refine zw_go (pc1 := 97) (L1 := [some (.ref a0), some (.int x1), some (.int x2), some (.int (zI σ4 b7 (Int32.toNatClampNeg (3 * x1)))), some (.int (zI σ4 b11 (Int32.toNatClampNeg (3 * x1))))]) (st1 := [.ref a0]) (σ1 := σ20) zM_X7_view dX7_view_96 rfl rfl rfl rfl ?_
              refine zw_go (pc1 := 98) (L1 := [some (.ref a0), some (.int x1), some (.int x2), some (.int (zI σ4 b7 (Int32.toNatClampNeg (3 * x1)))), some (.int (zI σ4 b11 (Int32.toNatClampNeg (3 * x1))))]) (st1 := [.int x1, .ref a0]) (σ1 := σ20) zM_X7_view dX7_view_97 rfl rfl rfl rfl ?_
              obtain ⟨hk25, h⟩ := h
              refine zw_callI (as := [.ref a0, .int x1]) (rest := []) zM_X7_view dX7_view_98 (zx_calV zC_7_290) zM_X7_namesIn rfl rfl rfl rfl rfl (zx_args0 hk25 rfl) rfl h (fun v27 σ26 h => ?_)
              refine zw_goto (tgt := 112) zM_X7_view dX7_view_101 rfl ?_
              exact zw_reti zM_X7_view dX7_view_112 rfl h
          · replace h := h.2 hs28
            by_cases hs31 : x2 = 4
            · replace h := h.1 hs31
              refine zw_sw (tgt := 113) zM_X7_view dX7_view_35 (zx_sw_in hs31 rfl) rfl ?_
              refine zw_go (pc1 := 114) (L1 := [some (.ref a0), some (.int x1), some (.int x2), some (.int (zI σ4 b7 (Int32.toNatClampNeg (3 * x1)))), some (.int (zI σ4 b11 (Int32.toNatClampNeg (3 * x1))))]) (st1 := [.ref a0]) (σ1 := σ4) zM_X7_view dX7_view_113 rfl rfl rfl rfl ?_
              refine zw_go (pc1 := 115) (L1 := [some (.ref a0), some (.int x1), some (.int x2), some (.int (zI σ4 b7 (Int32.toNatClampNeg (3 * x1)))), some (.int (zI σ4 b11 (Int32.toNatClampNeg (3 * x1))))]) (st1 := [.int (zI σ4 b7 (Int32.toNatClampNeg (3 * x1))), .ref a0]) (σ1 := σ4) zM_X7_view dX7_view_114 rfl rfl rfl rfl ?_
              refine zw_go (pc1 := 117) (L1 := [some (.ref a0), some (.int x1), some (.int x2), some (.int (zI σ4 b7 (Int32.toNatClampNeg (3 * x1)))), some (.int (zI σ4 b11 (Int32.toNatClampNeg (3 * x1))))]) (st1 := [.int (zI σ4 b11 (Int32.toNatClampNeg (3 * x1))), .int (zI σ4 b7 (Int32.toNatClampNeg (3 * x1))), .ref a0]) (σ1 := σ4) zM_X7_view dX7_view_115 rfl rfl rfl rfl ?_
              refine zw_iconst (v := 1) zM_X7_view dX7_view_117 (by decide) ?_
              refine zw_callI (as := [.ref a0, .int (zI σ4 b7 (Int32.toNatClampNeg (3 * x1))), .int (zI σ4 b11 (Int32.toNatClampNeg (3 * x1))), .int 1]) (rest := []) zM_X7_view dX7_view_118 (zx_calV zC_7_266) zM_X7_told rfl rfl rfl rfl rfl (zx_args0 hk6 rfl) rfl h (fun v30 σ29 h => ?_)
              exact zw_reti zM_X7_view dX7_view_121 rfl h
            · replace h := h.2 hs31
              by_cases hs34 : x2 = 5
              · replace h := h.1 hs34
                refine zw_sw (tgt := 122) zM_X7_view dX7_view_35 (zx_sw_in hs34 rfl) rfl ?_
                refine zw_go (pc1 := 123) (L1 := [some (.ref a0), some (.int x1), some (.int x2), some (.int (zI σ4 b7 (Int32.toNatClampNeg (3 * x1)))), some (.int (zI σ4 b11 (Int32.toNatClampNeg (3 * x1))))]) (st1 := [.ref a0]) (σ1 := σ4) zM_X7_view dX7_view_122 rfl rfl rfl rfl ?_
                refine zw_go (pc1 := 124) (L1 := [some (.ref a0), some (.int x1), some (.int x2), some (.int (zI σ4 b7 (Int32.toNatClampNeg (3 * x1)))), some (.int (zI σ4 b11 (Int32.toNatClampNeg (3 * x1))))]) (st1 := [.int (zI σ4 b7 (Int32.toNatClampNeg (3 * x1))), .ref a0]) (σ1 := σ4) zM_X7_view dX7_view_123 rfl rfl rfl rfl ?_
                refine zw_go (pc1 := 126) (L1 := [some (.ref a0), some (.int x1), some (.int x2), some (.int (zI σ4 b7 (Int32.toNatClampNeg (3 * x1)))), some (.int (zI σ4 b11 (Int32.toNatClampNeg (3 * x1))))]) (st1 := [.int (zI σ4 b11 (Int32.toNatClampNeg (3 * x1))), .int (zI σ4 b7 (Int32.toNatClampNeg (3 * x1))), .ref a0]) (σ1 := σ4) zM_X7_view dX7_view_124 rfl rfl rfl rfl ?_
                refine zw_iconst (v := 2) zM_X7_view dX7_view_126 (by decide) ?_
                refine zw_callI (as := [.ref a0, .int (zI σ4 b7 (Int32.toNatClampNeg (3 * x1))), .int (zI σ4 b11 (Int32.toNatClampNeg (3 * x1))), .int 2]) (rest := []) zM_X7_view dX7_view_127 (zx_calV zC_7_266) zM_X7_told rfl rfl rfl rfl rfl (zx_args0 hk6 rfl) rfl h (fun v33 σ32 h => ?_)
                exact zw_reti zM_X7_view dX7_view_130 rfl h
              · replace h := h.2 hs34
                by_cases hs39 : x2 = 6
                · replace h := h.1 hs39
                  refine zw_sw (tgt := 131) zM_X7_view dX7_view_35 (zx_sw_in hs39 rfl) rfl ?_
                  refine zw_go (pc1 := 132) (L1 := [some (.ref a0), some (.int x1), some (.int x2), some (.int (zI σ4 b7 (Int32.toNatClampNeg (3 * x1)))), some (.int (zI σ4 b11 (Int32.toNatClampNeg (3 * x1))))]) (st1 := [.ref a0]) (σ1 := σ4) zM_X7_view dX7_view_131 rfl rfl rfl rfl ?_
                  obtain ⟨b35, hr36, h⟩ := h
                  refine zw_getR (a := b35) zM_X7_view dX7_view_132 zF_7_85 rfl hk6 hr36 ?_
                  refine zw_go (pc1 := 136) (L1 := [some (.ref a0), some (.int x1), some (.int x2), some (.int (zI σ4 b7 (Int32.toNatClampNeg (3 * x1)))), some (.int (zI σ4 b11 (Int32.toNatClampNeg (3 * x1))))]) (st1 := [.int x1, .ref b35]) (σ1 := σ4) zM_X7_view dX7_view_135 rfl rfl rfl rfl ?_
                  obtain ⟨hk37, h⟩ := h
                  obtain ⟨hi38, h⟩ := h
                  refine zw_iald zM_X7_view dX7_view_136 ⟨Or.inl hk37, hi38⟩ ?_
                  exact zw_reti zM_X7_view dX7_view_137 rfl h
                · replace h := h.2 hs39
                  have n0 := zx_ne (n := 0) hs17 (by decide)
                  have n1 := zx_ne (n := 1) hs18 (by decide)
                  have n2 := zx_ne (n := 2) hs19 (by decide)
                  have n3 := zx_ne (n := 3) hs28 (by decide)
                  have n4 := zx_ne (n := 4) hs31 (by decide)
                  have n5 := zx_ne (n := 5) hs34 (by decide)
                  have n6 := zx_ne (n := 6) hs39 (by decide)
                  refine zw_sw (tgt := 138) zM_X7_view dX7_view_35 (zx_sw_out (by omega)) rfl ?_
                  refine zw_bipush (v := (-2)) zM_X7_view dX7_view_138 (by decide) ?_
                  exact zw_reti zM_X7_view dX7_view_140 rfl h
  · replace h := h.2 q
    refine zw_iconst (v := (-1)) zM_X7_view dX7_view_13 (by decide) ?_
    exact zw_reti zM_X7_view dX7_view_14 rfl h
set_option maxHeartbeats 4000000 in
set_option maxRecDepth 100000 in
theorem vc_X7_word_0 (a0 : Nat) (x1 : Int32) (x2 : Int32) (σ : zx_S) (K : Int32 → zx_S → Prop) (h : zK σ a0 = 20 ∧ zwI 143 0 [some (.ref a0), some (.int x1), some (.int x2)] [] σ (fun v3 σ2 => zK σ2 a0 = 20 ∧ zwI 143 0 [some (.ref a0), some (.int x1), some (.int (x2 + 1))] [] σ2 (fun v6 σ5 => K ((256 * v3) + v6) σ5))) : zwI 210 0 [some (.ref a0), some (.int x1), some (.int x2)] [] σ K := by
  refine zw_sipush (v := 256) zM_X7_word dX7_word_0 (by decide) ?_
  refine zw_go (pc1 := 4) (L1 := [some (.ref a0), some (.int x1), some (.int x2)]) (st1 := [.ref a0, .int 256]) (σ1 := σ) zM_X7_word dX7_word_3 rfl rfl rfl rfl ?_
  refine zw_go (pc1 := 5) (L1 := [some (.ref a0), some (.int x1), some (.int x2)]) (st1 := [.int x1, .ref a0, .int 256]) (σ1 := σ) zM_X7_word dX7_word_4 rfl rfl rfl rfl ?_
  refine zw_go (pc1 := 6) (L1 := [some (.ref a0), some (.int x1), some (.int x2)]) (st1 := [.int x2, .int x1, .ref a0, .int 256]) (σ1 := σ) zM_X7_word dX7_word_5 rfl rfl rfl rfl ?_
  obtain ⟨hk1, h⟩ := h
  refine zw_callI (as := [.ref a0, .int x1, .int x2]) (rest := [.int 256]) zM_X7_word dX7_word_6 (zx_calV zC_7_198) zM_X7_byteAt rfl rfl rfl rfl rfl (zx_args0 hk1 rfl) rfl h (fun v3 σ2 h => ?_)
  refine zw_go (pc1 := 10) (L1 := [some (.ref a0), some (.int x1), some (.int x2)]) (st1 := [.int (256 * v3)]) (σ1 := σ2) zM_X7_word dX7_word_9 rfl rfl rfl rfl ?_
  refine zw_go (pc1 := 11) (L1 := [some (.ref a0), some (.int x1), some (.int x2)]) (st1 := [.ref a0, .int (256 * v3)]) (σ1 := σ2) zM_X7_word dX7_word_10 rfl rfl rfl rfl ?_
  refine zw_go (pc1 := 12) (L1 := [some (.ref a0), some (.int x1), some (.int x2)]) (st1 := [.int x1, .ref a0, .int (256 * v3)]) (σ1 := σ2) zM_X7_word dX7_word_11 rfl rfl rfl rfl ?_
  refine zw_go (pc1 := 13) (L1 := [some (.ref a0), some (.int x1), some (.int x2)]) (st1 := [.int x2, .int x1, .ref a0, .int (256 * v3)]) (σ1 := σ2) zM_X7_word dX7_word_12 rfl rfl rfl rfl ?_
  refine zw_iconst (v := 1) zM_X7_word dX7_word_13 (by decide) ?_
  refine zw_go (pc1 := 15) (L1 := [some (.ref a0), some (.int x1), some (.int x2)]) (st1 := [.int (x2 + 1), .int x1, .ref a0, .int (256 * v3)]) (σ1 := σ2) zM_X7_word dX7_word_14 rfl rfl rfl rfl ?_
  obtain ⟨hk4, h⟩ := h
  refine zw_callI (as := [.ref a0, .int x1, .int (x2 + 1)]) (rest := [.int (256 * v3)]) zM_X7_word dX7_word_15 (zx_calV zC_7_198) zM_X7_byteAt rfl rfl rfl rfl rfl (zx_args0 hk4 rfl) rfl h (fun v6 σ5 h => ?_)
  refine zw_go (pc1 := 19) (L1 := [some (.ref a0), some (.int x1), some (.int x2)]) (st1 := [.int ((256 * v3) + v6)]) (σ1 := σ5) zM_X7_word dX7_word_18 rfl rfl rfl rfl ?_
  exact zw_reti zM_X7_word dX7_word_19 rfl h
