set_option maxHeartbeats 4000000 in
set_option maxRecDepth 100000 in
theorem vc_X7_owner_0 (a0 : Nat) (x1 : Int32) (x2 : Int32) (x3 : Int32) (σ : zx_S) (K : Int32 → zx_S → Prop) (h : zK σ a0 = 20 ∧ ∀ σ2 : zx_S, σ2 = zx_pI σ a0 0 0 → zwI 167 0 [some (.ref a0), some (.int x1)] [] σ2 (fun v5 σ4 => ((¬ v5 = (0 : Int32) → zwI 160 0 [some (.int x2), some (.int 0), some (.int 65535)] [] σ4 (fun v7 σ6 => ((v7 = (0 : Int32) → K (-2) σ6) ∧ (¬ v7 = (0 : Int32) → zwI 160 0 [some (.int x3), some (.int 0), some (.int 65535)] [] σ6 (fun v9 σ8 => ((¬ v9 = (0 : Int32) → zK σ8 a0 = 20 ∧ ∃ b11 : Nat, zR σ8 a0 4 = some b11 ∧ zK σ8 b11 = 1 ∧ zx_in x1 (zN σ8 b11) = true ∧ ∀ σ15 : zx_S, σ15 = zx_pI σ8 b11 (Int32.toNatClampNeg x1) x2 → ∃ b17 : Nat, zR σ15 a0 3 = some b17 ∧ zK σ15 b17 = 1 ∧ zx_in x1 (zN σ15 b17) = true ∧ ∀ σ21 : zx_S, σ21 = zx_pI σ15 b17 (Int32.toNatClampNeg x1) x3 → K 1 σ21) ∧ (v9 = (0 : Int32) → K (-2) σ8))))))) ∧ (v5 = (0 : Int32) → K (-1) σ4)))) : zwI 195 0 [some (.ref a0), some (.int x1), some (.int x2), some (.int x3)] [] σ K := by
  refine zw_go (pc1 := 1) (L1 := [some (.ref a0), some (.int x1), some (.int x2), some (.int x3)]) (st1 := [.ref a0]) (σ1 := σ) zM_X7_owner dX7_owner_0 rfl rfl rfl rfl ?_
  refine zw_iconst (v := 0) zM_X7_owner dX7_owner_1 (by decide) ?_
  obtain ⟨hk1, h⟩ := h
  obtain ⟨σ2, e3⟩ : ∃ z9 : zx_S, z9 = zx_pI σ a0 0 0 := ⟨_, rfl⟩
  replace h := h σ2 e3
  refine zw_putI zM_X7_owner dX7_owner_2 zF_7_98 rfl rfl hk1 e3 ?_
  refine zw_go (pc1 := 6) (L1 := [some (.ref a0), some (.int x1), some (.int x2), some (.int x3)]) (st1 := [.ref a0]) (σ1 := σ2) zM_X7_owner dX7_owner_5 rfl rfl rfl rfl ?_
  refine zw_go (pc1 := 7) (L1 := [some (.ref a0), some (.int x1), some (.int x2), some (.int x3)]) (st1 := [.int x1, .ref a0]) (σ1 := σ2) zM_X7_owner dX7_owner_6 rfl rfl rfl rfl ?_
  refine zw_callI (as := [.ref a0, .int x1]) (rest := []) zM_X7_owner dX7_owner_7 (zx_calV zC_7_108) zM_X7_isNode rfl rfl rfl rfl rfl (zx_args0 (by rw [e3]; exact hk1) rfl) rfl h (fun v5 σ4 h => ?_)
  refine zw_if_ne (tgt := 15) zM_X7_owner dX7_owner_10 rfl rfl (fun q => ?_) (fun q => ?_)
  · replace h := h.1 q
    refine zw_go (pc1 := 16) (L1 := [some (.ref a0), some (.int x1), some (.int x2), some (.int x3)]) (st1 := [.int x2]) (σ1 := σ4) zM_X7_owner dX7_owner_15 rfl rfl rfl rfl ?_
    refine zw_iconst (v := 0) zM_X7_owner dX7_owner_16 (by decide) ?_
    refine zw_ldc (v := 65535) zM_X7_owner dX7_owner_17 zK_7_128 ?_
    refine zw_callI (as := [.int x2, .int 0, .int 65535]) (rest := []) zM_X7_owner dX7_owner_19 (zx_calS zC_7_101) zM_X7_in rfl rfl rfl rfl rfl rfl rfl h (fun v7 σ6 h => ?_)
    refine zw_if_eq (tgt := 35) zM_X7_owner dX7_owner_22 rfl rfl (fun q => ?_) (fun q => ?_)
    · replace h := h.1 q
      refine zw_bipush (v := (-2)) zM_X7_owner dX7_owner_35 (by decide) ?_
      exact zw_reti zM_X7_owner dX7_owner_37 rfl h
    · replace h := h.2 q
      refine zw_go (pc1 := 26) (L1 := [some (.ref a0), some (.int x1), some (.int x2), some (.int x3)]) (st1 := [.int x3]) (σ1 := σ6) zM_X7_owner dX7_owner_25 rfl rfl rfl rfl ?_
      refine zw_iconst (v := 0) zM_X7_owner dX7_owner_26 (by decide) ?_
      refine zw_ldc (v := 65535) zM_X7_owner dX7_owner_27 zK_7_128 ?_
      refine zw_callI (as := [.int x3, .int 0, .int 65535]) (rest := []) zM_X7_owner dX7_owner_29 (zx_calS zC_7_101) zM_X7_in rfl rfl rfl rfl rfl rfl rfl h (fun v9 σ8 h => ?_)
      refine zw_if_ne (tgt := 38) zM_X7_owner dX7_owner_32 rfl rfl (fun q => ?_) (fun q => ?_)
      · replace h := h.1 q
        refine zw_go (pc1 := 39) (L1 := [some (.ref a0), some (.int x1), some (.int x2), some (.int x3)]) (st1 := [.ref a0]) (σ1 := σ8) zM_X7_owner dX7_owner_38 rfl rfl rfl rfl ?_
        obtain ⟨hk10, h⟩ := h
        obtain ⟨b11, hr12, h⟩ := h
        refine zw_getR (a := b11) zM_X7_owner dX7_owner_39 zF_7_16 rfl hk10 hr12 ?_
        refine zw_go (pc1 := 43) (L1 := [some (.ref a0), some (.int x1), some (.int x2), some (.int x3)]) (st1 := [.int x1, .ref b11]) (σ1 := σ8) zM_X7_owner dX7_owner_42 rfl rfl rfl rfl ?_
        refine zw_go (pc1 := 44) (L1 := [some (.ref a0), some (.int x1), some (.int x2), some (.int x3)]) (st1 := [.int x2, .int x1, .ref b11]) (σ1 := σ8) zM_X7_owner dX7_owner_43 rfl rfl rfl rfl ?_
        obtain ⟨hk13, h⟩ := h
        obtain ⟨hi14, h⟩ := h
        obtain ⟨σ15, e16⟩ : ∃ z9 : zx_S, z9 = zx_pI σ8 b11 (Int32.toNatClampNeg x1) x2 := ⟨_, rfl⟩
        replace h := h σ15 e16
        refine zw_iast zM_X7_owner dX7_owner_44 ⟨hk13, hi14⟩ e16 ?_
        refine zw_go (pc1 := 46) (L1 := [some (.ref a0), some (.int x1), some (.int x2), some (.int x3)]) (st1 := [.ref a0]) (σ1 := σ15) zM_X7_owner dX7_owner_45 rfl rfl rfl rfl ?_
        obtain ⟨b17, hr18, h⟩ := h
        refine zw_getR (a := b17) zM_X7_owner dX7_owner_46 zF_7_13 rfl (by rw [e16]; exact hk10) hr18 ?_
        refine zw_go (pc1 := 50) (L1 := [some (.ref a0), some (.int x1), some (.int x2), some (.int x3)]) (st1 := [.int x1, .ref b17]) (σ1 := σ15) zM_X7_owner dX7_owner_49 rfl rfl rfl rfl ?_
        refine zw_go (pc1 := 51) (L1 := [some (.ref a0), some (.int x1), some (.int x2), some (.int x3)]) (st1 := [.int x3, .int x1, .ref b17]) (σ1 := σ15) zM_X7_owner dX7_owner_50 rfl rfl rfl rfl ?_
        obtain ⟨hk19, h⟩ := h
        obtain ⟨hi20, h⟩ := h
        obtain ⟨σ21, e22⟩ : ∃ z9 : zx_S, z9 = zx_pI σ15 b17 (Int32.toNatClampNeg x1) x3 := ⟨_, rfl⟩
        replace h := h σ21 e22
        refine zw_iast zM_X7_owner dX7_owner_51 ⟨hk19, hi20⟩ e22 ?_
        refine zw_iconst (v := 1) zM_X7_owner dX7_owner_52 (by decide) ?_
        exact zw_reti zM_X7_owner dX7_owner_53 rfl h
      · replace h := h.2 q
        refine zw_bipush (v := (-2)) zM_X7_owner dX7_owner_35 (by decide) ?_
        exact zw_reti zM_X7_owner dX7_owner_37 rfl h
  · replace h := h.2 q
    refine zw_iconst (v := (-1)) zM_X7_owner dX7_owner_13 (by decide) ?_
    exact zw_reti zM_X7_owner dX7_owner_14 rfl h
set_option maxHeartbeats 4000000 in
set_option maxRecDepth 100000 in
theorem vc_X7_pack_0 (a0 : Nat) (x1 : Int32) (σ : zx_S) (K : zx_S → Prop) (h : zK σ a0 = 20 ∧ ∀ σ2 : zx_S, σ2 = zx_pI σ a0 22 0 → zwV 196 7 [some (.ref a0), some (.int x1), some (.int 0), none, none, none] [] σ2 K) : zwV 196 0 [some (.ref a0), some (.int x1), none, none, none, none] [] σ K := by
  refine zw_go (pc1 := 1) (L1 := [some (.ref a0), some (.int x1), none, none, none, none]) (st1 := [.ref a0]) (σ1 := σ) zM_X7_pack dX7_pack_0 rfl rfl rfl rfl ?_
  refine zw_iconst (v := 0) zM_X7_pack dX7_pack_1 (by decide) ?_
  obtain ⟨hk1, h⟩ := h
  obtain ⟨σ2, e3⟩ : ∃ z9 : zx_S, z9 = zx_pI σ a0 22 0 := ⟨_, rfl⟩
  replace h := h σ2 e3
  refine zw_putI zM_X7_pack dX7_pack_2 zF_7_149 rfl rfl hk1 e3 ?_
  refine zw_iconst (v := 0) zM_X7_pack dX7_pack_5 (by decide) ?_
  refine zw_go (pc1 := 7) (L1 := [some (.ref a0), some (.int x1), some (.int 0), none, none, none]) (st1 := []) (σ1 := σ2) zM_X7_pack dX7_pack_6 rfl rfl rfl rfl ?_
  exact zw_weak2 h ⟨rfl, rfl, rfl, trivial⟩
set_option maxHeartbeats 4000000 in
set_option maxRecDepth 100000 in
theorem vc_X7_pack_7 (a0 : Nat) (x1 : Int32) (x2 : Int32) (σ : zx_S) (K : zx_S → Prop) (h : ((x1 ≤ x2 → K σ) ∧ (¬ x1 ≤ x2 → zK σ a0 = 20 ∧ zwI 137 0 [some (.ref a0), some (.int x2), some (.int x1), none] [] σ (fun v3 σ2 => ((v3 < (3 : Int32) → zwV 196 75 [some (.ref a0), some (.int x1), some (.int x2), none, some (.int x2), none] [] σ2 K) ∧ (¬ v3 < (3 : Int32) → zK σ2 a0 = 20 ∧ ∃ b5 : Nat, zR σ2 a0 21 = some b5 ∧ zK σ2 b5 = 1 ∧ zx_in (zI σ2 a0 22) (zN σ2 b5) = true ∧ ∀ σ9 : zx_S, σ9 = zx_pI σ2 b5 (Int32.toNatClampNeg (zI σ2 a0 22)) (257 - v3) → ∃ b11 : Nat, zR σ9 a0 20 = some b11 ∧ zK σ9 b11 = 1 ∧ zx_in x2 (zN σ9 b11) = true ∧ zx_in ((zI σ9 a0 22) + 1) (zN σ9 b5) = true ∧ ∀ σ16 : zx_S, σ16 = zx_pI σ9 b5 (Int32.toNatClampNeg ((zI σ9 a0 22) + 1)) (zI σ9 b11 (Int32.toNatClampNeg x2)) → ∀ σ18 : zx_S, σ18 = zx_pI σ16 a0 22 ((zI σ16 a0 22) + 2) → zwV 196 168 [some (.ref a0), some (.int x1), some (.int (x2 + v3)), none, none, none] [] σ18 K)))))) : zwV 196 7 [some (.ref a0), some (.int x1), some (.int x2), none, none, none] [] σ K := by
  refine zw_go (pc1 := 8) (L1 := [some (.ref a0), some (.int x1), some (.int x2), none, none, none]) (st1 := [.int x2]) (σ1 := σ) zM_X7_pack dX7_pack_7 rfl rfl rfl rfl ?_
  refine zw_go (pc1 := 9) (L1 := [some (.ref a0), some (.int x1), some (.int x2), none, none, none]) (st1 := [.int x1, .int x2]) (σ1 := σ) zM_X7_pack dX7_pack_8 rfl rfl rfl rfl ?_
  refine zw_icmp_ge (tgt := 171) zM_X7_pack dX7_pack_9 rfl rfl (fun q => ?_) (fun q => ?_)
  · replace h := h.1 q
    exact zw_retv zM_X7_pack dX7_pack_171 rfl h
  · replace h := h.2 q
    refine zw_go (pc1 := 13) (L1 := [some (.ref a0), some (.int x1), some (.int x2), none, none, none]) (st1 := [.ref a0]) (σ1 := σ) zM_X7_pack dX7_pack_12 rfl rfl rfl rfl ?_
    refine zw_go (pc1 := 14) (L1 := [some (.ref a0), some (.int x1), some (.int x2), none, none, none]) (st1 := [.int x2, .ref a0]) (σ1 := σ) zM_X7_pack dX7_pack_13 rfl rfl rfl rfl ?_
    refine zw_go (pc1 := 15) (L1 := [some (.ref a0), some (.int x1), some (.int x2), none, none, none]) (st1 := [.int x1, .int x2, .ref a0]) (σ1 := σ) zM_X7_pack dX7_pack_14 rfl rfl rfl rfl ?_
    obtain ⟨hk1, h⟩ := h
    refine zw_callI (as := [.ref a0, .int x2, .int x1]) (rest := []) zM_X7_pack dX7_pack_15 (zx_calV zC_7_152) zM_X7_alike rfl rfl rfl rfl rfl (zx_args0 hk1 rfl) rfl h (fun v3 σ2 h => ?_)
    refine zw_go (pc1 := 19) (L1 := [some (.ref a0), some (.int x1), some (.int x2), some (.int v3), none, none]) (st1 := []) (σ1 := σ2) zM_X7_pack dX7_pack_18 rfl rfl rfl rfl ?_
    refine zw_go (pc1 := 20) (L1 := [some (.ref a0), some (.int x1), some (.int x2), some (.int v3), none, none]) (st1 := [.int v3]) (σ1 := σ2) zM_X7_pack dX7_pack_19 rfl rfl rfl rfl ?_
    refine zw_iconst (v := 3) zM_X7_pack dX7_pack_20 (by decide) ?_
    refine zw_icmp_lt (tgt := 72) zM_X7_pack dX7_pack_21 rfl rfl (fun q => ?_) (fun q => ?_)
    · replace h := h.1 q
      refine zw_go (pc1 := 73) (L1 := [some (.ref a0), some (.int x1), some (.int x2), some (.int v3), none, none]) (st1 := [.int x2]) (σ1 := σ2) zM_X7_pack dX7_pack_72 rfl rfl rfl rfl ?_
      refine zw_go (pc1 := 75) (L1 := [some (.ref a0), some (.int x1), some (.int x2), some (.int v3), some (.int x2), none]) (st1 := []) (σ1 := σ2) zM_X7_pack dX7_pack_73 rfl rfl rfl rfl ?_
      exact zw_weak2 h ⟨rfl, rfl, rfl, rfl, trivial⟩
    · replace h := h.2 q
      refine zw_go (pc1 := 25) (L1 := [some (.ref a0), some (.int x1), some (.int x2), some (.int v3), none, none]) (st1 := [.ref a0]) (σ1 := σ2) zM_X7_pack dX7_pack_24 rfl rfl rfl rfl ?_
      obtain ⟨hk4, h⟩ := h
      obtain ⟨b5, hr6, h⟩ := h
      refine zw_getR (a := b5) zM_X7_pack dX7_pack_25 zF_7_49 rfl hk4 hr6 ?_
      refine zw_go (pc1 := 29) (L1 := [some (.ref a0), some (.int x1), some (.int x2), some (.int v3), none, none]) (st1 := [.ref a0, .ref b5]) (σ1 := σ2) zM_X7_pack dX7_pack_28 rfl rfl rfl rfl ?_
      refine zw_getI zM_X7_pack dX7_pack_29 zF_7_149 rfl hk4 ?_
      refine zw_sipush (v := 257) zM_X7_pack dX7_pack_32 (by decide) ?_
      refine zw_go (pc1 := 36) (L1 := [some (.ref a0), some (.int x1), some (.int x2), some (.int v3), none, none]) (st1 := [.int v3, .int 257, .int (zI σ2 a0 22), .ref b5]) (σ1 := σ2) zM_X7_pack dX7_pack_35 rfl rfl rfl rfl ?_
      refine zw_go (pc1 := 37) (L1 := [some (.ref a0), some (.int x1), some (.int x2), some (.int v3), none, none]) (st1 := [.int (257 - v3), .int (zI σ2 a0 22), .ref b5]) (σ1 := σ2) zM_X7_pack dX7_pack_36 rfl rfl rfl rfl ?_
      obtain ⟨hk7, h⟩ := h
      obtain ⟨hi8, h⟩ := h
      obtain ⟨σ9, e10⟩ : ∃ z9 : zx_S, z9 = zx_pI σ2 b5 (Int32.toNatClampNeg (zI σ2 a0 22)) (257 - v3) := ⟨_, rfl⟩
      replace h := h σ9 e10
      refine zw_iast zM_X7_pack dX7_pack_37 ⟨hk7, hi8⟩ e10 ?_
      refine zw_go (pc1 := 39) (L1 := [some (.ref a0), some (.int x1), some (.int x2), some (.int v3), none, none]) (st1 := [.ref a0]) (σ1 := σ9) zM_X7_pack dX7_pack_38 rfl rfl rfl rfl ?_
      refine zw_getR (a := b5) zM_X7_pack dX7_pack_39 zF_7_49 rfl (by rw [e10]; exact hk4) (by rw [e10]; exact hr6) ?_
      refine zw_go (pc1 := 43) (L1 := [some (.ref a0), some (.int x1), some (.int x2), some (.int v3), none, none]) (st1 := [.ref a0, .ref b5]) (σ1 := σ9) zM_X7_pack dX7_pack_42 rfl rfl rfl rfl ?_
      refine zw_getI zM_X7_pack dX7_pack_43 zF_7_149 rfl (by rw [e10]; exact hk4) ?_
      refine zw_iconst (v := 1) zM_X7_pack dX7_pack_46 (by decide) ?_
      refine zw_go (pc1 := 48) (L1 := [some (.ref a0), some (.int x1), some (.int x2), some (.int v3), none, none]) (st1 := [.int ((zI σ9 a0 22) + 1), .ref b5]) (σ1 := σ9) zM_X7_pack dX7_pack_47 rfl rfl rfl rfl ?_
      refine zw_go (pc1 := 49) (L1 := [some (.ref a0), some (.int x1), some (.int x2), some (.int v3), none, none]) (st1 := [.ref a0, .int ((zI σ9 a0 22) + 1), .ref b5]) (σ1 := σ9) zM_X7_pack dX7_pack_48 rfl rfl rfl rfl ?_
      obtain ⟨b11, hr12, h⟩ := h
      refine zw_getR (a := b11) zM_X7_pack dX7_pack_49 zF_7_46 rfl (by rw [e10]; exact hk4) hr12 ?_
      refine zw_go (pc1 := 53) (L1 := [some (.ref a0), some (.int x1), some (.int x2), some (.int v3), none, none]) (st1 := [.int x2, .ref b11, .int ((zI σ9 a0 22) + 1), .ref b5]) (σ1 := σ9) zM_X7_pack dX7_pack_52 rfl rfl rfl rfl ?_
      obtain ⟨hk13, h⟩ := h
      obtain ⟨hi14, h⟩ := h
      refine zw_iald zM_X7_pack dX7_pack_53 ⟨Or.inl hk13, hi14⟩ ?_
      obtain ⟨hi15, h⟩ := h
      obtain ⟨σ16, e17⟩ : ∃ z9 : zx_S, z9 = zx_pI σ9 b5 (Int32.toNatClampNeg ((zI σ9 a0 22) + 1)) (zI σ9 b11 (Int32.toNatClampNeg x2)) := ⟨_, rfl⟩
      replace h := h σ16 e17
      refine zw_iast zM_X7_pack dX7_pack_54 ⟨(by rw [e10]; exact hk7), hi15⟩ e17 ?_
      refine zw_go (pc1 := 56) (L1 := [some (.ref a0), some (.int x1), some (.int x2), some (.int v3), none, none]) (st1 := [.ref a0]) (σ1 := σ16) zM_X7_pack dX7_pack_55 rfl rfl rfl rfl ?_
      refine zw_go (pc1 := 57) (L1 := [some (.ref a0), some (.int x1), some (.int x2), some (.int v3), none, none]) (st1 := [.ref a0, .ref a0]) (σ1 := σ16) zM_X7_pack dX7_pack_56 rfl rfl rfl rfl ?_
      refine zw_getI zM_X7_pack dX7_pack_57 zF_7_149 rfl (by rw [e17, e10]; exact hk4) ?_
      refine zw_iconst (v := 2) zM_X7_pack dX7_pack_60 (by decide) ?_
      refine zw_go (pc1 := 62) (L1 := [some (.ref a0), some (.int x1), some (.int x2), some (.int v3), none, none]) (st1 := [.int ((zI σ16 a0 22) + 2), .ref a0]) (σ1 := σ16) zM_X7_pack dX7_pack_61 rfl rfl rfl rfl ?_
      obtain ⟨σ18, e19⟩ : ∃ z9 : zx_S, z9 = zx_pI σ16 a0 22 ((zI σ16 a0 22) + 2) := ⟨_, rfl⟩
      replace h := h σ18 e19
      refine zw_putI zM_X7_pack dX7_pack_62 zF_7_149 rfl rfl (by rw [e17, e10]; exact hk4) e19 ?_
      refine zw_go (pc1 := 66) (L1 := [some (.ref a0), some (.int x1), some (.int x2), some (.int v3), none, none]) (st1 := [.int x2]) (σ1 := σ18) zM_X7_pack dX7_pack_65 rfl rfl rfl rfl ?_
      refine zw_go (pc1 := 67) (L1 := [some (.ref a0), some (.int x1), some (.int x2), some (.int v3), none, none]) (st1 := [.int v3, .int x2]) (σ1 := σ18) zM_X7_pack dX7_pack_66 rfl rfl rfl rfl ?_
      refine zw_go (pc1 := 68) (L1 := [some (.ref a0), some (.int x1), some (.int x2), some (.int v3), none, none]) (st1 := [.int (x2 + v3)]) (σ1 := σ18) zM_X7_pack dX7_pack_67 rfl rfl rfl rfl ?_
      refine zw_go (pc1 := 69) (L1 := [some (.ref a0), some (.int x1), some (.int (x2 + v3)), some (.int v3), none, none]) (st1 := []) (σ1 := σ18) zM_X7_pack dX7_pack_68 rfl rfl rfl rfl ?_
      refine zw_goto (tgt := 168) zM_X7_pack dX7_pack_69 rfl ?_
      exact zw_weak2 h ⟨rfl, rfl, rfl, trivial⟩
set_option maxHeartbeats 4000000 in
set_option maxRecDepth 100000 in
theorem vc_X7_pack_75 (a0 : Nat) (x1 : Int32) (x2 : Int32) (x4 : Int32) (σ : zx_S) (K : zx_S → Prop) (h : ((x1 ≤ x4 → zwV 196 98 [some (.ref a0), some (.int x1), some (.int x2), none, some (.int x4), none] [] σ K) ∧ (¬ x1 ≤ x4 → zK σ a0 = 20 ∧ zwI 137 0 [some (.ref a0), some (.int x4), some (.int x1), none] [] σ (fun v3 σ2 => (((3 : Int32) ≤ v3 → zwV 196 98 [some (.ref a0), some (.int x1), some (.int x2), none, some (.int x4), none] [] σ2 K) ∧ (¬ (3 : Int32) ≤ v3 → zwV 196 75 [some (.ref a0), some (.int x1), some (.int x2), none, some (.int (x4 + Int32.ofInt 1)), none] [] σ2 K)))))) : zwV 196 75 [some (.ref a0), some (.int x1), some (.int x2), none, some (.int x4), none] [] σ K := by
  refine zw_go (pc1 := 77) (L1 := [some (.ref a0), some (.int x1), some (.int x2), none, some (.int x4), none]) (st1 := [.int x4]) (σ1 := σ) zM_X7_pack dX7_pack_75 rfl rfl rfl rfl ?_
  refine zw_go (pc1 := 78) (L1 := [some (.ref a0), some (.int x1), some (.int x2), none, some (.int x4), none]) (st1 := [.int x1, .int x4]) (σ1 := σ) zM_X7_pack dX7_pack_77 rfl rfl rfl rfl ?_
  refine zw_icmp_ge (tgt := 98) zM_X7_pack dX7_pack_78 rfl rfl (fun q => ?_) (fun q => ?_)
  · replace h := h.1 q
    exact zw_weak2 h ⟨rfl, rfl, rfl, rfl, trivial⟩
  · replace h := h.2 q
    refine zw_go (pc1 := 82) (L1 := [some (.ref a0), some (.int x1), some (.int x2), none, some (.int x4), none]) (st1 := [.ref a0]) (σ1 := σ) zM_X7_pack dX7_pack_81 rfl rfl rfl rfl ?_
    refine zw_go (pc1 := 84) (L1 := [some (.ref a0), some (.int x1), some (.int x2), none, some (.int x4), none]) (st1 := [.int x4, .ref a0]) (σ1 := σ) zM_X7_pack dX7_pack_82 rfl rfl rfl rfl ?_
    refine zw_go (pc1 := 85) (L1 := [some (.ref a0), some (.int x1), some (.int x2), none, some (.int x4), none]) (st1 := [.int x1, .int x4, .ref a0]) (σ1 := σ) zM_X7_pack dX7_pack_84 rfl rfl rfl rfl ?_
    obtain ⟨hk1, h⟩ := h
    refine zw_callI (as := [.ref a0, .int x4, .int x1]) (rest := []) zM_X7_pack dX7_pack_85 (zx_calV zC_7_152) zM_X7_alike rfl rfl rfl rfl rfl (zx_args0 hk1 rfl) rfl h (fun v3 σ2 h => ?_)
    refine zw_iconst (v := 3) zM_X7_pack dX7_pack_88 (by decide) ?_
    refine zw_icmp_ge (tgt := 98) zM_X7_pack dX7_pack_89 rfl rfl (fun q => ?_) (fun q => ?_)
    · replace h := h.1 q
      exact zw_weak2 h ⟨rfl, rfl, rfl, rfl, trivial⟩
    · replace h := h.2 q
      refine zw_go (pc1 := 95) (L1 := [some (.ref a0), some (.int x1), some (.int x2), none, some (.int (x4 + Int32.ofInt 1)), none]) (st1 := []) (σ1 := σ2) zM_X7_pack dX7_pack_92 rfl rfl rfl rfl ?_
      refine zw_goto (tgt := 75) zM_X7_pack dX7_pack_95 rfl ?_
      exact zw_weak2 h ⟨rfl, rfl, rfl, rfl, trivial⟩
set_option maxHeartbeats 4000000 in
set_option maxRecDepth 100000 in
theorem vc_X7_pack_98 (a0 : Nat) (x1 : Int32) (x2 : Int32) (x4 : Int32) (σ : zx_S) (K : zx_S → Prop) (h : zK σ a0 = 20 ∧ ∃ b2 : Nat, zR σ a0 21 = some b2 ∧ zK σ b2 = 1 ∧ zx_in (zI σ a0 22) (zN σ b2) = true ∧ ∀ σ6 : zx_S, σ6 = zx_pI σ b2 (Int32.toNatClampNeg (zI σ a0 22)) ((x4 - x2) - 1) → ∀ σ8 : zx_S, σ8 = zx_pI σ6 a0 22 ((zI σ6 a0 22) + 1) → zwV 196 126 [some (.ref a0), some (.int x1), none, none, some (.int x4), some (.int x2)] [] σ8 K) : zwV 196 98 [some (.ref a0), some (.int x1), some (.int x2), none, some (.int x4), none] [] σ K := by
  refine zw_go (pc1 := 99) (L1 := [some (.ref a0), some (.int x1), some (.int x2), none, some (.int x4), none]) (st1 := [.ref a0]) (σ1 := σ) zM_X7_pack dX7_pack_98 rfl rfl rfl rfl ?_
  obtain ⟨hk1, h⟩ := h
  obtain ⟨b2, hr3, h⟩ := h
  refine zw_getR (a := b2) zM_X7_pack dX7_pack_99 zF_7_49 rfl hk1 hr3 ?_
  refine zw_go (pc1 := 103) (L1 := [some (.ref a0), some (.int x1), some (.int x2), none, some (.int x4), none]) (st1 := [.ref a0, .ref b2]) (σ1 := σ) zM_X7_pack dX7_pack_102 rfl rfl rfl rfl ?_
  refine zw_getI zM_X7_pack dX7_pack_103 zF_7_149 rfl hk1 ?_
  refine zw_go (pc1 := 108) (L1 := [some (.ref a0), some (.int x1), some (.int x2), none, some (.int x4), none]) (st1 := [.int x4, .int (zI σ a0 22), .ref b2]) (σ1 := σ) zM_X7_pack dX7_pack_106 rfl rfl rfl rfl ?_
  refine zw_go (pc1 := 109) (L1 := [some (.ref a0), some (.int x1), some (.int x2), none, some (.int x4), none]) (st1 := [.int x2, .int x4, .int (zI σ a0 22), .ref b2]) (σ1 := σ) zM_X7_pack dX7_pack_108 rfl rfl rfl rfl ?_
  refine zw_go (pc1 := 110) (L1 := [some (.ref a0), some (.int x1), some (.int x2), none, some (.int x4), none]) (st1 := [.int (x4 - x2), .int (zI σ a0 22), .ref b2]) (σ1 := σ) zM_X7_pack dX7_pack_109 rfl rfl rfl rfl ?_
  refine zw_iconst (v := 1) zM_X7_pack dX7_pack_110 (by decide) ?_
  refine zw_go (pc1 := 112) (L1 := [some (.ref a0), some (.int x1), some (.int x2), none, some (.int x4), none]) (st1 := [.int ((x4 - x2) - 1), .int (zI σ a0 22), .ref b2]) (σ1 := σ) zM_X7_pack dX7_pack_111 rfl rfl rfl rfl ?_
  obtain ⟨hk4, h⟩ := h
  obtain ⟨hi5, h⟩ := h
  obtain ⟨σ6, e7⟩ : ∃ z9 : zx_S, z9 = zx_pI σ b2 (Int32.toNatClampNeg (zI σ a0 22)) ((x4 - x2) - 1) := ⟨_, rfl⟩
  replace h := h σ6 e7
  refine zw_iast zM_X7_pack dX7_pack_112 ⟨hk4, hi5⟩ e7 ?_
  refine zw_go (pc1 := 114) (L1 := [some (.ref a0), some (.int x1), some (.int x2), none, some (.int x4), none]) (st1 := [.ref a0]) (σ1 := σ6) zM_X7_pack dX7_pack_113 rfl rfl rfl rfl ?_
  refine zw_go (pc1 := 115) (L1 := [some (.ref a0), some (.int x1), some (.int x2), none, some (.int x4), none]) (st1 := [.ref a0, .ref a0]) (σ1 := σ6) zM_X7_pack dX7_pack_114 rfl rfl rfl rfl ?_
  refine zw_getI zM_X7_pack dX7_pack_115 zF_7_149 rfl (by rw [e7]; exact hk1) ?_
  refine zw_iconst (v := 1) zM_X7_pack dX7_pack_118 (by decide) ?_
  refine zw_go (pc1 := 120) (L1 := [some (.ref a0), some (.int x1), some (.int x2), none, some (.int x4), none]) (st1 := [.int ((zI σ6 a0 22) + 1), .ref a0]) (σ1 := σ6) zM_X7_pack dX7_pack_119 rfl rfl rfl rfl ?_
  obtain ⟨σ8, e9⟩ : ∃ z9 : zx_S, z9 = zx_pI σ6 a0 22 ((zI σ6 a0 22) + 1) := ⟨_, rfl⟩
  replace h := h σ8 e9
  refine zw_putI zM_X7_pack dX7_pack_120 zF_7_149 rfl rfl (by rw [e7]; exact hk1) e9 ?_
  refine zw_go (pc1 := 124) (L1 := [some (.ref a0), some (.int x1), some (.int x2), none, some (.int x4), none]) (st1 := [.int x2]) (σ1 := σ8) zM_X7_pack dX7_pack_123 rfl rfl rfl rfl ?_
  refine zw_go (pc1 := 126) (L1 := [some (.ref a0), some (.int x1), some (.int x2), none, some (.int x4), some (.int x2)]) (st1 := []) (σ1 := σ8) zM_X7_pack dX7_pack_124 rfl rfl rfl rfl ?_
  exact zw_weak2 h ⟨rfl, rfl, rfl, rfl, trivial⟩
set_option maxHeartbeats 4000000 in
set_option maxRecDepth 100000 in
theorem vc_X7_pack_126 (a0 : Nat) (x1 : Int32) (x4 : Int32) (x5 : Int32) (σ : zx_S) (K : zx_S → Prop) (h : ((x4 ≤ x5 → zwV 196 168 [some (.ref a0), some (.int x1), some (.int x4), none, none, none] [] σ K) ∧ (¬ x4 ≤ x5 → zK σ a0 = 20 ∧ ∃ b2 : Nat, zR σ a0 21 = some b2 ∧ ∃ b4 : Nat, zR σ a0 20 = some b4 ∧ zK σ b4 = 1 ∧ zx_in x5 (zN σ b4) = true ∧ zK σ b2 = 1 ∧ zx_in (zI σ a0 22) (zN σ b2) = true ∧ ∀ σ10 : zx_S, σ10 = zx_pI σ b2 (Int32.toNatClampNeg (zI σ a0 22)) (zI σ b4 (Int32.toNatClampNeg x5)) → ∀ σ12 : zx_S, σ12 = zx_pI σ10 a0 22 ((zI σ10 a0 22) + 1) → zwV 196 126 [some (.ref a0), some (.int x1), none, none, some (.int x4), some (.int (x5 + Int32.ofInt 1))] [] σ12 K))) : zwV 196 126 [some (.ref a0), some (.int x1), none, none, some (.int x4), some (.int x5)] [] σ K := by
  refine zw_go (pc1 := 128) (L1 := [some (.ref a0), some (.int x1), none, none, some (.int x4), some (.int x5)]) (st1 := [.int x5]) (σ1 := σ) zM_X7_pack dX7_pack_126 rfl rfl rfl rfl ?_
  refine zw_go (pc1 := 130) (L1 := [some (.ref a0), some (.int x1), none, none, some (.int x4), some (.int x5)]) (st1 := [.int x4, .int x5]) (σ1 := σ) zM_X7_pack dX7_pack_128 rfl rfl rfl rfl ?_
  refine zw_icmp_ge (tgt := 165) zM_X7_pack dX7_pack_130 rfl rfl (fun q => ?_) (fun q => ?_)
  · replace h := h.1 q
    refine zw_go (pc1 := 167) (L1 := [some (.ref a0), some (.int x1), none, none, some (.int x4), some (.int x5)]) (st1 := [.int x4]) (σ1 := σ) zM_X7_pack dX7_pack_165 rfl rfl rfl rfl ?_
    refine zw_go (pc1 := 168) (L1 := [some (.ref a0), some (.int x1), some (.int x4), none, some (.int x4), some (.int x5)]) (st1 := []) (σ1 := σ) zM_X7_pack dX7_pack_167 rfl rfl rfl rfl ?_
    exact zw_weak2 h ⟨rfl, rfl, rfl, trivial⟩
  · replace h := h.2 q
    refine zw_go (pc1 := 134) (L1 := [some (.ref a0), some (.int x1), none, none, some (.int x4), some (.int x5)]) (st1 := [.ref a0]) (σ1 := σ) zM_X7_pack dX7_pack_133 rfl rfl rfl rfl ?_
    obtain ⟨hk1, h⟩ := h
    obtain ⟨b2, hr3, h⟩ := h
    refine zw_getR (a := b2) zM_X7_pack dX7_pack_134 zF_7_49 rfl hk1 hr3 ?_
    refine zw_go (pc1 := 138) (L1 := [some (.ref a0), some (.int x1), none, none, some (.int x4), some (.int x5)]) (st1 := [.ref a0, .ref b2]) (σ1 := σ) zM_X7_pack dX7_pack_137 rfl rfl rfl rfl ?_
    refine zw_getI zM_X7_pack dX7_pack_138 zF_7_149 rfl hk1 ?_
    refine zw_go (pc1 := 142) (L1 := [some (.ref a0), some (.int x1), none, none, some (.int x4), some (.int x5)]) (st1 := [.ref a0, .int (zI σ a0 22), .ref b2]) (σ1 := σ) zM_X7_pack dX7_pack_141 rfl rfl rfl rfl ?_
    obtain ⟨b4, hr5, h⟩ := h
    refine zw_getR (a := b4) zM_X7_pack dX7_pack_142 zF_7_46 rfl hk1 hr5 ?_
    refine zw_go (pc1 := 147) (L1 := [some (.ref a0), some (.int x1), none, none, some (.int x4), some (.int x5)]) (st1 := [.int x5, .ref b4, .int (zI σ a0 22), .ref b2]) (σ1 := σ) zM_X7_pack dX7_pack_145 rfl rfl rfl rfl ?_
    obtain ⟨hk6, h⟩ := h
    obtain ⟨hi7, h⟩ := h
    refine zw_iald zM_X7_pack dX7_pack_147 ⟨Or.inl hk6, hi7⟩ ?_
    obtain ⟨hk8, h⟩ := h
    obtain ⟨hi9, h⟩ := h
    obtain ⟨σ10, e11⟩ : ∃ z9 : zx_S, z9 = zx_pI σ b2 (Int32.toNatClampNeg (zI σ a0 22)) (zI σ b4 (Int32.toNatClampNeg x5)) := ⟨_, rfl⟩
    replace h := h σ10 e11
    refine zw_iast zM_X7_pack dX7_pack_148 ⟨hk8, hi9⟩ e11 ?_
    refine zw_go (pc1 := 150) (L1 := [some (.ref a0), some (.int x1), none, none, some (.int x4), some (.int x5)]) (st1 := [.ref a0]) (σ1 := σ10) zM_X7_pack dX7_pack_149 rfl rfl rfl rfl ?_
    refine zw_go (pc1 := 151) (L1 := [some (.ref a0), some (.int x1), none, none, some (.int x4), some (.int x5)]) (st1 := [.ref a0, .ref a0]) (σ1 := σ10) zM_X7_pack dX7_pack_150 rfl rfl rfl rfl ?_
    refine zw_getI zM_X7_pack dX7_pack_151 zF_7_149 rfl (by rw [e11]; exact hk1) ?_
    refine zw_iconst (v := 1) zM_X7_pack dX7_pack_154 (by decide) ?_
    refine zw_go (pc1 := 156) (L1 := [some (.ref a0), some (.int x1), none, none, some (.int x4), some (.int x5)]) (st1 := [.int ((zI σ10 a0 22) + 1), .ref a0]) (σ1 := σ10) zM_X7_pack dX7_pack_155 rfl rfl rfl rfl ?_
    obtain ⟨σ12, e13⟩ : ∃ z9 : zx_S, z9 = zx_pI σ10 a0 22 ((zI σ10 a0 22) + 1) := ⟨_, rfl⟩
    replace h := h σ12 e13
    refine zw_putI zM_X7_pack dX7_pack_156 zF_7_149 rfl rfl (by rw [e11]; exact hk1) e13 ?_
    refine zw_go (pc1 := 162) (L1 := [some (.ref a0), some (.int x1), none, none, some (.int x4), some (.int (x5 + Int32.ofInt 1))]) (st1 := []) (σ1 := σ12) zM_X7_pack dX7_pack_159 rfl rfl rfl rfl ?_
    refine zw_goto (tgt := 126) zM_X7_pack dX7_pack_162 rfl ?_
    exact zw_weak2 h ⟨rfl, rfl, rfl, rfl, trivial⟩
set_option maxHeartbeats 4000000 in
set_option maxRecDepth 100000 in
theorem vc_X7_pack_168 (a0 : Nat) (x1 : Int32) (x2 : Int32) (σ : zx_S) (K : zx_S → Prop) (h : zwV 196 7 [some (.ref a0), some (.int x1), some (.int x2), none, none, none] [] σ K) : zwV 196 168 [some (.ref a0), some (.int x1), some (.int x2), none, none, none] [] σ K := by
  refine zw_goto (tgt := 7) zM_X7_pack dX7_pack_168 rfl ?_
  exact zw_weak2 h ⟨rfl, rfl, rfl, trivial⟩
set_option maxHeartbeats 4000000 in
set_option maxRecDepth 100000 in
theorem vc_X7_putWord_0 (a0 : Nat) (x1 : Int32) (x2 : Int32) (σ : zx_S) (K : zx_S → Prop) (h : zK σ a0 = 20 ∧ ∃ b2 : Nat, zR σ a0 12 = some b2 ∧ zK σ b2 = 1 ∧ zx_in ((6000 * (zI σ a0 14)) + x1) (zN σ b2) = true ∧ ∀ σ6 : zx_S, σ6 = zx_pI σ b2 (Int32.toNatClampNeg ((6000 * (zI σ a0 14)) + x1)) ((x2 >>> (8 &&& 31)) &&& 255) → zx_in (((6000 * (zI σ6 a0 14)) + x1) + 1) (zN σ6 b2) = true ∧ ∀ σ9 : zx_S, σ9 = zx_pI σ6 b2 (Int32.toNatClampNeg (((6000 * (zI σ6 a0 14)) + x1) + 1)) (x2 &&& 255) → K σ9) : zwV 197 0 [some (.ref a0), some (.int x1), some (.int x2)] [] σ K := by
  refine zw_go (pc1 := 1) (L1 := [some (.ref a0), some (.int x1), some (.int x2)]) (st1 := [.ref a0]) (σ1 := σ) zM_X7_putWord dX7_putWord_0 rfl rfl rfl rfl ?_
  obtain ⟨hk1, h⟩ := h
  obtain ⟨b2, hr3, h⟩ := h
  refine zw_getR (a := b2) zM_X7_putWord dX7_putWord_1 zF_7_34 rfl hk1 hr3 ?_
  refine zw_sipush (v := 6000) zM_X7_putWord dX7_putWord_4 (by decide) ?_
  refine zw_go (pc1 := 8) (L1 := [some (.ref a0), some (.int x1), some (.int x2)]) (st1 := [.ref a0, .int 6000, .ref b2]) (σ1 := σ) zM_X7_putWord dX7_putWord_7 rfl rfl rfl rfl ?_
  refine zw_getI zM_X7_putWord dX7_putWord_8 zF_7_129 rfl hk1 ?_
  refine zw_go (pc1 := 12) (L1 := [some (.ref a0), some (.int x1), some (.int x2)]) (st1 := [.int (6000 * (zI σ a0 14)), .ref b2]) (σ1 := σ) zM_X7_putWord dX7_putWord_11 rfl rfl rfl rfl ?_
  refine zw_go (pc1 := 13) (L1 := [some (.ref a0), some (.int x1), some (.int x2)]) (st1 := [.int x1, .int (6000 * (zI σ a0 14)), .ref b2]) (σ1 := σ) zM_X7_putWord dX7_putWord_12 rfl rfl rfl rfl ?_
  refine zw_go (pc1 := 14) (L1 := [some (.ref a0), some (.int x1), some (.int x2)]) (st1 := [.int ((6000 * (zI σ a0 14)) + x1), .ref b2]) (σ1 := σ) zM_X7_putWord dX7_putWord_13 rfl rfl rfl rfl ?_
  refine zw_go (pc1 := 15) (L1 := [some (.ref a0), some (.int x1), some (.int x2)]) (st1 := [.int x2, .int ((6000 * (zI σ a0 14)) + x1), .ref b2]) (σ1 := σ) zM_X7_putWord dX7_putWord_14 rfl rfl rfl rfl ?_
  refine zw_bipush (v := 8) zM_X7_putWord dX7_putWord_15 (by decide) ?_
  refine zw_go (pc1 := 18) (L1 := [some (.ref a0), some (.int x1), some (.int x2)]) (st1 := [.int (x2 >>> (8 &&& 31)), .int ((6000 * (zI σ a0 14)) + x1), .ref b2]) (σ1 := σ) zM_X7_putWord dX7_putWord_17 rfl rfl rfl rfl ?_
  refine zw_sipush (v := 255) zM_X7_putWord dX7_putWord_18 (by decide) ?_
  refine zw_go (pc1 := 22) (L1 := [some (.ref a0), some (.int x1), some (.int x2)]) (st1 := [.int ((x2 >>> (8 &&& 31)) &&& 255), .int ((6000 * (zI σ a0 14)) + x1), .ref b2]) (σ1 := σ) zM_X7_putWord dX7_putWord_21 rfl rfl rfl rfl ?_
  obtain ⟨hk4, h⟩ := h
  obtain ⟨hi5, h⟩ := h
  obtain ⟨σ6, e7⟩ : ∃ z9 : zx_S, z9 = zx_pI σ b2 (Int32.toNatClampNeg ((6000 * (zI σ a0 14)) + x1)) ((x2 >>> (8 &&& 31)) &&& 255) := ⟨_, rfl⟩
  replace h := h σ6 e7
  refine zw_iast zM_X7_putWord dX7_putWord_22 ⟨hk4, hi5⟩ e7 ?_
  refine zw_go (pc1 := 24) (L1 := [some (.ref a0), some (.int x1), some (.int x2)]) (st1 := [.ref a0]) (σ1 := σ6) zM_X7_putWord dX7_putWord_23 rfl rfl rfl rfl ?_
  refine zw_getR (a := b2) zM_X7_putWord dX7_putWord_24 zF_7_34 rfl (by rw [e7]; exact hk1) (by rw [e7]; exact hr3) ?_
  refine zw_sipush (v := 6000) zM_X7_putWord dX7_putWord_27 (by decide) ?_
  refine zw_go (pc1 := 31) (L1 := [some (.ref a0), some (.int x1), some (.int x2)]) (st1 := [.ref a0, .int 6000, .ref b2]) (σ1 := σ6) zM_X7_putWord dX7_putWord_30 rfl rfl rfl rfl ?_
  refine zw_getI zM_X7_putWord dX7_putWord_31 zF_7_129 rfl (by rw [e7]; exact hk1) ?_
  refine zw_go (pc1 := 35) (L1 := [some (.ref a0), some (.int x1), some (.int x2)]) (st1 := [.int (6000 * (zI σ6 a0 14)), .ref b2]) (σ1 := σ6) zM_X7_putWord dX7_putWord_34 rfl rfl rfl rfl ?_
  refine zw_go (pc1 := 36) (L1 := [some (.ref a0), some (.int x1), some (.int x2)]) (st1 := [.int x1, .int (6000 * (zI σ6 a0 14)), .ref b2]) (σ1 := σ6) zM_X7_putWord dX7_putWord_35 rfl rfl rfl rfl ?_
  refine zw_go (pc1 := 37) (L1 := [some (.ref a0), some (.int x1), some (.int x2)]) (st1 := [.int ((6000 * (zI σ6 a0 14)) + x1), .ref b2]) (σ1 := σ6) zM_X7_putWord dX7_putWord_36 rfl rfl rfl rfl ?_
  refine zw_iconst (v := 1) zM_X7_putWord dX7_putWord_37 (by decide) ?_
  refine zw_go (pc1 := 39) (L1 := [some (.ref a0), some (.int x1), some (.int x2)]) (st1 := [.int (((6000 * (zI σ6 a0 14)) + x1) + 1), .ref b2]) (σ1 := σ6) zM_X7_putWord dX7_putWord_38 rfl rfl rfl rfl ?_
  refine zw_go (pc1 := 40) (L1 := [some (.ref a0), some (.int x1), some (.int x2)]) (st1 := [.int x2, .int (((6000 * (zI σ6 a0 14)) + x1) + 1), .ref b2]) (σ1 := σ6) zM_X7_putWord dX7_putWord_39 rfl rfl rfl rfl ?_
  refine zw_sipush (v := 255) zM_X7_putWord dX7_putWord_40 (by decide) ?_
  refine zw_go (pc1 := 44) (L1 := [some (.ref a0), some (.int x1), some (.int x2)]) (st1 := [.int (x2 &&& 255), .int (((6000 * (zI σ6 a0 14)) + x1) + 1), .ref b2]) (σ1 := σ6) zM_X7_putWord dX7_putWord_43 rfl rfl rfl rfl ?_
  obtain ⟨hi8, h⟩ := h
  obtain ⟨σ9, e10⟩ : ∃ z9 : zx_S, z9 = zx_pI σ6 b2 (Int32.toNatClampNeg (((6000 * (zI σ6 a0 14)) + x1) + 1)) (x2 &&& 255) := ⟨_, rfl⟩
  replace h := h σ9 e10
  refine zw_iast zM_X7_putWord dX7_putWord_44 ⟨(by rw [e7]; exact hk4), hi8⟩ e10 ?_
  exact zw_retv zM_X7_putWord dX7_putWord_45 rfl h
set_option maxHeartbeats 4000000 in
set_option maxRecDepth 100000 in
theorem vc_X7_read_0 (a0 : Nat) (x1 : Int32) (x2 : Int32) (σ : zx_S) (K : Int32 → zx_S → Prop) (h : zK σ a0 = 20 ∧ ∀ σ2 : zx_S, σ2 = zx_pI σ a0 0 0 → zwI 171 0 [some (.ref a0), some (.int x1)] [] σ2 (fun v5 σ4 => ((¬ v5 = (0 : Int32) → zK σ4 a0 = 20 ∧ ∃ b7 : Nat, zR σ4 a0 39 = some b7 ∧ zK σ4 b7 = 1 ∧ zx_in (3 * x1) (zN σ4 b7) = true ∧ ∃ b11 : Nat, zR σ4 a0 40 = some b11 ∧ zK σ4 b11 = 1 ∧ zx_in (3 * x1) (zN σ4 b11) = true ∧ zwI 162 0 [some (.ref a0), some (.int (zI σ4 b7 (Int32.toNatClampNeg (3 * x1)))), some (.int (zI σ4 b11 (Int32.toNatClampNeg (3 * x1))))] [] σ4 (fun v16 σ15 => zK σ15 a0 = 20 ∧ zwI 173 0 [some (.ref a0), some (.int x1)] [] σ15 (fun v19 σ18 => ((¬ v19 = (2 : Int32) → zwI 198 53 [some (.ref a0), none, some (.int x2), some (.int (zI σ4 b7 (Int32.toNatClampNeg (3 * x1)))), some (.int v16), none, none, none, none, none] [.int 0] σ18 K) ∧ (v19 = (2 : Int32) → zwI 198 53 [some (.ref a0), none, some (.int x2), some (.int (zI σ4 b7 (Int32.toNatClampNeg (3 * x1)))), some (.int v16), none, none, none, none, none] [.int 1] σ18 K))))) ∧ (v5 = (0 : Int32) → K (-1) σ4)))) : zwI 198 0 [some (.ref a0), some (.int x1), some (.int x2), none, none, none, none, none, none, none] [] σ K := by
  refine zw_go (pc1 := 1) (L1 := [some (.ref a0), some (.int x1), some (.int x2), none, none, none, none, none, none, none]) (st1 := [.ref a0]) (σ1 := σ) zM_X7_read dX7_read_0 rfl rfl rfl rfl ?_
  refine zw_iconst (v := 0) zM_X7_read dX7_read_1 (by decide) ?_
  obtain ⟨hk1, h⟩ := h
  obtain ⟨σ2, e3⟩ : ∃ z9 : zx_S, z9 = zx_pI σ a0 0 0 := ⟨_, rfl⟩
  replace h := h σ2 e3
  refine zw_putI zM_X7_read dX7_read_2 zF_7_98 rfl rfl hk1 e3 ?_
  refine zw_go (pc1 := 6) (L1 := [some (.ref a0), some (.int x1), some (.int x2), none, none, none, none, none, none, none]) (st1 := [.ref a0]) (σ1 := σ2) zM_X7_read dX7_read_5 rfl rfl rfl rfl ?_
  refine zw_go (pc1 := 7) (L1 := [some (.ref a0), some (.int x1), some (.int x2), none, none, none, none, none, none, none]) (st1 := [.int x1, .ref a0]) (σ1 := σ2) zM_X7_read dX7_read_6 rfl rfl rfl rfl ?_
  refine zw_callI (as := [.ref a0, .int x1]) (rest := []) zM_X7_read dX7_read_7 (zx_calV zC_7_278) zM_X7_isView rfl rfl rfl rfl rfl (zx_args0 (by rw [e3]; exact hk1) rfl) rfl h (fun v5 σ4 h => ?_)
  refine zw_if_ne (tgt := 15) zM_X7_read dX7_read_10 rfl rfl (fun q => ?_) (fun q => ?_)
  · replace h := h.1 q
    refine zw_go (pc1 := 16) (L1 := [some (.ref a0), some (.int x1), some (.int x2), none, none, none, none, none, none, none]) (st1 := [.ref a0]) (σ1 := σ4) zM_X7_read dX7_read_15 rfl rfl rfl rfl ?_
    obtain ⟨hk6, h⟩ := h
    obtain ⟨b7, hr8, h⟩ := h
    refine zw_getR (a := b7) zM_X7_read dX7_read_16 zF_7_88 rfl hk6 hr8 ?_
    refine zw_iconst (v := 3) zM_X7_read dX7_read_19 (by decide) ?_
    refine zw_go (pc1 := 21) (L1 := [some (.ref a0), some (.int x1), some (.int x2), none, none, none, none, none, none, none]) (st1 := [.int x1, .int 3, .ref b7]) (σ1 := σ4) zM_X7_read dX7_read_20 rfl rfl rfl rfl ?_
    refine zw_go (pc1 := 22) (L1 := [some (.ref a0), some (.int x1), some (.int x2), none, none, none, none, none, none, none]) (st1 := [.int (3 * x1), .ref b7]) (σ1 := σ4) zM_X7_read dX7_read_21 rfl rfl rfl rfl ?_
    obtain ⟨hk9, h⟩ := h
    obtain ⟨hi10, h⟩ := h
    refine zw_iald zM_X7_read dX7_read_22 ⟨Or.inl hk9, hi10⟩ ?_
    refine zw_go (pc1 := 24) (L1 := [some (.ref a0), some (.int x1), some (.int x2), some (.int (zI σ4 b7 (Int32.toNatClampNeg (3 * x1)))), none, none, none, none, none, none]) (st1 := []) (σ1 := σ4) zM_X7_read dX7_read_23 rfl rfl rfl rfl ?_
    refine zw_go (pc1 := 25) (L1 := [some (.ref a0), some (.int x1), some (.int x2), some (.int (zI σ4 b7 (Int32.toNatClampNeg (3 * x1)))), none, none, none, none, none, none]) (st1 := [.ref a0]) (σ1 := σ4) zM_X7_read dX7_read_24 rfl rfl rfl rfl ?_
    refine zw_go (pc1 := 26) (L1 := [some (.ref a0), some (.int x1), some (.int x2), some (.int (zI σ4 b7 (Int32.toNatClampNeg (3 * x1)))), none, none, none, none, none, none]) (st1 := [.int (zI σ4 b7 (Int32.toNatClampNeg (3 * x1))), .ref a0]) (σ1 := σ4) zM_X7_read dX7_read_25 rfl rfl rfl rfl ?_
    refine zw_go (pc1 := 27) (L1 := [some (.ref a0), some (.int x1), some (.int x2), some (.int (zI σ4 b7 (Int32.toNatClampNeg (3 * x1)))), none, none, none, none, none, none]) (st1 := [.ref a0, .int (zI σ4 b7 (Int32.toNatClampNeg (3 * x1))), .ref a0]) (σ1 := σ4) zM_X7_read dX7_read_26 rfl rfl rfl rfl ?_
    obtain ⟨b11, hr12, h⟩ := h
    refine zw_getR (a := b11) zM_X7_read dX7_read_27 zF_7_91 rfl hk6 hr12 ?_
    refine zw_iconst (v := 3) zM_X7_read dX7_read_30 (by decide) ?_
    refine zw_go (pc1 := 32) (L1 := [some (.ref a0), some (.int x1), some (.int x2), some (.int (zI σ4 b7 (Int32.toNatClampNeg (3 * x1)))), none, none, none, none, none, none]) (st1 := [.int x1, .int 3, .ref b11, .int (zI σ4 b7 (Int32.toNatClampNeg (3 * x1))), .ref a0]) (σ1 := σ4) zM_X7_read dX7_read_31 rfl rfl rfl rfl ?_
    refine zw_go (pc1 := 33) (L1 := [some (.ref a0), some (.int x1), some (.int x2), some (.int (zI σ4 b7 (Int32.toNatClampNeg (3 * x1)))), none, none, none, none, none, none]) (st1 := [.int (3 * x1), .ref b11, .int (zI σ4 b7 (Int32.toNatClampNeg (3 * x1))), .ref a0]) (σ1 := σ4) zM_X7_read dX7_read_32 rfl rfl rfl rfl ?_
    obtain ⟨hk13, h⟩ := h
    obtain ⟨hi14, h⟩ := h
    refine zw_iald zM_X7_read dX7_read_33 ⟨Or.inl hk13, hi14⟩ ?_
    refine zw_callI (as := [.ref a0, .int (zI σ4 b7 (Int32.toNatClampNeg (3 * x1))), .int (zI σ4 b11 (Int32.toNatClampNeg (3 * x1)))]) (rest := []) zM_X7_read dX7_read_34 (zx_calV zC_7_226) zM_X7_inode rfl rfl rfl rfl rfl (zx_args0 hk6 rfl) rfl h (fun v16 σ15 h => ?_)
    refine zw_go (pc1 := 39) (L1 := [some (.ref a0), some (.int x1), some (.int x2), some (.int (zI σ4 b7 (Int32.toNatClampNeg (3 * x1)))), some (.int v16), none, none, none, none, none]) (st1 := []) (σ1 := σ15) zM_X7_read dX7_read_37 rfl rfl rfl rfl ?_
    refine zw_go (pc1 := 40) (L1 := [some (.ref a0), some (.int x1), some (.int x2), some (.int (zI σ4 b7 (Int32.toNatClampNeg (3 * x1)))), some (.int v16), none, none, none, none, none]) (st1 := [.ref a0]) (σ1 := σ15) zM_X7_read dX7_read_39 rfl rfl rfl rfl ?_
    refine zw_go (pc1 := 41) (L1 := [some (.ref a0), some (.int x1), some (.int x2), some (.int (zI σ4 b7 (Int32.toNatClampNeg (3 * x1)))), some (.int v16), none, none, none, none, none]) (st1 := [.int x1, .ref a0]) (σ1 := σ15) zM_X7_read dX7_read_40 rfl rfl rfl rfl ?_
    obtain ⟨hk17, h⟩ := h
    refine zw_callI (as := [.ref a0, .int x1]) (rest := []) zM_X7_read dX7_read_41 (zx_calV zC_7_281) zM_X7_kindOf rfl rfl rfl rfl rfl (zx_args0 hk17 rfl) rfl h (fun v19 σ18 h => ?_)
    refine zw_iconst (v := 2) zM_X7_read dX7_read_44 (by decide) ?_
    refine zw_icmp_ne (tgt := 52) zM_X7_read dX7_read_45 rfl rfl (fun q => ?_) (fun q => ?_)
    · replace h := h.1 q
      refine zw_iconst (v := 0) zM_X7_read dX7_read_52 (by decide) ?_
      exact zw_weak2 h ⟨rfl, rfl, rfl, rfl, trivial⟩
    · replace h := h.2 q
      refine zw_iconst (v := 1) zM_X7_read dX7_read_48 (by decide) ?_
      refine zw_goto (tgt := 53) zM_X7_read dX7_read_49 rfl ?_
      exact zw_weak2 h ⟨rfl, rfl, rfl, rfl, trivial⟩
  · replace h := h.2 q
    refine zw_iconst (v := (-1)) zM_X7_read dX7_read_13 (by decide) ?_
    exact zw_reti zM_X7_read dX7_read_14 rfl h
set_option maxHeartbeats 4000000 in
set_option maxRecDepth 100000 in
theorem vc_X7_read_53 (a0 : Nat) (x2 : Int32) (x3 : Int32) (x4 : Int32) (y0 : Int32) (σ : zx_S) (K : Int32 → zx_S → Prop) (h : ((y0 = (0 : Int32) → zwI 198 83 [some (.ref a0), none, some (.int x2), some (.int x3), some (.int x4), some (.int y0), none, none, none, none] [] σ K) ∧ (¬ y0 = (0 : Int32) → zK σ a0 = 20 ∧ zwI 210 0 [some (.ref a0), some (.int x3), some (.int (x4 + 6))] [] σ (fun v3 σ2 => zwI 160 0 [some (.int x2), some (.int 0), some (.int (v3 - 1))] [] σ2 (fun v5 σ4 => ((¬ v5 = (0 : Int32) → zwI 198 83 [some (.ref a0), none, some (.int x2), some (.int x3), some (.int x4), some (.int y0), none, none, none, none] [] σ4 K) ∧ (v5 = (0 : Int32) → K (-2) σ4))))))) : zwI 198 53 [some (.ref a0), none, some (.int x2), some (.int x3), some (.int x4), none, none, none, none, none] [.int y0] σ K := by
  refine zw_go (pc1 := 55) (L1 := [some (.ref a0), none, some (.int x2), some (.int x3), some (.int x4), some (.int y0), none, none, none, none]) (st1 := []) (σ1 := σ) zM_X7_read dX7_read_53 rfl rfl rfl rfl ?_
  refine zw_go (pc1 := 57) (L1 := [some (.ref a0), none, some (.int x2), some (.int x3), some (.int x4), some (.int y0), none, none, none, none]) (st1 := [.int y0]) (σ1 := σ) zM_X7_read dX7_read_55 rfl rfl rfl rfl ?_
  refine zw_if_eq (tgt := 83) zM_X7_read dX7_read_57 rfl rfl (fun q => ?_) (fun q => ?_)
  · replace h := h.1 q
    exact zw_weak2 h ⟨rfl, rfl, rfl, rfl, rfl, trivial⟩
  · replace h := h.2 q
    refine zw_go (pc1 := 61) (L1 := [some (.ref a0), none, some (.int x2), some (.int x3), some (.int x4), some (.int y0), none, none, none, none]) (st1 := [.int x2]) (σ1 := σ) zM_X7_read dX7_read_60 rfl rfl rfl rfl ?_
    refine zw_iconst (v := 0) zM_X7_read dX7_read_61 (by decide) ?_
    refine zw_go (pc1 := 63) (L1 := [some (.ref a0), none, some (.int x2), some (.int x3), some (.int x4), some (.int y0), none, none, none, none]) (st1 := [.ref a0, .int 0, .int x2]) (σ1 := σ) zM_X7_read dX7_read_62 rfl rfl rfl rfl ?_
    refine zw_go (pc1 := 64) (L1 := [some (.ref a0), none, some (.int x2), some (.int x3), some (.int x4), some (.int y0), none, none, none, none]) (st1 := [.int x3, .ref a0, .int 0, .int x2]) (σ1 := σ) zM_X7_read dX7_read_63 rfl rfl rfl rfl ?_
    refine zw_go (pc1 := 66) (L1 := [some (.ref a0), none, some (.int x2), some (.int x3), some (.int x4), some (.int y0), none, none, none, none]) (st1 := [.int x4, .int x3, .ref a0, .int 0, .int x2]) (σ1 := σ) zM_X7_read dX7_read_64 rfl rfl rfl rfl ?_
    refine zw_bipush (v := 6) zM_X7_read dX7_read_66 (by decide) ?_
    refine zw_go (pc1 := 69) (L1 := [some (.ref a0), none, some (.int x2), some (.int x3), some (.int x4), some (.int y0), none, none, none, none]) (st1 := [.int (x4 + 6), .int x3, .ref a0, .int 0, .int x2]) (σ1 := σ) zM_X7_read dX7_read_68 rfl rfl rfl rfl ?_
    obtain ⟨hk1, h⟩ := h
    refine zw_callI (as := [.ref a0, .int x3, .int (x4 + 6)]) (rest := [.int 0, .int x2]) zM_X7_read dX7_read_69 (zx_calV zC_7_201) zM_X7_word rfl rfl rfl rfl rfl (zx_args0 hk1 rfl) rfl h (fun v3 σ2 h => ?_)
    refine zw_iconst (v := 1) zM_X7_read dX7_read_72 (by decide) ?_
    refine zw_go (pc1 := 74) (L1 := [some (.ref a0), none, some (.int x2), some (.int x3), some (.int x4), some (.int y0), none, none, none, none]) (st1 := [.int (v3 - 1), .int 0, .int x2]) (σ1 := σ2) zM_X7_read dX7_read_73 rfl rfl rfl rfl ?_
    refine zw_callI (as := [.int x2, .int 0, .int (v3 - 1)]) (rest := []) zM_X7_read dX7_read_74 (zx_calS zC_7_101) zM_X7_in rfl rfl rfl rfl rfl rfl rfl h (fun v5 σ4 h => ?_)
    refine zw_if_ne (tgt := 83) zM_X7_read dX7_read_77 rfl rfl (fun q => ?_) (fun q => ?_)
    · replace h := h.1 q
      exact zw_weak2 h ⟨rfl, rfl, rfl, rfl, rfl, trivial⟩
    · replace h := h.2 q
      refine zw_bipush (v := (-2)) zM_X7_read dX7_read_80 (by decide) ?_
      exact zw_reti zM_X7_read dX7_read_82 rfl h
set_option maxHeartbeats 4000000 in
set_option maxRecDepth 100000 in
theorem vc_X7_read_83 (a0 : Nat) (x2 : Int32) (x3 : Int32) (x4 : Int32) (x5 : Int32) (σ : zx_S) (K : Int32 → zx_S → Prop) (h : ((¬ x5 = (0 : Int32) → zK σ a0 = 20 ∧ zwI 143 0 [some (.ref a0), some (.int x3), some (.int 2)] [] σ (fun v3 σ2 => zK σ2 a0 = 20 ∧ zwI 210 0 [some (.ref a0), some (.int x3), some (.int (x4 + 6))] [] σ2 (fun v6 σ5 => ¬ v3 = 0 ∧ ((((v6 / v3) * v3) ≤ x2 → zK σ5 a0 = 20 ∧ zwI 210 0 [some (.ref a0), some (.int x3), some (.int 10)] [] σ5 (fun v10 σ9 => zK σ9 a0 = 20 ∧ zwI 143 0 [some (.ref a0), some (.int x3), some (.int (x4 + 10))] [] σ9 (fun v13 σ12 => zK σ12 a0 = 20 ∧ zwI 210 0 [some (.ref a0), some (.int x3), some (.int (v10 + (5 * (v13 - 1))))] [] σ12 (fun v16 σ15 => zK σ15 a0 = 20 ∧ zwI 210 0 [some (.ref a0), some (.int x3), some (.int ((v10 + (5 * (v13 - 1))) + 2))] [] σ15 (fun v19 σ18 => zK σ18 a0 = 20 ∧ zwI 143 0 [some (.ref a0), some (.int x3), some (.int (x4 + 11))] [] σ18 (fun v22 σ21 => ¬ v3 = 0 ∧ zK σ21 a0 = 20 ∧ zwI 192 0 [some (.ref a0), some (.int x3), some (.int v16), some (.int v19), some (.int (v22 + (x2 - x2 / v3 * v3))), none, none, none] [] σ21 (fun v26 σ25 => K v26 σ25))))))) ∧ (¬ ((v6 / v3) * v3) ≤ x2 → zK σ5 a0 = 20 ∧ zwI 210 0 [some (.ref a0), some (.int x3), some (.int (x4 + 8))] [] σ5 (fun v29 σ28 => zwI 198 147 [some (.ref a0), none, some (.int x2), some (.int x3), some (.int x4), none, some (.int v3), none, some (.int v29), some (.int 0)] [] σ28 K)))))) ∧ (x5 = (0 : Int32) → (((0 : Int32) ≤ x2 → K (-3) σ) ∧ (¬ (0 : Int32) ≤ x2 → K (-2) σ))))) : zwI 198 83 [some (.ref a0), none, some (.int x2), some (.int x3), some (.int x4), some (.int x5), none, none, none, none] [] σ K := by
  refine zw_go (pc1 := 85) (L1 := [some (.ref a0), none, some (.int x2), some (.int x3), some (.int x4), some (.int x5), none, none, none, none]) (st1 := [.int x5]) (σ1 := σ) zM_X7_read dX7_read_83 rfl rfl rfl rfl ?_
  refine zw_if_ne (tgt := 100) zM_X7_read dX7_read_85 rfl rfl (fun q => ?_) (fun q => ?_)
  · replace h := h.1 q
    refine zw_go (pc1 := 101) (L1 := [some (.ref a0), none, some (.int x2), some (.int x3), some (.int x4), some (.int x5), none, none, none, none]) (st1 := [.ref a0]) (σ1 := σ) zM_X7_read dX7_read_100 rfl rfl rfl rfl ?_
    refine zw_go (pc1 := 102) (L1 := [some (.ref a0), none, some (.int x2), some (.int x3), some (.int x4), some (.int x5), none, none, none, none]) (st1 := [.int x3, .ref a0]) (σ1 := σ) zM_X7_read dX7_read_101 rfl rfl rfl rfl ?_
    refine zw_iconst (v := 2) zM_X7_read dX7_read_102 (by decide) ?_
    obtain ⟨hk1, h⟩ := h
    refine zw_callI (as := [.ref a0, .int x3, .int 2]) (rest := []) zM_X7_read dX7_read_103 (zx_calV zC_7_198) zM_X7_byteAt rfl rfl rfl rfl rfl (zx_args0 hk1 rfl) rfl h (fun v3 σ2 h => ?_)
    refine zw_go (pc1 := 108) (L1 := [some (.ref a0), none, some (.int x2), some (.int x3), some (.int x4), some (.int x5), some (.int v3), none, none, none]) (st1 := []) (σ1 := σ2) zM_X7_read dX7_read_106 rfl rfl rfl rfl ?_
    refine zw_go (pc1 := 109) (L1 := [some (.ref a0), none, some (.int x2), some (.int x3), some (.int x4), some (.int x5), some (.int v3), none, none, none]) (st1 := [.ref a0]) (σ1 := σ2) zM_X7_read dX7_read_108 rfl rfl rfl rfl ?_
    refine zw_go (pc1 := 110) (L1 := [some (.ref a0), none, some (.int x2), some (.int x3), some (.int x4), some (.int x5), some (.int v3), none, none, none]) (st1 := [.int x3, .ref a0]) (σ1 := σ2) zM_X7_read dX7_read_109 rfl rfl rfl rfl ?_
    refine zw_go (pc1 := 112) (L1 := [some (.ref a0), none, some (.int x2), some (.int x3), some (.int x4), some (.int x5), some (.int v3), none, none, none]) (st1 := [.int x4, .int x3, .ref a0]) (σ1 := σ2) zM_X7_read dX7_read_110 rfl rfl rfl rfl ?_
    refine zw_bipush (v := 6) zM_X7_read dX7_read_112 (by decide) ?_
    refine zw_go (pc1 := 115) (L1 := [some (.ref a0), none, some (.int x2), some (.int x3), some (.int x4), some (.int x5), some (.int v3), none, none, none]) (st1 := [.int (x4 + 6), .int x3, .ref a0]) (σ1 := σ2) zM_X7_read dX7_read_114 rfl rfl rfl rfl ?_
    obtain ⟨hk4, h⟩ := h
    refine zw_callI (as := [.ref a0, .int x3, .int (x4 + 6)]) (rest := []) zM_X7_read dX7_read_115 (zx_calV zC_7_201) zM_X7_word rfl rfl rfl rfl rfl (zx_args0 hk4 rfl) rfl h (fun v6 σ5 h => ?_)
    refine zw_go (pc1 := 120) (L1 := [some (.ref a0), none, some (.int x2), some (.int x3), some (.int x4), some (.int x5), some (.int v3), some (.int v6), none, none]) (st1 := []) (σ1 := σ5) zM_X7_read dX7_read_118 rfl rfl rfl rfl ?_
    refine zw_go (pc1 := 121) (L1 := [some (.ref a0), none, some (.int x2), some (.int x3), some (.int x4), some (.int x5), some (.int v3), some (.int v6), none, none]) (st1 := [.int x2]) (σ1 := σ5) zM_X7_read dX7_read_120 rfl rfl rfl rfl ?_
    refine zw_go (pc1 := 123) (L1 := [some (.ref a0), none, some (.int x2), some (.int x3), some (.int x4), some (.int x5), some (.int v3), some (.int v6), none, none]) (st1 := [.int v6, .int x2]) (σ1 := σ5) zM_X7_read dX7_read_121 rfl rfl rfl rfl ?_
    refine zw_go (pc1 := 125) (L1 := [some (.ref a0), none, some (.int x2), some (.int x3), some (.int x4), some (.int x5), some (.int v3), some (.int v6), none, none]) (st1 := [.int v3, .int v6, .int x2]) (σ1 := σ5) zM_X7_read dX7_read_123 rfl rfl rfl rfl ?_
    obtain ⟨hz7, h⟩ := h
    refine zw_div zM_X7_read dX7_read_125 hz7 ?_
    refine zw_go (pc1 := 128) (L1 := [some (.ref a0), none, some (.int x2), some (.int x3), some (.int x4), some (.int x5), some (.int v3), some (.int v6), none, none]) (st1 := [.int v3, .int (v6 / v3), .int x2]) (σ1 := σ5) zM_X7_read dX7_read_126 rfl rfl rfl rfl ?_
    refine zw_go (pc1 := 129) (L1 := [some (.ref a0), none, some (.int x2), some (.int x3), some (.int x4), some (.int x5), some (.int v3), some (.int v6), none, none]) (st1 := [.int ((v6 / v3) * v3), .int x2]) (σ1 := σ5) zM_X7_read dX7_read_128 rfl rfl rfl rfl ?_
    refine zw_icmp_ge (tgt := 214) zM_X7_read dX7_read_129 rfl rfl (fun q => ?_) (fun q => ?_)
    · replace h := h.1 q
      refine zw_go (pc1 := 215) (L1 := [some (.ref a0), none, some (.int x2), some (.int x3), some (.int x4), some (.int x5), some (.int v3), some (.int v6), none, none]) (st1 := [.ref a0]) (σ1 := σ5) zM_X7_read dX7_read_214 rfl rfl rfl rfl ?_
      refine zw_go (pc1 := 216) (L1 := [some (.ref a0), none, some (.int x2), some (.int x3), some (.int x4), some (.int x5), some (.int v3), some (.int v6), none, none]) (st1 := [.int x3, .ref a0]) (σ1 := σ5) zM_X7_read dX7_read_215 rfl rfl rfl rfl ?_
      refine zw_bipush (v := 10) zM_X7_read dX7_read_216 (by decide) ?_
      obtain ⟨hk8, h⟩ := h
      refine zw_callI (as := [.ref a0, .int x3, .int 10]) (rest := []) zM_X7_read dX7_read_218 (zx_calV zC_7_201) zM_X7_word rfl rfl rfl rfl rfl (zx_args0 hk8 rfl) rfl h (fun v10 σ9 h => ?_)
      refine zw_iconst (v := 5) zM_X7_read dX7_read_221 (by decide) ?_
      refine zw_go (pc1 := 223) (L1 := [some (.ref a0), none, some (.int x2), some (.int x3), some (.int x4), some (.int x5), some (.int v3), some (.int v6), none, none]) (st1 := [.ref a0, .int 5, .int v10]) (σ1 := σ9) zM_X7_read dX7_read_222 rfl rfl rfl rfl ?_
      refine zw_go (pc1 := 224) (L1 := [some (.ref a0), none, some (.int x2), some (.int x3), some (.int x4), some (.int x5), some (.int v3), some (.int v6), none, none]) (st1 := [.int x3, .ref a0, .int 5, .int v10]) (σ1 := σ9) zM_X7_read dX7_read_223 rfl rfl rfl rfl ?_
      refine zw_go (pc1 := 226) (L1 := [some (.ref a0), none, some (.int x2), some (.int x3), some (.int x4), some (.int x5), some (.int v3), some (.int v6), none, none]) (st1 := [.int x4, .int x3, .ref a0, .int 5, .int v10]) (σ1 := σ9) zM_X7_read dX7_read_224 rfl rfl rfl rfl ?_
      refine zw_bipush (v := 10) zM_X7_read dX7_read_226 (by decide) ?_
      refine zw_go (pc1 := 229) (L1 := [some (.ref a0), none, some (.int x2), some (.int x3), some (.int x4), some (.int x5), some (.int v3), some (.int v6), none, none]) (st1 := [.int (x4 + 10), .int x3, .ref a0, .int 5, .int v10]) (σ1 := σ9) zM_X7_read dX7_read_228 rfl rfl rfl rfl ?_
      obtain ⟨hk11, h⟩ := h
      refine zw_callI (as := [.ref a0, .int x3, .int (x4 + 10)]) (rest := [.int 5, .int v10]) zM_X7_read dX7_read_229 (zx_calV zC_7_198) zM_X7_byteAt rfl rfl rfl rfl rfl (zx_args0 hk11 rfl) rfl h (fun v13 σ12 h => ?_)
      refine zw_iconst (v := 1) zM_X7_read dX7_read_232 (by decide) ?_
      refine zw_go (pc1 := 234) (L1 := [some (.ref a0), none, some (.int x2), some (.int x3), some (.int x4), some (.int x5), some (.int v3), some (.int v6), none, none]) (st1 := [.int (v13 - 1), .int 5, .int v10]) (σ1 := σ12) zM_X7_read dX7_read_233 rfl rfl rfl rfl ?_
      refine zw_go (pc1 := 235) (L1 := [some (.ref a0), none, some (.int x2), some (.int x3), some (.int x4), some (.int x5), some (.int v3), some (.int v6), none, none]) (st1 := [.int (5 * (v13 - 1)), .int v10]) (σ1 := σ12) zM_X7_read dX7_read_234 rfl rfl rfl rfl ?_
      refine zw_go (pc1 := 236) (L1 := [some (.ref a0), none, some (.int x2), some (.int x3), some (.int x4), some (.int x5), some (.int v3), some (.int v6), none, none]) (st1 := [.int (v10 + (5 * (v13 - 1)))]) (σ1 := σ12) zM_X7_read dX7_read_235 rfl rfl rfl rfl ?_
      refine zw_go (pc1 := 238) (L1 := [some (.ref a0), none, some (.int x2), some (.int x3), some (.int x4), some (.int x5), some (.int v3), some (.int v6), some (.int (v10 + (5 * (v13 - 1)))), none]) (st1 := []) (σ1 := σ12) zM_X7_read dX7_read_236 rfl rfl rfl rfl ?_
      refine zw_go (pc1 := 239) (L1 := [some (.ref a0), none, some (.int x2), some (.int x3), some (.int x4), some (.int x5), some (.int v3), some (.int v6), some (.int (v10 + (5 * (v13 - 1)))), none]) (st1 := [.ref a0]) (σ1 := σ12) zM_X7_read dX7_read_238 rfl rfl rfl rfl ?_
      refine zw_go (pc1 := 240) (L1 := [some (.ref a0), none, some (.int x2), some (.int x3), some (.int x4), some (.int x5), some (.int v3), some (.int v6), some (.int (v10 + (5 * (v13 - 1)))), none]) (st1 := [.int x3, .ref a0]) (σ1 := σ12) zM_X7_read dX7_read_239 rfl rfl rfl rfl ?_
      refine zw_go (pc1 := 241) (L1 := [some (.ref a0), none, some (.int x2), some (.int x3), some (.int x4), some (.int x5), some (.int v3), some (.int v6), some (.int (v10 + (5 * (v13 - 1)))), none]) (st1 := [.ref a0, .int x3, .ref a0]) (σ1 := σ12) zM_X7_read dX7_read_240 rfl rfl rfl rfl ?_
      refine zw_go (pc1 := 242) (L1 := [some (.ref a0), none, some (.int x2), some (.int x3), some (.int x4), some (.int x5), some (.int v3), some (.int v6), some (.int (v10 + (5 * (v13 - 1)))), none]) (st1 := [.int x3, .ref a0, .int x3, .ref a0]) (σ1 := σ12) zM_X7_read dX7_read_241 rfl rfl rfl rfl ?_
      refine zw_go (pc1 := 244) (L1 := [some (.ref a0), none, some (.int x2), some (.int x3), some (.int x4), some (.int x5), some (.int v3), some (.int v6), some (.int (v10 + (5 * (v13 - 1)))), none]) (st1 := [.int (v10 + (5 * (v13 - 1))), .int x3, .ref a0, .int x3, .ref a0]) (σ1 := σ12) zM_X7_read dX7_read_242 rfl rfl rfl rfl ?_
      obtain ⟨hk14, h⟩ := h
      refine zw_callI (as := [.ref a0, .int x3, .int (v10 + (5 * (v13 - 1)))]) (rest := [.int x3, .ref a0]) zM_X7_read dX7_read_244 (zx_calV zC_7_201) zM_X7_word rfl rfl rfl rfl rfl (zx_args0 hk14 rfl) rfl h (fun v16 σ15 h => ?_)
      refine zw_go (pc1 := 248) (L1 := [some (.ref a0), none, some (.int x2), some (.int x3), some (.int x4), some (.int x5), some (.int v3), some (.int v6), some (.int (v10 + (5 * (v13 - 1)))), none]) (st1 := [.ref a0, .int v16, .int x3, .ref a0]) (σ1 := σ15) zM_X7_read dX7_read_247 rfl rfl rfl rfl ?_
      refine zw_go (pc1 := 249) (L1 := [some (.ref a0), none, some (.int x2), some (.int x3), some (.int x4), some (.int x5), some (.int v3), some (.int v6), some (.int (v10 + (5 * (v13 - 1)))), none]) (st1 := [.int x3, .ref a0, .int v16, .int x3, .ref a0]) (σ1 := σ15) zM_X7_read dX7_read_248 rfl rfl rfl rfl ?_
      refine zw_go (pc1 := 251) (L1 := [some (.ref a0), none, some (.int x2), some (.int x3), some (.int x4), some (.int x5), some (.int v3), some (.int v6), some (.int (v10 + (5 * (v13 - 1)))), none]) (st1 := [.int (v10 + (5 * (v13 - 1))), .int x3, .ref a0, .int v16, .int x3, .ref a0]) (σ1 := σ15) zM_X7_read dX7_read_249 rfl rfl rfl rfl ?_
      refine zw_iconst (v := 2) zM_X7_read dX7_read_251 (by decide) ?_
      refine zw_go (pc1 := 253) (L1 := [some (.ref a0), none, some (.int x2), some (.int x3), some (.int x4), some (.int x5), some (.int v3), some (.int v6), some (.int (v10 + (5 * (v13 - 1)))), none]) (st1 := [.int ((v10 + (5 * (v13 - 1))) + 2), .int x3, .ref a0, .int v16, .int x3, .ref a0]) (σ1 := σ15) zM_X7_read dX7_read_252 rfl rfl rfl rfl ?_
      obtain ⟨hk17, h⟩ := h
      refine zw_callI (as := [.ref a0, .int x3, .int ((v10 + (5 * (v13 - 1))) + 2)]) (rest := [.int v16, .int x3, .ref a0]) zM_X7_read dX7_read_253 (zx_calV zC_7_201) zM_X7_word rfl rfl rfl rfl rfl (zx_args0 hk17 rfl) rfl h (fun v19 σ18 h => ?_)
      refine zw_go (pc1 := 257) (L1 := [some (.ref a0), none, some (.int x2), some (.int x3), some (.int x4), some (.int x5), some (.int v3), some (.int v6), some (.int (v10 + (5 * (v13 - 1)))), none]) (st1 := [.ref a0, .int v19, .int v16, .int x3, .ref a0]) (σ1 := σ18) zM_X7_read dX7_read_256 rfl rfl rfl rfl ?_
      refine zw_go (pc1 := 258) (L1 := [some (.ref a0), none, some (.int x2), some (.int x3), some (.int x4), some (.int x5), some (.int v3), some (.int v6), some (.int (v10 + (5 * (v13 - 1)))), none]) (st1 := [.int x3, .ref a0, .int v19, .int v16, .int x3, .ref a0]) (σ1 := σ18) zM_X7_read dX7_read_257 rfl rfl rfl rfl ?_
      refine zw_go (pc1 := 260) (L1 := [some (.ref a0), none, some (.int x2), some (.int x3), some (.int x4), some (.int x5), some (.int v3), some (.int v6), some (.int (v10 + (5 * (v13 - 1)))), none]) (st1 := [.int x4, .int x3, .ref a0, .int v19, .int v16, .int x3, .ref a0]) (σ1 := σ18) zM_X7_read dX7_read_258 rfl rfl rfl rfl ?_
      refine zw_bipush (v := 11) zM_X7_read dX7_read_260 (by decide) ?_
      refine zw_go (pc1 := 263) (L1 := [some (.ref a0), none, some (.int x2), some (.int x3), some (.int x4), some (.int x5), some (.int v3), some (.int v6), some (.int (v10 + (5 * (v13 - 1)))), none]) (st1 := [.int (x4 + 11), .int x3, .ref a0, .int v19, .int v16, .int x3, .ref a0]) (σ1 := σ18) zM_X7_read dX7_read_262 rfl rfl rfl rfl ?_
      obtain ⟨hk20, h⟩ := h
      refine zw_callI (as := [.ref a0, .int x3, .int (x4 + 11)]) (rest := [.int v19, .int v16, .int x3, .ref a0]) zM_X7_read dX7_read_263 (zx_calV zC_7_198) zM_X7_byteAt rfl rfl rfl rfl rfl (zx_args0 hk20 rfl) rfl h (fun v22 σ21 h => ?_)
      refine zw_go (pc1 := 267) (L1 := [some (.ref a0), none, some (.int x2), some (.int x3), some (.int x4), some (.int x5), some (.int v3), some (.int v6), some (.int (v10 + (5 * (v13 - 1)))), none]) (st1 := [.int x2, .int v22, .int v19, .int v16, .int x3, .ref a0]) (σ1 := σ21) zM_X7_read dX7_read_266 rfl rfl rfl rfl ?_
      refine zw_go (pc1 := 269) (L1 := [some (.ref a0), none, some (.int x2), some (.int x3), some (.int x4), some (.int x5), some (.int v3), some (.int v6), some (.int (v10 + (5 * (v13 - 1)))), none]) (st1 := [.int v3, .int x2, .int v22, .int v19, .int v16, .int x3, .ref a0]) (σ1 := σ21) zM_X7_read dX7_read_267 rfl rfl rfl rfl ?_
      obtain ⟨hz23, h⟩ := h
      refine zw_rem zM_X7_read dX7_read_269 hz23 ?_
      refine zw_go (pc1 := 271) (L1 := [some (.ref a0), none, some (.int x2), some (.int x3), some (.int x4), some (.int x5), some (.int v3), some (.int v6), some (.int (v10 + (5 * (v13 - 1)))), none]) (st1 := [.int (v22 + (x2 - x2 / v3 * v3)), .int v19, .int v16, .int x3, .ref a0]) (σ1 := σ21) zM_X7_read dX7_read_270 rfl rfl rfl rfl ?_
      obtain ⟨hk24, h⟩ := h
      refine zw_callI (as := [.ref a0, .int x3, .int v16, .int v19, .int (v22 + (x2 - x2 / v3 * v3))]) (rest := []) zM_X7_read dX7_read_271 (zx_calV zC_7_293) zM_X7_opened rfl rfl rfl rfl rfl (zx_args0 hk24 rfl) rfl h (fun v26 σ25 h => ?_)
      exact zw_reti zM_X7_read dX7_read_274 rfl h
    · replace h := h.2 q
      refine zw_go (pc1 := 133) (L1 := [some (.ref a0), none, some (.int x2), some (.int x3), some (.int x4), some (.int x5), some (.int v3), some (.int v6), none, none]) (st1 := [.ref a0]) (σ1 := σ5) zM_X7_read dX7_read_132 rfl rfl rfl rfl ?_
      refine zw_go (pc1 := 134) (L1 := [some (.ref a0), none, some (.int x2), some (.int x3), some (.int x4), some (.int x5), some (.int v3), some (.int v6), none, none]) (st1 := [.int x3, .ref a0]) (σ1 := σ5) zM_X7_read dX7_read_133 rfl rfl rfl rfl ?_
      refine zw_go (pc1 := 136) (L1 := [some (.ref a0), none, some (.int x2), some (.int x3), some (.int x4), some (.int x5), some (.int v3), some (.int v6), none, none]) (st1 := [.int x4, .int x3, .ref a0]) (σ1 := σ5) zM_X7_read dX7_read_134 rfl rfl rfl rfl ?_
      refine zw_bipush (v := 8) zM_X7_read dX7_read_136 (by decide) ?_
      refine zw_go (pc1 := 139) (L1 := [some (.ref a0), none, some (.int x2), some (.int x3), some (.int x4), some (.int x5), some (.int v3), some (.int v6), none, none]) (st1 := [.int (x4 + 8), .int x3, .ref a0]) (σ1 := σ5) zM_X7_read dX7_read_138 rfl rfl rfl rfl ?_
      obtain ⟨hk27, h⟩ := h
      refine zw_callI (as := [.ref a0, .int x3, .int (x4 + 8)]) (rest := []) zM_X7_read dX7_read_139 (zx_calV zC_7_201) zM_X7_word rfl rfl rfl rfl rfl (zx_args0 hk27 rfl) rfl h (fun v29 σ28 h => ?_)
      refine zw_go (pc1 := 144) (L1 := [some (.ref a0), none, some (.int x2), some (.int x3), some (.int x4), some (.int x5), some (.int v3), some (.int v6), some (.int v29), none]) (st1 := []) (σ1 := σ28) zM_X7_read dX7_read_142 rfl rfl rfl rfl ?_
      refine zw_iconst (v := 0) zM_X7_read dX7_read_144 (by decide) ?_
      refine zw_go (pc1 := 147) (L1 := [some (.ref a0), none, some (.int x2), some (.int x3), some (.int x4), some (.int x5), some (.int v3), some (.int v6), some (.int v29), some (.int 0)]) (st1 := []) (σ1 := σ28) zM_X7_read dX7_read_145 rfl rfl rfl rfl ?_
      exact zw_weak2 h ⟨rfl, rfl, rfl, rfl, rfl, rfl, rfl, trivial⟩
  · replace h := h.2 q
    refine zw_go (pc1 := 89) (L1 := [some (.ref a0), none, some (.int x2), some (.int x3), some (.int x4), some (.int x5), none, none, none, none]) (st1 := [.int x2]) (σ1 := σ) zM_X7_read dX7_read_88 rfl rfl rfl rfl ?_
    refine zw_if_ge (tgt := 97) zM_X7_read dX7_read_89 rfl rfl (fun q => ?_) (fun q => ?_)
    · replace h := h.1 q
      refine zw_bipush (v := (-3)) zM_X7_read dX7_read_97 (by decide) ?_
      exact zw_reti zM_X7_read dX7_read_99 rfl h
    · replace h := h.2 q
      refine zw_bipush (v := (-2)) zM_X7_read dX7_read_92 (by decide) ?_
      refine zw_goto (tgt := 99) zM_X7_read dX7_read_94 rfl ?_
      exact zw_reti zM_X7_read dX7_read_99 rfl h
set_option maxHeartbeats 4000000 in
set_option maxRecDepth 100000 in
theorem vc_X7_read_147 (a0 : Nat) (x2 : Int32) (x3 : Int32) (x4 : Int32) (x6 : Int32) (x8 : Int32) (x9 : Int32) (σ : zx_S) (K : Int32 → zx_S → Prop) (h : ¬ x6 = 0 ∧ (((x2 / x6) ≤ x9 → ¬ x6 = 0 ∧ zK σ a0 = 20 ∧ zwI 210 0 [some (.ref a0), some (.int x3), some (.int ((x4 + 12) + (2 * (x2 / x6))))] [] σ (fun v5 σ4 => ¬ x6 = 0 ∧ zK σ4 a0 = 20 ∧ zwI 192 0 [some (.ref a0), some (.int x3), some (.int x8), some (.int v5), some (.int (x2 - x2 / x6 * x6)), none, none, none] [] σ4 (fun v9 σ8 => K v9 σ8))) ∧ (¬ (x2 / x6) ≤ x9 → zK σ a0 = 20 ∧ zwI 210 0 [some (.ref a0), some (.int x3), some (.int ((x4 + 12) + (2 * x9)))] [] σ (fun v12 σ11 => zwI 175 0 [some (.int v12)] [] σ11 (fun v14 σ13 => zwI 198 147 [some (.ref a0), none, some (.int x2), some (.int x3), some (.int x4), none, some (.int x6), none, some (.int (x8 + v14)), some (.int (x9 + Int32.ofInt 1))] [] σ13 K))))) : zwI 198 147 [some (.ref a0), none, some (.int x2), some (.int x3), some (.int x4), none, some (.int x6), none, some (.int x8), some (.int x9)] [] σ K := by
  refine zw_go (pc1 := 149) (L1 := [some (.ref a0), none, some (.int x2), some (.int x3), some (.int x4), none, some (.int x6), none, some (.int x8), some (.int x9)]) (st1 := [.int x9]) (σ1 := σ) zM_X7_read dX7_read_147 rfl rfl rfl rfl ?_
  refine zw_go (pc1 := 150) (L1 := [some (.ref a0), none, some (.int x2), some (.int x3), some (.int x4), none, some (.int x6), none, some (.int x8), some (.int x9)]) (st1 := [.int x2, .int x9]) (σ1 := σ) zM_X7_read dX7_read_149 rfl rfl rfl rfl ?_
  refine zw_go (pc1 := 152) (L1 := [some (.ref a0), none, some (.int x2), some (.int x3), some (.int x4), none, some (.int x6), none, some (.int x8), some (.int x9)]) (st1 := [.int x6, .int x2, .int x9]) (σ1 := σ) zM_X7_read dX7_read_150 rfl rfl rfl rfl ?_
  obtain ⟨hz1, h⟩ := h
  refine zw_div zM_X7_read dX7_read_152 hz1 ?_
  refine zw_icmp_ge (tgt := 185) zM_X7_read dX7_read_153 rfl rfl (fun q => ?_) (fun q => ?_)
  · replace h := h.1 q
    refine zw_go (pc1 := 186) (L1 := [some (.ref a0), none, some (.int x2), some (.int x3), some (.int x4), none, some (.int x6), none, some (.int x8), some (.int x9)]) (st1 := [.ref a0]) (σ1 := σ) zM_X7_read dX7_read_185 rfl rfl rfl rfl ?_
    refine zw_go (pc1 := 187) (L1 := [some (.ref a0), none, some (.int x2), some (.int x3), some (.int x4), none, some (.int x6), none, some (.int x8), some (.int x9)]) (st1 := [.int x3, .ref a0]) (σ1 := σ) zM_X7_read dX7_read_186 rfl rfl rfl rfl ?_
    refine zw_go (pc1 := 189) (L1 := [some (.ref a0), none, some (.int x2), some (.int x3), some (.int x4), none, some (.int x6), none, some (.int x8), some (.int x9)]) (st1 := [.int x8, .int x3, .ref a0]) (σ1 := σ) zM_X7_read dX7_read_187 rfl rfl rfl rfl ?_
    refine zw_go (pc1 := 190) (L1 := [some (.ref a0), none, some (.int x2), some (.int x3), some (.int x4), none, some (.int x6), none, some (.int x8), some (.int x9)]) (st1 := [.ref a0, .int x8, .int x3, .ref a0]) (σ1 := σ) zM_X7_read dX7_read_189 rfl rfl rfl rfl ?_
    refine zw_go (pc1 := 191) (L1 := [some (.ref a0), none, some (.int x2), some (.int x3), some (.int x4), none, some (.int x6), none, some (.int x8), some (.int x9)]) (st1 := [.int x3, .ref a0, .int x8, .int x3, .ref a0]) (σ1 := σ) zM_X7_read dX7_read_190 rfl rfl rfl rfl ?_
    refine zw_go (pc1 := 193) (L1 := [some (.ref a0), none, some (.int x2), some (.int x3), some (.int x4), none, some (.int x6), none, some (.int x8), some (.int x9)]) (st1 := [.int x4, .int x3, .ref a0, .int x8, .int x3, .ref a0]) (σ1 := σ) zM_X7_read dX7_read_191 rfl rfl rfl rfl ?_
    refine zw_bipush (v := 12) zM_X7_read dX7_read_193 (by decide) ?_
    refine zw_go (pc1 := 196) (L1 := [some (.ref a0), none, some (.int x2), some (.int x3), some (.int x4), none, some (.int x6), none, some (.int x8), some (.int x9)]) (st1 := [.int (x4 + 12), .int x3, .ref a0, .int x8, .int x3, .ref a0]) (σ1 := σ) zM_X7_read dX7_read_195 rfl rfl rfl rfl ?_
    refine zw_iconst (v := 2) zM_X7_read dX7_read_196 (by decide) ?_
    refine zw_go (pc1 := 198) (L1 := [some (.ref a0), none, some (.int x2), some (.int x3), some (.int x4), none, some (.int x6), none, some (.int x8), some (.int x9)]) (st1 := [.int x2, .int 2, .int (x4 + 12), .int x3, .ref a0, .int x8, .int x3, .ref a0]) (σ1 := σ) zM_X7_read dX7_read_197 rfl rfl rfl rfl ?_
    refine zw_go (pc1 := 200) (L1 := [some (.ref a0), none, some (.int x2), some (.int x3), some (.int x4), none, some (.int x6), none, some (.int x8), some (.int x9)]) (st1 := [.int x6, .int x2, .int 2, .int (x4 + 12), .int x3, .ref a0, .int x8, .int x3, .ref a0]) (σ1 := σ) zM_X7_read dX7_read_198 rfl rfl rfl rfl ?_
    obtain ⟨hz2, h⟩ := h
    refine zw_div zM_X7_read dX7_read_200 hz2 ?_
    refine zw_go (pc1 := 202) (L1 := [some (.ref a0), none, some (.int x2), some (.int x3), some (.int x4), none, some (.int x6), none, some (.int x8), some (.int x9)]) (st1 := [.int (2 * (x2 / x6)), .int (x4 + 12), .int x3, .ref a0, .int x8, .int x3, .ref a0]) (σ1 := σ) zM_X7_read dX7_read_201 rfl rfl rfl rfl ?_
    refine zw_go (pc1 := 203) (L1 := [some (.ref a0), none, some (.int x2), some (.int x3), some (.int x4), none, some (.int x6), none, some (.int x8), some (.int x9)]) (st1 := [.int ((x4 + 12) + (2 * (x2 / x6))), .int x3, .ref a0, .int x8, .int x3, .ref a0]) (σ1 := σ) zM_X7_read dX7_read_202 rfl rfl rfl rfl ?_
    obtain ⟨hk3, h⟩ := h
    refine zw_callI (as := [.ref a0, .int x3, .int ((x4 + 12) + (2 * (x2 / x6)))]) (rest := [.int x8, .int x3, .ref a0]) zM_X7_read dX7_read_203 (zx_calV zC_7_201) zM_X7_word rfl rfl rfl rfl rfl (zx_args0 hk3 rfl) rfl h (fun v5 σ4 h => ?_)
    refine zw_go (pc1 := 207) (L1 := [some (.ref a0), none, some (.int x2), some (.int x3), some (.int x4), none, some (.int x6), none, some (.int x8), some (.int x9)]) (st1 := [.int x2, .int v5, .int x8, .int x3, .ref a0]) (σ1 := σ4) zM_X7_read dX7_read_206 rfl rfl rfl rfl ?_
    refine zw_go (pc1 := 209) (L1 := [some (.ref a0), none, some (.int x2), some (.int x3), some (.int x4), none, some (.int x6), none, some (.int x8), some (.int x9)]) (st1 := [.int x6, .int x2, .int v5, .int x8, .int x3, .ref a0]) (σ1 := σ4) zM_X7_read dX7_read_207 rfl rfl rfl rfl ?_
    obtain ⟨hz6, h⟩ := h
    refine zw_rem zM_X7_read dX7_read_209 hz6 ?_
    obtain ⟨hk7, h⟩ := h
    refine zw_callI (as := [.ref a0, .int x3, .int x8, .int v5, .int (x2 - x2 / x6 * x6)]) (rest := []) zM_X7_read dX7_read_210 (zx_calV zC_7_293) zM_X7_opened rfl rfl rfl rfl rfl (zx_args0 hk7 rfl) rfl h (fun v9 σ8 h => ?_)
    exact zw_reti zM_X7_read dX7_read_213 rfl h
  · replace h := h.2 q
    refine zw_go (pc1 := 158) (L1 := [some (.ref a0), none, some (.int x2), some (.int x3), some (.int x4), none, some (.int x6), none, some (.int x8), some (.int x9)]) (st1 := [.int x8]) (σ1 := σ) zM_X7_read dX7_read_156 rfl rfl rfl rfl ?_
    refine zw_go (pc1 := 159) (L1 := [some (.ref a0), none, some (.int x2), some (.int x3), some (.int x4), none, some (.int x6), none, some (.int x8), some (.int x9)]) (st1 := [.ref a0, .int x8]) (σ1 := σ) zM_X7_read dX7_read_158 rfl rfl rfl rfl ?_
    refine zw_go (pc1 := 160) (L1 := [some (.ref a0), none, some (.int x2), some (.int x3), some (.int x4), none, some (.int x6), none, some (.int x8), some (.int x9)]) (st1 := [.int x3, .ref a0, .int x8]) (σ1 := σ) zM_X7_read dX7_read_159 rfl rfl rfl rfl ?_
    refine zw_go (pc1 := 162) (L1 := [some (.ref a0), none, some (.int x2), some (.int x3), some (.int x4), none, some (.int x6), none, some (.int x8), some (.int x9)]) (st1 := [.int x4, .int x3, .ref a0, .int x8]) (σ1 := σ) zM_X7_read dX7_read_160 rfl rfl rfl rfl ?_
    refine zw_bipush (v := 12) zM_X7_read dX7_read_162 (by decide) ?_
    refine zw_go (pc1 := 165) (L1 := [some (.ref a0), none, some (.int x2), some (.int x3), some (.int x4), none, some (.int x6), none, some (.int x8), some (.int x9)]) (st1 := [.int (x4 + 12), .int x3, .ref a0, .int x8]) (σ1 := σ) zM_X7_read dX7_read_164 rfl rfl rfl rfl ?_
    refine zw_iconst (v := 2) zM_X7_read dX7_read_165 (by decide) ?_
    refine zw_go (pc1 := 168) (L1 := [some (.ref a0), none, some (.int x2), some (.int x3), some (.int x4), none, some (.int x6), none, some (.int x8), some (.int x9)]) (st1 := [.int x9, .int 2, .int (x4 + 12), .int x3, .ref a0, .int x8]) (σ1 := σ) zM_X7_read dX7_read_166 rfl rfl rfl rfl ?_
    refine zw_go (pc1 := 169) (L1 := [some (.ref a0), none, some (.int x2), some (.int x3), some (.int x4), none, some (.int x6), none, some (.int x8), some (.int x9)]) (st1 := [.int (2 * x9), .int (x4 + 12), .int x3, .ref a0, .int x8]) (σ1 := σ) zM_X7_read dX7_read_168 rfl rfl rfl rfl ?_
    refine zw_go (pc1 := 170) (L1 := [some (.ref a0), none, some (.int x2), some (.int x3), some (.int x4), none, some (.int x6), none, some (.int x8), some (.int x9)]) (st1 := [.int ((x4 + 12) + (2 * x9)), .int x3, .ref a0, .int x8]) (σ1 := σ) zM_X7_read dX7_read_169 rfl rfl rfl rfl ?_
    obtain ⟨hk10, h⟩ := h
    refine zw_callI (as := [.ref a0, .int x3, .int ((x4 + 12) + (2 * x9))]) (rest := [.int x8]) zM_X7_read dX7_read_170 (zx_calV zC_7_201) zM_X7_word rfl rfl rfl rfl rfl (zx_args0 hk10 rfl) rfl h (fun v12 σ11 h => ?_)
    refine zw_callI (as := [.int v12]) (rest := [.int x8]) zM_X7_read dX7_read_173 (zx_calS zC_7_204) zM_X7_lies rfl rfl rfl rfl rfl rfl rfl h (fun v14 σ13 h => ?_)
    refine zw_go (pc1 := 177) (L1 := [some (.ref a0), none, some (.int x2), some (.int x3), some (.int x4), none, some (.int x6), none, some (.int x8), some (.int x9)]) (st1 := [.int (x8 + v14)]) (σ1 := σ13) zM_X7_read dX7_read_176 rfl rfl rfl rfl ?_
    refine zw_go (pc1 := 179) (L1 := [some (.ref a0), none, some (.int x2), some (.int x3), some (.int x4), none, some (.int x6), none, some (.int (x8 + v14)), some (.int x9)]) (st1 := []) (σ1 := σ13) zM_X7_read dX7_read_177 rfl rfl rfl rfl ?_
    refine zw_go (pc1 := 182) (L1 := [some (.ref a0), none, some (.int x2), some (.int x3), some (.int x4), none, some (.int x6), none, some (.int (x8 + v14)), some (.int (x9 + Int32.ofInt 1))]) (st1 := []) (σ1 := σ13) zM_X7_read dX7_read_179 rfl rfl rfl rfl ?_
    refine zw_goto (tgt := 147) zM_X7_read dX7_read_182 rfl ?_
    exact zw_weak2 h ⟨rfl, rfl, rfl, rfl, rfl, rfl, rfl, trivial⟩
set_option maxHeartbeats 4000000 in
set_option maxRecDepth 100000 in
theorem vc_X7_same_0 (a0 : Nat) (x1 : Int32) (x2 : Int32) (σ : zx_S) (K : Int32 → zx_S → Prop) (h : zK σ a0 = 20 ∧ ∀ σ2 : zx_S, σ2 = zx_pI σ a0 0 0 → zwI 165 0 [some (.ref a0), some (.int x1)] [] σ2 (fun v5 σ4 => ((v5 = (0 : Int32) → K (-1) σ4) ∧ (¬ v5 = (0 : Int32) → zK σ4 a0 = 20 ∧ zwI 165 0 [some (.ref a0), some (.int x2)] [] σ4 (fun v8 σ7 => ((¬ v8 = (0 : Int32) → zK σ7 a0 = 20 ∧ ∃ b10 : Nat, zR σ7 a0 13 = some b10 ∧ zK σ7 b10 = 1 ∧ zx_in x1 (zN σ7 b10) = true ∧ zx_in x2 (zN σ7 b10) = true ∧ ((¬ (zI σ7 b10 (Int32.toNatClampNeg x1)) = (zI σ7 b10 (Int32.toNatClampNeg x2)) → zwI 199 43 [some (.ref a0), some (.int x1), some (.int x2), none, none] [.int 0] σ7 K) ∧ ((zI σ7 b10 (Int32.toNatClampNeg x1)) = (zI σ7 b10 (Int32.toNatClampNeg x2)) → zwI 199 43 [some (.ref a0), some (.int x1), some (.int x2), none, none] [.int 1] σ7 K))) ∧ (v8 = (0 : Int32) → K (-1) σ7))))))) : zwI 199 0 [some (.ref a0), some (.int x1), some (.int x2), none, none] [] σ K := by
  refine zw_go (pc1 := 1) (L1 := [some (.ref a0), some (.int x1), some (.int x2), none, none]) (st1 := [.ref a0]) (σ1 := σ) zM_X7_same dX7_same_0 rfl rfl rfl rfl ?_
  refine zw_iconst (v := 0) zM_X7_same dX7_same_1 (by decide) ?_
  obtain ⟨hk1, h⟩ := h
  obtain ⟨σ2, e3⟩ : ∃ z9 : zx_S, z9 = zx_pI σ a0 0 0 := ⟨_, rfl⟩
  replace h := h σ2 e3
  refine zw_putI zM_X7_same dX7_same_2 zF_7_98 rfl rfl hk1 e3 ?_
  refine zw_go (pc1 := 6) (L1 := [some (.ref a0), some (.int x1), some (.int x2), none, none]) (st1 := [.ref a0]) (σ1 := σ2) zM_X7_same dX7_same_5 rfl rfl rfl rfl ?_
  refine zw_go (pc1 := 7) (L1 := [some (.ref a0), some (.int x1), some (.int x2), none, none]) (st1 := [.int x1, .ref a0]) (σ1 := σ2) zM_X7_same dX7_same_6 rfl rfl rfl rfl ?_
  refine zw_callI (as := [.ref a0, .int x1]) (rest := []) zM_X7_same dX7_same_7 (zx_calV zC_7_263) zM_X7_isImage rfl rfl rfl rfl rfl (zx_args0 (by rw [e3]; exact hk1) rfl) rfl h (fun v5 σ4 h => ?_)
  refine zw_if_eq (tgt := 21) zM_X7_same dX7_same_10 rfl rfl (fun q => ?_) (fun q => ?_)
  · replace h := h.1 q
    refine zw_iconst (v := (-1)) zM_X7_same dX7_same_21 (by decide) ?_
    exact zw_reti zM_X7_same dX7_same_22 rfl h
  · replace h := h.2 q
    refine zw_go (pc1 := 14) (L1 := [some (.ref a0), some (.int x1), some (.int x2), none, none]) (st1 := [.ref a0]) (σ1 := σ4) zM_X7_same dX7_same_13 rfl rfl rfl rfl ?_
    refine zw_go (pc1 := 15) (L1 := [some (.ref a0), some (.int x1), some (.int x2), none, none]) (st1 := [.int x2, .ref a0]) (σ1 := σ4) zM_X7_same dX7_same_14 rfl rfl rfl rfl ?_
    obtain ⟨hk6, h⟩ := h
    refine zw_callI (as := [.ref a0, .int x2]) (rest := []) zM_X7_same dX7_same_15 (zx_calV zC_7_263) zM_X7_isImage rfl rfl rfl rfl rfl (zx_args0 hk6 rfl) rfl h (fun v8 σ7 h => ?_)
    refine zw_if_ne (tgt := 23) zM_X7_same dX7_same_18 rfl rfl (fun q => ?_) (fun q => ?_)
    · replace h := h.1 q
      refine zw_go (pc1 := 24) (L1 := [some (.ref a0), some (.int x1), some (.int x2), none, none]) (st1 := [.ref a0]) (σ1 := σ7) zM_X7_same dX7_same_23 rfl rfl rfl rfl ?_
      obtain ⟨hk9, h⟩ := h
      obtain ⟨b10, hr11, h⟩ := h
      refine zw_getR (a := b10) zM_X7_same dX7_same_24 zF_7_37 rfl hk9 hr11 ?_
      refine zw_go (pc1 := 28) (L1 := [some (.ref a0), some (.int x1), some (.int x2), none, none]) (st1 := [.int x1, .ref b10]) (σ1 := σ7) zM_X7_same dX7_same_27 rfl rfl rfl rfl ?_
      obtain ⟨hk12, h⟩ := h
      obtain ⟨hi13, h⟩ := h
      refine zw_iald zM_X7_same dX7_same_28 ⟨Or.inl hk12, hi13⟩ ?_
      refine zw_go (pc1 := 30) (L1 := [some (.ref a0), some (.int x1), some (.int x2), none, none]) (st1 := [.ref a0, .int (zI σ7 b10 (Int32.toNatClampNeg x1))]) (σ1 := σ7) zM_X7_same dX7_same_29 rfl rfl rfl rfl ?_
      refine zw_getR (a := b10) zM_X7_same dX7_same_30 zF_7_37 rfl hk9 hr11 ?_
      refine zw_go (pc1 := 34) (L1 := [some (.ref a0), some (.int x1), some (.int x2), none, none]) (st1 := [.int x2, .ref b10, .int (zI σ7 b10 (Int32.toNatClampNeg x1))]) (σ1 := σ7) zM_X7_same dX7_same_33 rfl rfl rfl rfl ?_
      obtain ⟨hi14, h⟩ := h
      refine zw_iald zM_X7_same dX7_same_34 ⟨Or.inl hk12, hi14⟩ ?_
      refine zw_icmp_ne (tgt := 42) zM_X7_same dX7_same_35 rfl rfl (fun q => ?_) (fun q => ?_)
      · replace h := h.1 q
        refine zw_iconst (v := 0) zM_X7_same dX7_same_42 (by decide) ?_
        exact zw_weak2 h ⟨rfl, rfl, rfl, trivial⟩
      · replace h := h.2 q
        refine zw_iconst (v := 1) zM_X7_same dX7_same_38 (by decide) ?_
        refine zw_goto (tgt := 43) zM_X7_same dX7_same_39 rfl ?_
        exact zw_weak2 h ⟨rfl, rfl, rfl, trivial⟩
    · replace h := h.2 q
      refine zw_iconst (v := (-1)) zM_X7_same dX7_same_21 (by decide) ?_
      exact zw_reti zM_X7_same dX7_same_22 rfl h
set_option maxHeartbeats 4000000 in
set_option maxRecDepth 100000 in
theorem vc_X7_same_43 (a0 : Nat) (x1 : Int32) (x2 : Int32) (y0 : Int32) (σ : zx_S) (K : Int32 → zx_S → Prop) (h : zwI 199 47 [some (.ref a0), some (.int x1), some (.int x2), some (.int y0), some (.int 0)] [] σ K) : zwI 199 43 [some (.ref a0), some (.int x1), some (.int x2), none, none] [.int y0] σ K := by
  refine zw_go (pc1 := 44) (L1 := [some (.ref a0), some (.int x1), some (.int x2), some (.int y0), none]) (st1 := []) (σ1 := σ) zM_X7_same dX7_same_43 rfl rfl rfl rfl ?_
  refine zw_iconst (v := 0) zM_X7_same dX7_same_44 (by decide) ?_
  refine zw_go (pc1 := 47) (L1 := [some (.ref a0), some (.int x1), some (.int x2), some (.int y0), some (.int 0)]) (st1 := []) (σ1 := σ) zM_X7_same dX7_same_45 rfl rfl rfl rfl ?_
  exact zw_weak2 h ⟨rfl, rfl, rfl, rfl, rfl, trivial⟩
set_option maxHeartbeats 4000000 in
set_option maxRecDepth 100000 in
theorem vc_X7_same_47 (a0 : Nat) (x1 : Int32) (x2 : Int32) (x3 : Int32) (x4 : Int32) (σ : zx_S) (K : Int32 → zx_S → Prop) (h : zK σ a0 = 20 ∧ ∃ b2 : Nat, zR σ a0 13 = some b2 ∧ zK σ b2 = 1 ∧ zx_in x1 (zN σ b2) = true ∧ (((zI σ b2 (Int32.toNatClampNeg x1)) ≤ x4 → zwI 199 91 [none, none, none, some (.int x3), none] [] σ K) ∧ (¬ (zI σ b2 (Int32.toNatClampNeg x1)) ≤ x4 → ((x3 = (0 : Int32) → zwI 199 91 [none, none, none, some (.int x3), none] [] σ K) ∧ (¬ x3 = (0 : Int32) → zwI 143 0 [some (.ref a0), some (.int x1), some (.int x4)] [] σ (fun v7 σ6 => zK σ6 a0 = 20 ∧ zwI 143 0 [some (.ref a0), some (.int x2), some (.int x4)] [] σ6 (fun v10 σ9 => ((¬ v7 = v10 → zwI 199 84 [some (.ref a0), some (.int x1), some (.int x2), none, some (.int x4)] [.int 0] σ9 K) ∧ (v7 = v10 → zwI 199 84 [some (.ref a0), some (.int x1), some (.int x2), none, some (.int x4)] [.int 1] σ9 K))))))))) : zwI 199 47 [some (.ref a0), some (.int x1), some (.int x2), some (.int x3), some (.int x4)] [] σ K := by
  refine zw_go (pc1 := 49) (L1 := [some (.ref a0), some (.int x1), some (.int x2), some (.int x3), some (.int x4)]) (st1 := [.int x4]) (σ1 := σ) zM_X7_same dX7_same_47 rfl rfl rfl rfl ?_
  refine zw_go (pc1 := 50) (L1 := [some (.ref a0), some (.int x1), some (.int x2), some (.int x3), some (.int x4)]) (st1 := [.ref a0, .int x4]) (σ1 := σ) zM_X7_same dX7_same_49 rfl rfl rfl rfl ?_
  obtain ⟨hk1, h⟩ := h
  obtain ⟨b2, hr3, h⟩ := h
  refine zw_getR (a := b2) zM_X7_same dX7_same_50 zF_7_37 rfl hk1 hr3 ?_
  refine zw_go (pc1 := 54) (L1 := [some (.ref a0), some (.int x1), some (.int x2), some (.int x3), some (.int x4)]) (st1 := [.int x1, .ref b2, .int x4]) (σ1 := σ) zM_X7_same dX7_same_53 rfl rfl rfl rfl ?_
  obtain ⟨hk4, h⟩ := h
  obtain ⟨hi5, h⟩ := h
  refine zw_iald zM_X7_same dX7_same_54 ⟨Or.inl hk4, hi5⟩ ?_
  refine zw_icmp_ge (tgt := 91) zM_X7_same dX7_same_55 rfl rfl (fun q => ?_) (fun q => ?_)
  · replace h := h.1 q
    exact zw_weak2 h ⟨rfl, trivial⟩
  · replace h := h.2 q
    refine zw_go (pc1 := 59) (L1 := [some (.ref a0), some (.int x1), some (.int x2), some (.int x3), some (.int x4)]) (st1 := [.int x3]) (σ1 := σ) zM_X7_same dX7_same_58 rfl rfl rfl rfl ?_
    refine zw_if_eq (tgt := 91) zM_X7_same dX7_same_59 rfl rfl (fun q => ?_) (fun q => ?_)
    · replace h := h.1 q
      exact zw_weak2 h ⟨rfl, trivial⟩
    · replace h := h.2 q
      refine zw_go (pc1 := 63) (L1 := [some (.ref a0), some (.int x1), some (.int x2), some (.int x3), some (.int x4)]) (st1 := [.ref a0]) (σ1 := σ) zM_X7_same dX7_same_62 rfl rfl rfl rfl ?_
      refine zw_go (pc1 := 64) (L1 := [some (.ref a0), some (.int x1), some (.int x2), some (.int x3), some (.int x4)]) (st1 := [.int x1, .ref a0]) (σ1 := σ) zM_X7_same dX7_same_63 rfl rfl rfl rfl ?_
      refine zw_go (pc1 := 66) (L1 := [some (.ref a0), some (.int x1), some (.int x2), some (.int x3), some (.int x4)]) (st1 := [.int x4, .int x1, .ref a0]) (σ1 := σ) zM_X7_same dX7_same_64 rfl rfl rfl rfl ?_
      refine zw_callI (as := [.ref a0, .int x1, .int x4]) (rest := []) zM_X7_same dX7_same_66 (zx_calV zC_7_198) zM_X7_byteAt rfl rfl rfl rfl rfl (zx_args0 hk1 rfl) rfl h (fun v7 σ6 h => ?_)
      refine zw_go (pc1 := 70) (L1 := [some (.ref a0), some (.int x1), some (.int x2), some (.int x3), some (.int x4)]) (st1 := [.ref a0, .int v7]) (σ1 := σ6) zM_X7_same dX7_same_69 rfl rfl rfl rfl ?_
      refine zw_go (pc1 := 71) (L1 := [some (.ref a0), some (.int x1), some (.int x2), some (.int x3), some (.int x4)]) (st1 := [.int x2, .ref a0, .int v7]) (σ1 := σ6) zM_X7_same dX7_same_70 rfl rfl rfl rfl ?_
      refine zw_go (pc1 := 73) (L1 := [some (.ref a0), some (.int x1), some (.int x2), some (.int x3), some (.int x4)]) (st1 := [.int x4, .int x2, .ref a0, .int v7]) (σ1 := σ6) zM_X7_same dX7_same_71 rfl rfl rfl rfl ?_
      obtain ⟨hk8, h⟩ := h
      refine zw_callI (as := [.ref a0, .int x2, .int x4]) (rest := [.int v7]) zM_X7_same dX7_same_73 (zx_calV zC_7_198) zM_X7_byteAt rfl rfl rfl rfl rfl (zx_args0 hk8 rfl) rfl h (fun v10 σ9 h => ?_)
      refine zw_icmp_ne (tgt := 83) zM_X7_same dX7_same_76 rfl rfl (fun q => ?_) (fun q => ?_)
      · replace h := h.1 q
        refine zw_iconst (v := 0) zM_X7_same dX7_same_83 (by decide) ?_
        exact zw_weak2 h ⟨rfl, rfl, rfl, rfl, trivial⟩
      · replace h := h.2 q
        refine zw_iconst (v := 1) zM_X7_same dX7_same_79 (by decide) ?_
        refine zw_goto (tgt := 84) zM_X7_same dX7_same_80 rfl ?_
        exact zw_weak2 h ⟨rfl, rfl, rfl, rfl, trivial⟩
set_option maxHeartbeats 4000000 in
set_option maxRecDepth 100000 in
theorem vc_X7_same_84 (a0 : Nat) (x1 : Int32) (x2 : Int32) (x4 : Int32) (y0 : Int32) (σ : zx_S) (K : Int32 → zx_S → Prop) (h : zwI 199 47 [some (.ref a0), some (.int x1), some (.int x2), some (.int y0), some (.int (x4 + Int32.ofInt 1))] [] σ K) : zwI 199 84 [some (.ref a0), some (.int x1), some (.int x2), none, some (.int x4)] [.int y0] σ K := by
  refine zw_go (pc1 := 85) (L1 := [some (.ref a0), some (.int x1), some (.int x2), some (.int y0), some (.int x4)]) (st1 := []) (σ1 := σ) zM_X7_same dX7_same_84 rfl rfl rfl rfl ?_
  refine zw_go (pc1 := 88) (L1 := [some (.ref a0), some (.int x1), some (.int x2), some (.int y0), some (.int (x4 + Int32.ofInt 1))]) (st1 := []) (σ1 := σ) zM_X7_same dX7_same_85 rfl rfl rfl rfl ?_
  refine zw_goto (tgt := 47) zM_X7_same dX7_same_88 rfl ?_
  exact zw_weak2 h ⟨rfl, rfl, rfl, rfl, rfl, trivial⟩
set_option maxHeartbeats 4000000 in
set_option maxRecDepth 100000 in
theorem vc_X7_same_91 (x3 : Int32) (σ : zx_S) (K : Int32 → zx_S → Prop) (h : ((x3 = (0 : Int32) → K 0 σ) ∧ (¬ x3 = (0 : Int32) → K 1 σ))) : zwI 199 91 [none, none, none, some (.int x3), none] [] σ K := by
  refine zw_go (pc1 := 92) (L1 := [none, none, none, some (.int x3), none]) (st1 := [.int x3]) (σ1 := σ) zM_X7_same dX7_same_91 rfl rfl rfl rfl ?_
  refine zw_if_eq (tgt := 99) zM_X7_same dX7_same_92 rfl rfl (fun q => ?_) (fun q => ?_)
  · replace h := h.1 q
    refine zw_iconst (v := 0) zM_X7_same dX7_same_99 (by decide) ?_
    exact zw_reti zM_X7_same dX7_same_100 rfl h
  · replace h := h.2 q
    refine zw_iconst (v := 1) zM_X7_same dX7_same_95 (by decide) ?_
    refine zw_goto (tgt := 100) zM_X7_same dX7_same_96 rfl ?_
    exact zw_reti zM_X7_same dX7_same_100 rfl h
set_option maxHeartbeats 4000000 in
set_option maxRecDepth 100000 in
theorem vc_X7_store_0 (a0 : Nat) (x1 : Int32) (σ : zx_S) (K : Int32 → zx_S → Prop) (h : zwI 200 4 [some (.ref a0), some (.int x1), some (.int 1), some (.int 0)] [] σ K) : zwI 200 0 [some (.ref a0), some (.int x1), none, none] [] σ K := by
  refine zw_iconst (v := 1) zM_X7_store dX7_store_0 (by decide) ?_
  refine zw_go (pc1 := 2) (L1 := [some (.ref a0), some (.int x1), some (.int 1), none]) (st1 := []) (σ1 := σ) zM_X7_store dX7_store_1 rfl rfl rfl rfl ?_
  refine zw_iconst (v := 0) zM_X7_store dX7_store_2 (by decide) ?_
  refine zw_go (pc1 := 4) (L1 := [some (.ref a0), some (.int x1), some (.int 1), some (.int 0)]) (st1 := []) (σ1 := σ) zM_X7_store dX7_store_3 rfl rfl rfl rfl ?_
  exact zw_weak2 h ⟨rfl, rfl, rfl, rfl, trivial⟩
set_option maxHeartbeats 4000000 in
set_option maxRecDepth 100000 in
theorem vc_X7_store_4 (a0 : Nat) (x1 : Int32) (x2 : Int32) (x3 : Int32) (σ : zx_S) (K : Int32 → zx_S → Prop) (h : ((x1 ≤ x3 → ((x2 = (0 : Int32) → zK σ a0 = 20 ∧ zwV 196 0 [some (.ref a0), some (.int x1), none, none, none, none] [] σ (fun σ2 => zK σ2 a0 = 20 ∧ ((x1 ≤ (zI σ2 a0 22) → zwI 200 86 [some (.ref a0), some (.int x1), none, some (.int 0)] [] σ2 K) ∧ (¬ x1 ≤ (zI σ2 a0 22) → zwI 200 55 [some (.ref a0), none, none, some (.int 0)] [] σ2 K)))) ∧ (¬ x2 = (0 : Int32) → K 0 σ))) ∧ (¬ x1 ≤ x3 → ((x2 = (0 : Int32) → zwI 200 26 [some (.ref a0), some (.int x1), none, some (.int x3)] [] σ K) ∧ (¬ x2 = (0 : Int32) → zK σ a0 = 20 ∧ ∃ b5 : Nat, zR σ a0 20 = some b5 ∧ zK σ b5 = 1 ∧ zx_in x3 (zN σ b5) = true ∧ ((¬ (zI σ b5 (Int32.toNatClampNeg x3)) = (0 : Int32) → zwI 200 26 [some (.ref a0), some (.int x1), none, some (.int x3)] [] σ K) ∧ ((zI σ b5 (Int32.toNatClampNeg x3)) = (0 : Int32) → zwI 200 27 [some (.ref a0), some (.int x1), none, some (.int x3)] [.int 1] σ K))))))) : zwI 200 4 [some (.ref a0), some (.int x1), some (.int x2), some (.int x3)] [] σ K := by
  refine zw_go (pc1 := 5) (L1 := [some (.ref a0), some (.int x1), some (.int x2), some (.int x3)]) (st1 := [.int x3]) (σ1 := σ) zM_X7_store dX7_store_4 rfl rfl rfl rfl ?_
  refine zw_go (pc1 := 6) (L1 := [some (.ref a0), some (.int x1), some (.int x2), some (.int x3)]) (st1 := [.int x1, .int x3]) (σ1 := σ) zM_X7_store dX7_store_5 rfl rfl rfl rfl ?_
  refine zw_icmp_ge (tgt := 34) zM_X7_store dX7_store_6 rfl rfl (fun q => ?_) (fun q => ?_)
  · replace h := h.1 q
    refine zw_go (pc1 := 35) (L1 := [some (.ref a0), some (.int x1), some (.int x2), some (.int x3)]) (st1 := [.int x2]) (σ1 := σ) zM_X7_store dX7_store_34 rfl rfl rfl rfl ?_
    refine zw_if_eq (tgt := 40) zM_X7_store dX7_store_35 rfl rfl (fun q => ?_) (fun q => ?_)
    · replace h := h.1 q
      refine zw_go (pc1 := 41) (L1 := [some (.ref a0), some (.int x1), some (.int x2), some (.int x3)]) (st1 := [.ref a0]) (σ1 := σ) zM_X7_store dX7_store_40 rfl rfl rfl rfl ?_
      refine zw_go (pc1 := 42) (L1 := [some (.ref a0), some (.int x1), some (.int x2), some (.int x3)]) (st1 := [.int x1, .ref a0]) (σ1 := σ) zM_X7_store dX7_store_41 rfl rfl rfl rfl ?_
      obtain ⟨hk1, h⟩ := h
      refine zw_callV (as := [.ref a0, .int x1]) (rest := []) zM_X7_store dX7_store_42 (zx_calV zC_7_155) zM_X7_pack rfl rfl rfl rfl rfl (zx_args0 hk1 rfl) rfl h (fun σ2 h => ?_)
      refine zw_go (pc1 := 46) (L1 := [some (.ref a0), some (.int x1), some (.int x2), some (.int x3)]) (st1 := [.ref a0]) (σ1 := σ2) zM_X7_store dX7_store_45 rfl rfl rfl rfl ?_
      obtain ⟨hk3, h⟩ := h
      refine zw_getI zM_X7_store dX7_store_46 zF_7_149 rfl hk3 ?_
      refine zw_go (pc1 := 50) (L1 := [some (.ref a0), some (.int x1), some (.int x2), some (.int x3)]) (st1 := [.int x1, .int (zI σ2 a0 22)]) (σ1 := σ2) zM_X7_store dX7_store_49 rfl rfl rfl rfl ?_
      refine zw_icmp_ge (tgt := 84) zM_X7_store dX7_store_50 rfl rfl (fun q => ?_) (fun q => ?_)
      · replace h := h.1 q
        refine zw_iconst (v := 0) zM_X7_store dX7_store_84 (by decide) ?_
        refine zw_go (pc1 := 86) (L1 := [some (.ref a0), some (.int x1), some (.int x2), some (.int 0)]) (st1 := []) (σ1 := σ2) zM_X7_store dX7_store_85 rfl rfl rfl rfl ?_
        exact zw_weak2 h ⟨rfl, rfl, rfl, trivial⟩
      · replace h := h.2 q
        refine zw_iconst (v := 0) zM_X7_store dX7_store_53 (by decide) ?_
        refine zw_go (pc1 := 55) (L1 := [some (.ref a0), some (.int x1), some (.int x2), some (.int 0)]) (st1 := []) (σ1 := σ2) zM_X7_store dX7_store_54 rfl rfl rfl rfl ?_
        exact zw_weak2 h ⟨rfl, rfl, trivial⟩
    · replace h := h.2 q
      refine zw_iconst (v := 0) zM_X7_store dX7_store_38 (by decide) ?_
      exact zw_reti zM_X7_store dX7_store_39 rfl h
  · replace h := h.2 q
    refine zw_go (pc1 := 10) (L1 := [some (.ref a0), some (.int x1), some (.int x2), some (.int x3)]) (st1 := [.int x2]) (σ1 := σ) zM_X7_store dX7_store_9 rfl rfl rfl rfl ?_
    refine zw_if_eq (tgt := 26) zM_X7_store dX7_store_10 rfl rfl (fun q => ?_) (fun q => ?_)
    · replace h := h.1 q
      exact zw_weak2 h ⟨rfl, rfl, rfl, trivial⟩
    · replace h := h.2 q
      refine zw_go (pc1 := 14) (L1 := [some (.ref a0), some (.int x1), some (.int x2), some (.int x3)]) (st1 := [.ref a0]) (σ1 := σ) zM_X7_store dX7_store_13 rfl rfl rfl rfl ?_
      obtain ⟨hk4, h⟩ := h
      obtain ⟨b5, hr6, h⟩ := h
      refine zw_getR (a := b5) zM_X7_store dX7_store_14 zF_7_46 rfl hk4 hr6 ?_
      refine zw_go (pc1 := 18) (L1 := [some (.ref a0), some (.int x1), some (.int x2), some (.int x3)]) (st1 := [.int x3, .ref b5]) (σ1 := σ) zM_X7_store dX7_store_17 rfl rfl rfl rfl ?_
      obtain ⟨hk7, h⟩ := h
      obtain ⟨hi8, h⟩ := h
      refine zw_iald zM_X7_store dX7_store_18 ⟨Or.inl hk7, hi8⟩ ?_
      refine zw_if_ne (tgt := 26) zM_X7_store dX7_store_19 rfl rfl (fun q => ?_) (fun q => ?_)
      · replace h := h.1 q
        exact zw_weak2 h ⟨rfl, rfl, rfl, trivial⟩
      · replace h := h.2 q
        refine zw_iconst (v := 1) zM_X7_store dX7_store_22 (by decide) ?_
        refine zw_goto (tgt := 27) zM_X7_store dX7_store_23 rfl ?_
        exact zw_weak2 h ⟨rfl, rfl, rfl, trivial⟩
set_option maxHeartbeats 4000000 in
set_option maxRecDepth 100000 in
theorem vc_X7_store_26 (a0 : Nat) (x1 : Int32) (x3 : Int32) (σ : zx_S) (K : Int32 → zx_S → Prop) (h : zwI 200 27 [some (.ref a0), some (.int x1), none, some (.int x3)] [.int 0] σ K) : zwI 200 26 [some (.ref a0), some (.int x1), none, some (.int x3)] [] σ K := by
  refine zw_iconst (v := 0) zM_X7_store dX7_store_26 (by decide) ?_
  exact zw_weak2 h ⟨rfl, rfl, rfl, trivial⟩
set_option maxHeartbeats 4000000 in
set_option maxRecDepth 100000 in
theorem vc_X7_store_27 (a0 : Nat) (x1 : Int32) (x3 : Int32) (y0 : Int32) (σ : zx_S) (K : Int32 → zx_S → Prop) (h : zwI 200 4 [some (.ref a0), some (.int x1), some (.int y0), some (.int (x3 + Int32.ofInt 1))] [] σ K) : zwI 200 27 [some (.ref a0), some (.int x1), none, some (.int x3)] [.int y0] σ K := by
  refine zw_go (pc1 := 28) (L1 := [some (.ref a0), some (.int x1), some (.int y0), some (.int x3)]) (st1 := []) (σ1 := σ) zM_X7_store dX7_store_27 rfl rfl rfl rfl ?_
  refine zw_go (pc1 := 31) (L1 := [some (.ref a0), some (.int x1), some (.int y0), some (.int (x3 + Int32.ofInt 1))]) (st1 := []) (σ1 := σ) zM_X7_store dX7_store_28 rfl rfl rfl rfl ?_
  refine zw_goto (tgt := 4) zM_X7_store dX7_store_31 rfl ?_
  exact zw_weak2 h ⟨rfl, rfl, rfl, rfl, trivial⟩
set_option maxHeartbeats 4000000 in
set_option maxRecDepth 100000 in
theorem vc_X7_store_55 (a0 : Nat) (x3 : Int32) (σ : zx_S) (K : Int32 → zx_S → Prop) (h : zK σ a0 = 20 ∧ (((zI σ a0 22) ≤ x3 → K (zI σ a0 22) σ) ∧ (¬ (zI σ a0 22) ≤ x3 → ∃ b2 : Nat, zR σ a0 21 = some b2 ∧ zK σ b2 = 1 ∧ zx_in x3 (zN σ b2) = true ∧ zwV 203 0 [some (.ref a0), some (.int (zI σ b2 (Int32.toNatClampNeg x3)))] [] σ (fun σ6 => zwI 200 55 [some (.ref a0), none, none, some (.int (x3 + Int32.ofInt 1))] [] σ6 K)))) : zwI 200 55 [some (.ref a0), none, none, some (.int x3)] [] σ K := by
  refine zw_go (pc1 := 56) (L1 := [some (.ref a0), none, none, some (.int x3)]) (st1 := [.int x3]) (σ1 := σ) zM_X7_store dX7_store_55 rfl rfl rfl rfl ?_
  refine zw_go (pc1 := 57) (L1 := [some (.ref a0), none, none, some (.int x3)]) (st1 := [.ref a0, .int x3]) (σ1 := σ) zM_X7_store dX7_store_56 rfl rfl rfl rfl ?_
  obtain ⟨hk1, h⟩ := h
  refine zw_getI zM_X7_store dX7_store_57 zF_7_149 rfl hk1 ?_
  refine zw_icmp_ge (tgt := 79) zM_X7_store dX7_store_60 rfl rfl (fun q => ?_) (fun q => ?_)
  · replace h := h.1 q
    refine zw_go (pc1 := 80) (L1 := [some (.ref a0), none, none, some (.int x3)]) (st1 := [.ref a0]) (σ1 := σ) zM_X7_store dX7_store_79 rfl rfl rfl rfl ?_
    refine zw_getI zM_X7_store dX7_store_80 zF_7_149 rfl hk1 ?_
    exact zw_reti zM_X7_store dX7_store_83 rfl h
  · replace h := h.2 q
    refine zw_go (pc1 := 64) (L1 := [some (.ref a0), none, none, some (.int x3)]) (st1 := [.ref a0]) (σ1 := σ) zM_X7_store dX7_store_63 rfl rfl rfl rfl ?_
    refine zw_go (pc1 := 65) (L1 := [some (.ref a0), none, none, some (.int x3)]) (st1 := [.ref a0, .ref a0]) (σ1 := σ) zM_X7_store dX7_store_64 rfl rfl rfl rfl ?_
    obtain ⟨b2, hr3, h⟩ := h
    refine zw_getR (a := b2) zM_X7_store dX7_store_65 zF_7_49 rfl hk1 hr3 ?_
    refine zw_go (pc1 := 69) (L1 := [some (.ref a0), none, none, some (.int x3)]) (st1 := [.int x3, .ref b2, .ref a0]) (σ1 := σ) zM_X7_store dX7_store_68 rfl rfl rfl rfl ?_
    obtain ⟨hk4, h⟩ := h
    obtain ⟨hi5, h⟩ := h
    refine zw_iald zM_X7_store dX7_store_69 ⟨Or.inl hk4, hi5⟩ ?_
    refine zw_callV (as := [.ref a0, .int (zI σ b2 (Int32.toNatClampNeg x3))]) (rest := []) zM_X7_store dX7_store_70 (zx_calV zC_7_135) zM_X7_tell rfl rfl rfl rfl rfl (zx_args0 hk1 rfl) rfl h (fun σ6 h => ?_)
    refine zw_go (pc1 := 76) (L1 := [some (.ref a0), none, none, some (.int (x3 + Int32.ofInt 1))]) (st1 := []) (σ1 := σ6) zM_X7_store dX7_store_73 rfl rfl rfl rfl ?_
    refine zw_goto (tgt := 55) zM_X7_store dX7_store_76 rfl ?_
    exact zw_weak2 h ⟨rfl, rfl, trivial⟩
set_option maxHeartbeats 4000000 in
set_option maxRecDepth 100000 in
theorem vc_X7_store_86 (a0 : Nat) (x1 : Int32) (x3 : Int32) (σ : zx_S) (K : Int32 → zx_S → Prop) (h : ((x1 ≤ x3 → K (32768 + x1) σ) ∧ (¬ x1 ≤ x3 → zK σ a0 = 20 ∧ ∃ b2 : Nat, zR σ a0 20 = some b2 ∧ zK σ b2 = 1 ∧ zx_in x3 (zN σ b2) = true ∧ zwV 203 0 [some (.ref a0), some (.int (zI σ b2 (Int32.toNatClampNeg x3)))] [] σ (fun σ6 => zwI 200 86 [some (.ref a0), some (.int x1), none, some (.int (x3 + Int32.ofInt 1))] [] σ6 K)))) : zwI 200 86 [some (.ref a0), some (.int x1), none, some (.int x3)] [] σ K := by
  refine zw_go (pc1 := 87) (L1 := [some (.ref a0), some (.int x1), none, some (.int x3)]) (st1 := [.int x3]) (σ1 := σ) zM_X7_store dX7_store_86 rfl rfl rfl rfl ?_
  refine zw_go (pc1 := 88) (L1 := [some (.ref a0), some (.int x1), none, some (.int x3)]) (st1 := [.int x1, .int x3]) (σ1 := σ) zM_X7_store dX7_store_87 rfl rfl rfl rfl ?_
  refine zw_icmp_ge (tgt := 107) zM_X7_store dX7_store_88 rfl rfl (fun q => ?_) (fun q => ?_)
  · replace h := h.1 q
    refine zw_ldc (v := 32768) zM_X7_store dX7_store_107 zK_7_158 ?_
    refine zw_go (pc1 := 110) (L1 := [some (.ref a0), some (.int x1), none, some (.int x3)]) (st1 := [.int x1, .int 32768]) (σ1 := σ) zM_X7_store dX7_store_109 rfl rfl rfl rfl ?_
    refine zw_go (pc1 := 111) (L1 := [some (.ref a0), some (.int x1), none, some (.int x3)]) (st1 := [.int (32768 + x1)]) (σ1 := σ) zM_X7_store dX7_store_110 rfl rfl rfl rfl ?_
    exact zw_reti zM_X7_store dX7_store_111 rfl h
  · replace h := h.2 q
    refine zw_go (pc1 := 92) (L1 := [some (.ref a0), some (.int x1), none, some (.int x3)]) (st1 := [.ref a0]) (σ1 := σ) zM_X7_store dX7_store_91 rfl rfl rfl rfl ?_
    refine zw_go (pc1 := 93) (L1 := [some (.ref a0), some (.int x1), none, some (.int x3)]) (st1 := [.ref a0, .ref a0]) (σ1 := σ) zM_X7_store dX7_store_92 rfl rfl rfl rfl ?_
    obtain ⟨hk1, h⟩ := h
    obtain ⟨b2, hr3, h⟩ := h
    refine zw_getR (a := b2) zM_X7_store dX7_store_93 zF_7_46 rfl hk1 hr3 ?_
    refine zw_go (pc1 := 97) (L1 := [some (.ref a0), some (.int x1), none, some (.int x3)]) (st1 := [.int x3, .ref b2, .ref a0]) (σ1 := σ) zM_X7_store dX7_store_96 rfl rfl rfl rfl ?_
    obtain ⟨hk4, h⟩ := h
    obtain ⟨hi5, h⟩ := h
    refine zw_iald zM_X7_store dX7_store_97 ⟨Or.inl hk4, hi5⟩ ?_
    refine zw_callV (as := [.ref a0, .int (zI σ b2 (Int32.toNatClampNeg x3))]) (rest := []) zM_X7_store dX7_store_98 (zx_calV zC_7_135) zM_X7_tell rfl rfl rfl rfl rfl (zx_args0 hk1 rfl) rfl h (fun σ6 h => ?_)
    refine zw_go (pc1 := 104) (L1 := [some (.ref a0), some (.int x1), none, some (.int (x3 + Int32.ofInt 1))]) (st1 := []) (σ1 := σ6) zM_X7_store dX7_store_101 rfl rfl rfl rfl ?_
    refine zw_goto (tgt := 86) zM_X7_store dX7_store_104 rfl ?_
    exact zw_weak2 h ⟨rfl, rfl, rfl, trivial⟩
set_option maxHeartbeats 4000000 in
set_option maxRecDepth 100000 in
theorem vc_X7_sumOf_0 (a0 : Nat) (x1 : Int32) (σ : zx_S) (K : Int32 → zx_S → Prop) (h : zwI 201 5 [some (.ref a0), some (.int x1), some (.long (Int64.ofNat 0)), none, some (.int 0)] [] σ K) : zwI 201 0 [some (.ref a0), some (.int x1), none, none, none] [] σ K := by
  refine zw_go (pc1 := 1) (L1 := [some (.ref a0), some (.int x1), none, none, none]) (st1 := [.long (Int64.ofNat 0)]) (σ1 := σ) zM_X7_sumOf dX7_sumOf_0 rfl rfl rfl rfl ?_
  refine zw_go (pc1 := 2) (L1 := [some (.ref a0), some (.int x1), some (.long (Int64.ofNat 0)), none, none]) (st1 := []) (σ1 := σ) zM_X7_sumOf dX7_sumOf_1 rfl rfl rfl rfl ?_
  refine zw_iconst (v := 0) zM_X7_sumOf dX7_sumOf_2 (by decide) ?_
  refine zw_go (pc1 := 5) (L1 := [some (.ref a0), some (.int x1), some (.long (Int64.ofNat 0)), none, some (.int 0)]) (st1 := []) (σ1 := σ) zM_X7_sumOf dX7_sumOf_3 rfl rfl rfl rfl ?_
  exact zw_weak2 h ⟨rfl, rfl, rfl, rfl, trivial⟩
set_option maxHeartbeats 4000000 in
set_option maxRecDepth 100000 in
theorem vc_X7_sumOf_5 (a0 : Nat) (x1 : Int32) (w2 : Int64) (x4 : Int32) (σ : zx_S) (K : Int32 → zx_S → Prop) (h : zK σ a0 = 20 ∧ ∃ b2 : Nat, zR σ a0 13 = some b2 ∧ zK σ b2 = 1 ∧ zx_in x1 (zN σ b2) = true ∧ (((zI σ b2 (Int32.toNatClampNeg x1)) ≤ x4 → K (Int64.toInt32 (w2 - w2 / 65521 * 65521)) σ) ∧ (¬ (zI σ b2 (Int32.toNatClampNeg x1)) ≤ x4 → ((x4 = (16 : Int32) → zwI 201 31 [some (.ref a0), some (.int x1), none, none, some (.int x4)] [.long w2] σ K) ∧ (¬ x4 = (16 : Int32) → ((¬ x4 = (17 : Int32) → ∃ b6 : Nat, zR σ a0 12 = some b6 ∧ zK σ b6 = 1 ∧ zx_in ((6000 * x1) + x4) (zN σ b6) = true ∧ zwI 201 55 [some (.ref a0), some (.int x1), none, none, some (.int x4)] [.long ((Int32.toInt64 (zI σ b6 (Int32.toNatClampNeg ((6000 * x1) + x4)))) * (Int32.toInt64 (x4 + 1))), .long w2] σ K) ∧ (x4 = (17 : Int32) → zwI 201 31 [some (.ref a0), some (.int x1), none, none, some (.int x4)] [.long w2] σ K))))))) : zwI 201 5 [some (.ref a0), some (.int x1), some (.long w2), none, some (.int x4)] [] σ K := by
  refine zw_go (pc1 := 7) (L1 := [some (.ref a0), some (.int x1), some (.long w2), none, some (.int x4)]) (st1 := [.int x4]) (σ1 := σ) zM_X7_sumOf dX7_sumOf_5 rfl rfl rfl rfl ?_
  refine zw_go (pc1 := 8) (L1 := [some (.ref a0), some (.int x1), some (.long w2), none, some (.int x4)]) (st1 := [.ref a0, .int x4]) (σ1 := σ) zM_X7_sumOf dX7_sumOf_7 rfl rfl rfl rfl ?_
  obtain ⟨hk1, h⟩ := h
  obtain ⟨b2, hr3, h⟩ := h
  refine zw_getR (a := b2) zM_X7_sumOf dX7_sumOf_8 zF_7_37 rfl hk1 hr3 ?_
  refine zw_go (pc1 := 12) (L1 := [some (.ref a0), some (.int x1), some (.long w2), none, some (.int x4)]) (st1 := [.int x1, .ref b2, .int x4]) (σ1 := σ) zM_X7_sumOf dX7_sumOf_11 rfl rfl rfl rfl ?_
  obtain ⟨hk4, h⟩ := h
  obtain ⟨hi5, h⟩ := h
  refine zw_iald zM_X7_sumOf dX7_sumOf_12 ⟨Or.inl hk4, hi5⟩ ?_
  refine zw_icmp_ge (tgt := 63) zM_X7_sumOf dX7_sumOf_13 rfl rfl (fun q => ?_) (fun q => ?_)
  · replace h := h.1 q
    refine zw_go (pc1 := 64) (L1 := [some (.ref a0), some (.int x1), some (.long w2), none, some (.int x4)]) (st1 := [.long w2]) (σ1 := σ) zM_X7_sumOf dX7_sumOf_63 rfl rfl rfl rfl ?_
    refine zw_ldc2 (v := 65521) zM_X7_sumOf dX7_sumOf_64 zJ_7_193 ?_
    refine zw_lrem zM_X7_sumOf dX7_sumOf_67 (by decide) ?_
    refine zw_go (pc1 := 69) (L1 := [some (.ref a0), some (.int x1), some (.long w2), none, some (.int x4)]) (st1 := [.int (Int64.toInt32 (w2 - w2 / 65521 * 65521))]) (σ1 := σ) zM_X7_sumOf dX7_sumOf_68 rfl rfl rfl rfl ?_
    exact zw_reti zM_X7_sumOf dX7_sumOf_69 rfl h
  · replace h := h.2 q
    refine zw_go (pc1 := 17) (L1 := [some (.ref a0), some (.int x1), some (.long w2), none, some (.int x4)]) (st1 := [.long w2]) (σ1 := σ) zM_X7_sumOf dX7_sumOf_16 rfl rfl rfl rfl ?_
    refine zw_go (pc1 := 19) (L1 := [some (.ref a0), some (.int x1), some (.long w2), none, some (.int x4)]) (st1 := [.int x4, .long w2]) (σ1 := σ) zM_X7_sumOf dX7_sumOf_17 rfl rfl rfl rfl ?_
    refine zw_bipush (v := 16) zM_X7_sumOf dX7_sumOf_19 (by decide) ?_
    refine zw_icmp_eq (tgt := 31) zM_X7_sumOf dX7_sumOf_21 rfl rfl (fun q => ?_) (fun q => ?_)
    · replace h := h.1 q
      exact zw_weak2 h ⟨rfl, rfl, rfl, trivial⟩
    · replace h := h.2 q
      refine zw_go (pc1 := 26) (L1 := [some (.ref a0), some (.int x1), some (.long w2), none, some (.int x4)]) (st1 := [.int x4, .long w2]) (σ1 := σ) zM_X7_sumOf dX7_sumOf_24 rfl rfl rfl rfl ?_
      refine zw_bipush (v := 17) zM_X7_sumOf dX7_sumOf_26 (by decide) ?_
      refine zw_icmp_ne (tgt := 35) zM_X7_sumOf dX7_sumOf_28 rfl rfl (fun q => ?_) (fun q => ?_)
      · replace h := h.1 q
        refine zw_go (pc1 := 36) (L1 := [some (.ref a0), some (.int x1), some (.long w2), none, some (.int x4)]) (st1 := [.ref a0, .long w2]) (σ1 := σ) zM_X7_sumOf dX7_sumOf_35 rfl rfl rfl rfl ?_
        obtain ⟨b6, hr7, h⟩ := h
        refine zw_getR (a := b6) zM_X7_sumOf dX7_sumOf_36 zF_7_34 rfl hk1 hr7 ?_
        refine zw_sipush (v := 6000) zM_X7_sumOf dX7_sumOf_39 (by decide) ?_
        refine zw_go (pc1 := 43) (L1 := [some (.ref a0), some (.int x1), some (.long w2), none, some (.int x4)]) (st1 := [.int x1, .int 6000, .ref b6, .long w2]) (σ1 := σ) zM_X7_sumOf dX7_sumOf_42 rfl rfl rfl rfl ?_
        refine zw_go (pc1 := 44) (L1 := [some (.ref a0), some (.int x1), some (.long w2), none, some (.int x4)]) (st1 := [.int (6000 * x1), .ref b6, .long w2]) (σ1 := σ) zM_X7_sumOf dX7_sumOf_43 rfl rfl rfl rfl ?_
        refine zw_go (pc1 := 46) (L1 := [some (.ref a0), some (.int x1), some (.long w2), none, some (.int x4)]) (st1 := [.int x4, .int (6000 * x1), .ref b6, .long w2]) (σ1 := σ) zM_X7_sumOf dX7_sumOf_44 rfl rfl rfl rfl ?_
        refine zw_go (pc1 := 47) (L1 := [some (.ref a0), some (.int x1), some (.long w2), none, some (.int x4)]) (st1 := [.int ((6000 * x1) + x4), .ref b6, .long w2]) (σ1 := σ) zM_X7_sumOf dX7_sumOf_46 rfl rfl rfl rfl ?_
        obtain ⟨hk8, h⟩ := h
        obtain ⟨hi9, h⟩ := h
        refine zw_iald zM_X7_sumOf dX7_sumOf_47 ⟨Or.inl hk8, hi9⟩ ?_
        refine zw_go (pc1 := 49) (L1 := [some (.ref a0), some (.int x1), some (.long w2), none, some (.int x4)]) (st1 := [.long (Int32.toInt64 (zI σ b6 (Int32.toNatClampNeg ((6000 * x1) + x4)))), .long w2]) (σ1 := σ) zM_X7_sumOf dX7_sumOf_48 rfl rfl rfl rfl ?_
        refine zw_go (pc1 := 51) (L1 := [some (.ref a0), some (.int x1), some (.long w2), none, some (.int x4)]) (st1 := [.int x4, .long (Int32.toInt64 (zI σ b6 (Int32.toNatClampNeg ((6000 * x1) + x4)))), .long w2]) (σ1 := σ) zM_X7_sumOf dX7_sumOf_49 rfl rfl rfl rfl ?_
        refine zw_iconst (v := 1) zM_X7_sumOf dX7_sumOf_51 (by decide) ?_
        refine zw_go (pc1 := 53) (L1 := [some (.ref a0), some (.int x1), some (.long w2), none, some (.int x4)]) (st1 := [.int (x4 + 1), .long (Int32.toInt64 (zI σ b6 (Int32.toNatClampNeg ((6000 * x1) + x4)))), .long w2]) (σ1 := σ) zM_X7_sumOf dX7_sumOf_52 rfl rfl rfl rfl ?_
        refine zw_go (pc1 := 54) (L1 := [some (.ref a0), some (.int x1), some (.long w2), none, some (.int x4)]) (st1 := [.long (Int32.toInt64 (x4 + 1)), .long (Int32.toInt64 (zI σ b6 (Int32.toNatClampNeg ((6000 * x1) + x4)))), .long w2]) (σ1 := σ) zM_X7_sumOf dX7_sumOf_53 rfl rfl rfl rfl ?_
        refine zw_go (pc1 := 55) (L1 := [some (.ref a0), some (.int x1), some (.long w2), none, some (.int x4)]) (st1 := [.long ((Int32.toInt64 (zI σ b6 (Int32.toNatClampNeg ((6000 * x1) + x4)))) * (Int32.toInt64 (x4 + 1))), .long w2]) (σ1 := σ) zM_X7_sumOf dX7_sumOf_54 rfl rfl rfl rfl ?_
        exact zw_weak2 h ⟨rfl, rfl, rfl, trivial⟩
      · replace h := h.2 q
        exact zw_weak2 h ⟨rfl, rfl, rfl, trivial⟩
set_option maxHeartbeats 4000000 in
set_option maxRecDepth 100000 in
theorem vc_X7_sumOf_31 (a0 : Nat) (x1 : Int32) (x4 : Int32) (z0 : Int64) (σ : zx_S) (K : Int32 → zx_S → Prop) (h : zwI 201 55 [some (.ref a0), some (.int x1), none, none, some (.int x4)] [.long (Int64.ofNat 0), .long z0] σ K) : zwI 201 31 [some (.ref a0), some (.int x1), none, none, some (.int x4)] [.long z0] σ K := by
  refine zw_go (pc1 := 32) (L1 := [some (.ref a0), some (.int x1), none, none, some (.int x4)]) (st1 := [.long (Int64.ofNat 0), .long z0]) (σ1 := σ) zM_X7_sumOf dX7_sumOf_31 rfl rfl rfl rfl ?_
  refine zw_goto (tgt := 55) zM_X7_sumOf dX7_sumOf_32 rfl ?_
  exact zw_weak2 h ⟨rfl, rfl, rfl, trivial⟩
set_option maxHeartbeats 4000000 in
set_option maxRecDepth 100000 in
theorem vc_X7_sumOf_55 (a0 : Nat) (x1 : Int32) (x4 : Int32) (z0 : Int64) (z1 : Int64) (σ : zx_S) (K : Int32 → zx_S → Prop) (h : zwI 201 5 [some (.ref a0), some (.int x1), some (.long (z1 + z0)), none, some (.int (x4 + Int32.ofInt 1))] [] σ K) : zwI 201 55 [some (.ref a0), some (.int x1), none, none, some (.int x4)] [.long z0, .long z1] σ K := by
  refine zw_go (pc1 := 56) (L1 := [some (.ref a0), some (.int x1), none, none, some (.int x4)]) (st1 := [.long (z1 + z0)]) (σ1 := σ) zM_X7_sumOf dX7_sumOf_55 rfl rfl rfl rfl ?_
  refine zw_go (pc1 := 57) (L1 := [some (.ref a0), some (.int x1), some (.long (z1 + z0)), none, some (.int x4)]) (st1 := []) (σ1 := σ) zM_X7_sumOf dX7_sumOf_56 rfl rfl rfl rfl ?_
  refine zw_go (pc1 := 60) (L1 := [some (.ref a0), some (.int x1), some (.long (z1 + z0)), none, some (.int (x4 + Int32.ofInt 1))]) (st1 := []) (σ1 := σ) zM_X7_sumOf dX7_sumOf_57 rfl rfl rfl rfl ?_
  refine zw_goto (tgt := 5) zM_X7_sumOf dX7_sumOf_60 rfl ?_
  exact zw_weak2 h ⟨rfl, rfl, rfl, rfl, trivial⟩
set_option maxHeartbeats 4000000 in
set_option maxRecDepth 100000 in
theorem vc_X7_tailsIn_0 (a0 : Nat) (x1 : Int32) (σ : zx_S) (K : Int32 → zx_S → Prop) (h : zK σ a0 = 20 ∧ zwI 210 0 [some (.ref a0), some (.int x1), some (.int 12)] [] σ (fun v3 σ2 => zK σ2 a0 = 20 ∧ zwI 210 0 [some (.ref a0), some (.int x1), some (.int 10)] [] σ2 (fun v6 σ5 => K ((v3 - v6) / 5) σ5))) : zwI 202 0 [some (.ref a0), some (.int x1)] [] σ K := by
  refine zw_go (pc1 := 1) (L1 := [some (.ref a0), some (.int x1)]) (st1 := [.ref a0]) (σ1 := σ) zM_X7_tailsIn dX7_tailsIn_0 rfl rfl rfl rfl ?_
  refine zw_go (pc1 := 2) (L1 := [some (.ref a0), some (.int x1)]) (st1 := [.int x1, .ref a0]) (σ1 := σ) zM_X7_tailsIn dX7_tailsIn_1 rfl rfl rfl rfl ?_
  refine zw_bipush (v := 12) zM_X7_tailsIn dX7_tailsIn_2 (by decide) ?_
  obtain ⟨hk1, h⟩ := h
  refine zw_callI (as := [.ref a0, .int x1, .int 12]) (rest := []) zM_X7_tailsIn dX7_tailsIn_4 (zx_calV zC_7_201) zM_X7_word rfl rfl rfl rfl rfl (zx_args0 hk1 rfl) rfl h (fun v3 σ2 h => ?_)
  refine zw_go (pc1 := 8) (L1 := [some (.ref a0), some (.int x1)]) (st1 := [.ref a0, .int v3]) (σ1 := σ2) zM_X7_tailsIn dX7_tailsIn_7 rfl rfl rfl rfl ?_
  refine zw_go (pc1 := 9) (L1 := [some (.ref a0), some (.int x1)]) (st1 := [.int x1, .ref a0, .int v3]) (σ1 := σ2) zM_X7_tailsIn dX7_tailsIn_8 rfl rfl rfl rfl ?_
  refine zw_bipush (v := 10) zM_X7_tailsIn dX7_tailsIn_9 (by decide) ?_
  obtain ⟨hk4, h⟩ := h
  refine zw_callI (as := [.ref a0, .int x1, .int 10]) (rest := [.int v3]) zM_X7_tailsIn dX7_tailsIn_11 (zx_calV zC_7_201) zM_X7_word rfl rfl rfl rfl rfl (zx_args0 hk4 rfl) rfl h (fun v6 σ5 h => ?_)
  refine zw_go (pc1 := 15) (L1 := [some (.ref a0), some (.int x1)]) (st1 := [.int (v3 - v6)]) (σ1 := σ5) zM_X7_tailsIn dX7_tailsIn_14 rfl rfl rfl rfl ?_
  refine zw_iconst (v := 5) zM_X7_tailsIn dX7_tailsIn_15 (by decide) ?_
  refine zw_div zM_X7_tailsIn dX7_tailsIn_16 (by decide) ?_
  exact zw_reti zM_X7_tailsIn dX7_tailsIn_17 rfl h
set_option maxHeartbeats 4000000 in
set_option maxRecDepth 100000 in
theorem vc_X7_tell_0 (a0 : Nat) (x1 : Int32) (σ : zx_S) (K : zx_S → Prop) (h : zK σ a0 = 20 ∧ ∃ b2 : Nat, zR σ a0 12 = some b2 ∧ zK σ b2 = 1 ∧ zx_in ((6000 * (zI σ a0 14)) + (zI σ a0 15)) (zN σ b2) = true ∧ ∀ σ6 : zx_S, σ6 = zx_pI σ b2 (Int32.toNatClampNeg ((6000 * (zI σ a0 14)) + (zI σ a0 15))) x1 → ∀ σ8 : zx_S, σ8 = zx_pI σ6 a0 15 ((zI σ6 a0 15) + 1) → K σ8) : zwV 203 0 [some (.ref a0), some (.int x1)] [] σ K := by
  refine zw_go (pc1 := 1) (L1 := [some (.ref a0), some (.int x1)]) (st1 := [.ref a0]) (σ1 := σ) zM_X7_tell dX7_tell_0 rfl rfl rfl rfl ?_
  obtain ⟨hk1, h⟩ := h
  obtain ⟨b2, hr3, h⟩ := h
  refine zw_getR (a := b2) zM_X7_tell dX7_tell_1 zF_7_34 rfl hk1 hr3 ?_
  refine zw_sipush (v := 6000) zM_X7_tell dX7_tell_4 (by decide) ?_
  refine zw_go (pc1 := 8) (L1 := [some (.ref a0), some (.int x1)]) (st1 := [.ref a0, .int 6000, .ref b2]) (σ1 := σ) zM_X7_tell dX7_tell_7 rfl rfl rfl rfl ?_
  refine zw_getI zM_X7_tell dX7_tell_8 zF_7_129 rfl hk1 ?_
  refine zw_go (pc1 := 12) (L1 := [some (.ref a0), some (.int x1)]) (st1 := [.int (6000 * (zI σ a0 14)), .ref b2]) (σ1 := σ) zM_X7_tell dX7_tell_11 rfl rfl rfl rfl ?_
  refine zw_go (pc1 := 13) (L1 := [some (.ref a0), some (.int x1)]) (st1 := [.ref a0, .int (6000 * (zI σ a0 14)), .ref b2]) (σ1 := σ) zM_X7_tell dX7_tell_12 rfl rfl rfl rfl ?_
  refine zw_getI zM_X7_tell dX7_tell_13 zF_7_132 rfl hk1 ?_
  refine zw_go (pc1 := 17) (L1 := [some (.ref a0), some (.int x1)]) (st1 := [.int ((6000 * (zI σ a0 14)) + (zI σ a0 15)), .ref b2]) (σ1 := σ) zM_X7_tell dX7_tell_16 rfl rfl rfl rfl ?_
  refine zw_go (pc1 := 18) (L1 := [some (.ref a0), some (.int x1)]) (st1 := [.int x1, .int ((6000 * (zI σ a0 14)) + (zI σ a0 15)), .ref b2]) (σ1 := σ) zM_X7_tell dX7_tell_17 rfl rfl rfl rfl ?_
  obtain ⟨hk4, h⟩ := h
  obtain ⟨hi5, h⟩ := h
  obtain ⟨σ6, e7⟩ : ∃ z9 : zx_S, z9 = zx_pI σ b2 (Int32.toNatClampNeg ((6000 * (zI σ a0 14)) + (zI σ a0 15))) x1 := ⟨_, rfl⟩
  replace h := h σ6 e7
  refine zw_iast zM_X7_tell dX7_tell_18 ⟨hk4, hi5⟩ e7 ?_
  refine zw_go (pc1 := 20) (L1 := [some (.ref a0), some (.int x1)]) (st1 := [.ref a0]) (σ1 := σ6) zM_X7_tell dX7_tell_19 rfl rfl rfl rfl ?_
  refine zw_go (pc1 := 21) (L1 := [some (.ref a0), some (.int x1)]) (st1 := [.ref a0, .ref a0]) (σ1 := σ6) zM_X7_tell dX7_tell_20 rfl rfl rfl rfl ?_
  refine zw_getI zM_X7_tell dX7_tell_21 zF_7_132 rfl (by rw [e7]; exact hk1) ?_
  refine zw_iconst (v := 1) zM_X7_tell dX7_tell_24 (by decide) ?_
  refine zw_go (pc1 := 26) (L1 := [some (.ref a0), some (.int x1)]) (st1 := [.int ((zI σ6 a0 15) + 1), .ref a0]) (σ1 := σ6) zM_X7_tell dX7_tell_25 rfl rfl rfl rfl ?_
  obtain ⟨σ8, e9⟩ : ∃ z9 : zx_S, z9 = zx_pI σ6 a0 15 ((zI σ6 a0 15) + 1) := ⟨_, rfl⟩
  replace h := h σ8 e9
  refine zw_putI zM_X7_tell dX7_tell_26 zF_7_132 rfl rfl (by rw [e7]; exact hk1) e9 ?_
  exact zw_retv zM_X7_tell dX7_tell_29 rfl h
set_option maxHeartbeats 4000000 in
set_option maxRecDepth 100000 in
theorem vc_X7_tellFile_0 (a0 : Nat) (x1 : Int32) (x2 : Int32) (σ : zx_S) (K : zx_S → Prop) (h : zK σ a0 = 20 ∧ ∃ b2 : Nat, zR σ a0 17 = some b2 ∧ zK σ b2 = 1 ∧ zx_in x1 (zN σ b2) = true ∧ ∃ b6 : Nat, zR σ a0 5 = some b6 ∧ zK σ b6 = 1 ∧ zx_in (zI σ b2 (Int32.toNatClampNeg x1)) (zN σ b6) = true ∧ ¬ x2 = 0 ∧ ∃ b11 : Nat, zR σ a0 23 = some b11 ∧ ((¬ ((zI σ b6 (Int32.toNatClampNeg (zI σ b2 (Int32.toNatClampNeg x1)))) / x2) = (0 : Int32) → zwV 204 35 [some (.ref a0), some (.int x1), some (.int x2), some (.int (zI σ b2 (Int32.toNatClampNeg x1))), some (.int ((zI σ b6 (Int32.toNatClampNeg (zI σ b2 (Int32.toNatClampNeg x1)))) / x2)), none, none, none] [.int (zI σ a0 15), .int x1, .ref b11] σ K) ∧ (((zI σ b6 (Int32.toNatClampNeg (zI σ b2 (Int32.toNatClampNeg x1)))) / x2) = (0 : Int32) → zwV 204 35 [some (.ref a0), some (.int x1), some (.int x2), some (.int (zI σ b2 (Int32.toNatClampNeg x1))), some (.int ((zI σ b6 (Int32.toNatClampNeg (zI σ b2 (Int32.toNatClampNeg x1)))) / x2)), none, none, none] [.int 0, .int x1, .ref b11] σ K))) : zwV 204 0 [some (.ref a0), some (.int x1), some (.int x2), none, none, none, none, none] [] σ K := by
  refine zw_go (pc1 := 1) (L1 := [some (.ref a0), some (.int x1), some (.int x2), none, none, none, none, none]) (st1 := [.ref a0]) (σ1 := σ) zM_X7_tellFile dX7_tellFile_0 rfl rfl rfl rfl ?_
  obtain ⟨hk1, h⟩ := h
  obtain ⟨b2, hr3, h⟩ := h
  refine zw_getR (a := b2) zM_X7_tellFile dX7_tellFile_1 zF_7_43 rfl hk1 hr3 ?_
  refine zw_go (pc1 := 5) (L1 := [some (.ref a0), some (.int x1), some (.int x2), none, none, none, none, none]) (st1 := [.int x1, .ref b2]) (σ1 := σ) zM_X7_tellFile dX7_tellFile_4 rfl rfl rfl rfl ?_
  obtain ⟨hk4, h⟩ := h
  obtain ⟨hi5, h⟩ := h
  refine zw_iald zM_X7_tellFile dX7_tellFile_5 ⟨Or.inl hk4, hi5⟩ ?_
  refine zw_go (pc1 := 7) (L1 := [some (.ref a0), some (.int x1), some (.int x2), some (.int (zI σ b2 (Int32.toNatClampNeg x1))), none, none, none, none]) (st1 := []) (σ1 := σ) zM_X7_tellFile dX7_tellFile_6 rfl rfl rfl rfl ?_
  refine zw_go (pc1 := 8) (L1 := [some (.ref a0), some (.int x1), some (.int x2), some (.int (zI σ b2 (Int32.toNatClampNeg x1))), none, none, none, none]) (st1 := [.ref a0]) (σ1 := σ) zM_X7_tellFile dX7_tellFile_7 rfl rfl rfl rfl ?_
  obtain ⟨b6, hr7, h⟩ := h
  refine zw_getR (a := b6) zM_X7_tellFile dX7_tellFile_8 zF_7_19 rfl hk1 hr7 ?_
  refine zw_go (pc1 := 12) (L1 := [some (.ref a0), some (.int x1), some (.int x2), some (.int (zI σ b2 (Int32.toNatClampNeg x1))), none, none, none, none]) (st1 := [.int (zI σ b2 (Int32.toNatClampNeg x1)), .ref b6]) (σ1 := σ) zM_X7_tellFile dX7_tellFile_11 rfl rfl rfl rfl ?_
  obtain ⟨hk8, h⟩ := h
  obtain ⟨hi9, h⟩ := h
  refine zw_iald zM_X7_tellFile dX7_tellFile_12 ⟨Or.inl hk8, hi9⟩ ?_
  refine zw_go (pc1 := 14) (L1 := [some (.ref a0), some (.int x1), some (.int x2), some (.int (zI σ b2 (Int32.toNatClampNeg x1))), none, none, none, none]) (st1 := [.int x2, .int (zI σ b6 (Int32.toNatClampNeg (zI σ b2 (Int32.toNatClampNeg x1))))]) (σ1 := σ) zM_X7_tellFile dX7_tellFile_13 rfl rfl rfl rfl ?_
  obtain ⟨hz10, h⟩ := h
  refine zw_div zM_X7_tellFile dX7_tellFile_14 hz10 ?_
  refine zw_go (pc1 := 17) (L1 := [some (.ref a0), some (.int x1), some (.int x2), some (.int (zI σ b2 (Int32.toNatClampNeg x1))), some (.int ((zI σ b6 (Int32.toNatClampNeg (zI σ b2 (Int32.toNatClampNeg x1)))) / x2)), none, none, none]) (st1 := []) (σ1 := σ) zM_X7_tellFile dX7_tellFile_15 rfl rfl rfl rfl ?_
  refine zw_go (pc1 := 18) (L1 := [some (.ref a0), some (.int x1), some (.int x2), some (.int (zI σ b2 (Int32.toNatClampNeg x1))), some (.int ((zI σ b6 (Int32.toNatClampNeg (zI σ b2 (Int32.toNatClampNeg x1)))) / x2)), none, none, none]) (st1 := [.ref a0]) (σ1 := σ) zM_X7_tellFile dX7_tellFile_17 rfl rfl rfl rfl ?_
  obtain ⟨b11, hr12, h⟩ := h
  refine zw_getR (a := b11) zM_X7_tellFile dX7_tellFile_18 zF_7_52 rfl hk1 hr12 ?_
  refine zw_go (pc1 := 22) (L1 := [some (.ref a0), some (.int x1), some (.int x2), some (.int (zI σ b2 (Int32.toNatClampNeg x1))), some (.int ((zI σ b6 (Int32.toNatClampNeg (zI σ b2 (Int32.toNatClampNeg x1)))) / x2)), none, none, none]) (st1 := [.int x1, .ref b11]) (σ1 := σ) zM_X7_tellFile dX7_tellFile_21 rfl rfl rfl rfl ?_
  refine zw_go (pc1 := 24) (L1 := [some (.ref a0), some (.int x1), some (.int x2), some (.int (zI σ b2 (Int32.toNatClampNeg x1))), some (.int ((zI σ b6 (Int32.toNatClampNeg (zI σ b2 (Int32.toNatClampNeg x1)))) / x2)), none, none, none]) (st1 := [.int ((zI σ b6 (Int32.toNatClampNeg (zI σ b2 (Int32.toNatClampNeg x1)))) / x2), .int x1, .ref b11]) (σ1 := σ) zM_X7_tellFile dX7_tellFile_22 rfl rfl rfl rfl ?_
  refine zw_if_ne (tgt := 31) zM_X7_tellFile dX7_tellFile_24 rfl rfl (fun q => ?_) (fun q => ?_)
  · replace h := h.1 q
    refine zw_go (pc1 := 32) (L1 := [some (.ref a0), some (.int x1), some (.int x2), some (.int (zI σ b2 (Int32.toNatClampNeg x1))), some (.int ((zI σ b6 (Int32.toNatClampNeg (zI σ b2 (Int32.toNatClampNeg x1)))) / x2)), none, none, none]) (st1 := [.ref a0, .int x1, .ref b11]) (σ1 := σ) zM_X7_tellFile dX7_tellFile_31 rfl rfl rfl rfl ?_
    refine zw_getI zM_X7_tellFile dX7_tellFile_32 zF_7_132 rfl hk1 ?_
    exact zw_weak2 h ⟨rfl, rfl, rfl, rfl, rfl, trivial⟩
  · replace h := h.2 q
    refine zw_iconst (v := 0) zM_X7_tellFile dX7_tellFile_27 (by decide) ?_
    refine zw_goto (tgt := 35) zM_X7_tellFile dX7_tellFile_28 rfl ?_
    exact zw_weak2 h ⟨rfl, rfl, rfl, rfl, rfl, trivial⟩
set_option maxHeartbeats 4000000 in
set_option maxRecDepth 100000 in
theorem vc_X7_tellFile_35 (a0 : Nat) (x1 : Int32) (x2 : Int32) (x3 : Int32) (x4 : Int32) (y0 : Int32) (y1 : Int32) (c2 : Nat) (σ : zx_S) (K : zx_S → Prop) (h : zK σ c2 = 1 ∧ zx_in y1 (zN σ c2) = true ∧ ∀ σ3 : zx_S, σ3 = zx_pI σ c2 (Int32.toNatClampNeg y1) y0 → zwV 204 39 [some (.ref a0), some (.int x1), some (.int x2), some (.int x3), some (.int x4), some (.int 0), none, none] [] σ3 K) : zwV 204 35 [some (.ref a0), some (.int x1), some (.int x2), some (.int x3), some (.int x4), none, none, none] [.int y0, .int y1, .ref c2] σ K := by
  obtain ⟨hk1, h⟩ := h
  obtain ⟨hi2, h⟩ := h
  obtain ⟨σ3, e4⟩ : ∃ z9 : zx_S, z9 = zx_pI σ c2 (Int32.toNatClampNeg y1) y0 := ⟨_, rfl⟩
  replace h := h σ3 e4
  refine zw_iast zM_X7_tellFile dX7_tellFile_35 ⟨hk1, hi2⟩ e4 ?_
  refine zw_iconst (v := 0) zM_X7_tellFile dX7_tellFile_36 (by decide) ?_
  refine zw_go (pc1 := 39) (L1 := [some (.ref a0), some (.int x1), some (.int x2), some (.int x3), some (.int x4), some (.int 0), none, none]) (st1 := []) (σ1 := σ3) zM_X7_tellFile dX7_tellFile_37 rfl rfl rfl rfl ?_
  exact zw_weak2 h ⟨rfl, rfl, rfl, rfl, rfl, rfl, trivial⟩
set_option maxHeartbeats 4000000 in
set_option maxRecDepth 100000 in
theorem vc_X7_tellFile_39 (a0 : Nat) (x1 : Int32) (x2 : Int32) (x3 : Int32) (x4 : Int32) (x5 : Int32) (σ : zx_S) (K : zx_S → Prop) (h : ((x4 ≤ x5 → zK σ a0 = 20 ∧ ∃ b2 : Nat, zR σ a0 5 = some b2 ∧ zK σ b2 = 1 ∧ zx_in x3 (zN σ b2) = true ∧ ∃ b6 : Nat, zR σ a0 25 = some b6 ∧ zK σ b6 = 1 ∧ zx_in x1 (zN σ b6) = true ∧ ∀ σ10 : zx_S, σ10 = zx_pI σ b6 (Int32.toNatClampNeg x1) 0 → ∃ b12 : Nat, zR σ10 a0 26 = some b12 ∧ zK σ10 b12 = 1 ∧ zx_in x1 (zN σ10 b12) = true ∧ ∀ σ16 : zx_S, σ16 = zx_pI σ10 b12 (Int32.toNatClampNeg x1) 0 → ((((zI σ b2 (Int32.toNatClampNeg x3)) - (x4 * x2)) ≤ (0 : Int32) → K σ16) ∧ (¬ ((zI σ b2 (Int32.toNatClampNeg x3)) - (x4 * x2)) ≤ (0 : Int32) → (((zI σ16 a0 27) = (0 : Int32) → zwV 204 165 [some (.ref a0), some (.int x1), some (.int x2), some (.int x3), some (.int x4), some (.int ((zI σ b2 (Int32.toNatClampNeg x3)) - (x4 * x2))), none, none] [] σ16 K) ∧ (¬ (zI σ16 a0 27) = (0 : Int32) → ∃ b18 : Nat, zR σ16 a0 28 = some b18 ∧ zK σ16 b18 = 1 ∧ zx_in ((zI σ16 a0 27) - 1) (zN σ16 b18) = true ∧ ((((zI σ16 b18 (Int32.toNatClampNeg ((zI σ16 a0 27) - 1))) + ((zI σ b2 (Int32.toNatClampNeg x3)) - (x4 * x2))) ≤ x2 → zwV 204 185 [some (.ref a0), some (.int x1), some (.int x2), some (.int x3), some (.int x4), some (.int ((zI σ b2 (Int32.toNatClampNeg x3)) - (x4 * x2))), none, none] [] σ16 K) ∧ (¬ ((zI σ16 b18 (Int32.toNatClampNeg ((zI σ16 a0 27) - 1))) + ((zI σ b2 (Int32.toNatClampNeg x3)) - (x4 * x2))) ≤ x2 → zwV 204 165 [some (.ref a0), some (.int x1), some (.int x2), some (.int x3), some (.int x4), some (.int ((zI σ b2 (Int32.toNatClampNeg x3)) - (x4 * x2))), none, none] [] σ16 K))))))) ∧ (¬ x4 ≤ x5 → zwV 204 49 [some (.ref a0), some (.int x1), some (.int x2), some (.int x3), some (.int x4), some (.int x5), some (.int 0), none] [] σ K))) : zwV 204 39 [some (.ref a0), some (.int x1), some (.int x2), some (.int x3), some (.int x4), some (.int x5), none, none] [] σ K := by
  refine zw_go (pc1 := 41) (L1 := [some (.ref a0), some (.int x1), some (.int x2), some (.int x3), some (.int x4), some (.int x5), none, none]) (st1 := [.int x5]) (σ1 := σ) zM_X7_tellFile dX7_tellFile_39 rfl rfl rfl rfl ?_
  refine zw_go (pc1 := 43) (L1 := [some (.ref a0), some (.int x1), some (.int x2), some (.int x3), some (.int x4), some (.int x5), none, none]) (st1 := [.int x4, .int x5]) (σ1 := σ) zM_X7_tellFile dX7_tellFile_41 rfl rfl rfl rfl ?_
  refine zw_icmp_ge (tgt := 108) zM_X7_tellFile dX7_tellFile_43 rfl rfl (fun q => ?_) (fun q => ?_)
  · replace h := h.1 q
    refine zw_go (pc1 := 109) (L1 := [some (.ref a0), some (.int x1), some (.int x2), some (.int x3), some (.int x4), some (.int x5), none, none]) (st1 := [.ref a0]) (σ1 := σ) zM_X7_tellFile dX7_tellFile_108 rfl rfl rfl rfl ?_
    obtain ⟨hk1, h⟩ := h
    obtain ⟨b2, hr3, h⟩ := h
    refine zw_getR (a := b2) zM_X7_tellFile dX7_tellFile_109 zF_7_19 rfl hk1 hr3 ?_
    refine zw_go (pc1 := 113) (L1 := [some (.ref a0), some (.int x1), some (.int x2), some (.int x3), some (.int x4), some (.int x5), none, none]) (st1 := [.int x3, .ref b2]) (σ1 := σ) zM_X7_tellFile dX7_tellFile_112 rfl rfl rfl rfl ?_
    obtain ⟨hk4, h⟩ := h
    obtain ⟨hi5, h⟩ := h
    refine zw_iald zM_X7_tellFile dX7_tellFile_113 ⟨Or.inl hk4, hi5⟩ ?_
    refine zw_go (pc1 := 116) (L1 := [some (.ref a0), some (.int x1), some (.int x2), some (.int x3), some (.int x4), some (.int x5), none, none]) (st1 := [.int x4, .int (zI σ b2 (Int32.toNatClampNeg x3))]) (σ1 := σ) zM_X7_tellFile dX7_tellFile_114 rfl rfl rfl rfl ?_
    refine zw_go (pc1 := 117) (L1 := [some (.ref a0), some (.int x1), some (.int x2), some (.int x3), some (.int x4), some (.int x5), none, none]) (st1 := [.int x2, .int x4, .int (zI σ b2 (Int32.toNatClampNeg x3))]) (σ1 := σ) zM_X7_tellFile dX7_tellFile_116 rfl rfl rfl rfl ?_
    refine zw_go (pc1 := 118) (L1 := [some (.ref a0), some (.int x1), some (.int x2), some (.int x3), some (.int x4), some (.int x5), none, none]) (st1 := [.int (x4 * x2), .int (zI σ b2 (Int32.toNatClampNeg x3))]) (σ1 := σ) zM_X7_tellFile dX7_tellFile_117 rfl rfl rfl rfl ?_
    refine zw_go (pc1 := 119) (L1 := [some (.ref a0), some (.int x1), some (.int x2), some (.int x3), some (.int x4), some (.int x5), none, none]) (st1 := [.int ((zI σ b2 (Int32.toNatClampNeg x3)) - (x4 * x2))]) (σ1 := σ) zM_X7_tellFile dX7_tellFile_118 rfl rfl rfl rfl ?_
    refine zw_go (pc1 := 121) (L1 := [some (.ref a0), some (.int x1), some (.int x2), some (.int x3), some (.int x4), some (.int ((zI σ b2 (Int32.toNatClampNeg x3)) - (x4 * x2))), none, none]) (st1 := []) (σ1 := σ) zM_X7_tellFile dX7_tellFile_119 rfl rfl rfl rfl ?_
    refine zw_go (pc1 := 122) (L1 := [some (.ref a0), some (.int x1), some (.int x2), some (.int x3), some (.int x4), some (.int ((zI σ b2 (Int32.toNatClampNeg x3)) - (x4 * x2))), none, none]) (st1 := [.ref a0]) (σ1 := σ) zM_X7_tellFile dX7_tellFile_121 rfl rfl rfl rfl ?_
    obtain ⟨b6, hr7, h⟩ := h
    refine zw_getR (a := b6) zM_X7_tellFile dX7_tellFile_122 zF_7_58 rfl hk1 hr7 ?_
    refine zw_go (pc1 := 126) (L1 := [some (.ref a0), some (.int x1), some (.int x2), some (.int x3), some (.int x4), some (.int ((zI σ b2 (Int32.toNatClampNeg x3)) - (x4 * x2))), none, none]) (st1 := [.int x1, .ref b6]) (σ1 := σ) zM_X7_tellFile dX7_tellFile_125 rfl rfl rfl rfl ?_
    refine zw_iconst (v := 0) zM_X7_tellFile dX7_tellFile_126 (by decide) ?_
    obtain ⟨hk8, h⟩ := h
    obtain ⟨hi9, h⟩ := h
    obtain ⟨σ10, e11⟩ : ∃ z9 : zx_S, z9 = zx_pI σ b6 (Int32.toNatClampNeg x1) 0 := ⟨_, rfl⟩
    replace h := h σ10 e11
    refine zw_iast zM_X7_tellFile dX7_tellFile_127 ⟨hk8, hi9⟩ e11 ?_
    refine zw_go (pc1 := 129) (L1 := [some (.ref a0), some (.int x1), some (.int x2), some (.int x3), some (.int x4), some (.int ((zI σ b2 (Int32.toNatClampNeg x3)) - (x4 * x2))), none, none]) (st1 := [.ref a0]) (σ1 := σ10) zM_X7_tellFile dX7_tellFile_128 rfl rfl rfl rfl ?_
    obtain ⟨b12, hr13, h⟩ := h
    refine zw_getR (a := b12) zM_X7_tellFile dX7_tellFile_129 zF_7_61 rfl (by rw [e11]; exact hk1) hr13 ?_
    refine zw_go (pc1 := 133) (L1 := [some (.ref a0), some (.int x1), some (.int x2), some (.int x3), some (.int x4), some (.int ((zI σ b2 (Int32.toNatClampNeg x3)) - (x4 * x2))), none, none]) (st1 := [.int x1, .ref b12]) (σ1 := σ10) zM_X7_tellFile dX7_tellFile_132 rfl rfl rfl rfl ?_
    refine zw_iconst (v := 0) zM_X7_tellFile dX7_tellFile_133 (by decide) ?_
    obtain ⟨hk14, h⟩ := h
    obtain ⟨hi15, h⟩ := h
    obtain ⟨σ16, e17⟩ : ∃ z9 : zx_S, z9 = zx_pI σ10 b12 (Int32.toNatClampNeg x1) 0 := ⟨_, rfl⟩
    replace h := h σ16 e17
    refine zw_iast zM_X7_tellFile dX7_tellFile_134 ⟨hk14, hi15⟩ e17 ?_
    refine zw_go (pc1 := 137) (L1 := [some (.ref a0), some (.int x1), some (.int x2), some (.int x3), some (.int x4), some (.int ((zI σ b2 (Int32.toNatClampNeg x3)) - (x4 * x2))), none, none]) (st1 := [.int ((zI σ b2 (Int32.toNatClampNeg x3)) - (x4 * x2))]) (σ1 := σ16) zM_X7_tellFile dX7_tellFile_135 rfl rfl rfl rfl ?_
    refine zw_if_le (tgt := 278) zM_X7_tellFile dX7_tellFile_137 rfl rfl (fun q => ?_) (fun q => ?_)
    · replace h := h.1 q
      exact zw_retv zM_X7_tellFile dX7_tellFile_278 rfl h
    · replace h := h.2 q
      refine zw_go (pc1 := 141) (L1 := [some (.ref a0), some (.int x1), some (.int x2), some (.int x3), some (.int x4), some (.int ((zI σ b2 (Int32.toNatClampNeg x3)) - (x4 * x2))), none, none]) (st1 := [.ref a0]) (σ1 := σ16) zM_X7_tellFile dX7_tellFile_140 rfl rfl rfl rfl ?_
      refine zw_getI zM_X7_tellFile dX7_tellFile_141 zF_7_165 rfl (by rw [e17, e11]; exact hk1) ?_
      refine zw_if_eq (tgt := 165) zM_X7_tellFile dX7_tellFile_144 rfl rfl (fun q => ?_) (fun q => ?_)
      · replace h := h.1 q
        exact zw_weak2 h ⟨rfl, rfl, rfl, rfl, rfl, rfl, trivial⟩
      · replace h := h.2 q
        refine zw_go (pc1 := 148) (L1 := [some (.ref a0), some (.int x1), some (.int x2), some (.int x3), some (.int x4), some (.int ((zI σ b2 (Int32.toNatClampNeg x3)) - (x4 * x2))), none, none]) (st1 := [.ref a0]) (σ1 := σ16) zM_X7_tellFile dX7_tellFile_147 rfl rfl rfl rfl ?_
        obtain ⟨b18, hr19, h⟩ := h
        refine zw_getR (a := b18) zM_X7_tellFile dX7_tellFile_148 zF_7_64 rfl (by rw [e17, e11]; exact hk1) hr19 ?_
        refine zw_go (pc1 := 152) (L1 := [some (.ref a0), some (.int x1), some (.int x2), some (.int x3), some (.int x4), some (.int ((zI σ b2 (Int32.toNatClampNeg x3)) - (x4 * x2))), none, none]) (st1 := [.ref a0, .ref b18]) (σ1 := σ16) zM_X7_tellFile dX7_tellFile_151 rfl rfl rfl rfl ?_
        refine zw_getI zM_X7_tellFile dX7_tellFile_152 zF_7_165 rfl (by rw [e17, e11]; exact hk1) ?_
        refine zw_iconst (v := 1) zM_X7_tellFile dX7_tellFile_155 (by decide) ?_
        refine zw_go (pc1 := 157) (L1 := [some (.ref a0), some (.int x1), some (.int x2), some (.int x3), some (.int x4), some (.int ((zI σ b2 (Int32.toNatClampNeg x3)) - (x4 * x2))), none, none]) (st1 := [.int ((zI σ16 a0 27) - 1), .ref b18]) (σ1 := σ16) zM_X7_tellFile dX7_tellFile_156 rfl rfl rfl rfl ?_
        obtain ⟨hk20, h⟩ := h
        obtain ⟨hi21, h⟩ := h
        refine zw_iald zM_X7_tellFile dX7_tellFile_157 ⟨Or.inl hk20, hi21⟩ ?_
        refine zw_go (pc1 := 160) (L1 := [some (.ref a0), some (.int x1), some (.int x2), some (.int x3), some (.int x4), some (.int ((zI σ b2 (Int32.toNatClampNeg x3)) - (x4 * x2))), none, none]) (st1 := [.int ((zI σ b2 (Int32.toNatClampNeg x3)) - (x4 * x2)), .int (zI σ16 b18 (Int32.toNatClampNeg ((zI σ16 a0 27) - 1)))]) (σ1 := σ16) zM_X7_tellFile dX7_tellFile_158 rfl rfl rfl rfl ?_
        refine zw_go (pc1 := 161) (L1 := [some (.ref a0), some (.int x1), some (.int x2), some (.int x3), some (.int x4), some (.int ((zI σ b2 (Int32.toNatClampNeg x3)) - (x4 * x2))), none, none]) (st1 := [.int ((zI σ16 b18 (Int32.toNatClampNeg ((zI σ16 a0 27) - 1))) + ((zI σ b2 (Int32.toNatClampNeg x3)) - (x4 * x2)))]) (σ1 := σ16) zM_X7_tellFile dX7_tellFile_160 rfl rfl rfl rfl ?_
        refine zw_go (pc1 := 162) (L1 := [some (.ref a0), some (.int x1), some (.int x2), some (.int x3), some (.int x4), some (.int ((zI σ b2 (Int32.toNatClampNeg x3)) - (x4 * x2))), none, none]) (st1 := [.int x2, .int ((zI σ16 b18 (Int32.toNatClampNeg ((zI σ16 a0 27) - 1))) + ((zI σ b2 (Int32.toNatClampNeg x3)) - (x4 * x2)))]) (σ1 := σ16) zM_X7_tellFile dX7_tellFile_161 rfl rfl rfl rfl ?_
        refine zw_icmp_le (tgt := 185) zM_X7_tellFile dX7_tellFile_162 rfl rfl (fun q => ?_) (fun q => ?_)
        · replace h := h.1 q
          exact zw_weak2 h ⟨rfl, rfl, rfl, rfl, rfl, rfl, trivial⟩
        · replace h := h.2 q
          exact zw_weak2 h ⟨rfl, rfl, rfl, rfl, rfl, rfl, trivial⟩
  · replace h := h.2 q
    refine zw_iconst (v := 0) zM_X7_tellFile dX7_tellFile_46 (by decide) ?_
    refine zw_go (pc1 := 49) (L1 := [some (.ref a0), some (.int x1), some (.int x2), some (.int x3), some (.int x4), some (.int x5), some (.int 0), none]) (st1 := []) (σ1 := σ) zM_X7_tellFile dX7_tellFile_47 rfl rfl rfl rfl ?_
    exact zw_weak2 h ⟨rfl, rfl, rfl, rfl, rfl, rfl, rfl, trivial⟩
set_option maxHeartbeats 4000000 in
set_option maxRecDepth 100000 in
theorem vc_X7_tellFile_49 (a0 : Nat) (x1 : Int32) (x2 : Int32) (x3 : Int32) (x4 : Int32) (x5 : Int32) (x6 : Int32) (σ : zx_S) (K : zx_S → Prop) (h : ((x2 ≤ x6 → zK σ a0 = 20 ∧ ∃ b2 : Nat, zR σ a0 24 = some b2 ∧ zwI 200 0 [some (.ref a0), some (.int x2), none, none] [] σ (fun v5 σ4 => zK σ4 b2 = 1 ∧ zx_in ((13 * x1) + x5) (zN σ4 b2) = true ∧ ∀ σ8 : zx_S, σ8 = zx_pI σ4 b2 (Int32.toNatClampNeg ((13 * x1) + x5)) v5 → zwV 204 39 [some (.ref a0), some (.int x1), some (.int x2), some (.int x3), some (.int x4), some (.int (x5 + Int32.ofInt 1)), none, none] [] σ8 K)) ∧ (¬ x2 ≤ x6 → zK σ a0 = 20 ∧ ∃ b11 : Nat, zR σ a0 20 = some b11 ∧ ∃ b13 : Nat, zR σ a0 6 = some b13 ∧ zK σ b13 = 1 ∧ zx_in (((100 * x3) + (x2 * x5)) + x6) (zN σ b13) = true ∧ zK σ b11 = 1 ∧ zx_in x6 (zN σ b11) = true ∧ ∀ σ19 : zx_S, σ19 = zx_pI σ b11 (Int32.toNatClampNeg x6) (zI σ b13 (Int32.toNatClampNeg (((100 * x3) + (x2 * x5)) + x6))) → zwV 204 49 [some (.ref a0), some (.int x1), some (.int x2), some (.int x3), some (.int x4), some (.int x5), some (.int (x6 + Int32.ofInt 1)), none] [] σ19 K))) : zwV 204 49 [some (.ref a0), some (.int x1), some (.int x2), some (.int x3), some (.int x4), some (.int x5), some (.int x6), none] [] σ K := by
  refine zw_go (pc1 := 51) (L1 := [some (.ref a0), some (.int x1), some (.int x2), some (.int x3), some (.int x4), some (.int x5), some (.int x6), none]) (st1 := [.int x6]) (σ1 := σ) zM_X7_tellFile dX7_tellFile_49 rfl rfl rfl rfl ?_
  refine zw_go (pc1 := 52) (L1 := [some (.ref a0), some (.int x1), some (.int x2), some (.int x3), some (.int x4), some (.int x5), some (.int x6), none]) (st1 := [.int x2, .int x6]) (σ1 := σ) zM_X7_tellFile dX7_tellFile_51 rfl rfl rfl rfl ?_
  refine zw_icmp_ge (tgt := 85) zM_X7_tellFile dX7_tellFile_52 rfl rfl (fun q => ?_) (fun q => ?_)
  · replace h := h.1 q
    refine zw_go (pc1 := 86) (L1 := [some (.ref a0), some (.int x1), some (.int x2), some (.int x3), some (.int x4), some (.int x5), some (.int x6), none]) (st1 := [.ref a0]) (σ1 := σ) zM_X7_tellFile dX7_tellFile_85 rfl rfl rfl rfl ?_
    obtain ⟨hk1, h⟩ := h
    obtain ⟨b2, hr3, h⟩ := h
    refine zw_getR (a := b2) zM_X7_tellFile dX7_tellFile_86 zF_7_55 rfl hk1 hr3 ?_
    refine zw_bipush (v := 13) zM_X7_tellFile dX7_tellFile_89 (by decide) ?_
    refine zw_go (pc1 := 92) (L1 := [some (.ref a0), some (.int x1), some (.int x2), some (.int x3), some (.int x4), some (.int x5), some (.int x6), none]) (st1 := [.int x1, .int 13, .ref b2]) (σ1 := σ) zM_X7_tellFile dX7_tellFile_91 rfl rfl rfl rfl ?_
    refine zw_go (pc1 := 93) (L1 := [some (.ref a0), some (.int x1), some (.int x2), some (.int x3), some (.int x4), some (.int x5), some (.int x6), none]) (st1 := [.int (13 * x1), .ref b2]) (σ1 := σ) zM_X7_tellFile dX7_tellFile_92 rfl rfl rfl rfl ?_
    refine zw_go (pc1 := 95) (L1 := [some (.ref a0), some (.int x1), some (.int x2), some (.int x3), some (.int x4), some (.int x5), some (.int x6), none]) (st1 := [.int x5, .int (13 * x1), .ref b2]) (σ1 := σ) zM_X7_tellFile dX7_tellFile_93 rfl rfl rfl rfl ?_
    refine zw_go (pc1 := 96) (L1 := [some (.ref a0), some (.int x1), some (.int x2), some (.int x3), some (.int x4), some (.int x5), some (.int x6), none]) (st1 := [.int ((13 * x1) + x5), .ref b2]) (σ1 := σ) zM_X7_tellFile dX7_tellFile_95 rfl rfl rfl rfl ?_
    refine zw_go (pc1 := 97) (L1 := [some (.ref a0), some (.int x1), some (.int x2), some (.int x3), some (.int x4), some (.int x5), some (.int x6), none]) (st1 := [.ref a0, .int ((13 * x1) + x5), .ref b2]) (σ1 := σ) zM_X7_tellFile dX7_tellFile_96 rfl rfl rfl rfl ?_
    refine zw_go (pc1 := 98) (L1 := [some (.ref a0), some (.int x1), some (.int x2), some (.int x3), some (.int x4), some (.int x5), some (.int x6), none]) (st1 := [.int x2, .ref a0, .int ((13 * x1) + x5), .ref b2]) (σ1 := σ) zM_X7_tellFile dX7_tellFile_97 rfl rfl rfl rfl ?_
    refine zw_callI (as := [.ref a0, .int x2]) (rest := [.int ((13 * x1) + x5), .ref b2]) zM_X7_tellFile dX7_tellFile_98 (zx_calV zC_7_162) zM_X7_store rfl rfl rfl rfl rfl (zx_args0 hk1 rfl) rfl h (fun v5 σ4 h => ?_)
    obtain ⟨hk6, h⟩ := h
    obtain ⟨hi7, h⟩ := h
    obtain ⟨σ8, e9⟩ : ∃ z9 : zx_S, z9 = zx_pI σ4 b2 (Int32.toNatClampNeg ((13 * x1) + x5)) v5 := ⟨_, rfl⟩
    replace h := h σ8 e9
    refine zw_iast zM_X7_tellFile dX7_tellFile_101 ⟨hk6, hi7⟩ e9 ?_
    refine zw_go (pc1 := 105) (L1 := [some (.ref a0), some (.int x1), some (.int x2), some (.int x3), some (.int x4), some (.int (x5 + Int32.ofInt 1)), some (.int x6), none]) (st1 := []) (σ1 := σ8) zM_X7_tellFile dX7_tellFile_102 rfl rfl rfl rfl ?_
    refine zw_goto (tgt := 39) zM_X7_tellFile dX7_tellFile_105 rfl ?_
    exact zw_weak2 h ⟨rfl, rfl, rfl, rfl, rfl, rfl, trivial⟩
  · replace h := h.2 q
    refine zw_go (pc1 := 56) (L1 := [some (.ref a0), some (.int x1), some (.int x2), some (.int x3), some (.int x4), some (.int x5), some (.int x6), none]) (st1 := [.ref a0]) (σ1 := σ) zM_X7_tellFile dX7_tellFile_55 rfl rfl rfl rfl ?_
    obtain ⟨hk10, h⟩ := h
    obtain ⟨b11, hr12, h⟩ := h
    refine zw_getR (a := b11) zM_X7_tellFile dX7_tellFile_56 zF_7_46 rfl hk10 hr12 ?_
    refine zw_go (pc1 := 61) (L1 := [some (.ref a0), some (.int x1), some (.int x2), some (.int x3), some (.int x4), some (.int x5), some (.int x6), none]) (st1 := [.int x6, .ref b11]) (σ1 := σ) zM_X7_tellFile dX7_tellFile_59 rfl rfl rfl rfl ?_
    refine zw_go (pc1 := 62) (L1 := [some (.ref a0), some (.int x1), some (.int x2), some (.int x3), some (.int x4), some (.int x5), some (.int x6), none]) (st1 := [.ref a0, .int x6, .ref b11]) (σ1 := σ) zM_X7_tellFile dX7_tellFile_61 rfl rfl rfl rfl ?_
    obtain ⟨b13, hr14, h⟩ := h
    refine zw_getR (a := b13) zM_X7_tellFile dX7_tellFile_62 zF_7_22 rfl hk10 hr14 ?_
    refine zw_bipush (v := 100) zM_X7_tellFile dX7_tellFile_65 (by decide) ?_
    refine zw_go (pc1 := 68) (L1 := [some (.ref a0), some (.int x1), some (.int x2), some (.int x3), some (.int x4), some (.int x5), some (.int x6), none]) (st1 := [.int x3, .int 100, .ref b13, .int x6, .ref b11]) (σ1 := σ) zM_X7_tellFile dX7_tellFile_67 rfl rfl rfl rfl ?_
    refine zw_go (pc1 := 69) (L1 := [some (.ref a0), some (.int x1), some (.int x2), some (.int x3), some (.int x4), some (.int x5), some (.int x6), none]) (st1 := [.int (100 * x3), .ref b13, .int x6, .ref b11]) (σ1 := σ) zM_X7_tellFile dX7_tellFile_68 rfl rfl rfl rfl ?_
    refine zw_go (pc1 := 70) (L1 := [some (.ref a0), some (.int x1), some (.int x2), some (.int x3), some (.int x4), some (.int x5), some (.int x6), none]) (st1 := [.int x2, .int (100 * x3), .ref b13, .int x6, .ref b11]) (σ1 := σ) zM_X7_tellFile dX7_tellFile_69 rfl rfl rfl rfl ?_
    refine zw_go (pc1 := 72) (L1 := [some (.ref a0), some (.int x1), some (.int x2), some (.int x3), some (.int x4), some (.int x5), some (.int x6), none]) (st1 := [.int x5, .int x2, .int (100 * x3), .ref b13, .int x6, .ref b11]) (σ1 := σ) zM_X7_tellFile dX7_tellFile_70 rfl rfl rfl rfl ?_
    refine zw_go (pc1 := 73) (L1 := [some (.ref a0), some (.int x1), some (.int x2), some (.int x3), some (.int x4), some (.int x5), some (.int x6), none]) (st1 := [.int (x2 * x5), .int (100 * x3), .ref b13, .int x6, .ref b11]) (σ1 := σ) zM_X7_tellFile dX7_tellFile_72 rfl rfl rfl rfl ?_
    refine zw_go (pc1 := 74) (L1 := [some (.ref a0), some (.int x1), some (.int x2), some (.int x3), some (.int x4), some (.int x5), some (.int x6), none]) (st1 := [.int ((100 * x3) + (x2 * x5)), .ref b13, .int x6, .ref b11]) (σ1 := σ) zM_X7_tellFile dX7_tellFile_73 rfl rfl rfl rfl ?_
    refine zw_go (pc1 := 76) (L1 := [some (.ref a0), some (.int x1), some (.int x2), some (.int x3), some (.int x4), some (.int x5), some (.int x6), none]) (st1 := [.int x6, .int ((100 * x3) + (x2 * x5)), .ref b13, .int x6, .ref b11]) (σ1 := σ) zM_X7_tellFile dX7_tellFile_74 rfl rfl rfl rfl ?_
    refine zw_go (pc1 := 77) (L1 := [some (.ref a0), some (.int x1), some (.int x2), some (.int x3), some (.int x4), some (.int x5), some (.int x6), none]) (st1 := [.int (((100 * x3) + (x2 * x5)) + x6), .ref b13, .int x6, .ref b11]) (σ1 := σ) zM_X7_tellFile dX7_tellFile_76 rfl rfl rfl rfl ?_
    obtain ⟨hk15, h⟩ := h
    obtain ⟨hi16, h⟩ := h
    refine zw_iald zM_X7_tellFile dX7_tellFile_77 ⟨Or.inl hk15, hi16⟩ ?_
    obtain ⟨hk17, h⟩ := h
    obtain ⟨hi18, h⟩ := h
    obtain ⟨σ19, e20⟩ : ∃ z9 : zx_S, z9 = zx_pI σ b11 (Int32.toNatClampNeg x6) (zI σ b13 (Int32.toNatClampNeg (((100 * x3) + (x2 * x5)) + x6))) := ⟨_, rfl⟩
    replace h := h σ19 e20
    refine zw_iast zM_X7_tellFile dX7_tellFile_78 ⟨hk17, hi18⟩ e20 ?_
    refine zw_go (pc1 := 82) (L1 := [some (.ref a0), some (.int x1), some (.int x2), some (.int x3), some (.int x4), some (.int x5), some (.int (x6 + Int32.ofInt 1)), none]) (st1 := []) (σ1 := σ19) zM_X7_tellFile dX7_tellFile_79 rfl rfl rfl rfl ?_
    refine zw_goto (tgt := 49) zM_X7_tellFile dX7_tellFile_82 rfl ?_
    exact zw_weak2 h ⟨rfl, rfl, rfl, rfl, rfl, rfl, rfl, trivial⟩
set_option maxHeartbeats 4000000 in
set_option maxRecDepth 100000 in
theorem vc_X7_tellFile_165 (a0 : Nat) (x1 : Int32) (x2 : Int32) (x3 : Int32) (x4 : Int32) (x5 : Int32) (σ : zx_S) (K : zx_S → Prop) (h : zK σ a0 = 20 ∧ ∃ b2 : Nat, zR σ a0 28 = some b2 ∧ zK σ b2 = 1 ∧ zx_in (zI σ a0 27) (zN σ b2) = true ∧ ∀ σ6 : zx_S, σ6 = zx_pI σ b2 (Int32.toNatClampNeg (zI σ a0 27)) 0 → ∀ σ8 : zx_S, σ8 = zx_pI σ6 a0 27 ((zI σ6 a0 27) + 1) → zwV 204 185 [some (.ref a0), some (.int x1), some (.int x2), some (.int x3), some (.int x4), some (.int x5), none, none] [] σ8 K) : zwV 204 165 [some (.ref a0), some (.int x1), some (.int x2), some (.int x3), some (.int x4), some (.int x5), none, none] [] σ K := by
  refine zw_go (pc1 := 166) (L1 := [some (.ref a0), some (.int x1), some (.int x2), some (.int x3), some (.int x4), some (.int x5), none, none]) (st1 := [.ref a0]) (σ1 := σ) zM_X7_tellFile dX7_tellFile_165 rfl rfl rfl rfl ?_
  obtain ⟨hk1, h⟩ := h
  obtain ⟨b2, hr3, h⟩ := h
  refine zw_getR (a := b2) zM_X7_tellFile dX7_tellFile_166 zF_7_64 rfl hk1 hr3 ?_
  refine zw_go (pc1 := 170) (L1 := [some (.ref a0), some (.int x1), some (.int x2), some (.int x3), some (.int x4), some (.int x5), none, none]) (st1 := [.ref a0, .ref b2]) (σ1 := σ) zM_X7_tellFile dX7_tellFile_169 rfl rfl rfl rfl ?_
  refine zw_getI zM_X7_tellFile dX7_tellFile_170 zF_7_165 rfl hk1 ?_
  refine zw_iconst (v := 0) zM_X7_tellFile dX7_tellFile_173 (by decide) ?_
  obtain ⟨hk4, h⟩ := h
  obtain ⟨hi5, h⟩ := h
  obtain ⟨σ6, e7⟩ : ∃ z9 : zx_S, z9 = zx_pI σ b2 (Int32.toNatClampNeg (zI σ a0 27)) 0 := ⟨_, rfl⟩
  replace h := h σ6 e7
  refine zw_iast zM_X7_tellFile dX7_tellFile_174 ⟨hk4, hi5⟩ e7 ?_
  refine zw_go (pc1 := 176) (L1 := [some (.ref a0), some (.int x1), some (.int x2), some (.int x3), some (.int x4), some (.int x5), none, none]) (st1 := [.ref a0]) (σ1 := σ6) zM_X7_tellFile dX7_tellFile_175 rfl rfl rfl rfl ?_
  refine zw_go (pc1 := 177) (L1 := [some (.ref a0), some (.int x1), some (.int x2), some (.int x3), some (.int x4), some (.int x5), none, none]) (st1 := [.ref a0, .ref a0]) (σ1 := σ6) zM_X7_tellFile dX7_tellFile_176 rfl rfl rfl rfl ?_
  refine zw_getI zM_X7_tellFile dX7_tellFile_177 zF_7_165 rfl (by rw [e7]; exact hk1) ?_
  refine zw_iconst (v := 1) zM_X7_tellFile dX7_tellFile_180 (by decide) ?_
  refine zw_go (pc1 := 182) (L1 := [some (.ref a0), some (.int x1), some (.int x2), some (.int x3), some (.int x4), some (.int x5), none, none]) (st1 := [.int ((zI σ6 a0 27) + 1), .ref a0]) (σ1 := σ6) zM_X7_tellFile dX7_tellFile_181 rfl rfl rfl rfl ?_
  obtain ⟨σ8, e9⟩ : ∃ z9 : zx_S, z9 = zx_pI σ6 a0 27 ((zI σ6 a0 27) + 1) := ⟨_, rfl⟩
  replace h := h σ8 e9
  refine zw_putI zM_X7_tellFile dX7_tellFile_182 zF_7_165 rfl rfl (by rw [e7]; exact hk1) e9 ?_
  exact zw_weak2 h ⟨rfl, rfl, rfl, rfl, rfl, rfl, trivial⟩
set_option maxHeartbeats 4000000 in
set_option maxRecDepth 100000 in
theorem vc_X7_tellFile_185 (a0 : Nat) (x1 : Int32) (x2 : Int32) (x3 : Int32) (x4 : Int32) (x5 : Int32) (σ : zx_S) (K : zx_S → Prop) (h : zK σ a0 = 20 ∧ ∃ b2 : Nat, zR σ a0 25 = some b2 ∧ zK σ b2 = 1 ∧ zx_in x1 (zN σ b2) = true ∧ ∀ σ6 : zx_S, σ6 = zx_pI σ b2 (Int32.toNatClampNeg x1) (zI σ a0 27) → ∃ b8 : Nat, zR σ6 a0 26 = some b8 ∧ ∃ b10 : Nat, zR σ6 a0 28 = some b10 ∧ zK σ6 b10 = 1 ∧ zx_in ((zI σ a0 27) - 1) (zN σ6 b10) = true ∧ zK σ6 b8 = 1 ∧ zx_in x1 (zN σ6 b8) = true ∧ ∀ σ16 : zx_S, σ16 = zx_pI σ6 b8 (Int32.toNatClampNeg x1) (zI σ6 b10 (Int32.toNatClampNeg ((zI σ a0 27) - 1))) → zwV 204 219 [some (.ref a0), none, some (.int x2), some (.int x3), some (.int x4), some (.int x5), some (.int ((zI σ a0 27) - 1)), some (.int 0)] [] σ16 K) : zwV 204 185 [some (.ref a0), some (.int x1), some (.int x2), some (.int x3), some (.int x4), some (.int x5), none, none] [] σ K := by
  refine zw_go (pc1 := 186) (L1 := [some (.ref a0), some (.int x1), some (.int x2), some (.int x3), some (.int x4), some (.int x5), none, none]) (st1 := [.ref a0]) (σ1 := σ) zM_X7_tellFile dX7_tellFile_185 rfl rfl rfl rfl ?_
  obtain ⟨hk1, h⟩ := h
  refine zw_getI zM_X7_tellFile dX7_tellFile_186 zF_7_165 rfl hk1 ?_
  refine zw_iconst (v := 1) zM_X7_tellFile dX7_tellFile_189 (by decide) ?_
  refine zw_go (pc1 := 191) (L1 := [some (.ref a0), some (.int x1), some (.int x2), some (.int x3), some (.int x4), some (.int x5), none, none]) (st1 := [.int ((zI σ a0 27) - 1)]) (σ1 := σ) zM_X7_tellFile dX7_tellFile_190 rfl rfl rfl rfl ?_
  refine zw_go (pc1 := 193) (L1 := [some (.ref a0), some (.int x1), some (.int x2), some (.int x3), some (.int x4), some (.int x5), some (.int ((zI σ a0 27) - 1)), none]) (st1 := []) (σ1 := σ) zM_X7_tellFile dX7_tellFile_191 rfl rfl rfl rfl ?_
  refine zw_go (pc1 := 194) (L1 := [some (.ref a0), some (.int x1), some (.int x2), some (.int x3), some (.int x4), some (.int x5), some (.int ((zI σ a0 27) - 1)), none]) (st1 := [.ref a0]) (σ1 := σ) zM_X7_tellFile dX7_tellFile_193 rfl rfl rfl rfl ?_
  obtain ⟨b2, hr3, h⟩ := h
  refine zw_getR (a := b2) zM_X7_tellFile dX7_tellFile_194 zF_7_58 rfl hk1 hr3 ?_
  refine zw_go (pc1 := 198) (L1 := [some (.ref a0), some (.int x1), some (.int x2), some (.int x3), some (.int x4), some (.int x5), some (.int ((zI σ a0 27) - 1)), none]) (st1 := [.int x1, .ref b2]) (σ1 := σ) zM_X7_tellFile dX7_tellFile_197 rfl rfl rfl rfl ?_
  refine zw_go (pc1 := 199) (L1 := [some (.ref a0), some (.int x1), some (.int x2), some (.int x3), some (.int x4), some (.int x5), some (.int ((zI σ a0 27) - 1)), none]) (st1 := [.ref a0, .int x1, .ref b2]) (σ1 := σ) zM_X7_tellFile dX7_tellFile_198 rfl rfl rfl rfl ?_
  refine zw_getI zM_X7_tellFile dX7_tellFile_199 zF_7_165 rfl hk1 ?_
  obtain ⟨hk4, h⟩ := h
  obtain ⟨hi5, h⟩ := h
  obtain ⟨σ6, e7⟩ : ∃ z9 : zx_S, z9 = zx_pI σ b2 (Int32.toNatClampNeg x1) (zI σ a0 27) := ⟨_, rfl⟩
  replace h := h σ6 e7
  refine zw_iast zM_X7_tellFile dX7_tellFile_202 ⟨hk4, hi5⟩ e7 ?_
  refine zw_go (pc1 := 204) (L1 := [some (.ref a0), some (.int x1), some (.int x2), some (.int x3), some (.int x4), some (.int x5), some (.int ((zI σ a0 27) - 1)), none]) (st1 := [.ref a0]) (σ1 := σ6) zM_X7_tellFile dX7_tellFile_203 rfl rfl rfl rfl ?_
  obtain ⟨b8, hr9, h⟩ := h
  refine zw_getR (a := b8) zM_X7_tellFile dX7_tellFile_204 zF_7_61 rfl (by rw [e7]; exact hk1) hr9 ?_
  refine zw_go (pc1 := 208) (L1 := [some (.ref a0), some (.int x1), some (.int x2), some (.int x3), some (.int x4), some (.int x5), some (.int ((zI σ a0 27) - 1)), none]) (st1 := [.int x1, .ref b8]) (σ1 := σ6) zM_X7_tellFile dX7_tellFile_207 rfl rfl rfl rfl ?_
  refine zw_go (pc1 := 209) (L1 := [some (.ref a0), some (.int x1), some (.int x2), some (.int x3), some (.int x4), some (.int x5), some (.int ((zI σ a0 27) - 1)), none]) (st1 := [.ref a0, .int x1, .ref b8]) (σ1 := σ6) zM_X7_tellFile dX7_tellFile_208 rfl rfl rfl rfl ?_
  obtain ⟨b10, hr11, h⟩ := h
  refine zw_getR (a := b10) zM_X7_tellFile dX7_tellFile_209 zF_7_64 rfl (by rw [e7]; exact hk1) hr11 ?_
  refine zw_go (pc1 := 214) (L1 := [some (.ref a0), some (.int x1), some (.int x2), some (.int x3), some (.int x4), some (.int x5), some (.int ((zI σ a0 27) - 1)), none]) (st1 := [.int ((zI σ a0 27) - 1), .ref b10, .int x1, .ref b8]) (σ1 := σ6) zM_X7_tellFile dX7_tellFile_212 rfl rfl rfl rfl ?_
  obtain ⟨hk12, h⟩ := h
  obtain ⟨hi13, h⟩ := h
  refine zw_iald zM_X7_tellFile dX7_tellFile_214 ⟨Or.inl hk12, hi13⟩ ?_
  obtain ⟨hk14, h⟩ := h
  obtain ⟨hi15, h⟩ := h
  obtain ⟨σ16, e17⟩ : ∃ z9 : zx_S, z9 = zx_pI σ6 b8 (Int32.toNatClampNeg x1) (zI σ6 b10 (Int32.toNatClampNeg ((zI σ a0 27) - 1))) := ⟨_, rfl⟩
  replace h := h σ16 e17
  refine zw_iast zM_X7_tellFile dX7_tellFile_215 ⟨hk14, hi15⟩ e17 ?_
  refine zw_iconst (v := 0) zM_X7_tellFile dX7_tellFile_216 (by decide) ?_
  refine zw_go (pc1 := 219) (L1 := [some (.ref a0), some (.int x1), some (.int x2), some (.int x3), some (.int x4), some (.int x5), some (.int ((zI σ a0 27) - 1)), some (.int 0)]) (st1 := []) (σ1 := σ16) zM_X7_tellFile dX7_tellFile_217 rfl rfl rfl rfl ?_
  exact zw_weak2 h ⟨rfl, rfl, rfl, rfl, rfl, rfl, rfl, trivial⟩
set_option maxHeartbeats 4000000 in
set_option maxRecDepth 100000 in
theorem vc_X7_tellFile_219 (a0 : Nat) (x2 : Int32) (x3 : Int32) (x4 : Int32) (x5 : Int32) (x6 : Int32) (x7 : Int32) (σ : zx_S) (K : zx_S → Prop) (h : ((x5 ≤ x7 → K σ) ∧ (¬ x5 ≤ x7 → zK σ a0 = 20 ∧ ∃ b2 : Nat, zR σ a0 29 = some b2 ∧ ∃ b4 : Nat, zR σ a0 28 = some b4 ∧ zK σ b4 = 1 ∧ zx_in x6 (zN σ b4) = true ∧ ∃ b8 : Nat, zR σ a0 6 = some b8 ∧ zK σ b8 = 1 ∧ zx_in (((100 * x3) + (x2 * x4)) + x7) (zN σ b8) = true ∧ zK σ b2 = 1 ∧ zx_in ((32 * x6) + (zI σ b4 (Int32.toNatClampNeg x6))) (zN σ b2) = true ∧ ∀ σ14 : zx_S, σ14 = zx_pI σ b2 (Int32.toNatClampNeg ((32 * x6) + (zI σ b4 (Int32.toNatClampNeg x6)))) (zI σ b8 (Int32.toNatClampNeg (((100 * x3) + (x2 * x4)) + x7))) → zx_in x6 (zN σ14 b4) = true ∧ zx_in x6 (zN σ14 b4) = true ∧ ∀ σ18 : zx_S, σ18 = zx_pI σ14 b4 (Int32.toNatClampNeg x6) ((zI σ14 b4 (Int32.toNatClampNeg x6)) + 1) → zwV 204 219 [some (.ref a0), none, some (.int x2), some (.int x3), some (.int x4), some (.int x5), some (.int x6), some (.int (x7 + Int32.ofInt 1))] [] σ18 K))) : zwV 204 219 [some (.ref a0), none, some (.int x2), some (.int x3), some (.int x4), some (.int x5), some (.int x6), some (.int x7)] [] σ K := by
  refine zw_go (pc1 := 221) (L1 := [some (.ref a0), none, some (.int x2), some (.int x3), some (.int x4), some (.int x5), some (.int x6), some (.int x7)]) (st1 := [.int x7]) (σ1 := σ) zM_X7_tellFile dX7_tellFile_219 rfl rfl rfl rfl ?_
  refine zw_go (pc1 := 223) (L1 := [some (.ref a0), none, some (.int x2), some (.int x3), some (.int x4), some (.int x5), some (.int x6), some (.int x7)]) (st1 := [.int x5, .int x7]) (σ1 := σ) zM_X7_tellFile dX7_tellFile_221 rfl rfl rfl rfl ?_
  refine zw_icmp_ge (tgt := 278) zM_X7_tellFile dX7_tellFile_223 rfl rfl (fun q => ?_) (fun q => ?_)
  · replace h := h.1 q
    exact zw_retv zM_X7_tellFile dX7_tellFile_278 rfl h
  · replace h := h.2 q
    refine zw_go (pc1 := 227) (L1 := [some (.ref a0), none, some (.int x2), some (.int x3), some (.int x4), some (.int x5), some (.int x6), some (.int x7)]) (st1 := [.ref a0]) (σ1 := σ) zM_X7_tellFile dX7_tellFile_226 rfl rfl rfl rfl ?_
    obtain ⟨hk1, h⟩ := h
    obtain ⟨b2, hr3, h⟩ := h
    refine zw_getR (a := b2) zM_X7_tellFile dX7_tellFile_227 zF_7_67 rfl hk1 hr3 ?_
    refine zw_bipush (v := 32) zM_X7_tellFile dX7_tellFile_230 (by decide) ?_
    refine zw_go (pc1 := 234) (L1 := [some (.ref a0), none, some (.int x2), some (.int x3), some (.int x4), some (.int x5), some (.int x6), some (.int x7)]) (st1 := [.int x6, .int 32, .ref b2]) (σ1 := σ) zM_X7_tellFile dX7_tellFile_232 rfl rfl rfl rfl ?_
    refine zw_go (pc1 := 235) (L1 := [some (.ref a0), none, some (.int x2), some (.int x3), some (.int x4), some (.int x5), some (.int x6), some (.int x7)]) (st1 := [.int (32 * x6), .ref b2]) (σ1 := σ) zM_X7_tellFile dX7_tellFile_234 rfl rfl rfl rfl ?_
    refine zw_go (pc1 := 236) (L1 := [some (.ref a0), none, some (.int x2), some (.int x3), some (.int x4), some (.int x5), some (.int x6), some (.int x7)]) (st1 := [.ref a0, .int (32 * x6), .ref b2]) (σ1 := σ) zM_X7_tellFile dX7_tellFile_235 rfl rfl rfl rfl ?_
    obtain ⟨b4, hr5, h⟩ := h
    refine zw_getR (a := b4) zM_X7_tellFile dX7_tellFile_236 zF_7_64 rfl hk1 hr5 ?_
    refine zw_go (pc1 := 241) (L1 := [some (.ref a0), none, some (.int x2), some (.int x3), some (.int x4), some (.int x5), some (.int x6), some (.int x7)]) (st1 := [.int x6, .ref b4, .int (32 * x6), .ref b2]) (σ1 := σ) zM_X7_tellFile dX7_tellFile_239 rfl rfl rfl rfl ?_
    obtain ⟨hk6, h⟩ := h
    obtain ⟨hi7, h⟩ := h
    refine zw_iald zM_X7_tellFile dX7_tellFile_241 ⟨Or.inl hk6, hi7⟩ ?_
    refine zw_go (pc1 := 243) (L1 := [some (.ref a0), none, some (.int x2), some (.int x3), some (.int x4), some (.int x5), some (.int x6), some (.int x7)]) (st1 := [.int ((32 * x6) + (zI σ b4 (Int32.toNatClampNeg x6))), .ref b2]) (σ1 := σ) zM_X7_tellFile dX7_tellFile_242 rfl rfl rfl rfl ?_
    refine zw_go (pc1 := 244) (L1 := [some (.ref a0), none, some (.int x2), some (.int x3), some (.int x4), some (.int x5), some (.int x6), some (.int x7)]) (st1 := [.ref a0, .int ((32 * x6) + (zI σ b4 (Int32.toNatClampNeg x6))), .ref b2]) (σ1 := σ) zM_X7_tellFile dX7_tellFile_243 rfl rfl rfl rfl ?_
    obtain ⟨b8, hr9, h⟩ := h
    refine zw_getR (a := b8) zM_X7_tellFile dX7_tellFile_244 zF_7_22 rfl hk1 hr9 ?_
    refine zw_bipush (v := 100) zM_X7_tellFile dX7_tellFile_247 (by decide) ?_
    refine zw_go (pc1 := 250) (L1 := [some (.ref a0), none, some (.int x2), some (.int x3), some (.int x4), some (.int x5), some (.int x6), some (.int x7)]) (st1 := [.int x3, .int 100, .ref b8, .int ((32 * x6) + (zI σ b4 (Int32.toNatClampNeg x6))), .ref b2]) (σ1 := σ) zM_X7_tellFile dX7_tellFile_249 rfl rfl rfl rfl ?_
    refine zw_go (pc1 := 251) (L1 := [some (.ref a0), none, some (.int x2), some (.int x3), some (.int x4), some (.int x5), some (.int x6), some (.int x7)]) (st1 := [.int (100 * x3), .ref b8, .int ((32 * x6) + (zI σ b4 (Int32.toNatClampNeg x6))), .ref b2]) (σ1 := σ) zM_X7_tellFile dX7_tellFile_250 rfl rfl rfl rfl ?_
    refine zw_go (pc1 := 252) (L1 := [some (.ref a0), none, some (.int x2), some (.int x3), some (.int x4), some (.int x5), some (.int x6), some (.int x7)]) (st1 := [.int x2, .int (100 * x3), .ref b8, .int ((32 * x6) + (zI σ b4 (Int32.toNatClampNeg x6))), .ref b2]) (σ1 := σ) zM_X7_tellFile dX7_tellFile_251 rfl rfl rfl rfl ?_
    refine zw_go (pc1 := 254) (L1 := [some (.ref a0), none, some (.int x2), some (.int x3), some (.int x4), some (.int x5), some (.int x6), some (.int x7)]) (st1 := [.int x4, .int x2, .int (100 * x3), .ref b8, .int ((32 * x6) + (zI σ b4 (Int32.toNatClampNeg x6))), .ref b2]) (σ1 := σ) zM_X7_tellFile dX7_tellFile_252 rfl rfl rfl rfl ?_
    refine zw_go (pc1 := 255) (L1 := [some (.ref a0), none, some (.int x2), some (.int x3), some (.int x4), some (.int x5), some (.int x6), some (.int x7)]) (st1 := [.int (x2 * x4), .int (100 * x3), .ref b8, .int ((32 * x6) + (zI σ b4 (Int32.toNatClampNeg x6))), .ref b2]) (σ1 := σ) zM_X7_tellFile dX7_tellFile_254 rfl rfl rfl rfl ?_
    refine zw_go (pc1 := 256) (L1 := [some (.ref a0), none, some (.int x2), some (.int x3), some (.int x4), some (.int x5), some (.int x6), some (.int x7)]) (st1 := [.int ((100 * x3) + (x2 * x4)), .ref b8, .int ((32 * x6) + (zI σ b4 (Int32.toNatClampNeg x6))), .ref b2]) (σ1 := σ) zM_X7_tellFile dX7_tellFile_255 rfl rfl rfl rfl ?_
    refine zw_go (pc1 := 258) (L1 := [some (.ref a0), none, some (.int x2), some (.int x3), some (.int x4), some (.int x5), some (.int x6), some (.int x7)]) (st1 := [.int x7, .int ((100 * x3) + (x2 * x4)), .ref b8, .int ((32 * x6) + (zI σ b4 (Int32.toNatClampNeg x6))), .ref b2]) (σ1 := σ) zM_X7_tellFile dX7_tellFile_256 rfl rfl rfl rfl ?_
    refine zw_go (pc1 := 259) (L1 := [some (.ref a0), none, some (.int x2), some (.int x3), some (.int x4), some (.int x5), some (.int x6), some (.int x7)]) (st1 := [.int (((100 * x3) + (x2 * x4)) + x7), .ref b8, .int ((32 * x6) + (zI σ b4 (Int32.toNatClampNeg x6))), .ref b2]) (σ1 := σ) zM_X7_tellFile dX7_tellFile_258 rfl rfl rfl rfl ?_
    obtain ⟨hk10, h⟩ := h
    obtain ⟨hi11, h⟩ := h
    refine zw_iald zM_X7_tellFile dX7_tellFile_259 ⟨Or.inl hk10, hi11⟩ ?_
    obtain ⟨hk12, h⟩ := h
    obtain ⟨hi13, h⟩ := h
    obtain ⟨σ14, e15⟩ : ∃ z9 : zx_S, z9 = zx_pI σ b2 (Int32.toNatClampNeg ((32 * x6) + (zI σ b4 (Int32.toNatClampNeg x6)))) (zI σ b8 (Int32.toNatClampNeg (((100 * x3) + (x2 * x4)) + x7))) := ⟨_, rfl⟩
    replace h := h σ14 e15
    refine zw_iast zM_X7_tellFile dX7_tellFile_260 ⟨hk12, hi13⟩ e15 ?_
    refine zw_go (pc1 := 262) (L1 := [some (.ref a0), none, some (.int x2), some (.int x3), some (.int x4), some (.int x5), some (.int x6), some (.int x7)]) (st1 := [.ref a0]) (σ1 := σ14) zM_X7_tellFile dX7_tellFile_261 rfl rfl rfl rfl ?_
    refine zw_getR (a := b4) zM_X7_tellFile dX7_tellFile_262 zF_7_64 rfl (by rw [e15]; exact hk1) (by rw [e15]; exact hr5) ?_
    refine zw_go (pc1 := 267) (L1 := [some (.ref a0), none, some (.int x2), some (.int x3), some (.int x4), some (.int x5), some (.int x6), some (.int x7)]) (st1 := [.int x6, .ref b4]) (σ1 := σ14) zM_X7_tellFile dX7_tellFile_265 rfl rfl rfl rfl ?_
    refine zw_go (pc1 := 268) (L1 := [some (.ref a0), none, some (.int x2), some (.int x3), some (.int x4), some (.int x5), some (.int x6), some (.int x7)]) (st1 := [.int x6, .ref b4, .int x6, .ref b4]) (σ1 := σ14) zM_X7_tellFile dX7_tellFile_267 rfl rfl rfl rfl ?_
    obtain ⟨hi16, h⟩ := h
    refine zw_iald zM_X7_tellFile dX7_tellFile_268 ⟨Or.inl (by rw [e15]; exact hk6), hi16⟩ ?_
    refine zw_iconst (v := 1) zM_X7_tellFile dX7_tellFile_269 (by decide) ?_
    refine zw_go (pc1 := 271) (L1 := [some (.ref a0), none, some (.int x2), some (.int x3), some (.int x4), some (.int x5), some (.int x6), some (.int x7)]) (st1 := [.int ((zI σ14 b4 (Int32.toNatClampNeg x6)) + 1), .int x6, .ref b4]) (σ1 := σ14) zM_X7_tellFile dX7_tellFile_270 rfl rfl rfl rfl ?_
    obtain ⟨hi17, h⟩ := h
    obtain ⟨σ18, e19⟩ : ∃ z9 : zx_S, z9 = zx_pI σ14 b4 (Int32.toNatClampNeg x6) ((zI σ14 b4 (Int32.toNatClampNeg x6)) + 1) := ⟨_, rfl⟩
    replace h := h σ18 e19
    refine zw_iast zM_X7_tellFile dX7_tellFile_271 ⟨(by rw [e15]; exact hk6), hi17⟩ e19 ?_
    refine zw_go (pc1 := 275) (L1 := [some (.ref a0), none, some (.int x2), some (.int x3), some (.int x4), some (.int x5), some (.int x6), some (.int (x7 + Int32.ofInt 1))]) (st1 := []) (σ1 := σ18) zM_X7_tellFile dX7_tellFile_272 rfl rfl rfl rfl ?_
    refine zw_goto (tgt := 219) zM_X7_tellFile dX7_tellFile_275 rfl ?_
    exact zw_weak2 h ⟨rfl, rfl, rfl, rfl, rfl, rfl, rfl, trivial⟩
