set_option maxHeartbeats 4000000 in
set_option maxRecDepth 100000 in
theorem vc_X3_addFound_0 (a0 : Nat) (σ : zx_S) (K : zx_S → Prop) (h : zwV 66 2 [some (.ref a0), some (.int 0)] [] σ K) : zwV 66 0 [some (.ref a0), none] [] σ K := by
  refine zw_iconst (v := 0) zM_X3_addFound dX3_addFound_0 (by decide) ?_
  refine zw_go (pc1 := 2) (L1 := [some (.ref a0), some (.int 0)]) (st1 := []) (σ1 := σ) zM_X3_addFound dX3_addFound_1 rfl rfl rfl rfl ?_
  exact zw_weak2 h ⟨rfl, rfl, trivial⟩
set_option maxHeartbeats 4000000 in
set_option maxRecDepth 100000 in
theorem vc_X3_addFound_2 (a0 : Nat) (x1 : Int32) (σ : zx_S) (K : zx_S → Prop) (h : zK σ a0 = 16 ∧ (((zI σ a0 8) ≤ x1 → ∃ b2 : Nat, zR σ a0 2 = some b2 ∧ zK σ b2 = 1 ∧ zx_in (zI σ a0 11) (zN σ b2) = true ∧ ∀ σ6 : zx_S, σ6 = zx_pI σ b2 (Int32.toNatClampNeg (zI σ a0 11)) (zI σ a0 8) → ∀ σ8 : zx_S, σ8 = zx_pI σ6 a0 11 ((zI σ6 a0 11) + 1) → K σ8) ∧ (¬ (zI σ a0 8) ≤ x1 → ∃ b10 : Nat, zR σ a0 3 = some b10 ∧ ∃ b12 : Nat, zR σ a0 5 = some b12 ∧ zK σ b12 = 1 ∧ zx_in x1 (zN σ b12) = true ∧ zK σ b10 = 1 ∧ zx_in (((zI σ a0 11) * 3) + x1) (zN σ b10) = true ∧ ∀ σ18 : zx_S, σ18 = zx_pI σ b10 (Int32.toNatClampNeg (((zI σ a0 11) * 3) + x1)) (zI σ b12 (Int32.toNatClampNeg x1)) → ∃ b20 : Nat, zR σ18 a0 4 = some b20 ∧ ∃ b22 : Nat, zR σ18 a0 6 = some b22 ∧ zK σ18 b22 = 1 ∧ zx_in x1 (zN σ18 b22) = true ∧ zK σ18 b20 = 1 ∧ zx_in (((zI σ18 a0 11) * 3) + x1) (zN σ18 b20) = true ∧ ∀ σ28 : zx_S, σ28 = zx_pI σ18 b20 (Int32.toNatClampNeg (((zI σ18 a0 11) * 3) + x1)) (zI σ18 b22 (Int32.toNatClampNeg x1)) → zwV 66 2 [some (.ref a0), some (.int (x1 + Int32.ofInt 1))] [] σ28 K))) : zwV 66 2 [some (.ref a0), some (.int x1)] [] σ K := by
  refine zw_go (pc1 := 3) (L1 := [some (.ref a0), some (.int x1)]) (st1 := [.int x1]) (σ1 := σ) zM_X3_addFound dX3_addFound_2 rfl rfl rfl rfl ?_
  refine zw_go (pc1 := 4) (L1 := [some (.ref a0), some (.int x1)]) (st1 := [.ref a0, .int x1]) (σ1 := σ) zM_X3_addFound dX3_addFound_3 rfl rfl rfl rfl ?_
  obtain ⟨hk1, h⟩ := h
  refine zw_getI zM_X3_addFound dX3_addFound_4 zF_3_99 rfl hk1 ?_
  refine zw_icmp_ge (tgt := 54) zM_X3_addFound dX3_addFound_7 rfl rfl (fun q => ?_) (fun q => ?_)
  · replace h := h.1 q
    refine zw_go (pc1 := 55) (L1 := [some (.ref a0), some (.int x1)]) (st1 := [.ref a0]) (σ1 := σ) zM_X3_addFound dX3_addFound_54 rfl rfl rfl rfl ?_
    obtain ⟨b2, hr3, h⟩ := h
    refine zw_getR (a := b2) zM_X3_addFound dX3_addFound_55 zF_3_21 rfl hk1 hr3 ?_
    refine zw_go (pc1 := 59) (L1 := [some (.ref a0), some (.int x1)]) (st1 := [.ref a0, .ref b2]) (σ1 := σ) zM_X3_addFound dX3_addFound_58 rfl rfl rfl rfl ?_
    refine zw_getI zM_X3_addFound dX3_addFound_59 zF_3_49 rfl hk1 ?_
    refine zw_go (pc1 := 63) (L1 := [some (.ref a0), some (.int x1)]) (st1 := [.ref a0, .int (zI σ a0 11), .ref b2]) (σ1 := σ) zM_X3_addFound dX3_addFound_62 rfl rfl rfl rfl ?_
    refine zw_getI zM_X3_addFound dX3_addFound_63 zF_3_99 rfl hk1 ?_
    obtain ⟨hk4, h⟩ := h
    obtain ⟨hi5, h⟩ := h
    obtain ⟨σ6, e7⟩ : ∃ z9 : zx_S, z9 = zx_pI σ b2 (Int32.toNatClampNeg (zI σ a0 11)) (zI σ a0 8) := ⟨_, rfl⟩
    replace h := h σ6 e7
    refine zw_iast zM_X3_addFound dX3_addFound_66 ⟨hk4, hi5⟩ e7 ?_
    refine zw_go (pc1 := 68) (L1 := [some (.ref a0), some (.int x1)]) (st1 := [.ref a0]) (σ1 := σ6) zM_X3_addFound dX3_addFound_67 rfl rfl rfl rfl ?_
    refine zw_go (pc1 := 69) (L1 := [some (.ref a0), some (.int x1)]) (st1 := [.ref a0, .ref a0]) (σ1 := σ6) zM_X3_addFound dX3_addFound_68 rfl rfl rfl rfl ?_
    refine zw_getI zM_X3_addFound dX3_addFound_69 zF_3_49 rfl (by rw [e7]; exact hk1) ?_
    refine zw_iconst (v := 1) zM_X3_addFound dX3_addFound_72 (by decide) ?_
    refine zw_go (pc1 := 74) (L1 := [some (.ref a0), some (.int x1)]) (st1 := [.int ((zI σ6 a0 11) + 1), .ref a0]) (σ1 := σ6) zM_X3_addFound dX3_addFound_73 rfl rfl rfl rfl ?_
    obtain ⟨σ8, e9⟩ : ∃ z9 : zx_S, z9 = zx_pI σ6 a0 11 ((zI σ6 a0 11) + 1) := ⟨_, rfl⟩
    replace h := h σ8 e9
    refine zw_putI zM_X3_addFound dX3_addFound_74 zF_3_49 rfl rfl (by rw [e7]; exact hk1) e9 ?_
    exact zw_retv zM_X3_addFound dX3_addFound_77 rfl h
  · replace h := h.2 q
    refine zw_go (pc1 := 11) (L1 := [some (.ref a0), some (.int x1)]) (st1 := [.ref a0]) (σ1 := σ) zM_X3_addFound dX3_addFound_10 rfl rfl rfl rfl ?_
    obtain ⟨b10, hr11, h⟩ := h
    refine zw_getR (a := b10) zM_X3_addFound dX3_addFound_11 zF_3_24 rfl hk1 hr11 ?_
    refine zw_go (pc1 := 15) (L1 := [some (.ref a0), some (.int x1)]) (st1 := [.ref a0, .ref b10]) (σ1 := σ) zM_X3_addFound dX3_addFound_14 rfl rfl rfl rfl ?_
    refine zw_getI zM_X3_addFound dX3_addFound_15 zF_3_49 rfl hk1 ?_
    refine zw_iconst (v := 3) zM_X3_addFound dX3_addFound_18 (by decide) ?_
    refine zw_go (pc1 := 20) (L1 := [some (.ref a0), some (.int x1)]) (st1 := [.int ((zI σ a0 11) * 3), .ref b10]) (σ1 := σ) zM_X3_addFound dX3_addFound_19 rfl rfl rfl rfl ?_
    refine zw_go (pc1 := 21) (L1 := [some (.ref a0), some (.int x1)]) (st1 := [.int x1, .int ((zI σ a0 11) * 3), .ref b10]) (σ1 := σ) zM_X3_addFound dX3_addFound_20 rfl rfl rfl rfl ?_
    refine zw_go (pc1 := 22) (L1 := [some (.ref a0), some (.int x1)]) (st1 := [.int (((zI σ a0 11) * 3) + x1), .ref b10]) (σ1 := σ) zM_X3_addFound dX3_addFound_21 rfl rfl rfl rfl ?_
    refine zw_go (pc1 := 23) (L1 := [some (.ref a0), some (.int x1)]) (st1 := [.ref a0, .int (((zI σ a0 11) * 3) + x1), .ref b10]) (σ1 := σ) zM_X3_addFound dX3_addFound_22 rfl rfl rfl rfl ?_
    obtain ⟨b12, hr13, h⟩ := h
    refine zw_getR (a := b12) zM_X3_addFound dX3_addFound_23 zF_3_30 rfl hk1 hr13 ?_
    refine zw_go (pc1 := 27) (L1 := [some (.ref a0), some (.int x1)]) (st1 := [.int x1, .ref b12, .int (((zI σ a0 11) * 3) + x1), .ref b10]) (σ1 := σ) zM_X3_addFound dX3_addFound_26 rfl rfl rfl rfl ?_
    obtain ⟨hk14, h⟩ := h
    obtain ⟨hi15, h⟩ := h
    refine zw_iald zM_X3_addFound dX3_addFound_27 ⟨Or.inl hk14, hi15⟩ ?_
    obtain ⟨hk16, h⟩ := h
    obtain ⟨hi17, h⟩ := h
    obtain ⟨σ18, e19⟩ : ∃ z9 : zx_S, z9 = zx_pI σ b10 (Int32.toNatClampNeg (((zI σ a0 11) * 3) + x1)) (zI σ b12 (Int32.toNatClampNeg x1)) := ⟨_, rfl⟩
    replace h := h σ18 e19
    refine zw_iast zM_X3_addFound dX3_addFound_28 ⟨hk16, hi17⟩ e19 ?_
    refine zw_go (pc1 := 30) (L1 := [some (.ref a0), some (.int x1)]) (st1 := [.ref a0]) (σ1 := σ18) zM_X3_addFound dX3_addFound_29 rfl rfl rfl rfl ?_
    obtain ⟨b20, hr21, h⟩ := h
    refine zw_getR (a := b20) zM_X3_addFound dX3_addFound_30 zF_3_27 rfl (by rw [e19]; exact hk1) hr21 ?_
    refine zw_go (pc1 := 34) (L1 := [some (.ref a0), some (.int x1)]) (st1 := [.ref a0, .ref b20]) (σ1 := σ18) zM_X3_addFound dX3_addFound_33 rfl rfl rfl rfl ?_
    refine zw_getI zM_X3_addFound dX3_addFound_34 zF_3_49 rfl (by rw [e19]; exact hk1) ?_
    refine zw_iconst (v := 3) zM_X3_addFound dX3_addFound_37 (by decide) ?_
    refine zw_go (pc1 := 39) (L1 := [some (.ref a0), some (.int x1)]) (st1 := [.int ((zI σ18 a0 11) * 3), .ref b20]) (σ1 := σ18) zM_X3_addFound dX3_addFound_38 rfl rfl rfl rfl ?_
    refine zw_go (pc1 := 40) (L1 := [some (.ref a0), some (.int x1)]) (st1 := [.int x1, .int ((zI σ18 a0 11) * 3), .ref b20]) (σ1 := σ18) zM_X3_addFound dX3_addFound_39 rfl rfl rfl rfl ?_
    refine zw_go (pc1 := 41) (L1 := [some (.ref a0), some (.int x1)]) (st1 := [.int (((zI σ18 a0 11) * 3) + x1), .ref b20]) (σ1 := σ18) zM_X3_addFound dX3_addFound_40 rfl rfl rfl rfl ?_
    refine zw_go (pc1 := 42) (L1 := [some (.ref a0), some (.int x1)]) (st1 := [.ref a0, .int (((zI σ18 a0 11) * 3) + x1), .ref b20]) (σ1 := σ18) zM_X3_addFound dX3_addFound_41 rfl rfl rfl rfl ?_
    obtain ⟨b22, hr23, h⟩ := h
    refine zw_getR (a := b22) zM_X3_addFound dX3_addFound_42 zF_3_33 rfl (by rw [e19]; exact hk1) hr23 ?_
    refine zw_go (pc1 := 46) (L1 := [some (.ref a0), some (.int x1)]) (st1 := [.int x1, .ref b22, .int (((zI σ18 a0 11) * 3) + x1), .ref b20]) (σ1 := σ18) zM_X3_addFound dX3_addFound_45 rfl rfl rfl rfl ?_
    obtain ⟨hk24, h⟩ := h
    obtain ⟨hi25, h⟩ := h
    refine zw_iald zM_X3_addFound dX3_addFound_46 ⟨Or.inl hk24, hi25⟩ ?_
    obtain ⟨hk26, h⟩ := h
    obtain ⟨hi27, h⟩ := h
    obtain ⟨σ28, e29⟩ : ∃ z9 : zx_S, z9 = zx_pI σ18 b20 (Int32.toNatClampNeg (((zI σ18 a0 11) * 3) + x1)) (zI σ18 b22 (Int32.toNatClampNeg x1)) := ⟨_, rfl⟩
    replace h := h σ28 e29
    refine zw_iast zM_X3_addFound dX3_addFound_47 ⟨hk26, hi27⟩ e29 ?_
    refine zw_go (pc1 := 51) (L1 := [some (.ref a0), some (.int (x1 + Int32.ofInt 1))]) (st1 := []) (σ1 := σ28) zM_X3_addFound dX3_addFound_48 rfl rfl rfl rfl ?_
    refine zw_goto (tgt := 2) zM_X3_addFound dX3_addFound_51 rfl ?_
    exact zw_weak2 h ⟨rfl, rfl, trivial⟩
set_option maxHeartbeats 4000000 in
set_option maxRecDepth 100000 in
theorem vc_X3_addToFound_0 (a0 : Nat) (x1 : Int32) (x2 : Int32) (σ : zx_S) (K : zx_S → Prop) (h : zK σ a0 = 16 ∧ (((3 : Int32) ≤ (zI σ a0 8) → K σ) ∧ (¬ (3 : Int32) ≤ (zI σ a0 8) → ∃ b2 : Nat, zR σ a0 5 = some b2 ∧ zK σ b2 = 1 ∧ zx_in (zI σ a0 8) (zN σ b2) = true ∧ ∀ σ6 : zx_S, σ6 = zx_pI σ b2 (Int32.toNatClampNeg (zI σ a0 8)) x1 → ∃ b8 : Nat, zR σ6 a0 6 = some b8 ∧ zK σ6 b8 = 1 ∧ zx_in (zI σ6 a0 8) (zN σ6 b8) = true ∧ ∀ σ12 : zx_S, σ12 = zx_pI σ6 b8 (Int32.toNatClampNeg (zI σ6 a0 8)) x2 → ∀ σ14 : zx_S, σ14 = zx_pI σ12 a0 8 ((zI σ12 a0 8) + 1) → K σ14))) : zwV 67 0 [some (.ref a0), some (.int x1), some (.int x2)] [] σ K := by
  refine zw_go (pc1 := 1) (L1 := [some (.ref a0), some (.int x1), some (.int x2)]) (st1 := [.ref a0]) (σ1 := σ) zM_X3_addToFound dX3_addToFound_0 rfl rfl rfl rfl ?_
  obtain ⟨hk1, h⟩ := h
  refine zw_getI zM_X3_addToFound dX3_addToFound_1 zF_3_99 rfl hk1 ?_
  refine zw_iconst (v := 3) zM_X3_addToFound dX3_addToFound_4 (by decide) ?_
  refine zw_icmp_ge (tgt := 38) zM_X3_addToFound dX3_addToFound_5 rfl rfl (fun q => ?_) (fun q => ?_)
  · replace h := h.1 q
    exact zw_retv zM_X3_addToFound dX3_addToFound_38 rfl h
  · replace h := h.2 q
    refine zw_go (pc1 := 9) (L1 := [some (.ref a0), some (.int x1), some (.int x2)]) (st1 := [.ref a0]) (σ1 := σ) zM_X3_addToFound dX3_addToFound_8 rfl rfl rfl rfl ?_
    obtain ⟨b2, hr3, h⟩ := h
    refine zw_getR (a := b2) zM_X3_addToFound dX3_addToFound_9 zF_3_30 rfl hk1 hr3 ?_
    refine zw_go (pc1 := 13) (L1 := [some (.ref a0), some (.int x1), some (.int x2)]) (st1 := [.ref a0, .ref b2]) (σ1 := σ) zM_X3_addToFound dX3_addToFound_12 rfl rfl rfl rfl ?_
    refine zw_getI zM_X3_addToFound dX3_addToFound_13 zF_3_99 rfl hk1 ?_
    refine zw_go (pc1 := 17) (L1 := [some (.ref a0), some (.int x1), some (.int x2)]) (st1 := [.int x1, .int (zI σ a0 8), .ref b2]) (σ1 := σ) zM_X3_addToFound dX3_addToFound_16 rfl rfl rfl rfl ?_
    obtain ⟨hk4, h⟩ := h
    obtain ⟨hi5, h⟩ := h
    obtain ⟨σ6, e7⟩ : ∃ z9 : zx_S, z9 = zx_pI σ b2 (Int32.toNatClampNeg (zI σ a0 8)) x1 := ⟨_, rfl⟩
    replace h := h σ6 e7
    refine zw_iast zM_X3_addToFound dX3_addToFound_17 ⟨hk4, hi5⟩ e7 ?_
    refine zw_go (pc1 := 19) (L1 := [some (.ref a0), some (.int x1), some (.int x2)]) (st1 := [.ref a0]) (σ1 := σ6) zM_X3_addToFound dX3_addToFound_18 rfl rfl rfl rfl ?_
    obtain ⟨b8, hr9, h⟩ := h
    refine zw_getR (a := b8) zM_X3_addToFound dX3_addToFound_19 zF_3_33 rfl (by rw [e7]; exact hk1) hr9 ?_
    refine zw_go (pc1 := 23) (L1 := [some (.ref a0), some (.int x1), some (.int x2)]) (st1 := [.ref a0, .ref b8]) (σ1 := σ6) zM_X3_addToFound dX3_addToFound_22 rfl rfl rfl rfl ?_
    refine zw_getI zM_X3_addToFound dX3_addToFound_23 zF_3_99 rfl (by rw [e7]; exact hk1) ?_
    refine zw_go (pc1 := 27) (L1 := [some (.ref a0), some (.int x1), some (.int x2)]) (st1 := [.int x2, .int (zI σ6 a0 8), .ref b8]) (σ1 := σ6) zM_X3_addToFound dX3_addToFound_26 rfl rfl rfl rfl ?_
    obtain ⟨hk10, h⟩ := h
    obtain ⟨hi11, h⟩ := h
    obtain ⟨σ12, e13⟩ : ∃ z9 : zx_S, z9 = zx_pI σ6 b8 (Int32.toNatClampNeg (zI σ6 a0 8)) x2 := ⟨_, rfl⟩
    replace h := h σ12 e13
    refine zw_iast zM_X3_addToFound dX3_addToFound_27 ⟨hk10, hi11⟩ e13 ?_
    refine zw_go (pc1 := 29) (L1 := [some (.ref a0), some (.int x1), some (.int x2)]) (st1 := [.ref a0]) (σ1 := σ12) zM_X3_addToFound dX3_addToFound_28 rfl rfl rfl rfl ?_
    refine zw_go (pc1 := 30) (L1 := [some (.ref a0), some (.int x1), some (.int x2)]) (st1 := [.ref a0, .ref a0]) (σ1 := σ12) zM_X3_addToFound dX3_addToFound_29 rfl rfl rfl rfl ?_
    refine zw_getI zM_X3_addToFound dX3_addToFound_30 zF_3_99 rfl (by rw [e13, e7]; exact hk1) ?_
    refine zw_iconst (v := 1) zM_X3_addToFound dX3_addToFound_33 (by decide) ?_
    refine zw_go (pc1 := 35) (L1 := [some (.ref a0), some (.int x1), some (.int x2)]) (st1 := [.int ((zI σ12 a0 8) + 1), .ref a0]) (σ1 := σ12) zM_X3_addToFound dX3_addToFound_34 rfl rfl rfl rfl ?_
    obtain ⟨σ14, e15⟩ : ∃ z9 : zx_S, z9 = zx_pI σ12 a0 8 ((zI σ12 a0 8) + 1) := ⟨_, rfl⟩
    replace h := h σ14 e15
    refine zw_putI zM_X3_addToFound dX3_addToFound_35 zF_3_99 rfl rfl (by rw [e13, e7]; exact hk1) e15 ?_
    exact zw_retv zM_X3_addToFound dX3_addToFound_38 rfl h
set_option maxHeartbeats 4000000 in
set_option maxRecDepth 100000 in
theorem vc_X3_byteOf_0 (a0 : Nat) (x1 : Int32) (x2 : Int32) (σ : zx_S) (K : Int32 → zx_S → Prop) (h : zK σ a0 = 16 ∧ zwR 87 0 [some (.ref a0), some (.int x1)] [] σ (fun b3 σ2 => zK σ2 a0 = 16 ∧ zwI 81 0 [some (.ref a0), some (.int x1)] [] σ2 (fun v6 σ5 => zK σ5 b3 = 14 ∧ zwI 24 0 [some (.ref b3), some (.int v6), some (.int x2), none, none, none, none, none] [] σ5 (fun v9 σ8 => K v9 σ8)))) : zwI 68 0 [some (.ref a0), some (.int x1), some (.int x2)] [] σ K := by
  refine zw_go (pc1 := 1) (L1 := [some (.ref a0), some (.int x1), some (.int x2)]) (st1 := [.ref a0]) (σ1 := σ) zM_X3_byteOf dX3_byteOf_0 rfl rfl rfl rfl ?_
  refine zw_go (pc1 := 2) (L1 := [some (.ref a0), some (.int x1), some (.int x2)]) (st1 := [.int x1, .ref a0]) (σ1 := σ) zM_X3_byteOf dX3_byteOf_1 rfl rfl rfl rfl ?_
  obtain ⟨hk1, h⟩ := h
  refine zw_callR (as := [.ref a0, .int x1]) (rest := []) zM_X3_byteOf dX3_byteOf_2 (zx_calV zC_3_52) zM_X3_upperImage rfl rfl rfl rfl rfl (zx_args0 hk1 rfl) rfl h (fun b3 σ2 h => ?_)
  refine zw_go (pc1 := 6) (L1 := [some (.ref a0), some (.int x1), some (.int x2)]) (st1 := [.ref a0, .ref b3]) (σ1 := σ2) zM_X3_byteOf dX3_byteOf_5 rfl rfl rfl rfl ?_
  refine zw_go (pc1 := 7) (L1 := [some (.ref a0), some (.int x1), some (.int x2)]) (st1 := [.int x1, .ref a0, .ref b3]) (σ1 := σ2) zM_X3_byteOf dX3_byteOf_6 rfl rfl rfl rfl ?_
  obtain ⟨hk4, h⟩ := h
  refine zw_callI (as := [.ref a0, .int x1]) (rest := [.ref b3]) zM_X3_byteOf dX3_byteOf_7 (zx_calV zC_3_56) zM_X3_numberOf rfl rfl rfl rfl rfl (zx_args0 hk4 rfl) rfl h (fun v6 σ5 h => ?_)
  refine zw_go (pc1 := 11) (L1 := [some (.ref a0), some (.int x1), some (.int x2)]) (st1 := [.int x2, .int v6, .ref b3]) (σ1 := σ5) zM_X3_byteOf dX3_byteOf_10 rfl rfl rfl rfl ?_
  obtain ⟨hk7, h⟩ := h
  refine zw_callI (as := [.ref b3, .int v6, .int x2]) (rest := []) zM_X3_byteOf dX3_byteOf_11 (zx_calV zC_3_92) zM_X1_fileByte rfl rfl rfl rfl rfl (zx_args0 hk7 rfl) rfl h (fun v9 σ8 h => ?_)
  exact zw_reti zM_X3_byteOf dX3_byteOf_14 rfl h
set_option maxHeartbeats 4000000 in
set_option maxRecDepth 100000 in
theorem vc_X3_depthOf_0 (a0 : Nat) (x1 : Int32) (σ : zx_S) (K : Int32 → zx_S → Prop) (h : zK σ a0 = 16 ∧ ∃ b2 : Nat, zR σ a0 2 = some b2 ∧ zK σ b2 = 1 ∧ zx_in x1 (zN σ b2) = true ∧ K (zI σ b2 (Int32.toNatClampNeg x1)) σ) : zwI 69 0 [some (.ref a0), some (.int x1)] [] σ K := by
  refine zw_go (pc1 := 1) (L1 := [some (.ref a0), some (.int x1)]) (st1 := [.ref a0]) (σ1 := σ) zM_X3_depthOf dX3_depthOf_0 rfl rfl rfl rfl ?_
  obtain ⟨hk1, h⟩ := h
  obtain ⟨b2, hr3, h⟩ := h
  refine zw_getR (a := b2) zM_X3_depthOf dX3_depthOf_1 zF_3_21 rfl hk1 hr3 ?_
  refine zw_go (pc1 := 5) (L1 := [some (.ref a0), some (.int x1)]) (st1 := [.int x1, .ref b2]) (σ1 := σ) zM_X3_depthOf dX3_depthOf_4 rfl rfl rfl rfl ?_
  obtain ⟨hk4, h⟩ := h
  obtain ⟨hi5, h⟩ := h
  refine zw_iald zM_X3_depthOf dX3_depthOf_5 ⟨Or.inl hk4, hi5⟩ ?_
  exact zw_reti zM_X3_depthOf dX3_depthOf_6 rfl h
set_option maxHeartbeats 4000000 in
set_option maxRecDepth 100000 in
theorem vc_X3_find_0 (a0 : Nat) (x1 : Int32) (x2 : Int32) (σ : zx_S) (K : zx_S → Prop) (h : zK σ a0 = 16 ∧ ∀ σ2 : zx_S, σ2 = zx_pI σ a0 8 0 → zwV 70 7 [some (.ref a0), some (.int x1), some (.int x2), some (.int 0), none, none, none, none] [] σ2 K) : zwV 70 0 [some (.ref a0), some (.int x1), some (.int x2), none, none, none, none, none] [] σ K := by
  refine zw_go (pc1 := 1) (L1 := [some (.ref a0), some (.int x1), some (.int x2), none, none, none, none, none]) (st1 := [.ref a0]) (σ1 := σ) zM_X3_find dX3_find_0 rfl rfl rfl rfl ?_
  refine zw_iconst (v := 0) zM_X3_find dX3_find_1 (by decide) ?_
  obtain ⟨hk1, h⟩ := h
  obtain ⟨σ2, e3⟩ : ∃ z9 : zx_S, z9 = zx_pI σ a0 8 0 := ⟨_, rfl⟩
  replace h := h σ2 e3
  refine zw_putI zM_X3_find dX3_find_2 zF_3_99 rfl rfl hk1 e3 ?_
  refine zw_iconst (v := 0) zM_X3_find dX3_find_5 (by decide) ?_
  refine zw_go (pc1 := 7) (L1 := [some (.ref a0), some (.int x1), some (.int x2), some (.int 0), none, none, none, none]) (st1 := []) (σ1 := σ2) zM_X3_find dX3_find_6 rfl rfl rfl rfl ?_
  exact zw_weak2 h ⟨rfl, rfl, rfl, rfl, trivial⟩
set_option maxHeartbeats 4000000 in
set_option maxRecDepth 100000 in
theorem vc_X3_find_7 (a0 : Nat) (x1 : Int32) (x2 : Int32) (x3 : Int32) (σ : zx_S) (K : zx_S → Prop) (h : zK σ a0 = 16 ∧ ∃ b2 : Nat, zR σ a0 2 = some b2 ∧ zK σ b2 = 1 ∧ zx_in x1 (zN σ b2) = true ∧ (((zI σ b2 (Int32.toNatClampNeg x1)) ≤ x3 → K σ) ∧ (¬ (zI σ b2 (Int32.toNatClampNeg x1)) ≤ x3 → ∃ b6 : Nat, zR σ a0 3 = some b6 ∧ zK σ b6 = 1 ∧ zx_in ((x1 * 3) + x3) (zN σ b6) = true ∧ ∃ b10 : Nat, zR σ a0 1 = some b10 ∧ zK σ b10 = 3 ∧ zx_in (zI σ b6 (Int32.toNatClampNeg ((x1 * 3) + x3))) (zN σ b10) = true ∧ ∃ b14 : Nat, zR σ b10 (Int32.toNatClampNeg (zI σ b6 (Int32.toNatClampNeg ((x1 * 3) + x3)))) = some b14 ∧ ∃ b16 : Nat, zR σ a0 4 = some b16 ∧ zK σ b16 = 1 ∧ zx_in ((x1 * 3) + x3) (zN σ b16) = true ∧ zK σ b14 = 14 ∧ zwI 49 0 [some (.ref b14), some (.int (zI σ b16 (Int32.toNatClampNeg ((x1 * 3) + x3)))), some (.int x2), none, none, none, none] [] σ (fun v22 σ21 => ((v22 = (0 : Int32) → zwV 70 104 [some (.ref a0), some (.int x1), some (.int x2), some (.int x3), none, none, none, none] [] σ21 K) ∧ (¬ v22 = (0 : Int32) → zK σ21 b14 = 14 ∧ zwI 30 0 [some (.ref b14), some (.int v22)] [] σ21 (fun v25 σ24 => ((v25 = (1 : Int32) → zwV 70 89 [some (.ref a0), some (.int x1), some (.int x2), some (.int x3), some (.int (zI σ b6 (Int32.toNatClampNeg ((x1 * 3) + x3)))), none, some (.int v22), some (.int v25)] [] σ24 K) ∧ (¬ v25 = (1 : Int32) → ((¬ v25 = (2 : Int32) → zwV 70 97 [some (.ref a0), some (.int x1), some (.int x2), some (.int x3), none, none, none, some (.int v25)] [] σ24 K) ∧ (v25 = (2 : Int32) → zK σ24 a0 = 16 ∧ ((¬ (zI σ24 a0 8) = (0 : Int32) → zwV 70 97 [some (.ref a0), some (.int x1), some (.int x2), some (.int x3), none, none, none, some (.int v25)] [] σ24 K) ∧ ((zI σ24 a0 8) = (0 : Int32) → zwV 70 89 [some (.ref a0), some (.int x1), some (.int x2), some (.int x3), some (.int (zI σ b6 (Int32.toNatClampNeg ((x1 * 3) + x3)))), none, some (.int v22), some (.int v25)] [] σ24 K))))))))))))) : zwV 70 7 [some (.ref a0), some (.int x1), some (.int x2), some (.int x3), none, none, none, none] [] σ K := by
  refine zw_go (pc1 := 8) (L1 := [some (.ref a0), some (.int x1), some (.int x2), some (.int x3), none, none, none, none]) (st1 := [.int x3]) (σ1 := σ) zM_X3_find dX3_find_7 rfl rfl rfl rfl ?_
  refine zw_go (pc1 := 9) (L1 := [some (.ref a0), some (.int x1), some (.int x2), some (.int x3), none, none, none, none]) (st1 := [.ref a0, .int x3]) (σ1 := σ) zM_X3_find dX3_find_8 rfl rfl rfl rfl ?_
  obtain ⟨hk1, h⟩ := h
  obtain ⟨b2, hr3, h⟩ := h
  refine zw_getR (a := b2) zM_X3_find dX3_find_9 zF_3_21 rfl hk1 hr3 ?_
  refine zw_go (pc1 := 13) (L1 := [some (.ref a0), some (.int x1), some (.int x2), some (.int x3), none, none, none, none]) (st1 := [.int x1, .ref b2, .int x3]) (σ1 := σ) zM_X3_find dX3_find_12 rfl rfl rfl rfl ?_
  obtain ⟨hk4, h⟩ := h
  obtain ⟨hi5, h⟩ := h
  refine zw_iald zM_X3_find dX3_find_13 ⟨Or.inl hk4, hi5⟩ ?_
  refine zw_icmp_ge (tgt := 110) zM_X3_find dX3_find_14 rfl rfl (fun q => ?_) (fun q => ?_)
  · replace h := h.1 q
    exact zw_retv zM_X3_find dX3_find_110 rfl h
  · replace h := h.2 q
    refine zw_go (pc1 := 18) (L1 := [some (.ref a0), some (.int x1), some (.int x2), some (.int x3), none, none, none, none]) (st1 := [.ref a0]) (σ1 := σ) zM_X3_find dX3_find_17 rfl rfl rfl rfl ?_
    obtain ⟨b6, hr7, h⟩ := h
    refine zw_getR (a := b6) zM_X3_find dX3_find_18 zF_3_24 rfl hk1 hr7 ?_
    refine zw_go (pc1 := 22) (L1 := [some (.ref a0), some (.int x1), some (.int x2), some (.int x3), none, none, none, none]) (st1 := [.int x1, .ref b6]) (σ1 := σ) zM_X3_find dX3_find_21 rfl rfl rfl rfl ?_
    refine zw_iconst (v := 3) zM_X3_find dX3_find_22 (by decide) ?_
    refine zw_go (pc1 := 24) (L1 := [some (.ref a0), some (.int x1), some (.int x2), some (.int x3), none, none, none, none]) (st1 := [.int (x1 * 3), .ref b6]) (σ1 := σ) zM_X3_find dX3_find_23 rfl rfl rfl rfl ?_
    refine zw_go (pc1 := 25) (L1 := [some (.ref a0), some (.int x1), some (.int x2), some (.int x3), none, none, none, none]) (st1 := [.int x3, .int (x1 * 3), .ref b6]) (σ1 := σ) zM_X3_find dX3_find_24 rfl rfl rfl rfl ?_
    refine zw_go (pc1 := 26) (L1 := [some (.ref a0), some (.int x1), some (.int x2), some (.int x3), none, none, none, none]) (st1 := [.int ((x1 * 3) + x3), .ref b6]) (σ1 := σ) zM_X3_find dX3_find_25 rfl rfl rfl rfl ?_
    obtain ⟨hk8, h⟩ := h
    obtain ⟨hi9, h⟩ := h
    refine zw_iald zM_X3_find dX3_find_26 ⟨Or.inl hk8, hi9⟩ ?_
    refine zw_go (pc1 := 29) (L1 := [some (.ref a0), some (.int x1), some (.int x2), some (.int x3), some (.int (zI σ b6 (Int32.toNatClampNeg ((x1 * 3) + x3)))), none, none, none]) (st1 := []) (σ1 := σ) zM_X3_find dX3_find_27 rfl rfl rfl rfl ?_
    refine zw_go (pc1 := 30) (L1 := [some (.ref a0), some (.int x1), some (.int x2), some (.int x3), some (.int (zI σ b6 (Int32.toNatClampNeg ((x1 * 3) + x3)))), none, none, none]) (st1 := [.ref a0]) (σ1 := σ) zM_X3_find dX3_find_29 rfl rfl rfl rfl ?_
    obtain ⟨b10, hr11, h⟩ := h
    refine zw_getR (a := b10) zM_X3_find dX3_find_30 zF_3_17 rfl hk1 hr11 ?_
    refine zw_go (pc1 := 35) (L1 := [some (.ref a0), some (.int x1), some (.int x2), some (.int x3), some (.int (zI σ b6 (Int32.toNatClampNeg ((x1 * 3) + x3)))), none, none, none]) (st1 := [.int (zI σ b6 (Int32.toNatClampNeg ((x1 * 3) + x3))), .ref b10]) (σ1 := σ) zM_X3_find dX3_find_33 rfl rfl rfl rfl ?_
    obtain ⟨hk12, h⟩ := h
    obtain ⟨hi13, b14, hr15, h⟩ := h
    refine zw_aald zM_X3_find dX3_find_35 ⟨hk12, hi13⟩ hr15 ?_
    refine zw_go (pc1 := 38) (L1 := [some (.ref a0), some (.int x1), some (.int x2), some (.int x3), some (.int (zI σ b6 (Int32.toNatClampNeg ((x1 * 3) + x3)))), some (.ref b14), none, none]) (st1 := []) (σ1 := σ) zM_X3_find dX3_find_36 rfl rfl rfl rfl ?_
    refine zw_go (pc1 := 40) (L1 := [some (.ref a0), some (.int x1), some (.int x2), some (.int x3), some (.int (zI σ b6 (Int32.toNatClampNeg ((x1 * 3) + x3)))), some (.ref b14), none, none]) (st1 := [.ref b14]) (σ1 := σ) zM_X3_find dX3_find_38 rfl rfl rfl rfl ?_
    refine zw_go (pc1 := 41) (L1 := [some (.ref a0), some (.int x1), some (.int x2), some (.int x3), some (.int (zI σ b6 (Int32.toNatClampNeg ((x1 * 3) + x3)))), some (.ref b14), none, none]) (st1 := [.ref a0, .ref b14]) (σ1 := σ) zM_X3_find dX3_find_40 rfl rfl rfl rfl ?_
    obtain ⟨b16, hr17, h⟩ := h
    refine zw_getR (a := b16) zM_X3_find dX3_find_41 zF_3_27 rfl hk1 hr17 ?_
    refine zw_go (pc1 := 45) (L1 := [some (.ref a0), some (.int x1), some (.int x2), some (.int x3), some (.int (zI σ b6 (Int32.toNatClampNeg ((x1 * 3) + x3)))), some (.ref b14), none, none]) (st1 := [.int x1, .ref b16, .ref b14]) (σ1 := σ) zM_X3_find dX3_find_44 rfl rfl rfl rfl ?_
    refine zw_iconst (v := 3) zM_X3_find dX3_find_45 (by decide) ?_
    refine zw_go (pc1 := 47) (L1 := [some (.ref a0), some (.int x1), some (.int x2), some (.int x3), some (.int (zI σ b6 (Int32.toNatClampNeg ((x1 * 3) + x3)))), some (.ref b14), none, none]) (st1 := [.int (x1 * 3), .ref b16, .ref b14]) (σ1 := σ) zM_X3_find dX3_find_46 rfl rfl rfl rfl ?_
    refine zw_go (pc1 := 48) (L1 := [some (.ref a0), some (.int x1), some (.int x2), some (.int x3), some (.int (zI σ b6 (Int32.toNatClampNeg ((x1 * 3) + x3)))), some (.ref b14), none, none]) (st1 := [.int x3, .int (x1 * 3), .ref b16, .ref b14]) (σ1 := σ) zM_X3_find dX3_find_47 rfl rfl rfl rfl ?_
    refine zw_go (pc1 := 49) (L1 := [some (.ref a0), some (.int x1), some (.int x2), some (.int x3), some (.int (zI σ b6 (Int32.toNatClampNeg ((x1 * 3) + x3)))), some (.ref b14), none, none]) (st1 := [.int ((x1 * 3) + x3), .ref b16, .ref b14]) (σ1 := σ) zM_X3_find dX3_find_48 rfl rfl rfl rfl ?_
    obtain ⟨hk18, h⟩ := h
    obtain ⟨hi19, h⟩ := h
    refine zw_iald zM_X3_find dX3_find_49 ⟨Or.inl hk18, hi19⟩ ?_
    refine zw_go (pc1 := 51) (L1 := [some (.ref a0), some (.int x1), some (.int x2), some (.int x3), some (.int (zI σ b6 (Int32.toNatClampNeg ((x1 * 3) + x3)))), some (.ref b14), none, none]) (st1 := [.int x2, .int (zI σ b16 (Int32.toNatClampNeg ((x1 * 3) + x3))), .ref b14]) (σ1 := σ) zM_X3_find dX3_find_50 rfl rfl rfl rfl ?_
    obtain ⟨hk20, h⟩ := h
    refine zw_callI (as := [.ref b14, .int (zI σ b16 (Int32.toNatClampNeg ((x1 * 3) + x3))), .int x2]) (rest := []) zM_X3_find dX3_find_51 (zx_calV zC_3_108) zM_X1_targetOf rfl rfl rfl rfl rfl (zx_args0 hk20 rfl) rfl h (fun v22 σ21 h => ?_)
    refine zw_go (pc1 := 56) (L1 := [some (.ref a0), some (.int x1), some (.int x2), some (.int x3), some (.int (zI σ b6 (Int32.toNatClampNeg ((x1 * 3) + x3)))), some (.ref b14), some (.int v22), none]) (st1 := []) (σ1 := σ21) zM_X3_find dX3_find_54 rfl rfl rfl rfl ?_
    refine zw_go (pc1 := 58) (L1 := [some (.ref a0), some (.int x1), some (.int x2), some (.int x3), some (.int (zI σ b6 (Int32.toNatClampNeg ((x1 * 3) + x3)))), some (.ref b14), some (.int v22), none]) (st1 := [.int v22]) (σ1 := σ21) zM_X3_find dX3_find_56 rfl rfl rfl rfl ?_
    refine zw_if_eq (tgt := 104) zM_X3_find dX3_find_58 rfl rfl (fun q => ?_) (fun q => ?_)
    · replace h := h.1 q
      exact zw_weak2 h ⟨rfl, rfl, rfl, rfl, trivial⟩
    · replace h := h.2 q
      refine zw_go (pc1 := 63) (L1 := [some (.ref a0), some (.int x1), some (.int x2), some (.int x3), some (.int (zI σ b6 (Int32.toNatClampNeg ((x1 * 3) + x3)))), some (.ref b14), some (.int v22), none]) (st1 := [.ref b14]) (σ1 := σ21) zM_X3_find dX3_find_61 rfl rfl rfl rfl ?_
      refine zw_go (pc1 := 65) (L1 := [some (.ref a0), some (.int x1), some (.int x2), some (.int x3), some (.int (zI σ b6 (Int32.toNatClampNeg ((x1 * 3) + x3)))), some (.ref b14), some (.int v22), none]) (st1 := [.int v22, .ref b14]) (σ1 := σ21) zM_X3_find dX3_find_63 rfl rfl rfl rfl ?_
      obtain ⟨hk23, h⟩ := h
      refine zw_callI (as := [.ref b14, .int v22]) (rest := []) zM_X3_find dX3_find_65 (zx_calV zC_3_60) zM_X1_kindOf rfl rfl rfl rfl rfl (zx_args0 hk23 rfl) rfl h (fun v25 σ24 h => ?_)
      refine zw_go (pc1 := 70) (L1 := [some (.ref a0), some (.int x1), some (.int x2), some (.int x3), some (.int (zI σ b6 (Int32.toNatClampNeg ((x1 * 3) + x3)))), some (.ref b14), some (.int v22), some (.int v25)]) (st1 := []) (σ1 := σ24) zM_X3_find dX3_find_68 rfl rfl rfl rfl ?_
      refine zw_go (pc1 := 72) (L1 := [some (.ref a0), some (.int x1), some (.int x2), some (.int x3), some (.int (zI σ b6 (Int32.toNatClampNeg ((x1 * 3) + x3)))), some (.ref b14), some (.int v22), some (.int v25)]) (st1 := [.int v25]) (σ1 := σ24) zM_X3_find dX3_find_70 rfl rfl rfl rfl ?_
      refine zw_iconst (v := 1) zM_X3_find dX3_find_72 (by decide) ?_
      refine zw_icmp_eq (tgt := 89) zM_X3_find dX3_find_73 rfl rfl (fun q => ?_) (fun q => ?_)
      · replace h := h.1 q
        exact zw_weak2 h ⟨rfl, rfl, rfl, rfl, rfl, rfl, rfl, trivial⟩
      · replace h := h.2 q
        refine zw_go (pc1 := 78) (L1 := [some (.ref a0), some (.int x1), some (.int x2), some (.int x3), some (.int (zI σ b6 (Int32.toNatClampNeg ((x1 * 3) + x3)))), some (.ref b14), some (.int v22), some (.int v25)]) (st1 := [.int v25]) (σ1 := σ24) zM_X3_find dX3_find_76 rfl rfl rfl rfl ?_
        refine zw_iconst (v := 2) zM_X3_find dX3_find_78 (by decide) ?_
        refine zw_icmp_ne (tgt := 97) zM_X3_find dX3_find_79 rfl rfl (fun q => ?_) (fun q => ?_)
        · replace h := h.1 q
          exact zw_weak2 h ⟨rfl, rfl, rfl, rfl, rfl, trivial⟩
        · replace h := h.2 q
          refine zw_go (pc1 := 83) (L1 := [some (.ref a0), some (.int x1), some (.int x2), some (.int x3), some (.int (zI σ b6 (Int32.toNatClampNeg ((x1 * 3) + x3)))), some (.ref b14), some (.int v22), some (.int v25)]) (st1 := [.ref a0]) (σ1 := σ24) zM_X3_find dX3_find_82 rfl rfl rfl rfl ?_
          obtain ⟨hk26, h⟩ := h
          refine zw_getI zM_X3_find dX3_find_83 zF_3_99 rfl hk26 ?_
          refine zw_if_ne (tgt := 97) zM_X3_find dX3_find_86 rfl rfl (fun q => ?_) (fun q => ?_)
          · replace h := h.1 q
            exact zw_weak2 h ⟨rfl, rfl, rfl, rfl, rfl, trivial⟩
          · replace h := h.2 q
            exact zw_weak2 h ⟨rfl, rfl, rfl, rfl, rfl, rfl, rfl, trivial⟩
set_option maxHeartbeats 4000000 in
set_option maxRecDepth 100000 in
theorem vc_X3_find_89 (a0 : Nat) (x1 : Int32) (x2 : Int32) (x3 : Int32) (x4 : Int32) (x6 : Int32) (x7 : Int32) (σ : zx_S) (K : zx_S → Prop) (h : zK σ a0 = 16 ∧ zwV 67 0 [some (.ref a0), some (.int x4), some (.int x6)] [] σ (fun σ2 => zwV 70 97 [some (.ref a0), some (.int x1), some (.int x2), some (.int x3), none, none, none, some (.int x7)] [] σ2 K)) : zwV 70 89 [some (.ref a0), some (.int x1), some (.int x2), some (.int x3), some (.int x4), none, some (.int x6), some (.int x7)] [] σ K := by
  refine zw_go (pc1 := 90) (L1 := [some (.ref a0), some (.int x1), some (.int x2), some (.int x3), some (.int x4), none, some (.int x6), some (.int x7)]) (st1 := [.ref a0]) (σ1 := σ) zM_X3_find dX3_find_89 rfl rfl rfl rfl ?_
  refine zw_go (pc1 := 92) (L1 := [some (.ref a0), some (.int x1), some (.int x2), some (.int x3), some (.int x4), none, some (.int x6), some (.int x7)]) (st1 := [.int x4, .ref a0]) (σ1 := σ) zM_X3_find dX3_find_90 rfl rfl rfl rfl ?_
  refine zw_go (pc1 := 94) (L1 := [some (.ref a0), some (.int x1), some (.int x2), some (.int x3), some (.int x4), none, some (.int x6), some (.int x7)]) (st1 := [.int x6, .int x4, .ref a0]) (σ1 := σ) zM_X3_find dX3_find_92 rfl rfl rfl rfl ?_
  obtain ⟨hk1, h⟩ := h
  refine zw_callV (as := [.ref a0, .int x4, .int x6]) (rest := []) zM_X3_find dX3_find_94 (zx_calV zC_3_105) zM_X3_addToFound rfl rfl rfl rfl rfl (zx_args0 hk1 rfl) rfl h (fun σ2 h => ?_)
  exact zw_weak2 h ⟨rfl, rfl, rfl, rfl, rfl, trivial⟩
set_option maxHeartbeats 4000000 in
set_option maxRecDepth 100000 in
theorem vc_X3_find_97 (a0 : Nat) (x1 : Int32) (x2 : Int32) (x3 : Int32) (x7 : Int32) (σ : zx_S) (K : zx_S → Prop) (h : ((x7 = (1 : Int32) → zwV 70 104 [some (.ref a0), some (.int x1), some (.int x2), some (.int x3), none, none, none, none] [] σ K) ∧ (¬ x7 = (1 : Int32) → K σ))) : zwV 70 97 [some (.ref a0), some (.int x1), some (.int x2), some (.int x3), none, none, none, some (.int x7)] [] σ K := by
  refine zw_go (pc1 := 99) (L1 := [some (.ref a0), some (.int x1), some (.int x2), some (.int x3), none, none, none, some (.int x7)]) (st1 := [.int x7]) (σ1 := σ) zM_X3_find dX3_find_97 rfl rfl rfl rfl ?_
  refine zw_iconst (v := 1) zM_X3_find dX3_find_99 (by decide) ?_
  refine zw_icmp_eq (tgt := 104) zM_X3_find dX3_find_100 rfl rfl (fun q => ?_) (fun q => ?_)
  · replace h := h.1 q
    exact zw_weak2 h ⟨rfl, rfl, rfl, rfl, trivial⟩
  · replace h := h.2 q
    exact zw_retv zM_X3_find dX3_find_103 rfl h
set_option maxHeartbeats 4000000 in
set_option maxRecDepth 100000 in
theorem vc_X3_find_104 (a0 : Nat) (x1 : Int32) (x2 : Int32) (x3 : Int32) (σ : zx_S) (K : zx_S → Prop) (h : zwV 70 7 [some (.ref a0), some (.int x1), some (.int x2), some (.int (x3 + Int32.ofInt 1)), none, none, none, none] [] σ K) : zwV 70 104 [some (.ref a0), some (.int x1), some (.int x2), some (.int x3), none, none, none, none] [] σ K := by
  refine zw_go (pc1 := 107) (L1 := [some (.ref a0), some (.int x1), some (.int x2), some (.int (x3 + Int32.ofInt 1)), none, none, none, none]) (st1 := []) (σ1 := σ) zM_X3_find dX3_find_104 rfl rfl rfl rfl ?_
  refine zw_goto (tgt := 7) zM_X3_find dX3_find_107 rfl ?_
  exact zw_weak2 h ⟨rfl, rfl, rfl, rfl, trivial⟩
set_option maxHeartbeats 4000000 in
set_option maxRecDepth 100000 in
theorem vc_X3_hasView_0 (a0 : Nat) (x1 : Int32) (σ : zx_S) (K : Int32 → zx_S → Prop) (h : ((x1 < (0 : Int32) → K 0 σ) ∧ (¬ x1 < (0 : Int32) → zK σ a0 = 16 ∧ (((zI σ a0 11) ≤ x1 → K 0 σ) ∧ (¬ (zI σ a0 11) ≤ x1 → K 1 σ))))) : zwI 71 0 [some (.ref a0), some (.int x1)] [] σ K := by
  refine zw_go (pc1 := 1) (L1 := [some (.ref a0), some (.int x1)]) (st1 := [.int x1]) (σ1 := σ) zM_X3_hasView dX3_hasView_0 rfl rfl rfl rfl ?_
  refine zw_if_lt (tgt := 16) zM_X3_hasView dX3_hasView_1 rfl rfl (fun q => ?_) (fun q => ?_)
  · replace h := h.1 q
    refine zw_iconst (v := 0) zM_X3_hasView dX3_hasView_16 (by decide) ?_
    exact zw_retz zM_X3_hasView dX3_hasView_17 rfl (by decide) h
  · replace h := h.2 q
    refine zw_go (pc1 := 5) (L1 := [some (.ref a0), some (.int x1)]) (st1 := [.int x1]) (σ1 := σ) zM_X3_hasView dX3_hasView_4 rfl rfl rfl rfl ?_
    refine zw_go (pc1 := 6) (L1 := [some (.ref a0), some (.int x1)]) (st1 := [.ref a0, .int x1]) (σ1 := σ) zM_X3_hasView dX3_hasView_5 rfl rfl rfl rfl ?_
    obtain ⟨hk1, h⟩ := h
    refine zw_getI zM_X3_hasView dX3_hasView_6 zF_3_49 rfl hk1 ?_
    refine zw_icmp_ge (tgt := 16) zM_X3_hasView dX3_hasView_9 rfl rfl (fun q => ?_) (fun q => ?_)
    · replace h := h.1 q
      refine zw_iconst (v := 0) zM_X3_hasView dX3_hasView_16 (by decide) ?_
      exact zw_retz zM_X3_hasView dX3_hasView_17 rfl (by decide) h
    · replace h := h.2 q
      refine zw_iconst (v := 1) zM_X3_hasView dX3_hasView_12 (by decide) ?_
      refine zw_goto (tgt := 17) zM_X3_hasView dX3_hasView_13 rfl ?_
      exact zw_retz zM_X3_hasView dX3_hasView_17 rfl (by decide) h
set_option maxHeartbeats 4000000 in
set_option maxRecDepth 100000 in
theorem vc_X3_imageOf_0 (a0 : Nat) (x1 : Int32) (σ : zx_S) (K : Int32 → zx_S → Prop) (h : zK σ a0 = 16 ∧ ∃ b2 : Nat, zR σ a0 0 = some b2 ∧ ∃ b4 : Nat, zR σ a0 3 = some b4 ∧ zK σ b4 = 1 ∧ zx_in (x1 * 3) (zN σ b4) = true ∧ zK σ b2 = 1 ∧ zx_in (zI σ b4 (Int32.toNatClampNeg (x1 * 3))) (zN σ b2) = true ∧ K (zI σ b2 (Int32.toNatClampNeg (zI σ b4 (Int32.toNatClampNeg (x1 * 3))))) σ) : zwI 72 0 [some (.ref a0), some (.int x1)] [] σ K := by
  refine zw_go (pc1 := 1) (L1 := [some (.ref a0), some (.int x1)]) (st1 := [.ref a0]) (σ1 := σ) zM_X3_imageOf dX3_imageOf_0 rfl rfl rfl rfl ?_
  obtain ⟨hk1, h⟩ := h
  obtain ⟨b2, hr3, h⟩ := h
  refine zw_getR (a := b2) zM_X3_imageOf dX3_imageOf_1 zF_3_9 rfl hk1 hr3 ?_
  refine zw_go (pc1 := 5) (L1 := [some (.ref a0), some (.int x1)]) (st1 := [.ref a0, .ref b2]) (σ1 := σ) zM_X3_imageOf dX3_imageOf_4 rfl rfl rfl rfl ?_
  obtain ⟨b4, hr5, h⟩ := h
  refine zw_getR (a := b4) zM_X3_imageOf dX3_imageOf_5 zF_3_24 rfl hk1 hr5 ?_
  refine zw_go (pc1 := 9) (L1 := [some (.ref a0), some (.int x1)]) (st1 := [.int x1, .ref b4, .ref b2]) (σ1 := σ) zM_X3_imageOf dX3_imageOf_8 rfl rfl rfl rfl ?_
  refine zw_iconst (v := 3) zM_X3_imageOf dX3_imageOf_9 (by decide) ?_
  refine zw_go (pc1 := 11) (L1 := [some (.ref a0), some (.int x1)]) (st1 := [.int (x1 * 3), .ref b4, .ref b2]) (σ1 := σ) zM_X3_imageOf dX3_imageOf_10 rfl rfl rfl rfl ?_
  obtain ⟨hk6, h⟩ := h
  obtain ⟨hi7, h⟩ := h
  refine zw_iald zM_X3_imageOf dX3_imageOf_11 ⟨Or.inl hk6, hi7⟩ ?_
  obtain ⟨hk8, h⟩ := h
  obtain ⟨hi9, h⟩ := h
  refine zw_iald zM_X3_imageOf dX3_imageOf_12 ⟨Or.inl hk8, hi9⟩ ?_
  exact zw_reti zM_X3_imageOf dX3_imageOf_13 rfl h
set_option maxHeartbeats 4000000 in
set_option maxRecDepth 100000 in
theorem vc_X3_init_0 (a0 : Nat) (σ : zx_S) (K : zx_S → Prop) (h : ∀ σ1 : zx_S, σ1 = zx_nw σ 1 (Int32.toNatClampNeg 3) (Int32.toNatClampNeg 3) → zK σ1 a0 = 16 ∧ ∀ σ4 : zx_S, σ4 = zx_pR σ1 a0 0 (some (zn σ)) → ∀ σ6 : zx_S, σ6 = zx_nw σ4 3 (Int32.toNatClampNeg 3) (Int32.toNatClampNeg 3) → zK σ6 a0 = 16 ∧ ∀ σ9 : zx_S, σ9 = zx_pR σ6 a0 1 (some (zn σ4)) → ∀ σ11 : zx_S, σ11 = zx_nw σ9 1 (Int32.toNatClampNeg 60) (Int32.toNatClampNeg 60) → zK σ11 a0 = 16 ∧ ∀ σ14 : zx_S, σ14 = zx_pR σ11 a0 2 (some (zn σ9)) → ∀ σ16 : zx_S, σ16 = zx_nw σ14 1 (Int32.toNatClampNeg 180) (Int32.toNatClampNeg 180) → zK σ16 a0 = 16 ∧ ∀ σ19 : zx_S, σ19 = zx_pR σ16 a0 3 (some (zn σ14)) → ∀ σ21 : zx_S, σ21 = zx_nw σ19 1 (Int32.toNatClampNeg 180) (Int32.toNatClampNeg 180) → zK σ21 a0 = 16 ∧ ∀ σ24 : zx_S, σ24 = zx_pR σ21 a0 4 (some (zn σ19)) → ∀ σ26 : zx_S, σ26 = zx_nw σ24 1 (Int32.toNatClampNeg 3) (Int32.toNatClampNeg 3) → zK σ26 a0 = 16 ∧ ∀ σ29 : zx_S, σ29 = zx_pR σ26 a0 5 (some (zn σ24)) → ∀ σ31 : zx_S, σ31 = zx_nw σ29 1 (Int32.toNatClampNeg 3) (Int32.toNatClampNeg 3) → zK σ31 a0 = 16 ∧ ∀ σ34 : zx_S, σ34 = zx_pR σ31 a0 6 (some (zn σ29)) → ∀ σ36 : zx_S, σ36 = zx_nw σ34 1 (Int32.toNatClampNeg 3) (Int32.toNatClampNeg 3) → zK σ36 a0 = 16 ∧ ∀ σ39 : zx_S, σ39 = zx_pR σ36 a0 7 (some (zn σ34)) → ∀ σ41 : zx_S, σ41 = zx_nw σ39 14 0 8 → zwV 29 0 [some (.ref (zn σ39)), some (.int 0)] [] σ41 (fun σ43 => zwV 73 77 [some (.ref a0), some (.ref (zn σ39)), some (.int 0)] [] σ43 K)) : zwV 73 0 [some (.ref a0), none, none] [] σ K := by
  refine zw_go (pc1 := 1) (L1 := [some (.ref a0), none, none]) (st1 := [.ref a0]) (σ1 := σ) zM_X3_init dX3_init_0 rfl rfl rfl rfl ?_
  refine zw_obj zM_X3_init dX3_init_1 zC_3_3 (by decide) rfl ?_
  refine zw_go (pc1 := 5) (L1 := [some (.ref a0), none, none]) (st1 := [.ref a0]) (σ1 := σ) zM_X3_init dX3_init_4 rfl rfl rfl rfl ?_
  refine zw_iconst (v := 3) zM_X3_init dX3_init_5 (by decide) ?_
  obtain ⟨σ1, e2⟩ : ∃ z9 : zx_S, z9 = zx_nw σ 1 (Int32.toNatClampNeg 3) (Int32.toNatClampNeg 3) := ⟨_, rfl⟩
  replace h := h σ1 e2
  refine zw_newI zM_X3_init dX3_init_6 (by decide) e2 ?_
  obtain ⟨hk3, h⟩ := h
  obtain ⟨σ4, e5⟩ : ∃ z9 : zx_S, z9 = zx_pR σ1 a0 0 (some (zn σ)) := ⟨_, rfl⟩
  replace h := h σ4 e5
  refine zw_putR zM_X3_init dX3_init_8 zF_3_9 rfl rfl (by decide) hk3 e5 ?_
  refine zw_go (pc1 := 12) (L1 := [some (.ref a0), none, none]) (st1 := [.ref a0]) (σ1 := σ4) zM_X3_init dX3_init_11 rfl rfl rfl rfl ?_
  refine zw_iconst (v := 3) zM_X3_init dX3_init_12 (by decide) ?_
  obtain ⟨σ6, e7⟩ : ∃ z9 : zx_S, z9 = zx_nw σ4 3 (Int32.toNatClampNeg 3) (Int32.toNatClampNeg 3) := ⟨_, rfl⟩
  replace h := h σ6 e7
  refine zw_newO zM_X3_init dX3_init_13 zA_3_15 (by decide) e7 ?_
  obtain ⟨hk8, h⟩ := h
  obtain ⟨σ9, e10⟩ : ∃ z9 : zx_S, z9 = zx_pR σ6 a0 1 (some (zn σ4)) := ⟨_, rfl⟩
  replace h := h σ9 e10
  refine zw_putR zM_X3_init dX3_init_16 zF_3_17 rfl rfl (by decide) hk8 e10 ?_
  refine zw_go (pc1 := 20) (L1 := [some (.ref a0), none, none]) (st1 := [.ref a0]) (σ1 := σ9) zM_X3_init dX3_init_19 rfl rfl rfl rfl ?_
  refine zw_bipush (v := 60) zM_X3_init dX3_init_20 (by decide) ?_
  obtain ⟨σ11, e12⟩ : ∃ z9 : zx_S, z9 = zx_nw σ9 1 (Int32.toNatClampNeg 60) (Int32.toNatClampNeg 60) := ⟨_, rfl⟩
  replace h := h σ11 e12
  refine zw_newI zM_X3_init dX3_init_22 (by decide) e12 ?_
  obtain ⟨hk13, h⟩ := h
  obtain ⟨σ14, e15⟩ : ∃ z9 : zx_S, z9 = zx_pR σ11 a0 2 (some (zn σ9)) := ⟨_, rfl⟩
  replace h := h σ14 e15
  refine zw_putR zM_X3_init dX3_init_24 zF_3_21 rfl rfl (by decide) hk13 e15 ?_
  refine zw_go (pc1 := 28) (L1 := [some (.ref a0), none, none]) (st1 := [.ref a0]) (σ1 := σ14) zM_X3_init dX3_init_27 rfl rfl rfl rfl ?_
  refine zw_sipush (v := 180) zM_X3_init dX3_init_28 (by decide) ?_
  obtain ⟨σ16, e17⟩ : ∃ z9 : zx_S, z9 = zx_nw σ14 1 (Int32.toNatClampNeg 180) (Int32.toNatClampNeg 180) := ⟨_, rfl⟩
  replace h := h σ16 e17
  refine zw_newI zM_X3_init dX3_init_31 (by decide) e17 ?_
  obtain ⟨hk18, h⟩ := h
  obtain ⟨σ19, e20⟩ : ∃ z9 : zx_S, z9 = zx_pR σ16 a0 3 (some (zn σ14)) := ⟨_, rfl⟩
  replace h := h σ19 e20
  refine zw_putR zM_X3_init dX3_init_33 zF_3_24 rfl rfl (by decide) hk18 e20 ?_
  refine zw_go (pc1 := 37) (L1 := [some (.ref a0), none, none]) (st1 := [.ref a0]) (σ1 := σ19) zM_X3_init dX3_init_36 rfl rfl rfl rfl ?_
  refine zw_sipush (v := 180) zM_X3_init dX3_init_37 (by decide) ?_
  obtain ⟨σ21, e22⟩ : ∃ z9 : zx_S, z9 = zx_nw σ19 1 (Int32.toNatClampNeg 180) (Int32.toNatClampNeg 180) := ⟨_, rfl⟩
  replace h := h σ21 e22
  refine zw_newI zM_X3_init dX3_init_40 (by decide) e22 ?_
  obtain ⟨hk23, h⟩ := h
  obtain ⟨σ24, e25⟩ : ∃ z9 : zx_S, z9 = zx_pR σ21 a0 4 (some (zn σ19)) := ⟨_, rfl⟩
  replace h := h σ24 e25
  refine zw_putR zM_X3_init dX3_init_42 zF_3_27 rfl rfl (by decide) hk23 e25 ?_
  refine zw_go (pc1 := 46) (L1 := [some (.ref a0), none, none]) (st1 := [.ref a0]) (σ1 := σ24) zM_X3_init dX3_init_45 rfl rfl rfl rfl ?_
  refine zw_iconst (v := 3) zM_X3_init dX3_init_46 (by decide) ?_
  obtain ⟨σ26, e27⟩ : ∃ z9 : zx_S, z9 = zx_nw σ24 1 (Int32.toNatClampNeg 3) (Int32.toNatClampNeg 3) := ⟨_, rfl⟩
  replace h := h σ26 e27
  refine zw_newI zM_X3_init dX3_init_47 (by decide) e27 ?_
  obtain ⟨hk28, h⟩ := h
  obtain ⟨σ29, e30⟩ : ∃ z9 : zx_S, z9 = zx_pR σ26 a0 5 (some (zn σ24)) := ⟨_, rfl⟩
  replace h := h σ29 e30
  refine zw_putR zM_X3_init dX3_init_49 zF_3_30 rfl rfl (by decide) hk28 e30 ?_
  refine zw_go (pc1 := 53) (L1 := [some (.ref a0), none, none]) (st1 := [.ref a0]) (σ1 := σ29) zM_X3_init dX3_init_52 rfl rfl rfl rfl ?_
  refine zw_iconst (v := 3) zM_X3_init dX3_init_53 (by decide) ?_
  obtain ⟨σ31, e32⟩ : ∃ z9 : zx_S, z9 = zx_nw σ29 1 (Int32.toNatClampNeg 3) (Int32.toNatClampNeg 3) := ⟨_, rfl⟩
  replace h := h σ31 e32
  refine zw_newI zM_X3_init dX3_init_54 (by decide) e32 ?_
  obtain ⟨hk33, h⟩ := h
  obtain ⟨σ34, e35⟩ : ∃ z9 : zx_S, z9 = zx_pR σ31 a0 6 (some (zn σ29)) := ⟨_, rfl⟩
  replace h := h σ34 e35
  refine zw_putR zM_X3_init dX3_init_56 zF_3_33 rfl rfl (by decide) hk33 e35 ?_
  refine zw_go (pc1 := 60) (L1 := [some (.ref a0), none, none]) (st1 := [.ref a0]) (σ1 := σ34) zM_X3_init dX3_init_59 rfl rfl rfl rfl ?_
  refine zw_iconst (v := 3) zM_X3_init dX3_init_60 (by decide) ?_
  obtain ⟨σ36, e37⟩ : ∃ z9 : zx_S, z9 = zx_nw σ34 1 (Int32.toNatClampNeg 3) (Int32.toNatClampNeg 3) := ⟨_, rfl⟩
  replace h := h σ36 e37
  refine zw_newI zM_X3_init dX3_init_61 (by decide) e37 ?_
  obtain ⟨hk38, h⟩ := h
  obtain ⟨σ39, e40⟩ : ∃ z9 : zx_S, z9 = zx_pR σ36 a0 7 (some (zn σ34)) := ⟨_, rfl⟩
  replace h := h σ39 e40
  refine zw_putR zM_X3_init dX3_init_63 zF_3_36 rfl rfl (by decide) hk38 e40 ?_
  obtain ⟨σ41, e42⟩ : ∃ z9 : zx_S, z9 = zx_nw σ39 14 0 8 := ⟨_, rfl⟩
  replace h := h σ41 e42
  refine zw_new zM_X3_init dX3_init_66 zN_3_15 rfl e42 ?_
  refine zw_go (pc1 := 70) (L1 := [some (.ref a0), none, none]) (st1 := [.ref (zn σ39), .ref (zn σ39)]) (σ1 := σ41) zM_X3_init dX3_init_69 rfl rfl rfl rfl ?_
  refine zw_iconst (v := 0) zM_X3_init dX3_init_70 (by decide) ?_
  refine zw_callV (as := [.ref (zn σ39), .int 0]) (rest := [.ref (zn σ39)]) zM_X3_init dX3_init_71 (zx_calI zC_3_39) zM_X1_init rfl rfl rfl rfl rfl rfl rfl h (fun σ43 h => ?_)
  refine zw_go (pc1 := 75) (L1 := [some (.ref a0), some (.ref (zn σ39)), none]) (st1 := []) (σ1 := σ43) zM_X3_init dX3_init_74 rfl rfl rfl rfl ?_
  refine zw_iconst (v := 0) zM_X3_init dX3_init_75 (by decide) ?_
  refine zw_go (pc1 := 77) (L1 := [some (.ref a0), some (.ref (zn σ39)), some (.int 0)]) (st1 := []) (σ1 := σ43) zM_X3_init dX3_init_76 rfl rfl rfl rfl ?_
  exact zw_weak2 h ⟨rfl, rfl, rfl, trivial⟩
set_option maxHeartbeats 4000000 in
set_option maxRecDepth 100000 in
theorem vc_X3_init_77 (a0 : Nat) (a1 : Nat) (x2 : Int32) (σ : zx_S) (K : zx_S → Prop) (h : (((3 : Int32) ≤ x2 → K σ) ∧ (¬ (3 : Int32) ≤ x2 → zK σ a0 = 16 ∧ ∃ b2 : Nat, zR σ a0 1 = some b2 ∧ zK σ b2 = 3 ∧ zK σ a1 = 14 ∧ zx_in x2 (zN σ b2) = true ∧ ∀ σ7 : zx_S, σ7 = zx_pR σ b2 (Int32.toNatClampNeg x2) (some a1) → zwV 73 77 [some (.ref a0), some (.ref a1), some (.int (x2 + Int32.ofInt 1))] [] σ7 K))) : zwV 73 77 [some (.ref a0), some (.ref a1), some (.int x2)] [] σ K := by
  refine zw_go (pc1 := 78) (L1 := [some (.ref a0), some (.ref a1), some (.int x2)]) (st1 := [.int x2]) (σ1 := σ) zM_X3_init dX3_init_77 rfl rfl rfl rfl ?_
  refine zw_iconst (v := 3) zM_X3_init dX3_init_78 (by decide) ?_
  refine zw_icmp_ge (tgt := 95) zM_X3_init dX3_init_79 rfl rfl (fun q => ?_) (fun q => ?_)
  · replace h := h.1 q
    exact zw_retv zM_X3_init dX3_init_95 rfl h
  · replace h := h.2 q
    refine zw_go (pc1 := 83) (L1 := [some (.ref a0), some (.ref a1), some (.int x2)]) (st1 := [.ref a0]) (σ1 := σ) zM_X3_init dX3_init_82 rfl rfl rfl rfl ?_
    obtain ⟨hk1, h⟩ := h
    obtain ⟨b2, hr3, h⟩ := h
    refine zw_getR (a := b2) zM_X3_init dX3_init_83 zF_3_17 rfl hk1 hr3 ?_
    refine zw_go (pc1 := 87) (L1 := [some (.ref a0), some (.ref a1), some (.int x2)]) (st1 := [.int x2, .ref b2]) (σ1 := σ) zM_X3_init dX3_init_86 rfl rfl rfl rfl ?_
    refine zw_go (pc1 := 88) (L1 := [some (.ref a0), some (.ref a1), some (.int x2)]) (st1 := [.ref a1, .int x2, .ref b2]) (σ1 := σ) zM_X3_init dX3_init_87 rfl rfl rfl rfl ?_
    obtain ⟨hk4, h⟩ := h
    obtain ⟨hk5, h⟩ := h
    obtain ⟨hi6, h⟩ := h
    obtain ⟨σ7, e8⟩ : ∃ z9 : zx_S, z9 = zx_pR σ b2 (Int32.toNatClampNeg x2) (some a1) := ⟨_, rfl⟩
    replace h := h σ7 e8
    refine zw_aast zM_X3_init dX3_init_88 ⟨hk4, hk5, hi6⟩ e8 ?_
    refine zw_go (pc1 := 92) (L1 := [some (.ref a0), some (.ref a1), some (.int (x2 + Int32.ofInt 1))]) (st1 := []) (σ1 := σ7) zM_X3_init dX3_init_89 rfl rfl rfl rfl ?_
    refine zw_goto (tgt := 77) zM_X3_init dX3_init_92 rfl ?_
    exact zw_weak2 h ⟨rfl, rfl, rfl, trivial⟩
set_option maxHeartbeats 4000000 in
set_option maxRecDepth 100000 in
theorem vc_X3_isLaid_0 (a0 : Nat) (x1 : Int32) (σ : zx_S) (K : Int32 → zx_S → Prop) (h : zwI 74 2 [some (.ref a0), some (.int x1), some (.int 0)] [] σ K) : zwI 74 0 [some (.ref a0), some (.int x1), none] [] σ K := by
  refine zw_iconst (v := 0) zM_X3_isLaid dX3_isLaid_0 (by decide) ?_
  refine zw_go (pc1 := 2) (L1 := [some (.ref a0), some (.int x1), some (.int 0)]) (st1 := []) (σ1 := σ) zM_X3_isLaid dX3_isLaid_1 rfl rfl rfl rfl ?_
  exact zw_weak2 h ⟨rfl, rfl, rfl, trivial⟩
set_option maxHeartbeats 4000000 in
set_option maxRecDepth 100000 in
theorem vc_X3_isLaid_2 (a0 : Nat) (x1 : Int32) (x2 : Int32) (σ : zx_S) (K : Int32 → zx_S → Prop) (h : zK σ a0 = 16 ∧ (((zI σ a0 10) ≤ x2 → K 0 σ) ∧ (¬ (zI σ a0 10) ≤ x2 → ∃ b2 : Nat, zR σ a0 0 = some b2 ∧ zK σ b2 = 1 ∧ zx_in x2 (zN σ b2) = true ∧ ((¬ (zI σ b2 (Int32.toNatClampNeg x2)) = x1 → zwI 74 2 [some (.ref a0), some (.int x1), some (.int (x2 + Int32.ofInt 1))] [] σ K) ∧ ((zI σ b2 (Int32.toNatClampNeg x2)) = x1 → K 1 σ))))) : zwI 74 2 [some (.ref a0), some (.int x1), some (.int x2)] [] σ K := by
  refine zw_go (pc1 := 3) (L1 := [some (.ref a0), some (.int x1), some (.int x2)]) (st1 := [.int x2]) (σ1 := σ) zM_X3_isLaid dX3_isLaid_2 rfl rfl rfl rfl ?_
  refine zw_go (pc1 := 4) (L1 := [some (.ref a0), some (.int x1), some (.int x2)]) (st1 := [.ref a0, .int x2]) (σ1 := σ) zM_X3_isLaid dX3_isLaid_3 rfl rfl rfl rfl ?_
  obtain ⟨hk1, h⟩ := h
  refine zw_getI zM_X3_isLaid dX3_isLaid_4 zF_3_42 rfl hk1 ?_
  refine zw_icmp_ge (tgt := 28) zM_X3_isLaid dX3_isLaid_7 rfl rfl (fun q => ?_) (fun q => ?_)
  · replace h := h.1 q
    refine zw_iconst (v := 0) zM_X3_isLaid dX3_isLaid_28 (by decide) ?_
    exact zw_retz zM_X3_isLaid dX3_isLaid_29 rfl (by decide) h
  · replace h := h.2 q
    refine zw_go (pc1 := 11) (L1 := [some (.ref a0), some (.int x1), some (.int x2)]) (st1 := [.ref a0]) (σ1 := σ) zM_X3_isLaid dX3_isLaid_10 rfl rfl rfl rfl ?_
    obtain ⟨b2, hr3, h⟩ := h
    refine zw_getR (a := b2) zM_X3_isLaid dX3_isLaid_11 zF_3_9 rfl hk1 hr3 ?_
    refine zw_go (pc1 := 15) (L1 := [some (.ref a0), some (.int x1), some (.int x2)]) (st1 := [.int x2, .ref b2]) (σ1 := σ) zM_X3_isLaid dX3_isLaid_14 rfl rfl rfl rfl ?_
    obtain ⟨hk4, h⟩ := h
    obtain ⟨hi5, h⟩ := h
    refine zw_iald zM_X3_isLaid dX3_isLaid_15 ⟨Or.inl hk4, hi5⟩ ?_
    refine zw_go (pc1 := 17) (L1 := [some (.ref a0), some (.int x1), some (.int x2)]) (st1 := [.int x1, .int (zI σ b2 (Int32.toNatClampNeg x2))]) (σ1 := σ) zM_X3_isLaid dX3_isLaid_16 rfl rfl rfl rfl ?_
    refine zw_icmp_ne (tgt := 22) zM_X3_isLaid dX3_isLaid_17 rfl rfl (fun q => ?_) (fun q => ?_)
    · replace h := h.1 q
      refine zw_go (pc1 := 25) (L1 := [some (.ref a0), some (.int x1), some (.int (x2 + Int32.ofInt 1))]) (st1 := []) (σ1 := σ) zM_X3_isLaid dX3_isLaid_22 rfl rfl rfl rfl ?_
      refine zw_goto (tgt := 2) zM_X3_isLaid dX3_isLaid_25 rfl ?_
      exact zw_weak2 h ⟨rfl, rfl, rfl, trivial⟩
    · replace h := h.2 q
      refine zw_iconst (v := 1) zM_X3_isLaid dX3_isLaid_20 (by decide) ?_
      exact zw_retz zM_X3_isLaid dX3_isLaid_21 rfl (by decide) h
set_option maxHeartbeats 4000000 in
set_option maxRecDepth 100000 in
theorem vc_X3_kindOf_0 (a0 : Nat) (x1 : Int32) (σ : zx_S) (K : Int32 → zx_S → Prop) (h : zK σ a0 = 16 ∧ zwR 87 0 [some (.ref a0), some (.int x1)] [] σ (fun b3 σ2 => zK σ2 a0 = 16 ∧ zwI 81 0 [some (.ref a0), some (.int x1)] [] σ2 (fun v6 σ5 => zK σ5 b3 = 14 ∧ zwI 30 0 [some (.ref b3), some (.int v6)] [] σ5 (fun v9 σ8 => K v9 σ8)))) : zwI 75 0 [some (.ref a0), some (.int x1)] [] σ K := by
  refine zw_go (pc1 := 1) (L1 := [some (.ref a0), some (.int x1)]) (st1 := [.ref a0]) (σ1 := σ) zM_X3_kindOf dX3_kindOf_0 rfl rfl rfl rfl ?_
  refine zw_go (pc1 := 2) (L1 := [some (.ref a0), some (.int x1)]) (st1 := [.int x1, .ref a0]) (σ1 := σ) zM_X3_kindOf dX3_kindOf_1 rfl rfl rfl rfl ?_
  obtain ⟨hk1, h⟩ := h
  refine zw_callR (as := [.ref a0, .int x1]) (rest := []) zM_X3_kindOf dX3_kindOf_2 (zx_calV zC_3_52) zM_X3_upperImage rfl rfl rfl rfl rfl (zx_args0 hk1 rfl) rfl h (fun b3 σ2 h => ?_)
  refine zw_go (pc1 := 6) (L1 := [some (.ref a0), some (.int x1)]) (st1 := [.ref a0, .ref b3]) (σ1 := σ2) zM_X3_kindOf dX3_kindOf_5 rfl rfl rfl rfl ?_
  refine zw_go (pc1 := 7) (L1 := [some (.ref a0), some (.int x1)]) (st1 := [.int x1, .ref a0, .ref b3]) (σ1 := σ2) zM_X3_kindOf dX3_kindOf_6 rfl rfl rfl rfl ?_
  obtain ⟨hk4, h⟩ := h
  refine zw_callI (as := [.ref a0, .int x1]) (rest := [.ref b3]) zM_X3_kindOf dX3_kindOf_7 (zx_calV zC_3_56) zM_X3_numberOf rfl rfl rfl rfl rfl (zx_args0 hk4 rfl) rfl h (fun v6 σ5 h => ?_)
  obtain ⟨hk7, h⟩ := h
  refine zw_callI (as := [.ref b3, .int v6]) (rest := []) zM_X3_kindOf dX3_kindOf_10 (zx_calV zC_3_60) zM_X1_kindOf rfl rfl rfl rfl rfl (zx_args0 hk7 rfl) rfl h (fun v9 σ8 h => ?_)
  exact zw_reti zM_X3_kindOf dX3_kindOf_13 rfl h
set_option maxHeartbeats 4000000 in
set_option maxRecDepth 100000 in
theorem vc_X3_lay_0 (a0 : Nat) (x1 : Int32) (a2 : Nat) (σ : zx_S) (K : Int32 → zx_S → Prop) (h : zK σ a0 = 16 ∧ (((3 : Int32) ≤ (zI σ a0 10) → K (zI σ a0 10) σ) ∧ (¬ (3 : Int32) ≤ (zI σ a0 10) → ∃ b2 : Nat, zR σ a0 0 = some b2 ∧ zK σ b2 = 1 ∧ zx_in (zI σ a0 10) (zN σ b2) = true ∧ ∀ σ6 : zx_S, σ6 = zx_pI σ b2 (Int32.toNatClampNeg (zI σ a0 10)) x1 → ∃ b8 : Nat, zR σ6 a0 1 = some b8 ∧ zK σ6 b8 = 3 ∧ zK σ6 a2 = 14 ∧ zx_in (zI σ6 a0 10) (zN σ6 b8) = true ∧ ∀ σ13 : zx_S, σ13 = zx_pR σ6 b8 (Int32.toNatClampNeg (zI σ6 a0 10)) (some a2) → ∀ σ15 : zx_S, σ15 = zx_pI σ13 a0 10 ((zI σ13 a0 10) + 1) → zwV 85 0 [some (.ref a0), none] [] σ15 (fun σ17 => zK σ17 a0 = 16 ∧ K (zI σ17 a0 10) σ17)))) : zwI 76 0 [some (.ref a0), some (.int x1), some (.ref a2)] [] σ K := by
  refine zw_go (pc1 := 1) (L1 := [some (.ref a0), some (.int x1), some (.ref a2)]) (st1 := [.ref a0]) (σ1 := σ) zM_X3_lay dX3_lay_0 rfl rfl rfl rfl ?_
  obtain ⟨hk1, h⟩ := h
  refine zw_getI zM_X3_lay dX3_lay_1 zF_3_42 rfl hk1 ?_
  refine zw_iconst (v := 3) zM_X3_lay dX3_lay_4 (by decide) ?_
  refine zw_icmp_ge (tgt := 42) zM_X3_lay dX3_lay_5 rfl rfl (fun q => ?_) (fun q => ?_)
  · replace h := h.1 q
    refine zw_go (pc1 := 43) (L1 := [some (.ref a0), some (.int x1), some (.ref a2)]) (st1 := [.ref a0]) (σ1 := σ) zM_X3_lay dX3_lay_42 rfl rfl rfl rfl ?_
    refine zw_getI zM_X3_lay dX3_lay_43 zF_3_42 rfl hk1 ?_
    exact zw_reti zM_X3_lay dX3_lay_46 rfl h
  · replace h := h.2 q
    refine zw_go (pc1 := 9) (L1 := [some (.ref a0), some (.int x1), some (.ref a2)]) (st1 := [.ref a0]) (σ1 := σ) zM_X3_lay dX3_lay_8 rfl rfl rfl rfl ?_
    obtain ⟨b2, hr3, h⟩ := h
    refine zw_getR (a := b2) zM_X3_lay dX3_lay_9 zF_3_9 rfl hk1 hr3 ?_
    refine zw_go (pc1 := 13) (L1 := [some (.ref a0), some (.int x1), some (.ref a2)]) (st1 := [.ref a0, .ref b2]) (σ1 := σ) zM_X3_lay dX3_lay_12 rfl rfl rfl rfl ?_
    refine zw_getI zM_X3_lay dX3_lay_13 zF_3_42 rfl hk1 ?_
    refine zw_go (pc1 := 17) (L1 := [some (.ref a0), some (.int x1), some (.ref a2)]) (st1 := [.int x1, .int (zI σ a0 10), .ref b2]) (σ1 := σ) zM_X3_lay dX3_lay_16 rfl rfl rfl rfl ?_
    obtain ⟨hk4, h⟩ := h
    obtain ⟨hi5, h⟩ := h
    obtain ⟨σ6, e7⟩ : ∃ z9 : zx_S, z9 = zx_pI σ b2 (Int32.toNatClampNeg (zI σ a0 10)) x1 := ⟨_, rfl⟩
    replace h := h σ6 e7
    refine zw_iast zM_X3_lay dX3_lay_17 ⟨hk4, hi5⟩ e7 ?_
    refine zw_go (pc1 := 19) (L1 := [some (.ref a0), some (.int x1), some (.ref a2)]) (st1 := [.ref a0]) (σ1 := σ6) zM_X3_lay dX3_lay_18 rfl rfl rfl rfl ?_
    obtain ⟨b8, hr9, h⟩ := h
    refine zw_getR (a := b8) zM_X3_lay dX3_lay_19 zF_3_17 rfl (by rw [e7]; exact hk1) hr9 ?_
    refine zw_go (pc1 := 23) (L1 := [some (.ref a0), some (.int x1), some (.ref a2)]) (st1 := [.ref a0, .ref b8]) (σ1 := σ6) zM_X3_lay dX3_lay_22 rfl rfl rfl rfl ?_
    refine zw_getI zM_X3_lay dX3_lay_23 zF_3_42 rfl (by rw [e7]; exact hk1) ?_
    refine zw_go (pc1 := 27) (L1 := [some (.ref a0), some (.int x1), some (.ref a2)]) (st1 := [.ref a2, .int (zI σ6 a0 10), .ref b8]) (σ1 := σ6) zM_X3_lay dX3_lay_26 rfl rfl rfl rfl ?_
    obtain ⟨hk10, h⟩ := h
    obtain ⟨hk11, h⟩ := h
    obtain ⟨hi12, h⟩ := h
    obtain ⟨σ13, e14⟩ : ∃ z9 : zx_S, z9 = zx_pR σ6 b8 (Int32.toNatClampNeg (zI σ6 a0 10)) (some a2) := ⟨_, rfl⟩
    replace h := h σ13 e14
    refine zw_aast zM_X3_lay dX3_lay_27 ⟨hk10, hk11, hi12⟩ e14 ?_
    refine zw_go (pc1 := 29) (L1 := [some (.ref a0), some (.int x1), some (.ref a2)]) (st1 := [.ref a0]) (σ1 := σ13) zM_X3_lay dX3_lay_28 rfl rfl rfl rfl ?_
    refine zw_go (pc1 := 30) (L1 := [some (.ref a0), some (.int x1), some (.ref a2)]) (st1 := [.ref a0, .ref a0]) (σ1 := σ13) zM_X3_lay dX3_lay_29 rfl rfl rfl rfl ?_
    refine zw_getI zM_X3_lay dX3_lay_30 zF_3_42 rfl (by rw [e14, e7]; exact hk1) ?_
    refine zw_iconst (v := 1) zM_X3_lay dX3_lay_33 (by decide) ?_
    refine zw_go (pc1 := 35) (L1 := [some (.ref a0), some (.int x1), some (.ref a2)]) (st1 := [.int ((zI σ13 a0 10) + 1), .ref a0]) (σ1 := σ13) zM_X3_lay dX3_lay_34 rfl rfl rfl rfl ?_
    obtain ⟨σ15, e16⟩ : ∃ z9 : zx_S, z9 = zx_pI σ13 a0 10 ((zI σ13 a0 10) + 1) := ⟨_, rfl⟩
    replace h := h σ15 e16
    refine zw_putI zM_X3_lay dX3_lay_35 zF_3_42 rfl rfl (by rw [e14, e7]; exact hk1) e16 ?_
    refine zw_go (pc1 := 39) (L1 := [some (.ref a0), some (.int x1), some (.ref a2)]) (st1 := [.ref a0]) (σ1 := σ15) zM_X3_lay dX3_lay_38 rfl rfl rfl rfl ?_
    refine zw_callV (as := [.ref a0]) (rest := []) zM_X3_lay dX3_lay_39 (zx_calV zC_3_46) zM_X3_startViews rfl rfl rfl rfl rfl (zx_args0 (by rw [e16, e14, e7]; exact hk1) rfl) rfl h (fun σ17 h => ?_)
    refine zw_go (pc1 := 43) (L1 := [some (.ref a0), some (.int x1), some (.ref a2)]) (st1 := [.ref a0]) (σ1 := σ17) zM_X3_lay dX3_lay_42 rfl rfl rfl rfl ?_
    obtain ⟨hk18, h⟩ := h
    refine zw_getI zM_X3_lay dX3_lay_43 zF_3_42 rfl hk18 ?_
    exact zw_reti zM_X3_lay dX3_lay_46 rfl h
set_option maxHeartbeats 4000000 in
set_option maxRecDepth 100000 in
theorem vc_X3_lead_0 (a0 : Nat) (x1 : Int32) (x2 : Int32) (σ : zx_S) (K : Int32 → zx_S → Prop) (h : zK σ a0 = 16 ∧ zwV 70 0 [some (.ref a0), some (.int x1), some (.int x2), none, none, none, none, none] [] σ (fun σ2 => zK σ2 a0 = 16 ∧ ((¬ (zI σ2 a0 8) = (0 : Int32) → zwI 77 17 [some (.ref a0), none, none, some (.int 0)] [] σ2 K) ∧ ((zI σ2 a0 8) = (0 : Int32) → K 0 σ2)))) : zwI 77 0 [some (.ref a0), some (.int x1), some (.int x2), none] [] σ K := by
  refine zw_go (pc1 := 1) (L1 := [some (.ref a0), some (.int x1), some (.int x2), none]) (st1 := [.ref a0]) (σ1 := σ) zM_X3_lead dX3_lead_0 rfl rfl rfl rfl ?_
  refine zw_go (pc1 := 2) (L1 := [some (.ref a0), some (.int x1), some (.int x2), none]) (st1 := [.int x1, .ref a0]) (σ1 := σ) zM_X3_lead dX3_lead_1 rfl rfl rfl rfl ?_
  refine zw_go (pc1 := 3) (L1 := [some (.ref a0), some (.int x1), some (.int x2), none]) (st1 := [.int x2, .int x1, .ref a0]) (σ1 := σ) zM_X3_lead dX3_lead_2 rfl rfl rfl rfl ?_
  obtain ⟨hk1, h⟩ := h
  refine zw_callV (as := [.ref a0, .int x1, .int x2]) (rest := []) zM_X3_lead dX3_lead_3 (zx_calV zC_3_95) zM_X3_find rfl rfl rfl rfl rfl (zx_args0 hk1 rfl) rfl h (fun σ2 h => ?_)
  refine zw_go (pc1 := 7) (L1 := [some (.ref a0), some (.int x1), some (.int x2), none]) (st1 := [.ref a0]) (σ1 := σ2) zM_X3_lead dX3_lead_6 rfl rfl rfl rfl ?_
  obtain ⟨hk3, h⟩ := h
  refine zw_getI zM_X3_lead dX3_lead_7 zF_3_99 rfl hk3 ?_
  refine zw_if_ne (tgt := 15) zM_X3_lead dX3_lead_10 rfl rfl (fun q => ?_) (fun q => ?_)
  · replace h := h.1 q
    refine zw_iconst (v := 0) zM_X3_lead dX3_lead_15 (by decide) ?_
    refine zw_go (pc1 := 17) (L1 := [some (.ref a0), some (.int x1), some (.int x2), some (.int 0)]) (st1 := []) (σ1 := σ2) zM_X3_lead dX3_lead_16 rfl rfl rfl rfl ?_
    exact zw_weak2 h ⟨rfl, rfl, trivial⟩
  · replace h := h.2 q
    refine zw_iconst (v := 0) zM_X3_lead dX3_lead_13 (by decide) ?_
    exact zw_reti zM_X3_lead dX3_lead_14 rfl h
set_option maxHeartbeats 4000000 in
set_option maxRecDepth 100000 in
theorem vc_X3_lead_17 (a0 : Nat) (x3 : Int32) (σ : zx_S) (K : Int32 → zx_S → Prop) (h : zK σ a0 = 16 ∧ (((zI σ a0 11) ≤ x3 → (((zI σ a0 11) < (60 : Int32) → zwV 66 0 [some (.ref a0), none] [] σ (fun σ2 => zK σ2 a0 = 16 ∧ K ((zI σ2 a0 11) - 1) σ2)) ∧ (¬ (zI σ a0 11) < (60 : Int32) → K (-4) σ))) ∧ (¬ (zI σ a0 11) ≤ x3 → ∃ b4 : Nat, zR σ a0 3 = some b4 ∧ zK σ b4 = 1 ∧ zx_in (x3 * 3) (zN σ b4) = true ∧ ∃ b8 : Nat, zR σ a0 5 = some b8 ∧ zK σ b8 = 1 ∧ zx_in 0 (zN σ b8) = true ∧ ((¬ (zI σ b4 (Int32.toNatClampNeg (x3 * 3))) = (zI σ b8 (Int32.toNatClampNeg 0)) → zwI 77 58 [some (.ref a0), none, none, some (.int x3)] [] σ K) ∧ ((zI σ b4 (Int32.toNatClampNeg (x3 * 3))) = (zI σ b8 (Int32.toNatClampNeg 0)) → zwI 81 0 [some (.ref a0), some (.int x3)] [] σ (fun v13 σ12 => zK σ12 a0 = 16 ∧ ∃ b15 : Nat, zR σ12 a0 6 = some b15 ∧ zK σ12 b15 = 1 ∧ zx_in 0 (zN σ12 b15) = true ∧ ((¬ v13 = (zI σ12 b15 (Int32.toNatClampNeg 0)) → zwI 77 58 [some (.ref a0), none, none, some (.int x3)] [] σ12 K) ∧ (v13 = (zI σ12 b15 (Int32.toNatClampNeg 0)) → K x3 σ12)))))))) : zwI 77 17 [some (.ref a0), none, none, some (.int x3)] [] σ K := by
  refine zw_go (pc1 := 18) (L1 := [some (.ref a0), none, none, some (.int x3)]) (st1 := [.int x3]) (σ1 := σ) zM_X3_lead dX3_lead_17 rfl rfl rfl rfl ?_
  refine zw_go (pc1 := 19) (L1 := [some (.ref a0), none, none, some (.int x3)]) (st1 := [.ref a0, .int x3]) (σ1 := σ) zM_X3_lead dX3_lead_18 rfl rfl rfl rfl ?_
  obtain ⟨hk1, h⟩ := h
  refine zw_getI zM_X3_lead dX3_lead_19 zF_3_49 rfl hk1 ?_
  refine zw_icmp_ge (tgt := 64) zM_X3_lead dX3_lead_22 rfl rfl (fun q => ?_) (fun q => ?_)
  · replace h := h.1 q
    refine zw_go (pc1 := 65) (L1 := [some (.ref a0), none, none, some (.int x3)]) (st1 := [.ref a0]) (σ1 := σ) zM_X3_lead dX3_lead_64 rfl rfl rfl rfl ?_
    refine zw_getI zM_X3_lead dX3_lead_65 zF_3_49 rfl hk1 ?_
    refine zw_bipush (v := 60) zM_X3_lead dX3_lead_68 (by decide) ?_
    refine zw_icmp_lt (tgt := 76) zM_X3_lead dX3_lead_70 rfl rfl (fun q => ?_) (fun q => ?_)
    · replace h := h.1 q
      refine zw_go (pc1 := 77) (L1 := [some (.ref a0), none, none, some (.int x3)]) (st1 := [.ref a0]) (σ1 := σ) zM_X3_lead dX3_lead_76 rfl rfl rfl rfl ?_
      refine zw_callV (as := [.ref a0]) (rest := []) zM_X3_lead dX3_lead_77 (zx_calV zC_3_102) zM_X3_addFound rfl rfl rfl rfl rfl (zx_args0 hk1 rfl) rfl h (fun σ2 h => ?_)
      refine zw_go (pc1 := 81) (L1 := [some (.ref a0), none, none, some (.int x3)]) (st1 := [.ref a0]) (σ1 := σ2) zM_X3_lead dX3_lead_80 rfl rfl rfl rfl ?_
      obtain ⟨hk3, h⟩ := h
      refine zw_getI zM_X3_lead dX3_lead_81 zF_3_49 rfl hk3 ?_
      refine zw_iconst (v := 1) zM_X3_lead dX3_lead_84 (by decide) ?_
      refine zw_go (pc1 := 86) (L1 := [some (.ref a0), none, none, some (.int x3)]) (st1 := [.int ((zI σ2 a0 11) - 1)]) (σ1 := σ2) zM_X3_lead dX3_lead_85 rfl rfl rfl rfl ?_
      exact zw_reti zM_X3_lead dX3_lead_86 rfl h
    · replace h := h.2 q
      refine zw_bipush (v := (-4)) zM_X3_lead dX3_lead_73 (by decide) ?_
      exact zw_reti zM_X3_lead dX3_lead_75 rfl h
  · replace h := h.2 q
    refine zw_go (pc1 := 26) (L1 := [some (.ref a0), none, none, some (.int x3)]) (st1 := [.ref a0]) (σ1 := σ) zM_X3_lead dX3_lead_25 rfl rfl rfl rfl ?_
    obtain ⟨b4, hr5, h⟩ := h
    refine zw_getR (a := b4) zM_X3_lead dX3_lead_26 zF_3_24 rfl hk1 hr5 ?_
    refine zw_go (pc1 := 30) (L1 := [some (.ref a0), none, none, some (.int x3)]) (st1 := [.int x3, .ref b4]) (σ1 := σ) zM_X3_lead dX3_lead_29 rfl rfl rfl rfl ?_
    refine zw_iconst (v := 3) zM_X3_lead dX3_lead_30 (by decide) ?_
    refine zw_go (pc1 := 32) (L1 := [some (.ref a0), none, none, some (.int x3)]) (st1 := [.int (x3 * 3), .ref b4]) (σ1 := σ) zM_X3_lead dX3_lead_31 rfl rfl rfl rfl ?_
    obtain ⟨hk6, h⟩ := h
    obtain ⟨hi7, h⟩ := h
    refine zw_iald zM_X3_lead dX3_lead_32 ⟨Or.inl hk6, hi7⟩ ?_
    refine zw_go (pc1 := 34) (L1 := [some (.ref a0), none, none, some (.int x3)]) (st1 := [.ref a0, .int (zI σ b4 (Int32.toNatClampNeg (x3 * 3)))]) (σ1 := σ) zM_X3_lead dX3_lead_33 rfl rfl rfl rfl ?_
    obtain ⟨b8, hr9, h⟩ := h
    refine zw_getR (a := b8) zM_X3_lead dX3_lead_34 zF_3_30 rfl hk1 hr9 ?_
    refine zw_iconst (v := 0) zM_X3_lead dX3_lead_37 (by decide) ?_
    obtain ⟨hk10, h⟩ := h
    obtain ⟨hi11, h⟩ := h
    refine zw_iald zM_X3_lead dX3_lead_38 ⟨Or.inl hk10, hi11⟩ ?_
    refine zw_icmp_ne (tgt := 58) zM_X3_lead dX3_lead_39 rfl rfl (fun q => ?_) (fun q => ?_)
    · replace h := h.1 q
      exact zw_weak2 h ⟨rfl, rfl, trivial⟩
    · replace h := h.2 q
      refine zw_go (pc1 := 43) (L1 := [some (.ref a0), none, none, some (.int x3)]) (st1 := [.ref a0]) (σ1 := σ) zM_X3_lead dX3_lead_42 rfl rfl rfl rfl ?_
      refine zw_go (pc1 := 44) (L1 := [some (.ref a0), none, none, some (.int x3)]) (st1 := [.int x3, .ref a0]) (σ1 := σ) zM_X3_lead dX3_lead_43 rfl rfl rfl rfl ?_
      refine zw_callI (as := [.ref a0, .int x3]) (rest := []) zM_X3_lead dX3_lead_44 (zx_calV zC_3_56) zM_X3_numberOf rfl rfl rfl rfl rfl (zx_args0 hk1 rfl) rfl h (fun v13 σ12 h => ?_)
      refine zw_go (pc1 := 48) (L1 := [some (.ref a0), none, none, some (.int x3)]) (st1 := [.ref a0, .int v13]) (σ1 := σ12) zM_X3_lead dX3_lead_47 rfl rfl rfl rfl ?_
      obtain ⟨hk14, h⟩ := h
      obtain ⟨b15, hr16, h⟩ := h
      refine zw_getR (a := b15) zM_X3_lead dX3_lead_48 zF_3_33 rfl hk14 hr16 ?_
      refine zw_iconst (v := 0) zM_X3_lead dX3_lead_51 (by decide) ?_
      obtain ⟨hk17, h⟩ := h
      obtain ⟨hi18, h⟩ := h
      refine zw_iald zM_X3_lead dX3_lead_52 ⟨Or.inl hk17, hi18⟩ ?_
      refine zw_icmp_ne (tgt := 58) zM_X3_lead dX3_lead_53 rfl rfl (fun q => ?_) (fun q => ?_)
      · replace h := h.1 q
        exact zw_weak2 h ⟨rfl, rfl, trivial⟩
      · replace h := h.2 q
        refine zw_go (pc1 := 57) (L1 := [some (.ref a0), none, none, some (.int x3)]) (st1 := [.int x3]) (σ1 := σ12) zM_X3_lead dX3_lead_56 rfl rfl rfl rfl ?_
        exact zw_reti zM_X3_lead dX3_lead_57 rfl h
set_option maxHeartbeats 4000000 in
set_option maxRecDepth 100000 in
theorem vc_X3_lead_58 (a0 : Nat) (x3 : Int32) (σ : zx_S) (K : Int32 → zx_S → Prop) (h : zwI 77 17 [some (.ref a0), none, none, some (.int (x3 + Int32.ofInt 1))] [] σ K) : zwI 77 58 [some (.ref a0), none, none, some (.int x3)] [] σ K := by
  refine zw_go (pc1 := 61) (L1 := [some (.ref a0), none, none, some (.int (x3 + Int32.ofInt 1))]) (st1 := []) (σ1 := σ) zM_X3_lead dX3_lead_58 rfl rfl rfl rfl ?_
  refine zw_goto (tgt := 17) zM_X3_lead dX3_lead_61 rfl ?_
  exact zw_weak2 h ⟨rfl, rfl, trivial⟩
set_option maxHeartbeats 4000000 in
set_option maxRecDepth 100000 in
theorem vc_X3_modeOf_0 (a0 : Nat) (x1 : Int32) (σ : zx_S) (K : Int32 → zx_S → Prop) (h : zK σ a0 = 16 ∧ zwR 87 0 [some (.ref a0), some (.int x1)] [] σ (fun b3 σ2 => zK σ2 a0 = 16 ∧ zwI 81 0 [some (.ref a0), some (.int x1)] [] σ2 (fun v6 σ5 => zK σ5 b3 = 14 ∧ zwI 31 0 [some (.ref b3), some (.int v6)] [] σ5 (fun v9 σ8 => K v9 σ8)))) : zwI 78 0 [some (.ref a0), some (.int x1)] [] σ K := by
  refine zw_go (pc1 := 1) (L1 := [some (.ref a0), some (.int x1)]) (st1 := [.ref a0]) (σ1 := σ) zM_X3_modeOf dX3_modeOf_0 rfl rfl rfl rfl ?_
  refine zw_go (pc1 := 2) (L1 := [some (.ref a0), some (.int x1)]) (st1 := [.int x1, .ref a0]) (σ1 := σ) zM_X3_modeOf dX3_modeOf_1 rfl rfl rfl rfl ?_
  obtain ⟨hk1, h⟩ := h
  refine zw_callR (as := [.ref a0, .int x1]) (rest := []) zM_X3_modeOf dX3_modeOf_2 (zx_calV zC_3_52) zM_X3_upperImage rfl rfl rfl rfl rfl (zx_args0 hk1 rfl) rfl h (fun b3 σ2 h => ?_)
  refine zw_go (pc1 := 6) (L1 := [some (.ref a0), some (.int x1)]) (st1 := [.ref a0, .ref b3]) (σ1 := σ2) zM_X3_modeOf dX3_modeOf_5 rfl rfl rfl rfl ?_
  refine zw_go (pc1 := 7) (L1 := [some (.ref a0), some (.int x1)]) (st1 := [.int x1, .ref a0, .ref b3]) (σ1 := σ2) zM_X3_modeOf dX3_modeOf_6 rfl rfl rfl rfl ?_
  obtain ⟨hk4, h⟩ := h
  refine zw_callI (as := [.ref a0, .int x1]) (rest := [.ref b3]) zM_X3_modeOf dX3_modeOf_7 (zx_calV zC_3_56) zM_X3_numberOf rfl rfl rfl rfl rfl (zx_args0 hk4 rfl) rfl h (fun v6 σ5 h => ?_)
  obtain ⟨hk7, h⟩ := h
  refine zw_callI (as := [.ref b3, .int v6]) (rest := []) zM_X3_modeOf dX3_modeOf_10 (zx_calV zC_3_63) zM_X1_modeOf rfl rfl rfl rfl rfl (zx_args0 hk7 rfl) rfl h (fun v9 σ8 h => ?_)
  exact zw_reti zM_X3_modeOf dX3_modeOf_13 rfl h
set_option maxHeartbeats 4000000 in
set_option maxRecDepth 100000 in
theorem vc_X3_nameBelow_0 (a0 : Nat) (x1 : Int32) (x2 : Int32) (σ : zx_S) (K : Int32 → zx_S → Prop) (h : zK σ a0 = 16 ∧ ∃ b2 : Nat, zR σ a0 7 = some b2 ∧ zwV 0 0 [some (.ref b2), some (.int 0), none, none] [] σ (fun σ4 => zK σ4 a0 = 16 ∧ ∀ σ6 : zx_S, σ6 = zx_pI σ4 a0 9 0 → zwI 80 0 [some (.ref a0), some (.int x1), none, none, none, none, none] [] σ6 (fun v9 σ8 => zwI 79 22 [some (.ref a0), some (.int x1), some (.int x2), some (.int v9), some (.int 0)] [] σ8 K))) : zwI 79 0 [some (.ref a0), some (.int x1), some (.int x2), none, none] [] σ K := by
  refine zw_go (pc1 := 1) (L1 := [some (.ref a0), some (.int x1), some (.int x2), none, none]) (st1 := [.ref a0]) (σ1 := σ) zM_X3_nameBelow dX3_nameBelow_0 rfl rfl rfl rfl ?_
  obtain ⟨hk1, h⟩ := h
  obtain ⟨b2, hr3, h⟩ := h
  refine zw_getR (a := b2) zM_X3_nameBelow dX3_nameBelow_1 zF_3_36 rfl hk1 hr3 ?_
  refine zw_iconst (v := 0) zM_X3_nameBelow dX3_nameBelow_4 (by decide) ?_
  refine zw_callV (as := [.ref b2, .int 0]) (rest := []) zM_X3_nameBelow dX3_nameBelow_5 (zx_calS zC_3_80) zM_J7_fill_53178 rfl rfl rfl rfl rfl rfl rfl h (fun σ4 h => ?_)
  refine zw_go (pc1 := 9) (L1 := [some (.ref a0), some (.int x1), some (.int x2), none, none]) (st1 := [.ref a0]) (σ1 := σ4) zM_X3_nameBelow dX3_nameBelow_8 rfl rfl rfl rfl ?_
  refine zw_iconst (v := 0) zM_X3_nameBelow dX3_nameBelow_9 (by decide) ?_
  obtain ⟨hk5, h⟩ := h
  obtain ⟨σ6, e7⟩ : ∃ z9 : zx_S, z9 = zx_pI σ4 a0 9 0 := ⟨_, rfl⟩
  replace h := h σ6 e7
  refine zw_putI zM_X3_nameBelow dX3_nameBelow_10 zF_3_77 rfl rfl hk5 e7 ?_
  refine zw_go (pc1 := 14) (L1 := [some (.ref a0), some (.int x1), some (.int x2), none, none]) (st1 := [.ref a0]) (σ1 := σ6) zM_X3_nameBelow dX3_nameBelow_13 rfl rfl rfl rfl ?_
  refine zw_go (pc1 := 15) (L1 := [some (.ref a0), some (.int x1), some (.int x2), none, none]) (st1 := [.int x1, .ref a0]) (σ1 := σ6) zM_X3_nameBelow dX3_nameBelow_14 rfl rfl rfl rfl ?_
  refine zw_callI (as := [.ref a0, .int x1]) (rest := []) zM_X3_nameBelow dX3_nameBelow_15 (zx_calV zC_3_86) zM_X3_nextName rfl rfl rfl rfl rfl (zx_args0 (by rw [e7]; exact hk5) rfl) rfl h (fun v9 σ8 h => ?_)
  refine zw_go (pc1 := 19) (L1 := [some (.ref a0), some (.int x1), some (.int x2), some (.int v9), none]) (st1 := []) (σ1 := σ8) zM_X3_nameBelow dX3_nameBelow_18 rfl rfl rfl rfl ?_
  refine zw_iconst (v := 0) zM_X3_nameBelow dX3_nameBelow_19 (by decide) ?_
  refine zw_go (pc1 := 22) (L1 := [some (.ref a0), some (.int x1), some (.int x2), some (.int v9), some (.int 0)]) (st1 := []) (σ1 := σ8) zM_X3_nameBelow dX3_nameBelow_20 rfl rfl rfl rfl ?_
  exact zw_weak2 h ⟨rfl, rfl, rfl, rfl, rfl, trivial⟩
set_option maxHeartbeats 4000000 in
set_option maxRecDepth 100000 in
theorem vc_X3_nameBelow_22 (a0 : Nat) (x1 : Int32) (x2 : Int32) (x3 : Int32) (x4 : Int32) (σ : zx_S) (K : Int32 → zx_S → Prop) (h : (((999 : Int32) ≤ x4 → K 0 σ) ∧ (¬ (999 : Int32) ≤ x4 → ((x3 = (0 : Int32) → K 0 σ) ∧ (¬ x3 = (0 : Int32) → zK σ a0 = 16 ∧ zwI 83 0 [some (.ref a0), some (.int x1), some (.int x3), none, none, none, none, none] [] σ (fun v3 σ2 => ((v3 = (3 : Int32) → zwI 79 64 [some (.ref a0), some (.int x1), some (.int x2), none, some (.int x4)] [] σ2 K) ∧ (¬ v3 = (3 : Int32) → zK σ2 a0 = 16 ∧ ((¬ (zI σ2 a0 9) = x2 → ∀ σ5 : zx_S, σ5 = zx_pI σ2 a0 9 ((zI σ2 a0 9) + 1) → zwI 79 64 [some (.ref a0), some (.int x1), some (.int x2), none, some (.int x4)] [] σ5 K) ∧ ((zI σ2 a0 9) = x2 → K x3 σ2)))))))))) : zwI 79 22 [some (.ref a0), some (.int x1), some (.int x2), some (.int x3), some (.int x4)] [] σ K := by
  refine zw_go (pc1 := 24) (L1 := [some (.ref a0), some (.int x1), some (.int x2), some (.int x3), some (.int x4)]) (st1 := [.int x4]) (σ1 := σ) zM_X3_nameBelow dX3_nameBelow_22 rfl rfl rfl rfl ?_
  refine zw_sipush (v := 999) zM_X3_nameBelow dX3_nameBelow_24 (by decide) ?_
  refine zw_icmp_ge (tgt := 76) zM_X3_nameBelow dX3_nameBelow_27 rfl rfl (fun q => ?_) (fun q => ?_)
  · replace h := h.1 q
    refine zw_iconst (v := 0) zM_X3_nameBelow dX3_nameBelow_76 (by decide) ?_
    exact zw_reti zM_X3_nameBelow dX3_nameBelow_77 rfl h
  · replace h := h.2 q
    refine zw_go (pc1 := 31) (L1 := [some (.ref a0), some (.int x1), some (.int x2), some (.int x3), some (.int x4)]) (st1 := [.int x3]) (σ1 := σ) zM_X3_nameBelow dX3_nameBelow_30 rfl rfl rfl rfl ?_
    refine zw_if_eq (tgt := 76) zM_X3_nameBelow dX3_nameBelow_31 rfl rfl (fun q => ?_) (fun q => ?_)
    · replace h := h.1 q
      refine zw_iconst (v := 0) zM_X3_nameBelow dX3_nameBelow_76 (by decide) ?_
      exact zw_reti zM_X3_nameBelow dX3_nameBelow_77 rfl h
    · replace h := h.2 q
      refine zw_go (pc1 := 35) (L1 := [some (.ref a0), some (.int x1), some (.int x2), some (.int x3), some (.int x4)]) (st1 := [.ref a0]) (σ1 := σ) zM_X3_nameBelow dX3_nameBelow_34 rfl rfl rfl rfl ?_
      refine zw_go (pc1 := 36) (L1 := [some (.ref a0), some (.int x1), some (.int x2), some (.int x3), some (.int x4)]) (st1 := [.int x1, .ref a0]) (σ1 := σ) zM_X3_nameBelow dX3_nameBelow_35 rfl rfl rfl rfl ?_
      refine zw_go (pc1 := 37) (L1 := [some (.ref a0), some (.int x1), some (.int x2), some (.int x3), some (.int x4)]) (st1 := [.int x3, .int x1, .ref a0]) (σ1 := σ) zM_X3_nameBelow dX3_nameBelow_36 rfl rfl rfl rfl ?_
      obtain ⟨hk1, h⟩ := h
      refine zw_callI (as := [.ref a0, .int x1, .int x3]) (rest := []) zM_X3_nameBelow dX3_nameBelow_37 (zx_calV zC_3_89) zM_X3_passName rfl rfl rfl rfl rfl (zx_args0 hk1 rfl) rfl h (fun v3 σ2 h => ?_)
      refine zw_iconst (v := 3) zM_X3_nameBelow dX3_nameBelow_40 (by decide) ?_
      refine zw_icmp_eq (tgt := 64) zM_X3_nameBelow dX3_nameBelow_41 rfl rfl (fun q => ?_) (fun q => ?_)
      · replace h := h.1 q
        exact zw_weak2 h ⟨rfl, rfl, rfl, rfl, trivial⟩
      · replace h := h.2 q
        refine zw_go (pc1 := 45) (L1 := [some (.ref a0), some (.int x1), some (.int x2), some (.int x3), some (.int x4)]) (st1 := [.ref a0]) (σ1 := σ2) zM_X3_nameBelow dX3_nameBelow_44 rfl rfl rfl rfl ?_
        obtain ⟨hk4, h⟩ := h
        refine zw_getI zM_X3_nameBelow dX3_nameBelow_45 zF_3_77 rfl hk4 ?_
        refine zw_go (pc1 := 49) (L1 := [some (.ref a0), some (.int x1), some (.int x2), some (.int x3), some (.int x4)]) (st1 := [.int x2, .int (zI σ2 a0 9)]) (σ1 := σ2) zM_X3_nameBelow dX3_nameBelow_48 rfl rfl rfl rfl ?_
        refine zw_icmp_ne (tgt := 54) zM_X3_nameBelow dX3_nameBelow_49 rfl rfl (fun q => ?_) (fun q => ?_)
        · replace h := h.1 q
          refine zw_go (pc1 := 55) (L1 := [some (.ref a0), some (.int x1), some (.int x2), some (.int x3), some (.int x4)]) (st1 := [.ref a0]) (σ1 := σ2) zM_X3_nameBelow dX3_nameBelow_54 rfl rfl rfl rfl ?_
          refine zw_go (pc1 := 56) (L1 := [some (.ref a0), some (.int x1), some (.int x2), some (.int x3), some (.int x4)]) (st1 := [.ref a0, .ref a0]) (σ1 := σ2) zM_X3_nameBelow dX3_nameBelow_55 rfl rfl rfl rfl ?_
          refine zw_getI zM_X3_nameBelow dX3_nameBelow_56 zF_3_77 rfl hk4 ?_
          refine zw_iconst (v := 1) zM_X3_nameBelow dX3_nameBelow_59 (by decide) ?_
          refine zw_go (pc1 := 61) (L1 := [some (.ref a0), some (.int x1), some (.int x2), some (.int x3), some (.int x4)]) (st1 := [.int ((zI σ2 a0 9) + 1), .ref a0]) (σ1 := σ2) zM_X3_nameBelow dX3_nameBelow_60 rfl rfl rfl rfl ?_
          obtain ⟨σ5, e6⟩ : ∃ z9 : zx_S, z9 = zx_pI σ2 a0 9 ((zI σ2 a0 9) + 1) := ⟨_, rfl⟩
          replace h := h σ5 e6
          refine zw_putI zM_X3_nameBelow dX3_nameBelow_61 zF_3_77 rfl rfl hk4 e6 ?_
          exact zw_weak2 h ⟨rfl, rfl, rfl, rfl, trivial⟩
        · replace h := h.2 q
          refine zw_go (pc1 := 53) (L1 := [some (.ref a0), some (.int x1), some (.int x2), some (.int x3), some (.int x4)]) (st1 := [.int x3]) (σ1 := σ2) zM_X3_nameBelow dX3_nameBelow_52 rfl rfl rfl rfl ?_
          exact zw_reti zM_X3_nameBelow dX3_nameBelow_53 rfl h
set_option maxHeartbeats 4000000 in
set_option maxRecDepth 100000 in
theorem vc_X3_nameBelow_64 (a0 : Nat) (x1 : Int32) (x2 : Int32) (x4 : Int32) (σ : zx_S) (K : Int32 → zx_S → Prop) (h : zK σ a0 = 16 ∧ zwI 80 0 [some (.ref a0), some (.int x1), none, none, none, none, none] [] σ (fun v3 σ2 => zwI 79 22 [some (.ref a0), some (.int x1), some (.int x2), some (.int v3), some (.int (x4 + Int32.ofInt 1))] [] σ2 K)) : zwI 79 64 [some (.ref a0), some (.int x1), some (.int x2), none, some (.int x4)] [] σ K := by
  refine zw_go (pc1 := 65) (L1 := [some (.ref a0), some (.int x1), some (.int x2), none, some (.int x4)]) (st1 := [.ref a0]) (σ1 := σ) zM_X3_nameBelow dX3_nameBelow_64 rfl rfl rfl rfl ?_
  refine zw_go (pc1 := 66) (L1 := [some (.ref a0), some (.int x1), some (.int x2), none, some (.int x4)]) (st1 := [.int x1, .ref a0]) (σ1 := σ) zM_X3_nameBelow dX3_nameBelow_65 rfl rfl rfl rfl ?_
  obtain ⟨hk1, h⟩ := h
  refine zw_callI (as := [.ref a0, .int x1]) (rest := []) zM_X3_nameBelow dX3_nameBelow_66 (zx_calV zC_3_86) zM_X3_nextName rfl rfl rfl rfl rfl (zx_args0 hk1 rfl) rfl h (fun v3 σ2 h => ?_)
  refine zw_go (pc1 := 70) (L1 := [some (.ref a0), some (.int x1), some (.int x2), some (.int v3), some (.int x4)]) (st1 := []) (σ1 := σ2) zM_X3_nameBelow dX3_nameBelow_69 rfl rfl rfl rfl ?_
  refine zw_go (pc1 := 73) (L1 := [some (.ref a0), some (.int x1), some (.int x2), some (.int v3), some (.int (x4 + Int32.ofInt 1))]) (st1 := []) (σ1 := σ2) zM_X3_nameBelow dX3_nameBelow_70 rfl rfl rfl rfl ?_
  refine zw_goto (tgt := 22) zM_X3_nameBelow dX3_nameBelow_73 rfl ?_
  exact zw_weak2 h ⟨rfl, rfl, rfl, rfl, rfl, trivial⟩
set_option maxHeartbeats 4000000 in
set_option maxRecDepth 100000 in
theorem vc_X3_nextName_0 (a0 : Nat) (x1 : Int32) (σ : zx_S) (K : Int32 → zx_S → Prop) (h : zwI 80 4 [some (.ref a0), some (.int x1), some (.int 0), some (.int 0), none, none, none] [] σ K) : zwI 80 0 [some (.ref a0), some (.int x1), none, none, none, none, none] [] σ K := by
  refine zw_iconst (v := 0) zM_X3_nextName dX3_nextName_0 (by decide) ?_
  refine zw_go (pc1 := 2) (L1 := [some (.ref a0), some (.int x1), some (.int 0), none, none, none, none]) (st1 := []) (σ1 := σ) zM_X3_nextName dX3_nextName_1 rfl rfl rfl rfl ?_
  refine zw_iconst (v := 0) zM_X3_nextName dX3_nextName_2 (by decide) ?_
  refine zw_go (pc1 := 4) (L1 := [some (.ref a0), some (.int x1), some (.int 0), some (.int 0), none, none, none]) (st1 := []) (σ1 := σ) zM_X3_nextName dX3_nextName_3 rfl rfl rfl rfl ?_
  exact zw_weak2 h ⟨rfl, rfl, rfl, rfl, trivial⟩
set_option maxHeartbeats 4000000 in
set_option maxRecDepth 100000 in
theorem vc_X3_nextName_4 (a0 : Nat) (x1 : Int32) (x2 : Int32) (x3 : Int32) (σ : zx_S) (K : Int32 → zx_S → Prop) (h : zK σ a0 = 16 ∧ ∃ b2 : Nat, zR σ a0 2 = some b2 ∧ zK σ b2 = 1 ∧ zx_in x1 (zN σ b2) = true ∧ (((zI σ b2 (Int32.toNatClampNeg x1)) ≤ x3 → K x2 σ) ∧ (¬ (zI σ b2 (Int32.toNatClampNeg x1)) ≤ x3 → ∃ b6 : Nat, zR σ a0 1 = some b6 ∧ ∃ b8 : Nat, zR σ a0 3 = some b8 ∧ zK σ b8 = 1 ∧ zx_in ((x1 * 3) + x3) (zN σ b8) = true ∧ zK σ b6 = 3 ∧ zx_in (zI σ b8 (Int32.toNatClampNeg ((x1 * 3) + x3))) (zN σ b6) = true ∧ ∃ b14 : Nat, zR σ b6 (Int32.toNatClampNeg (zI σ b8 (Int32.toNatClampNeg ((x1 * 3) + x3)))) = some b14 ∧ ∃ b16 : Nat, zR σ a0 4 = some b16 ∧ zK σ b16 = 1 ∧ zx_in ((x1 * 3) + x3) (zN σ b16) = true ∧ ∃ b20 : Nat, zR σ a0 7 = some b20 ∧ zK σ b20 = 1 ∧ zx_in x3 (zN σ b20) = true ∧ zK σ b14 = 14 ∧ zwI 44 0 [some (.ref b14), some (.int (zI σ b16 (Int32.toNatClampNeg ((x1 * 3) + x3)))), none, none] [] σ (fun v26 σ25 => ((v26 ≤ (zI σ b20 (Int32.toNatClampNeg x3)) → zwI 80 99 [some (.ref a0), some (.int x1), some (.int x2), some (.int x3), none, none, none] [] σ25 K) ∧ (¬ v26 ≤ (zI σ b20 (Int32.toNatClampNeg x3)) → zK σ25 b14 = 14 ∧ zwI 25 0 [some (.ref b14), some (.int (zI σ b16 (Int32.toNatClampNeg ((x1 * 3) + x3))))] [] σ25 (fun v29 σ28 => zK σ28 a0 = 16 ∧ ∃ b31 : Nat, zR σ28 a0 7 = some b31 ∧ zK σ28 b31 = 1 ∧ zx_in x3 (zN σ28 b31) = true ∧ zK σ28 b14 = 14 ∧ zwI 51 0 [some (.ref b14), some (.int (v29 + (4 * (zI σ28 b31 (Int32.toNatClampNeg x3)))))] [] σ28 (fun v37 σ36 => ((x2 = (0 : Int32) → zwI 80 92 [some (.ref a0), some (.int x1), none, some (.int x3), none, none, some (.int v37)] [] σ36 K) ∧ (¬ x2 = (0 : Int32) → ((x2 ≤ v37 → zwI 80 98 [some (.ref a0), some (.int x1), none, some (.int x3), none, none, none] [.int x2] σ36 K) ∧ (¬ x2 ≤ v37 → zwI 80 92 [some (.ref a0), some (.int x1), none, some (.int x3), none, none, some (.int v37)] [] σ36 K)))))))))))) : zwI 80 4 [some (.ref a0), some (.int x1), some (.int x2), some (.int x3), none, none, none] [] σ K := by
  refine zw_go (pc1 := 5) (L1 := [some (.ref a0), some (.int x1), some (.int x2), some (.int x3), none, none, none]) (st1 := [.int x3]) (σ1 := σ) zM_X3_nextName dX3_nextName_4 rfl rfl rfl rfl ?_
  refine zw_go (pc1 := 6) (L1 := [some (.ref a0), some (.int x1), some (.int x2), some (.int x3), none, none, none]) (st1 := [.ref a0, .int x3]) (σ1 := σ) zM_X3_nextName dX3_nextName_5 rfl rfl rfl rfl ?_
  obtain ⟨hk1, h⟩ := h
  obtain ⟨b2, hr3, h⟩ := h
  refine zw_getR (a := b2) zM_X3_nextName dX3_nextName_6 zF_3_21 rfl hk1 hr3 ?_
  refine zw_go (pc1 := 10) (L1 := [some (.ref a0), some (.int x1), some (.int x2), some (.int x3), none, none, none]) (st1 := [.int x1, .ref b2, .int x3]) (σ1 := σ) zM_X3_nextName dX3_nextName_9 rfl rfl rfl rfl ?_
  obtain ⟨hk4, h⟩ := h
  obtain ⟨hi5, h⟩ := h
  refine zw_iald zM_X3_nextName dX3_nextName_10 ⟨Or.inl hk4, hi5⟩ ?_
  refine zw_icmp_ge (tgt := 105) zM_X3_nextName dX3_nextName_11 rfl rfl (fun q => ?_) (fun q => ?_)
  · replace h := h.1 q
    refine zw_go (pc1 := 106) (L1 := [some (.ref a0), some (.int x1), some (.int x2), some (.int x3), none, none, none]) (st1 := [.int x2]) (σ1 := σ) zM_X3_nextName dX3_nextName_105 rfl rfl rfl rfl ?_
    exact zw_reti zM_X3_nextName dX3_nextName_106 rfl h
  · replace h := h.2 q
    refine zw_go (pc1 := 15) (L1 := [some (.ref a0), some (.int x1), some (.int x2), some (.int x3), none, none, none]) (st1 := [.ref a0]) (σ1 := σ) zM_X3_nextName dX3_nextName_14 rfl rfl rfl rfl ?_
    obtain ⟨b6, hr7, h⟩ := h
    refine zw_getR (a := b6) zM_X3_nextName dX3_nextName_15 zF_3_17 rfl hk1 hr7 ?_
    refine zw_go (pc1 := 19) (L1 := [some (.ref a0), some (.int x1), some (.int x2), some (.int x3), none, none, none]) (st1 := [.ref a0, .ref b6]) (σ1 := σ) zM_X3_nextName dX3_nextName_18 rfl rfl rfl rfl ?_
    obtain ⟨b8, hr9, h⟩ := h
    refine zw_getR (a := b8) zM_X3_nextName dX3_nextName_19 zF_3_24 rfl hk1 hr9 ?_
    refine zw_go (pc1 := 23) (L1 := [some (.ref a0), some (.int x1), some (.int x2), some (.int x3), none, none, none]) (st1 := [.int x1, .ref b8, .ref b6]) (σ1 := σ) zM_X3_nextName dX3_nextName_22 rfl rfl rfl rfl ?_
    refine zw_iconst (v := 3) zM_X3_nextName dX3_nextName_23 (by decide) ?_
    refine zw_go (pc1 := 25) (L1 := [some (.ref a0), some (.int x1), some (.int x2), some (.int x3), none, none, none]) (st1 := [.int (x1 * 3), .ref b8, .ref b6]) (σ1 := σ) zM_X3_nextName dX3_nextName_24 rfl rfl rfl rfl ?_
    refine zw_go (pc1 := 26) (L1 := [some (.ref a0), some (.int x1), some (.int x2), some (.int x3), none, none, none]) (st1 := [.int x3, .int (x1 * 3), .ref b8, .ref b6]) (σ1 := σ) zM_X3_nextName dX3_nextName_25 rfl rfl rfl rfl ?_
    refine zw_go (pc1 := 27) (L1 := [some (.ref a0), some (.int x1), some (.int x2), some (.int x3), none, none, none]) (st1 := [.int ((x1 * 3) + x3), .ref b8, .ref b6]) (σ1 := σ) zM_X3_nextName dX3_nextName_26 rfl rfl rfl rfl ?_
    obtain ⟨hk10, h⟩ := h
    obtain ⟨hi11, h⟩ := h
    refine zw_iald zM_X3_nextName dX3_nextName_27 ⟨Or.inl hk10, hi11⟩ ?_
    obtain ⟨hk12, h⟩ := h
    obtain ⟨hi13, b14, hr15, h⟩ := h
    refine zw_aald zM_X3_nextName dX3_nextName_28 ⟨hk12, hi13⟩ hr15 ?_
    refine zw_go (pc1 := 31) (L1 := [some (.ref a0), some (.int x1), some (.int x2), some (.int x3), some (.ref b14), none, none]) (st1 := []) (σ1 := σ) zM_X3_nextName dX3_nextName_29 rfl rfl rfl rfl ?_
    refine zw_go (pc1 := 32) (L1 := [some (.ref a0), some (.int x1), some (.int x2), some (.int x3), some (.ref b14), none, none]) (st1 := [.ref a0]) (σ1 := σ) zM_X3_nextName dX3_nextName_31 rfl rfl rfl rfl ?_
    obtain ⟨b16, hr17, h⟩ := h
    refine zw_getR (a := b16) zM_X3_nextName dX3_nextName_32 zF_3_27 rfl hk1 hr17 ?_
    refine zw_go (pc1 := 36) (L1 := [some (.ref a0), some (.int x1), some (.int x2), some (.int x3), some (.ref b14), none, none]) (st1 := [.int x1, .ref b16]) (σ1 := σ) zM_X3_nextName dX3_nextName_35 rfl rfl rfl rfl ?_
    refine zw_iconst (v := 3) zM_X3_nextName dX3_nextName_36 (by decide) ?_
    refine zw_go (pc1 := 38) (L1 := [some (.ref a0), some (.int x1), some (.int x2), some (.int x3), some (.ref b14), none, none]) (st1 := [.int (x1 * 3), .ref b16]) (σ1 := σ) zM_X3_nextName dX3_nextName_37 rfl rfl rfl rfl ?_
    refine zw_go (pc1 := 39) (L1 := [some (.ref a0), some (.int x1), some (.int x2), some (.int x3), some (.ref b14), none, none]) (st1 := [.int x3, .int (x1 * 3), .ref b16]) (σ1 := σ) zM_X3_nextName dX3_nextName_38 rfl rfl rfl rfl ?_
    refine zw_go (pc1 := 40) (L1 := [some (.ref a0), some (.int x1), some (.int x2), some (.int x3), some (.ref b14), none, none]) (st1 := [.int ((x1 * 3) + x3), .ref b16]) (σ1 := σ) zM_X3_nextName dX3_nextName_39 rfl rfl rfl rfl ?_
    obtain ⟨hk18, h⟩ := h
    obtain ⟨hi19, h⟩ := h
    refine zw_iald zM_X3_nextName dX3_nextName_40 ⟨Or.inl hk18, hi19⟩ ?_
    refine zw_go (pc1 := 43) (L1 := [some (.ref a0), some (.int x1), some (.int x2), some (.int x3), some (.ref b14), some (.int (zI σ b16 (Int32.toNatClampNeg ((x1 * 3) + x3)))), none]) (st1 := []) (σ1 := σ) zM_X3_nextName dX3_nextName_41 rfl rfl rfl rfl ?_
    refine zw_go (pc1 := 44) (L1 := [some (.ref a0), some (.int x1), some (.int x2), some (.int x3), some (.ref b14), some (.int (zI σ b16 (Int32.toNatClampNeg ((x1 * 3) + x3)))), none]) (st1 := [.ref a0]) (σ1 := σ) zM_X3_nextName dX3_nextName_43 rfl rfl rfl rfl ?_
    obtain ⟨b20, hr21, h⟩ := h
    refine zw_getR (a := b20) zM_X3_nextName dX3_nextName_44 zF_3_36 rfl hk1 hr21 ?_
    refine zw_go (pc1 := 48) (L1 := [some (.ref a0), some (.int x1), some (.int x2), some (.int x3), some (.ref b14), some (.int (zI σ b16 (Int32.toNatClampNeg ((x1 * 3) + x3)))), none]) (st1 := [.int x3, .ref b20]) (σ1 := σ) zM_X3_nextName dX3_nextName_47 rfl rfl rfl rfl ?_
    obtain ⟨hk22, h⟩ := h
    obtain ⟨hi23, h⟩ := h
    refine zw_iald zM_X3_nextName dX3_nextName_48 ⟨Or.inl hk22, hi23⟩ ?_
    refine zw_go (pc1 := 51) (L1 := [some (.ref a0), some (.int x1), some (.int x2), some (.int x3), some (.ref b14), some (.int (zI σ b16 (Int32.toNatClampNeg ((x1 * 3) + x3)))), none]) (st1 := [.ref b14, .int (zI σ b20 (Int32.toNatClampNeg x3))]) (σ1 := σ) zM_X3_nextName dX3_nextName_49 rfl rfl rfl rfl ?_
    refine zw_go (pc1 := 53) (L1 := [some (.ref a0), some (.int x1), some (.int x2), some (.int x3), some (.ref b14), some (.int (zI σ b16 (Int32.toNatClampNeg ((x1 * 3) + x3)))), none]) (st1 := [.int (zI σ b16 (Int32.toNatClampNeg ((x1 * 3) + x3))), .ref b14, .int (zI σ b20 (Int32.toNatClampNeg x3))]) (σ1 := σ) zM_X3_nextName dX3_nextName_51 rfl rfl rfl rfl ?_
    obtain ⟨hk24, h⟩ := h
    refine zw_callI (as := [.ref b14, .int (zI σ b16 (Int32.toNatClampNeg ((x1 * 3) + x3)))]) (rest := [.int (zI σ b20 (Int32.toNatClampNeg x3))]) zM_X3_nextName dX3_nextName_53 (zx_calV zC_3_70) zM_X1_sizeOf rfl rfl rfl rfl rfl (zx_args0 hk24 rfl) rfl h (fun v26 σ25 h => ?_)
    refine zw_icmp_ge (tgt := 99) zM_X3_nextName dX3_nextName_56 rfl rfl (fun q => ?_) (fun q => ?_)
    · replace h := h.1 q
      exact zw_weak2 h ⟨rfl, rfl, rfl, rfl, trivial⟩
    · replace h := h.2 q
      refine zw_go (pc1 := 61) (L1 := [some (.ref a0), some (.int x1), some (.int x2), some (.int x3), some (.ref b14), some (.int (zI σ b16 (Int32.toNatClampNeg ((x1 * 3) + x3)))), none]) (st1 := [.ref b14]) (σ1 := σ25) zM_X3_nextName dX3_nextName_59 rfl rfl rfl rfl ?_
      refine zw_go (pc1 := 63) (L1 := [some (.ref a0), some (.int x1), some (.int x2), some (.int x3), some (.ref b14), some (.int (zI σ b16 (Int32.toNatClampNeg ((x1 * 3) + x3)))), none]) (st1 := [.ref b14, .ref b14]) (σ1 := σ25) zM_X3_nextName dX3_nextName_61 rfl rfl rfl rfl ?_
      refine zw_go (pc1 := 65) (L1 := [some (.ref a0), some (.int x1), some (.int x2), some (.int x3), some (.ref b14), some (.int (zI σ b16 (Int32.toNatClampNeg ((x1 * 3) + x3)))), none]) (st1 := [.int (zI σ b16 (Int32.toNatClampNeg ((x1 * 3) + x3))), .ref b14, .ref b14]) (σ1 := σ25) zM_X3_nextName dX3_nextName_63 rfl rfl rfl rfl ?_
      obtain ⟨hk27, h⟩ := h
      refine zw_callI (as := [.ref b14, .int (zI σ b16 (Int32.toNatClampNeg ((x1 * 3) + x3)))]) (rest := [.ref b14]) zM_X3_nextName dX3_nextName_65 (zx_calV zC_3_111) zM_X1_firstNamePlace rfl rfl rfl rfl rfl (zx_args0 hk27 rfl) rfl h (fun v29 σ28 h => ?_)
      refine zw_iconst (v := 4) zM_X3_nextName dX3_nextName_68 (by decide) ?_
      refine zw_go (pc1 := 70) (L1 := [some (.ref a0), some (.int x1), some (.int x2), some (.int x3), some (.ref b14), some (.int (zI σ b16 (Int32.toNatClampNeg ((x1 * 3) + x3)))), none]) (st1 := [.ref a0, .int 4, .int v29, .ref b14]) (σ1 := σ28) zM_X3_nextName dX3_nextName_69 rfl rfl rfl rfl ?_
      obtain ⟨hk30, h⟩ := h
      obtain ⟨b31, hr32, h⟩ := h
      refine zw_getR (a := b31) zM_X3_nextName dX3_nextName_70 zF_3_36 rfl hk30 hr32 ?_
      refine zw_go (pc1 := 74) (L1 := [some (.ref a0), some (.int x1), some (.int x2), some (.int x3), some (.ref b14), some (.int (zI σ b16 (Int32.toNatClampNeg ((x1 * 3) + x3)))), none]) (st1 := [.int x3, .ref b31, .int 4, .int v29, .ref b14]) (σ1 := σ28) zM_X3_nextName dX3_nextName_73 rfl rfl rfl rfl ?_
      obtain ⟨hk33, h⟩ := h
      obtain ⟨hi34, h⟩ := h
      refine zw_iald zM_X3_nextName dX3_nextName_74 ⟨Or.inl hk33, hi34⟩ ?_
      refine zw_go (pc1 := 76) (L1 := [some (.ref a0), some (.int x1), some (.int x2), some (.int x3), some (.ref b14), some (.int (zI σ b16 (Int32.toNatClampNeg ((x1 * 3) + x3)))), none]) (st1 := [.int (4 * (zI σ28 b31 (Int32.toNatClampNeg x3))), .int v29, .ref b14]) (σ1 := σ28) zM_X3_nextName dX3_nextName_75 rfl rfl rfl rfl ?_
      refine zw_go (pc1 := 77) (L1 := [some (.ref a0), some (.int x1), some (.int x2), some (.int x3), some (.ref b14), some (.int (zI σ b16 (Int32.toNatClampNeg ((x1 * 3) + x3)))), none]) (st1 := [.int (v29 + (4 * (zI σ28 b31 (Int32.toNatClampNeg x3)))), .ref b14]) (σ1 := σ28) zM_X3_nextName dX3_nextName_76 rfl rfl rfl rfl ?_
      obtain ⟨hk35, h⟩ := h
      refine zw_callI (as := [.ref b14, .int (v29 + (4 * (zI σ28 b31 (Int32.toNatClampNeg x3))))]) (rest := []) zM_X3_nextName dX3_nextName_77 (zx_calV zC_3_114) zM_X1_wordAt rfl rfl rfl rfl rfl (zx_args0 hk35 rfl) rfl h (fun v37 σ36 h => ?_)
      refine zw_go (pc1 := 82) (L1 := [some (.ref a0), some (.int x1), some (.int x2), some (.int x3), some (.ref b14), some (.int (zI σ b16 (Int32.toNatClampNeg ((x1 * 3) + x3)))), some (.int v37)]) (st1 := []) (σ1 := σ36) zM_X3_nextName dX3_nextName_80 rfl rfl rfl rfl ?_
      refine zw_go (pc1 := 83) (L1 := [some (.ref a0), some (.int x1), some (.int x2), some (.int x3), some (.ref b14), some (.int (zI σ b16 (Int32.toNatClampNeg ((x1 * 3) + x3)))), some (.int v37)]) (st1 := [.int x2]) (σ1 := σ36) zM_X3_nextName dX3_nextName_82 rfl rfl rfl rfl ?_
      refine zw_if_eq (tgt := 92) zM_X3_nextName dX3_nextName_83 rfl rfl (fun q => ?_) (fun q => ?_)
      · replace h := h.1 q
        exact zw_weak2 h ⟨rfl, rfl, rfl, rfl, trivial⟩
      · replace h := h.2 q
        refine zw_go (pc1 := 88) (L1 := [some (.ref a0), some (.int x1), some (.int x2), some (.int x3), some (.ref b14), some (.int (zI σ b16 (Int32.toNatClampNeg ((x1 * 3) + x3)))), some (.int v37)]) (st1 := [.int v37]) (σ1 := σ36) zM_X3_nextName dX3_nextName_86 rfl rfl rfl rfl ?_
        refine zw_go (pc1 := 89) (L1 := [some (.ref a0), some (.int x1), some (.int x2), some (.int x3), some (.ref b14), some (.int (zI σ b16 (Int32.toNatClampNeg ((x1 * 3) + x3)))), some (.int v37)]) (st1 := [.int x2, .int v37]) (σ1 := σ36) zM_X3_nextName dX3_nextName_88 rfl rfl rfl rfl ?_
        refine zw_icmp_ge (tgt := 97) zM_X3_nextName dX3_nextName_89 rfl rfl (fun q => ?_) (fun q => ?_)
        · replace h := h.1 q
          refine zw_go (pc1 := 98) (L1 := [some (.ref a0), some (.int x1), some (.int x2), some (.int x3), some (.ref b14), some (.int (zI σ b16 (Int32.toNatClampNeg ((x1 * 3) + x3)))), some (.int v37)]) (st1 := [.int x2]) (σ1 := σ36) zM_X3_nextName dX3_nextName_97 rfl rfl rfl rfl ?_
          exact zw_weak2 h ⟨rfl, rfl, rfl, trivial⟩
        · replace h := h.2 q
          exact zw_weak2 h ⟨rfl, rfl, rfl, rfl, trivial⟩
set_option maxHeartbeats 4000000 in
set_option maxRecDepth 100000 in
theorem vc_X3_nextName_92 (a0 : Nat) (x1 : Int32) (x3 : Int32) (x6 : Int32) (σ : zx_S) (K : Int32 → zx_S → Prop) (h : zwI 80 98 [some (.ref a0), some (.int x1), none, some (.int x3), none, none, none] [.int x6] σ K) : zwI 80 92 [some (.ref a0), some (.int x1), none, some (.int x3), none, none, some (.int x6)] [] σ K := by
  refine zw_go (pc1 := 94) (L1 := [some (.ref a0), some (.int x1), none, some (.int x3), none, none, some (.int x6)]) (st1 := [.int x6]) (σ1 := σ) zM_X3_nextName dX3_nextName_92 rfl rfl rfl rfl ?_
  refine zw_goto (tgt := 98) zM_X3_nextName dX3_nextName_94 rfl ?_
  exact zw_weak2 h ⟨rfl, rfl, rfl, trivial⟩
set_option maxHeartbeats 4000000 in
set_option maxRecDepth 100000 in
theorem vc_X3_nextName_98 (a0 : Nat) (x1 : Int32) (x3 : Int32) (y0 : Int32) (σ : zx_S) (K : Int32 → zx_S → Prop) (h : zwI 80 99 [some (.ref a0), some (.int x1), some (.int y0), some (.int x3), none, none, none] [] σ K) : zwI 80 98 [some (.ref a0), some (.int x1), none, some (.int x3), none, none, none] [.int y0] σ K := by
  refine zw_go (pc1 := 99) (L1 := [some (.ref a0), some (.int x1), some (.int y0), some (.int x3), none, none, none]) (st1 := []) (σ1 := σ) zM_X3_nextName dX3_nextName_98 rfl rfl rfl rfl ?_
  exact zw_weak2 h ⟨rfl, rfl, rfl, rfl, trivial⟩
set_option maxHeartbeats 4000000 in
set_option maxRecDepth 100000 in
theorem vc_X3_nextName_99 (a0 : Nat) (x1 : Int32) (x2 : Int32) (x3 : Int32) (σ : zx_S) (K : Int32 → zx_S → Prop) (h : zwI 80 4 [some (.ref a0), some (.int x1), some (.int x2), some (.int (x3 + Int32.ofInt 1)), none, none, none] [] σ K) : zwI 80 99 [some (.ref a0), some (.int x1), some (.int x2), some (.int x3), none, none, none] [] σ K := by
  refine zw_go (pc1 := 102) (L1 := [some (.ref a0), some (.int x1), some (.int x2), some (.int (x3 + Int32.ofInt 1)), none, none, none]) (st1 := []) (σ1 := σ) zM_X3_nextName dX3_nextName_99 rfl rfl rfl rfl ?_
  refine zw_goto (tgt := 4) zM_X3_nextName dX3_nextName_102 rfl ?_
  exact zw_weak2 h ⟨rfl, rfl, rfl, rfl, trivial⟩
set_option maxHeartbeats 4000000 in
set_option maxRecDepth 100000 in
theorem vc_X3_numberOf_0 (a0 : Nat) (x1 : Int32) (σ : zx_S) (K : Int32 → zx_S → Prop) (h : zK σ a0 = 16 ∧ ∃ b2 : Nat, zR σ a0 4 = some b2 ∧ zK σ b2 = 1 ∧ zx_in (x1 * 3) (zN σ b2) = true ∧ K (zI σ b2 (Int32.toNatClampNeg (x1 * 3))) σ) : zwI 81 0 [some (.ref a0), some (.int x1)] [] σ K := by
  refine zw_go (pc1 := 1) (L1 := [some (.ref a0), some (.int x1)]) (st1 := [.ref a0]) (σ1 := σ) zM_X3_numberOf dX3_numberOf_0 rfl rfl rfl rfl ?_
  obtain ⟨hk1, h⟩ := h
  obtain ⟨b2, hr3, h⟩ := h
  refine zw_getR (a := b2) zM_X3_numberOf dX3_numberOf_1 zF_3_27 rfl hk1 hr3 ?_
  refine zw_go (pc1 := 5) (L1 := [some (.ref a0), some (.int x1)]) (st1 := [.int x1, .ref b2]) (σ1 := σ) zM_X3_numberOf dX3_numberOf_4 rfl rfl rfl rfl ?_
  refine zw_iconst (v := 3) zM_X3_numberOf dX3_numberOf_5 (by decide) ?_
  refine zw_go (pc1 := 7) (L1 := [some (.ref a0), some (.int x1)]) (st1 := [.int (x1 * 3), .ref b2]) (σ1 := σ) zM_X3_numberOf dX3_numberOf_6 rfl rfl rfl rfl ?_
  obtain ⟨hk4, h⟩ := h
  obtain ⟨hi5, h⟩ := h
  refine zw_iald zM_X3_numberOf dX3_numberOf_7 ⟨Or.inl hk4, hi5⟩ ?_
  exact zw_reti zM_X3_numberOf dX3_numberOf_8 rfl h
set_option maxHeartbeats 4000000 in
set_option maxRecDepth 100000 in
theorem vc_X3_ownerOf_0 (a0 : Nat) (x1 : Int32) (σ : zx_S) (K : Int32 → zx_S → Prop) (h : zK σ a0 = 16 ∧ zwR 87 0 [some (.ref a0), some (.int x1)] [] σ (fun b3 σ2 => zK σ2 a0 = 16 ∧ zwI 81 0 [some (.ref a0), some (.int x1)] [] σ2 (fun v6 σ5 => zK σ5 b3 = 14 ∧ zwI 36 0 [some (.ref b3), some (.int v6)] [] σ5 (fun v9 σ8 => K v9 σ8)))) : zwI 82 0 [some (.ref a0), some (.int x1)] [] σ K := by
  refine zw_go (pc1 := 1) (L1 := [some (.ref a0), some (.int x1)]) (st1 := [.ref a0]) (σ1 := σ) zM_X3_ownerOf dX3_ownerOf_0 rfl rfl rfl rfl ?_
  refine zw_go (pc1 := 2) (L1 := [some (.ref a0), some (.int x1)]) (st1 := [.int x1, .ref a0]) (σ1 := σ) zM_X3_ownerOf dX3_ownerOf_1 rfl rfl rfl rfl ?_
  obtain ⟨hk1, h⟩ := h
  refine zw_callR (as := [.ref a0, .int x1]) (rest := []) zM_X3_ownerOf dX3_ownerOf_2 (zx_calV zC_3_52) zM_X3_upperImage rfl rfl rfl rfl rfl (zx_args0 hk1 rfl) rfl h (fun b3 σ2 h => ?_)
  refine zw_go (pc1 := 6) (L1 := [some (.ref a0), some (.int x1)]) (st1 := [.ref a0, .ref b3]) (σ1 := σ2) zM_X3_ownerOf dX3_ownerOf_5 rfl rfl rfl rfl ?_
  refine zw_go (pc1 := 7) (L1 := [some (.ref a0), some (.int x1)]) (st1 := [.int x1, .ref a0, .ref b3]) (σ1 := σ2) zM_X3_ownerOf dX3_ownerOf_6 rfl rfl rfl rfl ?_
  obtain ⟨hk4, h⟩ := h
  refine zw_callI (as := [.ref a0, .int x1]) (rest := [.ref b3]) zM_X3_ownerOf dX3_ownerOf_7 (zx_calV zC_3_56) zM_X3_numberOf rfl rfl rfl rfl rfl (zx_args0 hk4 rfl) rfl h (fun v6 σ5 h => ?_)
  obtain ⟨hk7, h⟩ := h
  refine zw_callI (as := [.ref b3, .int v6]) (rest := []) zM_X3_ownerOf dX3_ownerOf_10 (zx_calV zC_3_66) zM_X1_ownerOf rfl rfl rfl rfl rfl (zx_args0 hk7 rfl) rfl h (fun v9 σ8 h => ?_)
  exact zw_reti zM_X3_ownerOf dX3_ownerOf_13 rfl h
set_option maxHeartbeats 4000000 in
set_option maxRecDepth 100000 in
theorem vc_X3_passName_0 (a0 : Nat) (x1 : Int32) (x2 : Int32) (σ : zx_S) (K : Int32 → zx_S → Prop) (h : zwI 83 5 [some (.ref a0), some (.int x1), some (.int x2), some (.int 0), some (.int 0), none, none, none] [] σ K) : zwI 83 0 [some (.ref a0), some (.int x1), some (.int x2), none, none, none, none, none] [] σ K := by
  refine zw_iconst (v := 0) zM_X3_passName dX3_passName_0 (by decide) ?_
  refine zw_go (pc1 := 2) (L1 := [some (.ref a0), some (.int x1), some (.int x2), some (.int 0), none, none, none, none]) (st1 := []) (σ1 := σ) zM_X3_passName dX3_passName_1 rfl rfl rfl rfl ?_
  refine zw_iconst (v := 0) zM_X3_passName dX3_passName_2 (by decide) ?_
  refine zw_go (pc1 := 5) (L1 := [some (.ref a0), some (.int x1), some (.int x2), some (.int 0), some (.int 0), none, none, none]) (st1 := []) (σ1 := σ) zM_X3_passName dX3_passName_3 rfl rfl rfl rfl ?_
  exact zw_weak2 h ⟨rfl, rfl, rfl, rfl, rfl, trivial⟩
set_option maxHeartbeats 4000000 in
set_option maxRecDepth 100000 in
theorem vc_X3_passName_5 (a0 : Nat) (x1 : Int32) (x2 : Int32) (x3 : Int32) (x4 : Int32) (σ : zx_S) (K : Int32 → zx_S → Prop) (h : zK σ a0 = 16 ∧ ∃ b2 : Nat, zR σ a0 2 = some b2 ∧ zK σ b2 = 1 ∧ zx_in x1 (zN σ b2) = true ∧ (((zI σ b2 (Int32.toNatClampNeg x1)) ≤ x4 → K x3 σ) ∧ (¬ (zI σ b2 (Int32.toNatClampNeg x1)) ≤ x4 → ∃ b6 : Nat, zR σ a0 1 = some b6 ∧ ∃ b8 : Nat, zR σ a0 3 = some b8 ∧ zK σ b8 = 1 ∧ zx_in ((x1 * 3) + x4) (zN σ b8) = true ∧ zK σ b6 = 3 ∧ zx_in (zI σ b8 (Int32.toNatClampNeg ((x1 * 3) + x4))) (zN σ b6) = true ∧ ∃ b14 : Nat, zR σ b6 (Int32.toNatClampNeg (zI σ b8 (Int32.toNatClampNeg ((x1 * 3) + x4)))) = some b14 ∧ ∃ b16 : Nat, zR σ a0 4 = some b16 ∧ zK σ b16 = 1 ∧ zx_in ((x1 * 3) + x4) (zN σ b16) = true ∧ zK σ b14 = 14 ∧ zwI 25 0 [some (.ref b14), some (.int (zI σ b16 (Int32.toNatClampNeg ((x1 * 3) + x4))))] [] σ (fun v22 σ21 => zK σ21 a0 = 16 ∧ ∃ b24 : Nat, zR σ21 a0 7 = some b24 ∧ zK σ21 b24 = 1 ∧ zx_in x4 (zN σ21 b24) = true ∧ zx_in x4 (zN σ21 b24) = true ∧ zK σ21 b14 = 14 ∧ zwI 44 0 [some (.ref b14), some (.int (zI σ b16 (Int32.toNatClampNeg ((x1 * 3) + x4)))), none, none] [] σ21 (fun v31 σ30 => ((v31 ≤ (zI σ21 b24 (Int32.toNatClampNeg x4)) → zwI 83 128 [some (.ref a0), some (.int x1), some (.int x2), some (.int x3), some (.int x4), none, none, none] [] σ30 K) ∧ (¬ v31 ≤ (zI σ21 b24 (Int32.toNatClampNeg x4)) → zK σ30 b14 = 14 ∧ zwI 51 0 [some (.ref b14), some (.int (v22 + (4 * (zI σ21 b24 (Int32.toNatClampNeg x4)))))] [] σ30 (fun v34 σ33 => ((¬ v34 = x2 → zwI 83 128 [some (.ref a0), some (.int x1), some (.int x2), some (.int x3), some (.int x4), none, none, none] [] σ33 K) ∧ (v34 = x2 → zK σ33 a0 = 16 ∧ ∃ b36 : Nat, zR σ33 a0 7 = some b36 ∧ zK σ33 b36 = 1 ∧ zx_in x4 (zN σ33 b36) = true ∧ zx_in x4 (zN σ33 b36) = true ∧ ∀ σ41 : zx_S, σ41 = zx_pI σ33 b36 (Int32.toNatClampNeg x4) ((zI σ33 b36 (Int32.toNatClampNeg x4)) + 1) → ((¬ x3 = (0 : Int32) → zwI 83 127 [some (.ref a0), some (.int x1), some (.int x2), none, some (.int x4), none, none, none] [.int x3] σ41 K) ∧ (x3 = (0 : Int32) → zK σ41 b14 = 14 ∧ zwI 51 0 [some (.ref b14), some (.int ((v22 + (4 * (zI σ21 b24 (Int32.toNatClampNeg x4)))) + 2))] [] σ41 (fun v45 σ44 => zK σ44 b14 = 14 ∧ zwI 30 0 [some (.ref b14), some (.int v45)] [] σ44 (fun v48 σ47 => zwI 83 127 [some (.ref a0), some (.int x1), some (.int x2), none, some (.int x4), none, none, none] [.int v48] σ47 K)))))))))))))) : zwI 83 5 [some (.ref a0), some (.int x1), some (.int x2), some (.int x3), some (.int x4), none, none, none] [] σ K := by
  refine zw_go (pc1 := 7) (L1 := [some (.ref a0), some (.int x1), some (.int x2), some (.int x3), some (.int x4), none, none, none]) (st1 := [.int x4]) (σ1 := σ) zM_X3_passName dX3_passName_5 rfl rfl rfl rfl ?_
  refine zw_go (pc1 := 8) (L1 := [some (.ref a0), some (.int x1), some (.int x2), some (.int x3), some (.int x4), none, none, none]) (st1 := [.ref a0, .int x4]) (σ1 := σ) zM_X3_passName dX3_passName_7 rfl rfl rfl rfl ?_
  obtain ⟨hk1, h⟩ := h
  obtain ⟨b2, hr3, h⟩ := h
  refine zw_getR (a := b2) zM_X3_passName dX3_passName_8 zF_3_21 rfl hk1 hr3 ?_
  refine zw_go (pc1 := 12) (L1 := [some (.ref a0), some (.int x1), some (.int x2), some (.int x3), some (.int x4), none, none, none]) (st1 := [.int x1, .ref b2, .int x4]) (σ1 := σ) zM_X3_passName dX3_passName_11 rfl rfl rfl rfl ?_
  obtain ⟨hk4, h⟩ := h
  obtain ⟨hi5, h⟩ := h
  refine zw_iald zM_X3_passName dX3_passName_12 ⟨Or.inl hk4, hi5⟩ ?_
  refine zw_icmp_ge (tgt := 134) zM_X3_passName dX3_passName_13 rfl rfl (fun q => ?_) (fun q => ?_)
  · replace h := h.1 q
    refine zw_go (pc1 := 135) (L1 := [some (.ref a0), some (.int x1), some (.int x2), some (.int x3), some (.int x4), none, none, none]) (st1 := [.int x3]) (σ1 := σ) zM_X3_passName dX3_passName_134 rfl rfl rfl rfl ?_
    exact zw_reti zM_X3_passName dX3_passName_135 rfl h
  · replace h := h.2 q
    refine zw_go (pc1 := 17) (L1 := [some (.ref a0), some (.int x1), some (.int x2), some (.int x3), some (.int x4), none, none, none]) (st1 := [.ref a0]) (σ1 := σ) zM_X3_passName dX3_passName_16 rfl rfl rfl rfl ?_
    obtain ⟨b6, hr7, h⟩ := h
    refine zw_getR (a := b6) zM_X3_passName dX3_passName_17 zF_3_17 rfl hk1 hr7 ?_
    refine zw_go (pc1 := 21) (L1 := [some (.ref a0), some (.int x1), some (.int x2), some (.int x3), some (.int x4), none, none, none]) (st1 := [.ref a0, .ref b6]) (σ1 := σ) zM_X3_passName dX3_passName_20 rfl rfl rfl rfl ?_
    obtain ⟨b8, hr9, h⟩ := h
    refine zw_getR (a := b8) zM_X3_passName dX3_passName_21 zF_3_24 rfl hk1 hr9 ?_
    refine zw_go (pc1 := 25) (L1 := [some (.ref a0), some (.int x1), some (.int x2), some (.int x3), some (.int x4), none, none, none]) (st1 := [.int x1, .ref b8, .ref b6]) (σ1 := σ) zM_X3_passName dX3_passName_24 rfl rfl rfl rfl ?_
    refine zw_iconst (v := 3) zM_X3_passName dX3_passName_25 (by decide) ?_
    refine zw_go (pc1 := 27) (L1 := [some (.ref a0), some (.int x1), some (.int x2), some (.int x3), some (.int x4), none, none, none]) (st1 := [.int (x1 * 3), .ref b8, .ref b6]) (σ1 := σ) zM_X3_passName dX3_passName_26 rfl rfl rfl rfl ?_
    refine zw_go (pc1 := 29) (L1 := [some (.ref a0), some (.int x1), some (.int x2), some (.int x3), some (.int x4), none, none, none]) (st1 := [.int x4, .int (x1 * 3), .ref b8, .ref b6]) (σ1 := σ) zM_X3_passName dX3_passName_27 rfl rfl rfl rfl ?_
    refine zw_go (pc1 := 30) (L1 := [some (.ref a0), some (.int x1), some (.int x2), some (.int x3), some (.int x4), none, none, none]) (st1 := [.int ((x1 * 3) + x4), .ref b8, .ref b6]) (σ1 := σ) zM_X3_passName dX3_passName_29 rfl rfl rfl rfl ?_
    obtain ⟨hk10, h⟩ := h
    obtain ⟨hi11, h⟩ := h
    refine zw_iald zM_X3_passName dX3_passName_30 ⟨Or.inl hk10, hi11⟩ ?_
    obtain ⟨hk12, h⟩ := h
    obtain ⟨hi13, b14, hr15, h⟩ := h
    refine zw_aald zM_X3_passName dX3_passName_31 ⟨hk12, hi13⟩ hr15 ?_
    refine zw_go (pc1 := 34) (L1 := [some (.ref a0), some (.int x1), some (.int x2), some (.int x3), some (.int x4), some (.ref b14), none, none]) (st1 := []) (σ1 := σ) zM_X3_passName dX3_passName_32 rfl rfl rfl rfl ?_
    refine zw_go (pc1 := 35) (L1 := [some (.ref a0), some (.int x1), some (.int x2), some (.int x3), some (.int x4), some (.ref b14), none, none]) (st1 := [.ref a0]) (σ1 := σ) zM_X3_passName dX3_passName_34 rfl rfl rfl rfl ?_
    obtain ⟨b16, hr17, h⟩ := h
    refine zw_getR (a := b16) zM_X3_passName dX3_passName_35 zF_3_27 rfl hk1 hr17 ?_
    refine zw_go (pc1 := 39) (L1 := [some (.ref a0), some (.int x1), some (.int x2), some (.int x3), some (.int x4), some (.ref b14), none, none]) (st1 := [.int x1, .ref b16]) (σ1 := σ) zM_X3_passName dX3_passName_38 rfl rfl rfl rfl ?_
    refine zw_iconst (v := 3) zM_X3_passName dX3_passName_39 (by decide) ?_
    refine zw_go (pc1 := 41) (L1 := [some (.ref a0), some (.int x1), some (.int x2), some (.int x3), some (.int x4), some (.ref b14), none, none]) (st1 := [.int (x1 * 3), .ref b16]) (σ1 := σ) zM_X3_passName dX3_passName_40 rfl rfl rfl rfl ?_
    refine zw_go (pc1 := 43) (L1 := [some (.ref a0), some (.int x1), some (.int x2), some (.int x3), some (.int x4), some (.ref b14), none, none]) (st1 := [.int x4, .int (x1 * 3), .ref b16]) (σ1 := σ) zM_X3_passName dX3_passName_41 rfl rfl rfl rfl ?_
    refine zw_go (pc1 := 44) (L1 := [some (.ref a0), some (.int x1), some (.int x2), some (.int x3), some (.int x4), some (.ref b14), none, none]) (st1 := [.int ((x1 * 3) + x4), .ref b16]) (σ1 := σ) zM_X3_passName dX3_passName_43 rfl rfl rfl rfl ?_
    obtain ⟨hk18, h⟩ := h
    obtain ⟨hi19, h⟩ := h
    refine zw_iald zM_X3_passName dX3_passName_44 ⟨Or.inl hk18, hi19⟩ ?_
    refine zw_go (pc1 := 47) (L1 := [some (.ref a0), some (.int x1), some (.int x2), some (.int x3), some (.int x4), some (.ref b14), some (.int (zI σ b16 (Int32.toNatClampNeg ((x1 * 3) + x4)))), none]) (st1 := []) (σ1 := σ) zM_X3_passName dX3_passName_45 rfl rfl rfl rfl ?_
    refine zw_go (pc1 := 49) (L1 := [some (.ref a0), some (.int x1), some (.int x2), some (.int x3), some (.int x4), some (.ref b14), some (.int (zI σ b16 (Int32.toNatClampNeg ((x1 * 3) + x4)))), none]) (st1 := [.ref b14]) (σ1 := σ) zM_X3_passName dX3_passName_47 rfl rfl rfl rfl ?_
    refine zw_go (pc1 := 51) (L1 := [some (.ref a0), some (.int x1), some (.int x2), some (.int x3), some (.int x4), some (.ref b14), some (.int (zI σ b16 (Int32.toNatClampNeg ((x1 * 3) + x4)))), none]) (st1 := [.int (zI σ b16 (Int32.toNatClampNeg ((x1 * 3) + x4))), .ref b14]) (σ1 := σ) zM_X3_passName dX3_passName_49 rfl rfl rfl rfl ?_
    obtain ⟨hk20, h⟩ := h
    refine zw_callI (as := [.ref b14, .int (zI σ b16 (Int32.toNatClampNeg ((x1 * 3) + x4)))]) (rest := []) zM_X3_passName dX3_passName_51 (zx_calV zC_3_111) zM_X1_firstNamePlace rfl rfl rfl rfl rfl (zx_args0 hk20 rfl) rfl h (fun v22 σ21 h => ?_)
    refine zw_iconst (v := 4) zM_X3_passName dX3_passName_54 (by decide) ?_
    refine zw_go (pc1 := 56) (L1 := [some (.ref a0), some (.int x1), some (.int x2), some (.int x3), some (.int x4), some (.ref b14), some (.int (zI σ b16 (Int32.toNatClampNeg ((x1 * 3) + x4)))), none]) (st1 := [.ref a0, .int 4, .int v22]) (σ1 := σ21) zM_X3_passName dX3_passName_55 rfl rfl rfl rfl ?_
    obtain ⟨hk23, h⟩ := h
    obtain ⟨b24, hr25, h⟩ := h
    refine zw_getR (a := b24) zM_X3_passName dX3_passName_56 zF_3_36 rfl hk23 hr25 ?_
    refine zw_go (pc1 := 61) (L1 := [some (.ref a0), some (.int x1), some (.int x2), some (.int x3), some (.int x4), some (.ref b14), some (.int (zI σ b16 (Int32.toNatClampNeg ((x1 * 3) + x4)))), none]) (st1 := [.int x4, .ref b24, .int 4, .int v22]) (σ1 := σ21) zM_X3_passName dX3_passName_59 rfl rfl rfl rfl ?_
    obtain ⟨hk26, h⟩ := h
    obtain ⟨hi27, h⟩ := h
    refine zw_iald zM_X3_passName dX3_passName_61 ⟨Or.inl hk26, hi27⟩ ?_
    refine zw_go (pc1 := 63) (L1 := [some (.ref a0), some (.int x1), some (.int x2), some (.int x3), some (.int x4), some (.ref b14), some (.int (zI σ b16 (Int32.toNatClampNeg ((x1 * 3) + x4)))), none]) (st1 := [.int (4 * (zI σ21 b24 (Int32.toNatClampNeg x4))), .int v22]) (σ1 := σ21) zM_X3_passName dX3_passName_62 rfl rfl rfl rfl ?_
    refine zw_go (pc1 := 64) (L1 := [some (.ref a0), some (.int x1), some (.int x2), some (.int x3), some (.int x4), some (.ref b14), some (.int (zI σ b16 (Int32.toNatClampNeg ((x1 * 3) + x4)))), none]) (st1 := [.int (v22 + (4 * (zI σ21 b24 (Int32.toNatClampNeg x4))))]) (σ1 := σ21) zM_X3_passName dX3_passName_63 rfl rfl rfl rfl ?_
    refine zw_go (pc1 := 66) (L1 := [some (.ref a0), some (.int x1), some (.int x2), some (.int x3), some (.int x4), some (.ref b14), some (.int (zI σ b16 (Int32.toNatClampNeg ((x1 * 3) + x4)))), some (.int (v22 + (4 * (zI σ21 b24 (Int32.toNatClampNeg x4)))))]) (st1 := []) (σ1 := σ21) zM_X3_passName dX3_passName_64 rfl rfl rfl rfl ?_
    refine zw_go (pc1 := 67) (L1 := [some (.ref a0), some (.int x1), some (.int x2), some (.int x3), some (.int x4), some (.ref b14), some (.int (zI σ b16 (Int32.toNatClampNeg ((x1 * 3) + x4)))), some (.int (v22 + (4 * (zI σ21 b24 (Int32.toNatClampNeg x4)))))]) (st1 := [.ref a0]) (σ1 := σ21) zM_X3_passName dX3_passName_66 rfl rfl rfl rfl ?_
    refine zw_getR (a := b24) zM_X3_passName dX3_passName_67 zF_3_36 rfl hk23 hr25 ?_
    refine zw_go (pc1 := 72) (L1 := [some (.ref a0), some (.int x1), some (.int x2), some (.int x3), some (.int x4), some (.ref b14), some (.int (zI σ b16 (Int32.toNatClampNeg ((x1 * 3) + x4)))), some (.int (v22 + (4 * (zI σ21 b24 (Int32.toNatClampNeg x4)))))]) (st1 := [.int x4, .ref b24]) (σ1 := σ21) zM_X3_passName dX3_passName_70 rfl rfl rfl rfl ?_
    obtain ⟨hi28, h⟩ := h
    refine zw_iald zM_X3_passName dX3_passName_72 ⟨Or.inl hk26, hi28⟩ ?_
    refine zw_go (pc1 := 75) (L1 := [some (.ref a0), some (.int x1), some (.int x2), some (.int x3), some (.int x4), some (.ref b14), some (.int (zI σ b16 (Int32.toNatClampNeg ((x1 * 3) + x4)))), some (.int (v22 + (4 * (zI σ21 b24 (Int32.toNatClampNeg x4)))))]) (st1 := [.ref b14, .int (zI σ21 b24 (Int32.toNatClampNeg x4))]) (σ1 := σ21) zM_X3_passName dX3_passName_73 rfl rfl rfl rfl ?_
    refine zw_go (pc1 := 77) (L1 := [some (.ref a0), some (.int x1), some (.int x2), some (.int x3), some (.int x4), some (.ref b14), some (.int (zI σ b16 (Int32.toNatClampNeg ((x1 * 3) + x4)))), some (.int (v22 + (4 * (zI σ21 b24 (Int32.toNatClampNeg x4)))))]) (st1 := [.int (zI σ b16 (Int32.toNatClampNeg ((x1 * 3) + x4))), .ref b14, .int (zI σ21 b24 (Int32.toNatClampNeg x4))]) (σ1 := σ21) zM_X3_passName dX3_passName_75 rfl rfl rfl rfl ?_
    obtain ⟨hk29, h⟩ := h
    refine zw_callI (as := [.ref b14, .int (zI σ b16 (Int32.toNatClampNeg ((x1 * 3) + x4)))]) (rest := [.int (zI σ21 b24 (Int32.toNatClampNeg x4))]) zM_X3_passName dX3_passName_77 (zx_calV zC_3_70) zM_X1_sizeOf rfl rfl rfl rfl rfl (zx_args0 hk29 rfl) rfl h (fun v31 σ30 h => ?_)
    refine zw_icmp_ge (tgt := 128) zM_X3_passName dX3_passName_80 rfl rfl (fun q => ?_) (fun q => ?_)
    · replace h := h.1 q
      exact zw_weak2 h ⟨rfl, rfl, rfl, rfl, rfl, trivial⟩
    · replace h := h.2 q
      refine zw_go (pc1 := 85) (L1 := [some (.ref a0), some (.int x1), some (.int x2), some (.int x3), some (.int x4), some (.ref b14), some (.int (zI σ b16 (Int32.toNatClampNeg ((x1 * 3) + x4)))), some (.int (v22 + (4 * (zI σ21 b24 (Int32.toNatClampNeg x4)))))]) (st1 := [.ref b14]) (σ1 := σ30) zM_X3_passName dX3_passName_83 rfl rfl rfl rfl ?_
      refine zw_go (pc1 := 87) (L1 := [some (.ref a0), some (.int x1), some (.int x2), some (.int x3), some (.int x4), some (.ref b14), some (.int (zI σ b16 (Int32.toNatClampNeg ((x1 * 3) + x4)))), some (.int (v22 + (4 * (zI σ21 b24 (Int32.toNatClampNeg x4)))))]) (st1 := [.int (v22 + (4 * (zI σ21 b24 (Int32.toNatClampNeg x4)))), .ref b14]) (σ1 := σ30) zM_X3_passName dX3_passName_85 rfl rfl rfl rfl ?_
      obtain ⟨hk32, h⟩ := h
      refine zw_callI (as := [.ref b14, .int (v22 + (4 * (zI σ21 b24 (Int32.toNatClampNeg x4))))]) (rest := []) zM_X3_passName dX3_passName_87 (zx_calV zC_3_114) zM_X1_wordAt rfl rfl rfl rfl rfl (zx_args0 hk32 rfl) rfl h (fun v34 σ33 h => ?_)
      refine zw_go (pc1 := 91) (L1 := [some (.ref a0), some (.int x1), some (.int x2), some (.int x3), some (.int x4), some (.ref b14), some (.int (zI σ b16 (Int32.toNatClampNeg ((x1 * 3) + x4)))), some (.int (v22 + (4 * (zI σ21 b24 (Int32.toNatClampNeg x4)))))]) (st1 := [.int x2, .int v34]) (σ1 := σ33) zM_X3_passName dX3_passName_90 rfl rfl rfl rfl ?_
      refine zw_icmp_ne (tgt := 128) zM_X3_passName dX3_passName_91 rfl rfl (fun q => ?_) (fun q => ?_)
      · replace h := h.1 q
        exact zw_weak2 h ⟨rfl, rfl, rfl, rfl, rfl, trivial⟩
      · replace h := h.2 q
        refine zw_go (pc1 := 95) (L1 := [some (.ref a0), some (.int x1), some (.int x2), some (.int x3), some (.int x4), some (.ref b14), some (.int (zI σ b16 (Int32.toNatClampNeg ((x1 * 3) + x4)))), some (.int (v22 + (4 * (zI σ21 b24 (Int32.toNatClampNeg x4)))))]) (st1 := [.ref a0]) (σ1 := σ33) zM_X3_passName dX3_passName_94 rfl rfl rfl rfl ?_
        obtain ⟨hk35, h⟩ := h
        obtain ⟨b36, hr37, h⟩ := h
        refine zw_getR (a := b36) zM_X3_passName dX3_passName_95 zF_3_36 rfl hk35 hr37 ?_
        refine zw_go (pc1 := 100) (L1 := [some (.ref a0), some (.int x1), some (.int x2), some (.int x3), some (.int x4), some (.ref b14), some (.int (zI σ b16 (Int32.toNatClampNeg ((x1 * 3) + x4)))), some (.int (v22 + (4 * (zI σ21 b24 (Int32.toNatClampNeg x4)))))]) (st1 := [.int x4, .ref b36]) (σ1 := σ33) zM_X3_passName dX3_passName_98 rfl rfl rfl rfl ?_
        refine zw_go (pc1 := 101) (L1 := [some (.ref a0), some (.int x1), some (.int x2), some (.int x3), some (.int x4), some (.ref b14), some (.int (zI σ b16 (Int32.toNatClampNeg ((x1 * 3) + x4)))), some (.int (v22 + (4 * (zI σ21 b24 (Int32.toNatClampNeg x4)))))]) (st1 := [.int x4, .ref b36, .int x4, .ref b36]) (σ1 := σ33) zM_X3_passName dX3_passName_100 rfl rfl rfl rfl ?_
        obtain ⟨hk38, h⟩ := h
        obtain ⟨hi39, h⟩ := h
        refine zw_iald zM_X3_passName dX3_passName_101 ⟨Or.inl hk38, hi39⟩ ?_
        refine zw_iconst (v := 1) zM_X3_passName dX3_passName_102 (by decide) ?_
        refine zw_go (pc1 := 104) (L1 := [some (.ref a0), some (.int x1), some (.int x2), some (.int x3), some (.int x4), some (.ref b14), some (.int (zI σ b16 (Int32.toNatClampNeg ((x1 * 3) + x4)))), some (.int (v22 + (4 * (zI σ21 b24 (Int32.toNatClampNeg x4)))))]) (st1 := [.int ((zI σ33 b36 (Int32.toNatClampNeg x4)) + 1), .int x4, .ref b36]) (σ1 := σ33) zM_X3_passName dX3_passName_103 rfl rfl rfl rfl ?_
        obtain ⟨hi40, h⟩ := h
        obtain ⟨σ41, e42⟩ : ∃ z9 : zx_S, z9 = zx_pI σ33 b36 (Int32.toNatClampNeg x4) ((zI σ33 b36 (Int32.toNatClampNeg x4)) + 1) := ⟨_, rfl⟩
        replace h := h σ41 e42
        refine zw_iast zM_X3_passName dX3_passName_104 ⟨hk38, hi40⟩ e42 ?_
        refine zw_go (pc1 := 106) (L1 := [some (.ref a0), some (.int x1), some (.int x2), some (.int x3), some (.int x4), some (.ref b14), some (.int (zI σ b16 (Int32.toNatClampNeg ((x1 * 3) + x4)))), some (.int (v22 + (4 * (zI σ21 b24 (Int32.toNatClampNeg x4)))))]) (st1 := [.int x3]) (σ1 := σ41) zM_X3_passName dX3_passName_105 rfl rfl rfl rfl ?_
        refine zw_if_ne (tgt := 126) zM_X3_passName dX3_passName_106 rfl rfl (fun q => ?_) (fun q => ?_)
        · replace h := h.1 q
          refine zw_go (pc1 := 127) (L1 := [some (.ref a0), some (.int x1), some (.int x2), some (.int x3), some (.int x4), some (.ref b14), some (.int (zI σ b16 (Int32.toNatClampNeg ((x1 * 3) + x4)))), some (.int (v22 + (4 * (zI σ21 b24 (Int32.toNatClampNeg x4)))))]) (st1 := [.int x3]) (σ1 := σ41) zM_X3_passName dX3_passName_126 rfl rfl rfl rfl ?_
          exact zw_weak2 h ⟨rfl, rfl, rfl, rfl, trivial⟩
        · replace h := h.2 q
          refine zw_go (pc1 := 111) (L1 := [some (.ref a0), some (.int x1), some (.int x2), some (.int x3), some (.int x4), some (.ref b14), some (.int (zI σ b16 (Int32.toNatClampNeg ((x1 * 3) + x4)))), some (.int (v22 + (4 * (zI σ21 b24 (Int32.toNatClampNeg x4)))))]) (st1 := [.ref b14]) (σ1 := σ41) zM_X3_passName dX3_passName_109 rfl rfl rfl rfl ?_
          refine zw_go (pc1 := 113) (L1 := [some (.ref a0), some (.int x1), some (.int x2), some (.int x3), some (.int x4), some (.ref b14), some (.int (zI σ b16 (Int32.toNatClampNeg ((x1 * 3) + x4)))), some (.int (v22 + (4 * (zI σ21 b24 (Int32.toNatClampNeg x4)))))]) (st1 := [.ref b14, .ref b14]) (σ1 := σ41) zM_X3_passName dX3_passName_111 rfl rfl rfl rfl ?_
          refine zw_go (pc1 := 115) (L1 := [some (.ref a0), some (.int x1), some (.int x2), some (.int x3), some (.int x4), some (.ref b14), some (.int (zI σ b16 (Int32.toNatClampNeg ((x1 * 3) + x4)))), some (.int (v22 + (4 * (zI σ21 b24 (Int32.toNatClampNeg x4)))))]) (st1 := [.int (v22 + (4 * (zI σ21 b24 (Int32.toNatClampNeg x4)))), .ref b14, .ref b14]) (σ1 := σ41) zM_X3_passName dX3_passName_113 rfl rfl rfl rfl ?_
          refine zw_iconst (v := 2) zM_X3_passName dX3_passName_115 (by decide) ?_
          refine zw_go (pc1 := 117) (L1 := [some (.ref a0), some (.int x1), some (.int x2), some (.int x3), some (.int x4), some (.ref b14), some (.int (zI σ b16 (Int32.toNatClampNeg ((x1 * 3) + x4)))), some (.int (v22 + (4 * (zI σ21 b24 (Int32.toNatClampNeg x4)))))]) (st1 := [.int ((v22 + (4 * (zI σ21 b24 (Int32.toNatClampNeg x4)))) + 2), .ref b14, .ref b14]) (σ1 := σ41) zM_X3_passName dX3_passName_116 rfl rfl rfl rfl ?_
          obtain ⟨hk43, h⟩ := h
          refine zw_callI (as := [.ref b14, .int ((v22 + (4 * (zI σ21 b24 (Int32.toNatClampNeg x4)))) + 2)]) (rest := [.ref b14]) zM_X3_passName dX3_passName_117 (zx_calV zC_3_114) zM_X1_wordAt rfl rfl rfl rfl rfl (zx_args0 hk43 rfl) rfl h (fun v45 σ44 h => ?_)
          obtain ⟨hk46, h⟩ := h
          refine zw_callI (as := [.ref b14, .int v45]) (rest := []) zM_X3_passName dX3_passName_120 (zx_calV zC_3_60) zM_X1_kindOf rfl rfl rfl rfl rfl (zx_args0 hk46 rfl) rfl h (fun v48 σ47 h => ?_)
          refine zw_goto (tgt := 127) zM_X3_passName dX3_passName_123 rfl ?_
          exact zw_weak2 h ⟨rfl, rfl, rfl, rfl, trivial⟩
set_option maxHeartbeats 4000000 in
set_option maxRecDepth 100000 in
theorem vc_X3_passName_127 (a0 : Nat) (x1 : Int32) (x2 : Int32) (x4 : Int32) (y0 : Int32) (σ : zx_S) (K : Int32 → zx_S → Prop) (h : zwI 83 128 [some (.ref a0), some (.int x1), some (.int x2), some (.int y0), some (.int x4), none, none, none] [] σ K) : zwI 83 127 [some (.ref a0), some (.int x1), some (.int x2), none, some (.int x4), none, none, none] [.int y0] σ K := by
  refine zw_go (pc1 := 128) (L1 := [some (.ref a0), some (.int x1), some (.int x2), some (.int y0), some (.int x4), none, none, none]) (st1 := []) (σ1 := σ) zM_X3_passName dX3_passName_127 rfl rfl rfl rfl ?_
  exact zw_weak2 h ⟨rfl, rfl, rfl, rfl, rfl, trivial⟩
set_option maxHeartbeats 4000000 in
set_option maxRecDepth 100000 in
theorem vc_X3_passName_128 (a0 : Nat) (x1 : Int32) (x2 : Int32) (x3 : Int32) (x4 : Int32) (σ : zx_S) (K : Int32 → zx_S → Prop) (h : zwI 83 5 [some (.ref a0), some (.int x1), some (.int x2), some (.int x3), some (.int (x4 + Int32.ofInt 1)), none, none, none] [] σ K) : zwI 83 128 [some (.ref a0), some (.int x1), some (.int x2), some (.int x3), some (.int x4), none, none, none] [] σ K := by
  refine zw_go (pc1 := 131) (L1 := [some (.ref a0), some (.int x1), some (.int x2), some (.int x3), some (.int (x4 + Int32.ofInt 1)), none, none, none]) (st1 := []) (σ1 := σ) zM_X3_passName dX3_passName_128 rfl rfl rfl rfl ?_
  refine zw_goto (tgt := 5) zM_X3_passName dX3_passName_131 rfl ?_
  exact zw_weak2 h ⟨rfl, rfl, rfl, rfl, rfl, trivial⟩
set_option maxHeartbeats 4000000 in
set_option maxRecDepth 100000 in
theorem vc_X3_sizeOf_0 (a0 : Nat) (x1 : Int32) (σ : zx_S) (K : Int32 → zx_S → Prop) (h : zK σ a0 = 16 ∧ zwI 75 0 [some (.ref a0), some (.int x1)] [] σ (fun v3 σ2 => ((¬ v3 = (2 : Int32) → zK σ2 a0 = 16 ∧ zwI 79 0 [some (.ref a0), some (.int x1), some (.int (-1)), none, none] [] σ2 (fun v6 σ5 => zK σ5 a0 = 16 ∧ K (zI σ5 a0 9) σ5)) ∧ (v3 = (2 : Int32) → zK σ2 a0 = 16 ∧ zwR 87 0 [some (.ref a0), some (.int x1)] [] σ2 (fun b10 σ9 => zK σ9 a0 = 16 ∧ zwI 81 0 [some (.ref a0), some (.int x1)] [] σ9 (fun v13 σ12 => zK σ12 b10 = 14 ∧ zwI 44 0 [some (.ref b10), some (.int v13), none, none] [] σ12 (fun v16 σ15 => K v16 σ15))))))) : zwI 84 0 [some (.ref a0), some (.int x1)] [] σ K := by
  refine zw_go (pc1 := 1) (L1 := [some (.ref a0), some (.int x1)]) (st1 := [.ref a0]) (σ1 := σ) zM_X3_sizeOf dX3_sizeOf_0 rfl rfl rfl rfl ?_
  refine zw_go (pc1 := 2) (L1 := [some (.ref a0), some (.int x1)]) (st1 := [.int x1, .ref a0]) (σ1 := σ) zM_X3_sizeOf dX3_sizeOf_1 rfl rfl rfl rfl ?_
  obtain ⟨hk1, h⟩ := h
  refine zw_callI (as := [.ref a0, .int x1]) (rest := []) zM_X3_sizeOf dX3_sizeOf_2 (zx_calV zC_3_69) zM_X3_kindOf rfl rfl rfl rfl rfl (zx_args0 hk1 rfl) rfl h (fun v3 σ2 h => ?_)
  refine zw_iconst (v := 2) zM_X3_sizeOf dX3_sizeOf_5 (by decide) ?_
  refine zw_icmp_ne (tgt := 23) zM_X3_sizeOf dX3_sizeOf_6 rfl rfl (fun q => ?_) (fun q => ?_)
  · replace h := h.1 q
    refine zw_go (pc1 := 24) (L1 := [some (.ref a0), some (.int x1)]) (st1 := [.ref a0]) (σ1 := σ2) zM_X3_sizeOf dX3_sizeOf_23 rfl rfl rfl rfl ?_
    refine zw_go (pc1 := 25) (L1 := [some (.ref a0), some (.int x1)]) (st1 := [.int x1, .ref a0]) (σ1 := σ2) zM_X3_sizeOf dX3_sizeOf_24 rfl rfl rfl rfl ?_
    refine zw_iconst (v := (-1)) zM_X3_sizeOf dX3_sizeOf_25 (by decide) ?_
    obtain ⟨hk4, h⟩ := h
    refine zw_callI (as := [.ref a0, .int x1, .int (-1)]) (rest := []) zM_X3_sizeOf dX3_sizeOf_26 (zx_calV zC_3_73) zM_X3_nameBelow rfl rfl rfl rfl rfl (zx_args0 hk4 rfl) rfl h (fun v6 σ5 h => ?_)
    refine zw_go (pc1 := 30) (L1 := [some (.ref a0), some (.int x1)]) (st1 := []) (σ1 := σ5) zM_X3_sizeOf dX3_sizeOf_29 rfl rfl rfl rfl ?_
    refine zw_go (pc1 := 31) (L1 := [some (.ref a0), some (.int x1)]) (st1 := [.ref a0]) (σ1 := σ5) zM_X3_sizeOf dX3_sizeOf_30 rfl rfl rfl rfl ?_
    obtain ⟨hk7, h⟩ := h
    refine zw_getI zM_X3_sizeOf dX3_sizeOf_31 zF_3_77 rfl hk7 ?_
    exact zw_reti zM_X3_sizeOf dX3_sizeOf_34 rfl h
  · replace h := h.2 q
    refine zw_go (pc1 := 10) (L1 := [some (.ref a0), some (.int x1)]) (st1 := [.ref a0]) (σ1 := σ2) zM_X3_sizeOf dX3_sizeOf_9 rfl rfl rfl rfl ?_
    refine zw_go (pc1 := 11) (L1 := [some (.ref a0), some (.int x1)]) (st1 := [.int x1, .ref a0]) (σ1 := σ2) zM_X3_sizeOf dX3_sizeOf_10 rfl rfl rfl rfl ?_
    obtain ⟨hk8, h⟩ := h
    refine zw_callR (as := [.ref a0, .int x1]) (rest := []) zM_X3_sizeOf dX3_sizeOf_11 (zx_calV zC_3_52) zM_X3_upperImage rfl rfl rfl rfl rfl (zx_args0 hk8 rfl) rfl h (fun b10 σ9 h => ?_)
    refine zw_go (pc1 := 15) (L1 := [some (.ref a0), some (.int x1)]) (st1 := [.ref a0, .ref b10]) (σ1 := σ9) zM_X3_sizeOf dX3_sizeOf_14 rfl rfl rfl rfl ?_
    refine zw_go (pc1 := 16) (L1 := [some (.ref a0), some (.int x1)]) (st1 := [.int x1, .ref a0, .ref b10]) (σ1 := σ9) zM_X3_sizeOf dX3_sizeOf_15 rfl rfl rfl rfl ?_
    obtain ⟨hk11, h⟩ := h
    refine zw_callI (as := [.ref a0, .int x1]) (rest := [.ref b10]) zM_X3_sizeOf dX3_sizeOf_16 (zx_calV zC_3_56) zM_X3_numberOf rfl rfl rfl rfl rfl (zx_args0 hk11 rfl) rfl h (fun v13 σ12 h => ?_)
    obtain ⟨hk14, h⟩ := h
    refine zw_callI (as := [.ref b10, .int v13]) (rest := []) zM_X3_sizeOf dX3_sizeOf_19 (zx_calV zC_3_70) zM_X1_sizeOf rfl rfl rfl rfl rfl (zx_args0 hk14 rfl) rfl h (fun v16 σ15 h => ?_)
    exact zw_reti zM_X3_sizeOf dX3_sizeOf_22 rfl h
set_option maxHeartbeats 4000000 in
set_option maxRecDepth 100000 in
theorem vc_X3_startViews_0 (a0 : Nat) (σ : zx_S) (K : zx_S → Prop) (h : zK σ a0 = 16 ∧ ∀ σ2 : zx_S, σ2 = zx_pI σ a0 11 0 → ∀ σ4 : zx_S, σ4 = zx_pI σ2 a0 8 0 → zwV 85 17 [some (.ref a0), some (.int ((zI σ4 a0 10) - 1))] [] σ4 K) : zwV 85 0 [some (.ref a0), none] [] σ K := by
  refine zw_go (pc1 := 1) (L1 := [some (.ref a0), none]) (st1 := [.ref a0]) (σ1 := σ) zM_X3_startViews dX3_startViews_0 rfl rfl rfl rfl ?_
  refine zw_iconst (v := 0) zM_X3_startViews dX3_startViews_1 (by decide) ?_
  obtain ⟨hk1, h⟩ := h
  obtain ⟨σ2, e3⟩ : ∃ z9 : zx_S, z9 = zx_pI σ a0 11 0 := ⟨_, rfl⟩
  replace h := h σ2 e3
  refine zw_putI zM_X3_startViews dX3_startViews_2 zF_3_49 rfl rfl hk1 e3 ?_
  refine zw_go (pc1 := 6) (L1 := [some (.ref a0), none]) (st1 := [.ref a0]) (σ1 := σ2) zM_X3_startViews dX3_startViews_5 rfl rfl rfl rfl ?_
  refine zw_iconst (v := 0) zM_X3_startViews dX3_startViews_6 (by decide) ?_
  obtain ⟨σ4, e5⟩ : ∃ z9 : zx_S, z9 = zx_pI σ2 a0 8 0 := ⟨_, rfl⟩
  replace h := h σ4 e5
  refine zw_putI zM_X3_startViews dX3_startViews_7 zF_3_99 rfl rfl (by rw [e3]; exact hk1) e5 ?_
  refine zw_go (pc1 := 11) (L1 := [some (.ref a0), none]) (st1 := [.ref a0]) (σ1 := σ4) zM_X3_startViews dX3_startViews_10 rfl rfl rfl rfl ?_
  refine zw_getI zM_X3_startViews dX3_startViews_11 zF_3_42 rfl (by rw [e5, e3]; exact hk1) ?_
  refine zw_iconst (v := 1) zM_X3_startViews dX3_startViews_14 (by decide) ?_
  refine zw_go (pc1 := 16) (L1 := [some (.ref a0), none]) (st1 := [.int ((zI σ4 a0 10) - 1)]) (σ1 := σ4) zM_X3_startViews dX3_startViews_15 rfl rfl rfl rfl ?_
  refine zw_go (pc1 := 17) (L1 := [some (.ref a0), some (.int ((zI σ4 a0 10) - 1))]) (st1 := []) (σ1 := σ4) zM_X3_startViews dX3_startViews_16 rfl rfl rfl rfl ?_
  exact zw_weak2 h ⟨rfl, rfl, trivial⟩
set_option maxHeartbeats 4000000 in
set_option maxRecDepth 100000 in
theorem vc_X3_startViews_17 (a0 : Nat) (x1 : Int32) (σ : zx_S) (K : zx_S → Prop) (h : ((x1 < (0 : Int32) → zK σ a0 = 16 ∧ zwV 66 0 [some (.ref a0), none] [] σ (fun σ2 => K σ2)) ∧ (¬ x1 < (0 : Int32) → zK σ a0 = 16 ∧ zwV 67 0 [some (.ref a0), some (.int x1), some (.int 1)] [] σ (fun σ4 => zwV 85 17 [some (.ref a0), some (.int (x1 + Int32.ofInt (-1)))] [] σ4 K)))) : zwV 85 17 [some (.ref a0), some (.int x1)] [] σ K := by
  refine zw_go (pc1 := 18) (L1 := [some (.ref a0), some (.int x1)]) (st1 := [.int x1]) (σ1 := σ) zM_X3_startViews dX3_startViews_17 rfl rfl rfl rfl ?_
  refine zw_if_lt (tgt := 33) zM_X3_startViews dX3_startViews_18 rfl rfl (fun q => ?_) (fun q => ?_)
  · replace h := h.1 q
    refine zw_go (pc1 := 34) (L1 := [some (.ref a0), some (.int x1)]) (st1 := [.ref a0]) (σ1 := σ) zM_X3_startViews dX3_startViews_33 rfl rfl rfl rfl ?_
    obtain ⟨hk1, h⟩ := h
    refine zw_callV (as := [.ref a0]) (rest := []) zM_X3_startViews dX3_startViews_34 (zx_calV zC_3_102) zM_X3_addFound rfl rfl rfl rfl rfl (zx_args0 hk1 rfl) rfl h (fun σ2 h => ?_)
    exact zw_retv zM_X3_startViews dX3_startViews_37 rfl h
  · replace h := h.2 q
    refine zw_go (pc1 := 22) (L1 := [some (.ref a0), some (.int x1)]) (st1 := [.ref a0]) (σ1 := σ) zM_X3_startViews dX3_startViews_21 rfl rfl rfl rfl ?_
    refine zw_go (pc1 := 23) (L1 := [some (.ref a0), some (.int x1)]) (st1 := [.int x1, .ref a0]) (σ1 := σ) zM_X3_startViews dX3_startViews_22 rfl rfl rfl rfl ?_
    refine zw_iconst (v := 1) zM_X3_startViews dX3_startViews_23 (by decide) ?_
    obtain ⟨hk3, h⟩ := h
    refine zw_callV (as := [.ref a0, .int x1, .int 1]) (rest := []) zM_X3_startViews dX3_startViews_24 (zx_calV zC_3_105) zM_X3_addToFound rfl rfl rfl rfl rfl (zx_args0 hk3 rfl) rfl h (fun σ4 h => ?_)
    refine zw_go (pc1 := 30) (L1 := [some (.ref a0), some (.int (x1 + Int32.ofInt (-1)))]) (st1 := []) (σ1 := σ4) zM_X3_startViews dX3_startViews_27 rfl rfl rfl rfl ?_
    refine zw_goto (tgt := 17) zM_X3_startViews dX3_startViews_30 rfl ?_
    exact zw_weak2 h ⟨rfl, rfl, trivial⟩
set_option maxHeartbeats 4000000 in
set_option maxRecDepth 100000 in
theorem vc_X3_takeAway_0 (a0 : Nat) (σ : zx_S) (K : Int32 → zx_S → Prop) (h : zK σ a0 = 16 ∧ ∀ σ2 : zx_S, σ2 = zx_pI σ a0 10 0 → ∀ σ4 : zx_S, σ4 = zx_pI σ2 a0 11 0 → K (zI σ a0 10) σ4) : zwI 86 0 [some (.ref a0), none] [] σ K := by
  refine zw_go (pc1 := 1) (L1 := [some (.ref a0), none]) (st1 := [.ref a0]) (σ1 := σ) zM_X3_takeAway dX3_takeAway_0 rfl rfl rfl rfl ?_
  obtain ⟨hk1, h⟩ := h
  refine zw_getI zM_X3_takeAway dX3_takeAway_1 zF_3_42 rfl hk1 ?_
  refine zw_go (pc1 := 5) (L1 := [some (.ref a0), some (.int (zI σ a0 10))]) (st1 := []) (σ1 := σ) zM_X3_takeAway dX3_takeAway_4 rfl rfl rfl rfl ?_
  refine zw_go (pc1 := 6) (L1 := [some (.ref a0), some (.int (zI σ a0 10))]) (st1 := [.ref a0]) (σ1 := σ) zM_X3_takeAway dX3_takeAway_5 rfl rfl rfl rfl ?_
  refine zw_iconst (v := 0) zM_X3_takeAway dX3_takeAway_6 (by decide) ?_
  obtain ⟨σ2, e3⟩ : ∃ z9 : zx_S, z9 = zx_pI σ a0 10 0 := ⟨_, rfl⟩
  replace h := h σ2 e3
  refine zw_putI zM_X3_takeAway dX3_takeAway_7 zF_3_42 rfl rfl hk1 e3 ?_
  refine zw_go (pc1 := 11) (L1 := [some (.ref a0), some (.int (zI σ a0 10))]) (st1 := [.ref a0]) (σ1 := σ2) zM_X3_takeAway dX3_takeAway_10 rfl rfl rfl rfl ?_
  refine zw_iconst (v := 0) zM_X3_takeAway dX3_takeAway_11 (by decide) ?_
  obtain ⟨σ4, e5⟩ : ∃ z9 : zx_S, z9 = zx_pI σ2 a0 11 0 := ⟨_, rfl⟩
  replace h := h σ4 e5
  refine zw_putI zM_X3_takeAway dX3_takeAway_12 zF_3_49 rfl rfl (by rw [e3]; exact hk1) e5 ?_
  refine zw_go (pc1 := 16) (L1 := [some (.ref a0), some (.int (zI σ a0 10))]) (st1 := [.int (zI σ a0 10)]) (σ1 := σ4) zM_X3_takeAway dX3_takeAway_15 rfl rfl rfl rfl ?_
  exact zw_reti zM_X3_takeAway dX3_takeAway_16 rfl h
set_option maxHeartbeats 4000000 in
set_option maxRecDepth 100000 in
theorem vc_X3_upperImage_0 (a0 : Nat) (x1 : Int32) (σ : zx_S) (K : Nat → zx_S → Prop) (h : zK σ a0 = 16 ∧ ∃ b2 : Nat, zR σ a0 1 = some b2 ∧ ∃ b4 : Nat, zR σ a0 3 = some b4 ∧ zK σ b4 = 1 ∧ zx_in (x1 * 3) (zN σ b4) = true ∧ zK σ b2 = 3 ∧ zx_in (zI σ b4 (Int32.toNatClampNeg (x1 * 3))) (zN σ b2) = true ∧ ∃ b10 : Nat, zR σ b2 (Int32.toNatClampNeg (zI σ b4 (Int32.toNatClampNeg (x1 * 3)))) = some b10 ∧ K b10 σ) : zwR 87 0 [some (.ref a0), some (.int x1)] [] σ K := by
  refine zw_go (pc1 := 1) (L1 := [some (.ref a0), some (.int x1)]) (st1 := [.ref a0]) (σ1 := σ) zM_X3_upperImage dX3_upperImage_0 rfl rfl rfl rfl ?_
  obtain ⟨hk1, h⟩ := h
  obtain ⟨b2, hr3, h⟩ := h
  refine zw_getR (a := b2) zM_X3_upperImage dX3_upperImage_1 zF_3_17 rfl hk1 hr3 ?_
  refine zw_go (pc1 := 5) (L1 := [some (.ref a0), some (.int x1)]) (st1 := [.ref a0, .ref b2]) (σ1 := σ) zM_X3_upperImage dX3_upperImage_4 rfl rfl rfl rfl ?_
  obtain ⟨b4, hr5, h⟩ := h
  refine zw_getR (a := b4) zM_X3_upperImage dX3_upperImage_5 zF_3_24 rfl hk1 hr5 ?_
  refine zw_go (pc1 := 9) (L1 := [some (.ref a0), some (.int x1)]) (st1 := [.int x1, .ref b4, .ref b2]) (σ1 := σ) zM_X3_upperImage dX3_upperImage_8 rfl rfl rfl rfl ?_
  refine zw_iconst (v := 3) zM_X3_upperImage dX3_upperImage_9 (by decide) ?_
  refine zw_go (pc1 := 11) (L1 := [some (.ref a0), some (.int x1)]) (st1 := [.int (x1 * 3), .ref b4, .ref b2]) (σ1 := σ) zM_X3_upperImage dX3_upperImage_10 rfl rfl rfl rfl ?_
  obtain ⟨hk6, h⟩ := h
  obtain ⟨hi7, h⟩ := h
  refine zw_iald zM_X3_upperImage dX3_upperImage_11 ⟨Or.inl hk6, hi7⟩ ?_
  obtain ⟨hk8, h⟩ := h
  obtain ⟨hi9, b10, hr11, h⟩ := h
  refine zw_aald zM_X3_upperImage dX3_upperImage_12 ⟨hk8, hi9⟩ hr11 ?_
  exact zw_reta zM_X3_upperImage dX3_upperImage_13 rfl h
