set_option maxHeartbeats 4000000 in
set_option maxRecDepth 100000 in
theorem vc_X4_addPacked_0 (a0 : Nat) (x1 : Int32) (σ : zx_S) (K : zx_S → Prop) (h : zK σ a0 = 17 ∧ ∃ b2 : Nat, zR σ a0 0 = some b2 ∧ zK σ b2 = 1 ∧ (((Int32.ofNat (zN σ b2)) ≤ (zI σ a0 1) → K σ) ∧ (¬ (Int32.ofNat (zN σ b2)) ≤ (zI σ a0 1) → zx_in (zI σ a0 1) (zN σ b2) = true ∧ ∀ σ6 : zx_S, σ6 = zx_pI σ b2 (Int32.toNatClampNeg (zI σ a0 1)) x1 → ∀ σ8 : zx_S, σ8 = zx_pI σ6 a0 1 ((zI σ6 a0 1) + 1) → K σ8))) : zwV 88 0 [some (.ref a0), some (.int x1)] [] σ K := by
  refine zw_go (pc1 := 1) (L1 := [some (.ref a0), some (.int x1)]) (st1 := [.ref a0]) (σ1 := σ) zM_X4_addPacked dX4_addPacked_0 rfl rfl rfl rfl ?_
  obtain ⟨hk1, h⟩ := h
  refine zw_getI zM_X4_addPacked dX4_addPacked_1 zF_4_23 rfl hk1 ?_
  refine zw_go (pc1 := 5) (L1 := [some (.ref a0), some (.int x1)]) (st1 := [.ref a0, .int (zI σ a0 1)]) (σ1 := σ) zM_X4_addPacked dX4_addPacked_4 rfl rfl rfl rfl ?_
  obtain ⟨b2, hr3, h⟩ := h
  refine zw_getR (a := b2) zM_X4_addPacked dX4_addPacked_5 zF_4_9 rfl hk1 hr3 ?_
  obtain ⟨hk4, h⟩ := h
  refine zw_alen zM_X4_addPacked dX4_addPacked_8 (Or.inl hk4) ?_
  refine zw_icmp_ge (tgt := 32) zM_X4_addPacked dX4_addPacked_9 rfl rfl (fun q => ?_) (fun q => ?_)
  · replace h := h.1 q
    exact zw_retv zM_X4_addPacked dX4_addPacked_32 rfl h
  · replace h := h.2 q
    refine zw_go (pc1 := 13) (L1 := [some (.ref a0), some (.int x1)]) (st1 := [.ref a0]) (σ1 := σ) zM_X4_addPacked dX4_addPacked_12 rfl rfl rfl rfl ?_
    refine zw_getR (a := b2) zM_X4_addPacked dX4_addPacked_13 zF_4_9 rfl hk1 hr3 ?_
    refine zw_go (pc1 := 17) (L1 := [some (.ref a0), some (.int x1)]) (st1 := [.ref a0, .ref b2]) (σ1 := σ) zM_X4_addPacked dX4_addPacked_16 rfl rfl rfl rfl ?_
    refine zw_getI zM_X4_addPacked dX4_addPacked_17 zF_4_23 rfl hk1 ?_
    refine zw_go (pc1 := 21) (L1 := [some (.ref a0), some (.int x1)]) (st1 := [.int x1, .int (zI σ a0 1), .ref b2]) (σ1 := σ) zM_X4_addPacked dX4_addPacked_20 rfl rfl rfl rfl ?_
    obtain ⟨hi5, h⟩ := h
    obtain ⟨σ6, e7⟩ : ∃ z9 : zx_S, z9 = zx_pI σ b2 (Int32.toNatClampNeg (zI σ a0 1)) x1 := ⟨_, rfl⟩
    replace h := h σ6 e7
    refine zw_iast zM_X4_addPacked dX4_addPacked_21 ⟨hk4, hi5⟩ e7 ?_
    refine zw_go (pc1 := 23) (L1 := [some (.ref a0), some (.int x1)]) (st1 := [.ref a0]) (σ1 := σ6) zM_X4_addPacked dX4_addPacked_22 rfl rfl rfl rfl ?_
    refine zw_go (pc1 := 24) (L1 := [some (.ref a0), some (.int x1)]) (st1 := [.ref a0, .ref a0]) (σ1 := σ6) zM_X4_addPacked dX4_addPacked_23 rfl rfl rfl rfl ?_
    refine zw_getI zM_X4_addPacked dX4_addPacked_24 zF_4_23 rfl (by rw [e7]; exact hk1) ?_
    refine zw_iconst (v := 1) zM_X4_addPacked dX4_addPacked_27 (by decide) ?_
    refine zw_go (pc1 := 29) (L1 := [some (.ref a0), some (.int x1)]) (st1 := [.int ((zI σ6 a0 1) + 1), .ref a0]) (σ1 := σ6) zM_X4_addPacked dX4_addPacked_28 rfl rfl rfl rfl ?_
    obtain ⟨σ8, e9⟩ : ∃ z9 : zx_S, z9 = zx_pI σ6 a0 1 ((zI σ6 a0 1) + 1) := ⟨_, rfl⟩
    replace h := h σ8 e9
    refine zw_putI zM_X4_addPacked dX4_addPacked_29 zF_4_23 rfl rfl (by rw [e7]; exact hk1) e9 ?_
    exact zw_retv zM_X4_addPacked dX4_addPacked_32 rfl h
set_option maxHeartbeats 4000000 in
set_option maxRecDepth 100000 in
theorem vc_X4_copy_0 (a0 : Nat) (x1 : Int32) (x2 : Int32) (a3 : Nat) (σ : zx_S) (K : zx_S → Prop) (h : zwV 89 3 [some (.ref a0), some (.int x1), some (.int x2), some (.ref a3), some (.int 0)] [] σ K) : zwV 89 0 [some (.ref a0), some (.int x1), some (.int x2), some (.ref a3), none] [] σ K := by
  refine zw_iconst (v := 0) zM_X4_copy dX4_copy_0 (by decide) ?_
  refine zw_go (pc1 := 3) (L1 := [some (.ref a0), some (.int x1), some (.int x2), some (.ref a3), some (.int 0)]) (st1 := []) (σ1 := σ) zM_X4_copy dX4_copy_1 rfl rfl rfl rfl ?_
  exact zw_weak2 h ⟨rfl, rfl, rfl, rfl, rfl, trivial⟩
set_option maxHeartbeats 4000000 in
set_option maxRecDepth 100000 in
theorem vc_X4_copy_3 (a0 : Nat) (x1 : Int32) (x2 : Int32) (a3 : Nat) (x4 : Int32) (σ : zx_S) (K : zx_S → Prop) (h : ((x2 ≤ x4 → K σ) ∧ (¬ x2 ≤ x4 → zK σ a0 = 1 ∧ zx_in (x1 + x4) (zN σ a0) = true ∧ zK σ a3 = 14 ∧ zwV 38 0 [some (.ref a3), some (.int (zI σ a0 (Int32.toNatClampNeg (x1 + x4))))] [] σ (fun σ4 => zwV 89 3 [some (.ref a0), some (.int x1), some (.int x2), some (.ref a3), some (.int (x4 + Int32.ofInt 1))] [] σ4 K)))) : zwV 89 3 [some (.ref a0), some (.int x1), some (.int x2), some (.ref a3), some (.int x4)] [] σ K := by
  refine zw_go (pc1 := 5) (L1 := [some (.ref a0), some (.int x1), some (.int x2), some (.ref a3), some (.int x4)]) (st1 := [.int x4]) (σ1 := σ) zM_X4_copy dX4_copy_3 rfl rfl rfl rfl ?_
  refine zw_go (pc1 := 6) (L1 := [some (.ref a0), some (.int x1), some (.int x2), some (.ref a3), some (.int x4)]) (st1 := [.int x2, .int x4]) (σ1 := σ) zM_X4_copy dX4_copy_5 rfl rfl rfl rfl ?_
  refine zw_icmp_ge (tgt := 25) zM_X4_copy dX4_copy_6 rfl rfl (fun q => ?_) (fun q => ?_)
  · replace h := h.1 q
    exact zw_retv zM_X4_copy dX4_copy_25 rfl h
  · replace h := h.2 q
    refine zw_go (pc1 := 10) (L1 := [some (.ref a0), some (.int x1), some (.int x2), some (.ref a3), some (.int x4)]) (st1 := [.ref a3]) (σ1 := σ) zM_X4_copy dX4_copy_9 rfl rfl rfl rfl ?_
    refine zw_go (pc1 := 11) (L1 := [some (.ref a0), some (.int x1), some (.int x2), some (.ref a3), some (.int x4)]) (st1 := [.ref a0, .ref a3]) (σ1 := σ) zM_X4_copy dX4_copy_10 rfl rfl rfl rfl ?_
    refine zw_go (pc1 := 12) (L1 := [some (.ref a0), some (.int x1), some (.int x2), some (.ref a3), some (.int x4)]) (st1 := [.int x1, .ref a0, .ref a3]) (σ1 := σ) zM_X4_copy dX4_copy_11 rfl rfl rfl rfl ?_
    refine zw_go (pc1 := 14) (L1 := [some (.ref a0), some (.int x1), some (.int x2), some (.ref a3), some (.int x4)]) (st1 := [.int x4, .int x1, .ref a0, .ref a3]) (σ1 := σ) zM_X4_copy dX4_copy_12 rfl rfl rfl rfl ?_
    refine zw_go (pc1 := 15) (L1 := [some (.ref a0), some (.int x1), some (.int x2), some (.ref a3), some (.int x4)]) (st1 := [.int (x1 + x4), .ref a0, .ref a3]) (σ1 := σ) zM_X4_copy dX4_copy_14 rfl rfl rfl rfl ?_
    obtain ⟨hk1, h⟩ := h
    obtain ⟨hi2, h⟩ := h
    refine zw_iald zM_X4_copy dX4_copy_15 ⟨Or.inl hk1, hi2⟩ ?_
    obtain ⟨hk3, h⟩ := h
    refine zw_callV (as := [.ref a3, .int (zI σ a0 (Int32.toNatClampNeg (x1 + x4)))]) (rest := []) zM_X4_copy dX4_copy_16 (zx_calV zC_4_32) zM_X1_putByte rfl rfl rfl rfl rfl (zx_args0 hk3 rfl) rfl h (fun σ4 h => ?_)
    refine zw_go (pc1 := 22) (L1 := [some (.ref a0), some (.int x1), some (.int x2), some (.ref a3), some (.int (x4 + Int32.ofInt 1))]) (st1 := []) (σ1 := σ4) zM_X4_copy dX4_copy_19 rfl rfl rfl rfl ?_
    refine zw_goto (tgt := 3) zM_X4_copy dX4_copy_22 rfl ?_
    exact zw_weak2 h ⟨rfl, rfl, rfl, rfl, rfl, trivial⟩
set_option maxHeartbeats 4000000 in
set_option maxRecDepth 100000 in
theorem vc_X4_init_0 (a0 : Nat) (σ : zx_S) (K : zx_S → Prop) (h : ∀ σ1 : zx_S, σ1 = zx_nw σ 1 (Int32.toNatClampNeg 33) (Int32.toNatClampNeg 33) → zK σ1 a0 = 17 ∧ ∀ σ4 : zx_S, σ4 = zx_pR σ1 a0 0 (some (zn σ)) → K σ4) : zwV 90 0 [some (.ref a0)] [] σ K := by
  refine zw_go (pc1 := 1) (L1 := [some (.ref a0)]) (st1 := [.ref a0]) (σ1 := σ) zM_X4_init dX4_init_0 rfl rfl rfl rfl ?_
  refine zw_obj zM_X4_init dX4_init_1 zC_4_3 (by decide) rfl ?_
  refine zw_go (pc1 := 5) (L1 := [some (.ref a0)]) (st1 := [.ref a0]) (σ1 := σ) zM_X4_init dX4_init_4 rfl rfl rfl rfl ?_
  refine zw_bipush (v := 33) zM_X4_init dX4_init_5 (by decide) ?_
  obtain ⟨σ1, e2⟩ : ∃ z9 : zx_S, z9 = zx_nw σ 1 (Int32.toNatClampNeg 33) (Int32.toNatClampNeg 33) := ⟨_, rfl⟩
  replace h := h σ1 e2
  refine zw_newI zM_X4_init dX4_init_7 (by decide) e2 ?_
  obtain ⟨hk3, h⟩ := h
  obtain ⟨σ4, e5⟩ : ∃ z9 : zx_S, z9 = zx_pR σ1 a0 0 (some (zn σ)) := ⟨_, rfl⟩
  replace h := h σ4 e5
  refine zw_putR zM_X4_init dX4_init_9 zF_4_9 rfl rfl (by decide) hk3 e5 ?_
  exact zw_retv zM_X4_init dX4_init_12 rfl h
set_option maxHeartbeats 4000000 in
set_option maxRecDepth 100000 in
theorem vc_X4_isZero_0 (a0 : Nat) (x1 : Int32) (x2 : Int32) (σ : zx_S) (K : Int32 → zx_S → Prop) (h : zwI 91 2 [some (.ref a0), some (.int x1), some (.int x2), some (.int 0)] [] σ K) : zwI 91 0 [some (.ref a0), some (.int x1), some (.int x2), none] [] σ K := by
  refine zw_iconst (v := 0) zM_X4_isZero dX4_isZero_0 (by decide) ?_
  refine zw_go (pc1 := 2) (L1 := [some (.ref a0), some (.int x1), some (.int x2), some (.int 0)]) (st1 := []) (σ1 := σ) zM_X4_isZero dX4_isZero_1 rfl rfl rfl rfl ?_
  exact zw_weak2 h ⟨rfl, rfl, rfl, rfl, trivial⟩
set_option maxHeartbeats 4000000 in
set_option maxRecDepth 100000 in
theorem vc_X4_isZero_2 (a0 : Nat) (x1 : Int32) (x2 : Int32) (x3 : Int32) (σ : zx_S) (K : Int32 → zx_S → Prop) (h : ((x2 ≤ x3 → K 1 σ) ∧ (¬ x2 ≤ x3 → zK σ a0 = 1 ∧ zx_in (x1 + x3) (zN σ a0) = true ∧ (((zI σ a0 (Int32.toNatClampNeg (x1 + x3))) = (0 : Int32) → zwI 91 2 [some (.ref a0), some (.int x1), some (.int x2), some (.int (x3 + Int32.ofInt 1))] [] σ K) ∧ (¬ (zI σ a0 (Int32.toNatClampNeg (x1 + x3))) = (0 : Int32) → K 0 σ))))) : zwI 91 2 [some (.ref a0), some (.int x1), some (.int x2), some (.int x3)] [] σ K := by
  refine zw_go (pc1 := 3) (L1 := [some (.ref a0), some (.int x1), some (.int x2), some (.int x3)]) (st1 := [.int x3]) (σ1 := σ) zM_X4_isZero dX4_isZero_2 rfl rfl rfl rfl ?_
  refine zw_go (pc1 := 4) (L1 := [some (.ref a0), some (.int x1), some (.int x2), some (.int x3)]) (st1 := [.int x2, .int x3]) (σ1 := σ) zM_X4_isZero dX4_isZero_3 rfl rfl rfl rfl ?_
  refine zw_icmp_ge (tgt := 23) zM_X4_isZero dX4_isZero_4 rfl rfl (fun q => ?_) (fun q => ?_)
  · replace h := h.1 q
    refine zw_iconst (v := 1) zM_X4_isZero dX4_isZero_23 (by decide) ?_
    exact zw_retz zM_X4_isZero dX4_isZero_24 rfl (by decide) h
  · replace h := h.2 q
    refine zw_go (pc1 := 8) (L1 := [some (.ref a0), some (.int x1), some (.int x2), some (.int x3)]) (st1 := [.ref a0]) (σ1 := σ) zM_X4_isZero dX4_isZero_7 rfl rfl rfl rfl ?_
    refine zw_go (pc1 := 9) (L1 := [some (.ref a0), some (.int x1), some (.int x2), some (.int x3)]) (st1 := [.int x1, .ref a0]) (σ1 := σ) zM_X4_isZero dX4_isZero_8 rfl rfl rfl rfl ?_
    refine zw_go (pc1 := 10) (L1 := [some (.ref a0), some (.int x1), some (.int x2), some (.int x3)]) (st1 := [.int x3, .int x1, .ref a0]) (σ1 := σ) zM_X4_isZero dX4_isZero_9 rfl rfl rfl rfl ?_
    refine zw_go (pc1 := 11) (L1 := [some (.ref a0), some (.int x1), some (.int x2), some (.int x3)]) (st1 := [.int (x1 + x3), .ref a0]) (σ1 := σ) zM_X4_isZero dX4_isZero_10 rfl rfl rfl rfl ?_
    obtain ⟨hk1, h⟩ := h
    obtain ⟨hi2, h⟩ := h
    refine zw_iald zM_X4_isZero dX4_isZero_11 ⟨Or.inl hk1, hi2⟩ ?_
    refine zw_if_eq (tgt := 17) zM_X4_isZero dX4_isZero_12 rfl rfl (fun q => ?_) (fun q => ?_)
    · replace h := h.1 q
      refine zw_go (pc1 := 20) (L1 := [some (.ref a0), some (.int x1), some (.int x2), some (.int (x3 + Int32.ofInt 1))]) (st1 := []) (σ1 := σ) zM_X4_isZero dX4_isZero_17 rfl rfl rfl rfl ?_
      refine zw_goto (tgt := 2) zM_X4_isZero dX4_isZero_20 rfl ?_
      exact zw_weak2 h ⟨rfl, rfl, rfl, rfl, trivial⟩
    · replace h := h.2 q
      refine zw_iconst (v := 0) zM_X4_isZero dX4_isZero_15 (by decide) ?_
      exact zw_retz zM_X4_isZero dX4_isZero_16 rfl (by decide) h
set_option maxHeartbeats 4000000 in
set_option maxRecDepth 100000 in
theorem vc_X4_nextRun_0 (a0 : Nat) (x1 : Int32) (x2 : Int32) (σ : zx_S) (K : Int32 → zx_S → Prop) (h : zwI 92 4 [some (.ref a0), none, some (.int x2), some (.int (x1 + 1))] [] σ K) : zwI 92 0 [some (.ref a0), some (.int x1), some (.int x2), none] [] σ K := by
  refine zw_go (pc1 := 1) (L1 := [some (.ref a0), some (.int x1), some (.int x2), none]) (st1 := [.int x1]) (σ1 := σ) zM_X4_nextRun dX4_nextRun_0 rfl rfl rfl rfl ?_
  refine zw_iconst (v := 1) zM_X4_nextRun dX4_nextRun_1 (by decide) ?_
  refine zw_go (pc1 := 3) (L1 := [some (.ref a0), some (.int x1), some (.int x2), none]) (st1 := [.int (x1 + 1)]) (σ1 := σ) zM_X4_nextRun dX4_nextRun_2 rfl rfl rfl rfl ?_
  refine zw_go (pc1 := 4) (L1 := [some (.ref a0), some (.int x1), some (.int x2), some (.int (x1 + 1))]) (st1 := []) (σ1 := σ) zM_X4_nextRun dX4_nextRun_3 rfl rfl rfl rfl ?_
  exact zw_weak2 h ⟨rfl, rfl, rfl, trivial⟩
set_option maxHeartbeats 4000000 in
set_option maxRecDepth 100000 in
theorem vc_X4_nextRun_4 (a0 : Nat) (x2 : Int32) (x3 : Int32) (σ : zx_S) (K : Int32 → zx_S → Prop) (h : ((x2 < (x3 + 3) → K x2 σ) ∧ (¬ x2 < (x3 + 3) → zK σ a0 = 1 ∧ zx_in x3 (zN σ a0) = true ∧ zx_in (x3 + 1) (zN σ a0) = true ∧ ((¬ (zI σ a0 (Int32.toNatClampNeg x3)) = (zI σ a0 (Int32.toNatClampNeg (x3 + 1))) → zwI 92 35 [some (.ref a0), none, some (.int x2), some (.int x3)] [] σ K) ∧ ((zI σ a0 (Int32.toNatClampNeg x3)) = (zI σ a0 (Int32.toNatClampNeg (x3 + 1))) → zx_in x3 (zN σ a0) = true ∧ zx_in (x3 + 2) (zN σ a0) = true ∧ ((¬ (zI σ a0 (Int32.toNatClampNeg x3)) = (zI σ a0 (Int32.toNatClampNeg (x3 + 2))) → zwI 92 35 [some (.ref a0), none, some (.int x2), some (.int x3)] [] σ K) ∧ ((zI σ a0 (Int32.toNatClampNeg x3)) = (zI σ a0 (Int32.toNatClampNeg (x3 + 2))) → K x3 σ))))))) : zwI 92 4 [some (.ref a0), none, some (.int x2), some (.int x3)] [] σ K := by
  refine zw_go (pc1 := 5) (L1 := [some (.ref a0), none, some (.int x2), some (.int x3)]) (st1 := [.int x3]) (σ1 := σ) zM_X4_nextRun dX4_nextRun_4 rfl rfl rfl rfl ?_
  refine zw_iconst (v := 3) zM_X4_nextRun dX4_nextRun_5 (by decide) ?_
  refine zw_go (pc1 := 7) (L1 := [some (.ref a0), none, some (.int x2), some (.int x3)]) (st1 := [.int (x3 + 3)]) (σ1 := σ) zM_X4_nextRun dX4_nextRun_6 rfl rfl rfl rfl ?_
  refine zw_go (pc1 := 8) (L1 := [some (.ref a0), none, some (.int x2), some (.int x3)]) (st1 := [.int x2, .int (x3 + 3)]) (σ1 := σ) zM_X4_nextRun dX4_nextRun_7 rfl rfl rfl rfl ?_
  refine zw_icmp_gt (tgt := 41) zM_X4_nextRun dX4_nextRun_8 rfl rfl (fun q => ?_) (fun q => ?_)
  · replace h := h.1 q
    refine zw_go (pc1 := 42) (L1 := [some (.ref a0), none, some (.int x2), some (.int x3)]) (st1 := [.int x2]) (σ1 := σ) zM_X4_nextRun dX4_nextRun_41 rfl rfl rfl rfl ?_
    exact zw_reti zM_X4_nextRun dX4_nextRun_42 rfl h
  · replace h := h.2 q
    refine zw_go (pc1 := 12) (L1 := [some (.ref a0), none, some (.int x2), some (.int x3)]) (st1 := [.ref a0]) (σ1 := σ) zM_X4_nextRun dX4_nextRun_11 rfl rfl rfl rfl ?_
    refine zw_go (pc1 := 13) (L1 := [some (.ref a0), none, some (.int x2), some (.int x3)]) (st1 := [.int x3, .ref a0]) (σ1 := σ) zM_X4_nextRun dX4_nextRun_12 rfl rfl rfl rfl ?_
    obtain ⟨hk1, h⟩ := h
    obtain ⟨hi2, h⟩ := h
    refine zw_iald zM_X4_nextRun dX4_nextRun_13 ⟨Or.inl hk1, hi2⟩ ?_
    refine zw_go (pc1 := 15) (L1 := [some (.ref a0), none, some (.int x2), some (.int x3)]) (st1 := [.ref a0, .int (zI σ a0 (Int32.toNatClampNeg x3))]) (σ1 := σ) zM_X4_nextRun dX4_nextRun_14 rfl rfl rfl rfl ?_
    refine zw_go (pc1 := 16) (L1 := [some (.ref a0), none, some (.int x2), some (.int x3)]) (st1 := [.int x3, .ref a0, .int (zI σ a0 (Int32.toNatClampNeg x3))]) (σ1 := σ) zM_X4_nextRun dX4_nextRun_15 rfl rfl rfl rfl ?_
    refine zw_iconst (v := 1) zM_X4_nextRun dX4_nextRun_16 (by decide) ?_
    refine zw_go (pc1 := 18) (L1 := [some (.ref a0), none, some (.int x2), some (.int x3)]) (st1 := [.int (x3 + 1), .ref a0, .int (zI σ a0 (Int32.toNatClampNeg x3))]) (σ1 := σ) zM_X4_nextRun dX4_nextRun_17 rfl rfl rfl rfl ?_
    obtain ⟨hi3, h⟩ := h
    refine zw_iald zM_X4_nextRun dX4_nextRun_18 ⟨Or.inl hk1, hi3⟩ ?_
    refine zw_icmp_ne (tgt := 35) zM_X4_nextRun dX4_nextRun_19 rfl rfl (fun q => ?_) (fun q => ?_)
    · replace h := h.1 q
      exact zw_weak2 h ⟨rfl, rfl, rfl, trivial⟩
    · replace h := h.2 q
      refine zw_go (pc1 := 23) (L1 := [some (.ref a0), none, some (.int x2), some (.int x3)]) (st1 := [.ref a0]) (σ1 := σ) zM_X4_nextRun dX4_nextRun_22 rfl rfl rfl rfl ?_
      refine zw_go (pc1 := 24) (L1 := [some (.ref a0), none, some (.int x2), some (.int x3)]) (st1 := [.int x3, .ref a0]) (σ1 := σ) zM_X4_nextRun dX4_nextRun_23 rfl rfl rfl rfl ?_
      obtain ⟨hi4, h⟩ := h
      refine zw_iald zM_X4_nextRun dX4_nextRun_24 ⟨Or.inl hk1, hi4⟩ ?_
      refine zw_go (pc1 := 26) (L1 := [some (.ref a0), none, some (.int x2), some (.int x3)]) (st1 := [.ref a0, .int (zI σ a0 (Int32.toNatClampNeg x3))]) (σ1 := σ) zM_X4_nextRun dX4_nextRun_25 rfl rfl rfl rfl ?_
      refine zw_go (pc1 := 27) (L1 := [some (.ref a0), none, some (.int x2), some (.int x3)]) (st1 := [.int x3, .ref a0, .int (zI σ a0 (Int32.toNatClampNeg x3))]) (σ1 := σ) zM_X4_nextRun dX4_nextRun_26 rfl rfl rfl rfl ?_
      refine zw_iconst (v := 2) zM_X4_nextRun dX4_nextRun_27 (by decide) ?_
      refine zw_go (pc1 := 29) (L1 := [some (.ref a0), none, some (.int x2), some (.int x3)]) (st1 := [.int (x3 + 2), .ref a0, .int (zI σ a0 (Int32.toNatClampNeg x3))]) (σ1 := σ) zM_X4_nextRun dX4_nextRun_28 rfl rfl rfl rfl ?_
      obtain ⟨hi5, h⟩ := h
      refine zw_iald zM_X4_nextRun dX4_nextRun_29 ⟨Or.inl hk1, hi5⟩ ?_
      refine zw_icmp_ne (tgt := 35) zM_X4_nextRun dX4_nextRun_30 rfl rfl (fun q => ?_) (fun q => ?_)
      · replace h := h.1 q
        exact zw_weak2 h ⟨rfl, rfl, rfl, trivial⟩
      · replace h := h.2 q
        refine zw_go (pc1 := 34) (L1 := [some (.ref a0), none, some (.int x2), some (.int x3)]) (st1 := [.int x3]) (σ1 := σ) zM_X4_nextRun dX4_nextRun_33 rfl rfl rfl rfl ?_
        exact zw_reti zM_X4_nextRun dX4_nextRun_34 rfl h
set_option maxHeartbeats 4000000 in
set_option maxRecDepth 100000 in
theorem vc_X4_nextRun_35 (a0 : Nat) (x2 : Int32) (x3 : Int32) (σ : zx_S) (K : Int32 → zx_S → Prop) (h : zwI 92 4 [some (.ref a0), none, some (.int x2), some (.int (x3 + Int32.ofInt 1))] [] σ K) : zwI 92 35 [some (.ref a0), none, some (.int x2), some (.int x3)] [] σ K := by
  refine zw_go (pc1 := 38) (L1 := [some (.ref a0), none, some (.int x2), some (.int (x3 + Int32.ofInt 1))]) (st1 := []) (σ1 := σ) zM_X4_nextRun dX4_nextRun_35 rfl rfl rfl rfl ?_
  refine zw_goto (tgt := 4) zM_X4_nextRun dX4_nextRun_38 rfl ?_
  exact zw_weak2 h ⟨rfl, rfl, rfl, trivial⟩
set_option maxHeartbeats 4000000 in
set_option maxRecDepth 100000 in
theorem vc_X4_pack_0 (a0 : Nat) (a1 : Nat) (x2 : Int32) (x3 : Int32) (σ : zx_S) (K : zx_S → Prop) (h : zK σ a0 = 17 ∧ ∀ σ2 : zx_S, σ2 = zx_pI σ a0 1 0 → zwV 93 11 [some (.ref a0), some (.ref a1), none, some (.int x3), some (.int x2), some (.int x2), none, none, none] [] σ2 K) : zwV 93 0 [some (.ref a0), some (.ref a1), some (.int x2), some (.int x3), none, none, none, none, none] [] σ K := by
  refine zw_go (pc1 := 1) (L1 := [some (.ref a0), some (.ref a1), some (.int x2), some (.int x3), none, none, none, none, none]) (st1 := [.ref a0]) (σ1 := σ) zM_X4_pack dX4_pack_0 rfl rfl rfl rfl ?_
  refine zw_iconst (v := 0) zM_X4_pack dX4_pack_1 (by decide) ?_
  obtain ⟨hk1, h⟩ := h
  obtain ⟨σ2, e3⟩ : ∃ z9 : zx_S, z9 = zx_pI σ a0 1 0 := ⟨_, rfl⟩
  replace h := h σ2 e3
  refine zw_putI zM_X4_pack dX4_pack_2 zF_4_23 rfl rfl hk1 e3 ?_
  refine zw_go (pc1 := 6) (L1 := [some (.ref a0), some (.ref a1), some (.int x2), some (.int x3), none, none, none, none, none]) (st1 := [.int x2]) (σ1 := σ2) zM_X4_pack dX4_pack_5 rfl rfl rfl rfl ?_
  refine zw_go (pc1 := 8) (L1 := [some (.ref a0), some (.ref a1), some (.int x2), some (.int x3), some (.int x2), none, none, none, none]) (st1 := []) (σ1 := σ2) zM_X4_pack dX4_pack_6 rfl rfl rfl rfl ?_
  refine zw_go (pc1 := 9) (L1 := [some (.ref a0), some (.ref a1), some (.int x2), some (.int x3), some (.int x2), none, none, none, none]) (st1 := [.int x2]) (σ1 := σ2) zM_X4_pack dX4_pack_8 rfl rfl rfl rfl ?_
  refine zw_go (pc1 := 11) (L1 := [some (.ref a0), some (.ref a1), some (.int x2), some (.int x3), some (.int x2), some (.int x2), none, none, none]) (st1 := []) (σ1 := σ2) zM_X4_pack dX4_pack_9 rfl rfl rfl rfl ?_
  exact zw_weak2 h ⟨rfl, rfl, rfl, rfl, rfl, trivial⟩
set_option maxHeartbeats 4000000 in
set_option maxRecDepth 100000 in
theorem vc_X4_pack_11 (a0 : Nat) (a1 : Nat) (x3 : Int32) (x4 : Int32) (x5 : Int32) (σ : zx_S) (K : zx_S → Prop) (h : ((x3 ≤ x5 → K σ) ∧ (¬ x3 ≤ x5 → ((x3 ≤ x4 → K σ) ∧ (¬ x3 ≤ x4 → zwI 94 0 [some (.ref a1), some (.int x4), some (.int x3), none] [] σ (fun v2 σ1 => ((v2 < (3 : Int32) → zwI 92 0 [some (.ref a1), some (.int x4), some (.int x3), none] [] σ1 (fun v4 σ3 => zK σ3 a0 = 17 ∧ zwV 88 0 [some (.ref a0), some (.int ((v4 - x4) - 1))] [] σ3 (fun σ6 => zwV 93 90 [some (.ref a0), some (.ref a1), none, some (.int x3), none, some (.int x5), none, some (.int v4), some (.int x4)] [] σ6 K))) ∧ (¬ v2 < (3 : Int32) → zK σ1 a0 = 17 ∧ zwV 88 0 [some (.ref a0), some (.int (257 - v2))] [] σ1 (fun σ8 => zK σ8 a1 = 1 ∧ zx_in x4 (zN σ8 a1) = true ∧ zK σ8 a0 = 17 ∧ zwV 88 0 [some (.ref a0), some (.int (zI σ8 a1 (Int32.toNatClampNeg x4)))] [] σ8 (fun σ12 => zwV 93 115 [some (.ref a0), some (.ref a1), none, some (.int x3), some (.int (x4 + v2)), some (.int x5), none, none, none] [] σ12 K)))))))))) : zwV 93 11 [some (.ref a0), some (.ref a1), none, some (.int x3), some (.int x4), some (.int x5), none, none, none] [] σ K := by
  refine zw_go (pc1 := 13) (L1 := [some (.ref a0), some (.ref a1), none, some (.int x3), some (.int x4), some (.int x5), none, none, none]) (st1 := [.int x5]) (σ1 := σ) zM_X4_pack dX4_pack_11 rfl rfl rfl rfl ?_
  refine zw_go (pc1 := 14) (L1 := [some (.ref a0), some (.ref a1), none, some (.int x3), some (.int x4), some (.int x5), none, none, none]) (st1 := [.int x3, .int x5]) (σ1 := σ) zM_X4_pack dX4_pack_13 rfl rfl rfl rfl ?_
  refine zw_icmp_ge (tgt := 121) zM_X4_pack dX4_pack_14 rfl rfl (fun q => ?_) (fun q => ?_)
  · replace h := h.1 q
    exact zw_retv zM_X4_pack dX4_pack_121 rfl h
  · replace h := h.2 q
    refine zw_go (pc1 := 19) (L1 := [some (.ref a0), some (.ref a1), none, some (.int x3), some (.int x4), some (.int x5), none, none, none]) (st1 := [.int x4]) (σ1 := σ) zM_X4_pack dX4_pack_17 rfl rfl rfl rfl ?_
    refine zw_go (pc1 := 20) (L1 := [some (.ref a0), some (.ref a1), none, some (.int x3), some (.int x4), some (.int x5), none, none, none]) (st1 := [.int x3, .int x4]) (σ1 := σ) zM_X4_pack dX4_pack_19 rfl rfl rfl rfl ?_
    refine zw_icmp_ge (tgt := 121) zM_X4_pack dX4_pack_20 rfl rfl (fun q => ?_) (fun q => ?_)
    · replace h := h.1 q
      exact zw_retv zM_X4_pack dX4_pack_121 rfl h
    · replace h := h.2 q
      refine zw_go (pc1 := 24) (L1 := [some (.ref a0), some (.ref a1), none, some (.int x3), some (.int x4), some (.int x5), none, none, none]) (st1 := [.ref a1]) (σ1 := σ) zM_X4_pack dX4_pack_23 rfl rfl rfl rfl ?_
      refine zw_go (pc1 := 26) (L1 := [some (.ref a0), some (.ref a1), none, some (.int x3), some (.int x4), some (.int x5), none, none, none]) (st1 := [.int x4, .ref a1]) (σ1 := σ) zM_X4_pack dX4_pack_24 rfl rfl rfl rfl ?_
      refine zw_go (pc1 := 27) (L1 := [some (.ref a0), some (.ref a1), none, some (.int x3), some (.int x4), some (.int x5), none, none, none]) (st1 := [.int x3, .int x4, .ref a1]) (σ1 := σ) zM_X4_pack dX4_pack_26 rfl rfl rfl rfl ?_
      refine zw_callI (as := [.ref a1, .int x4, .int x3]) (rest := []) zM_X4_pack dX4_pack_27 (zx_calS zC_4_38) zM_X4_runAt rfl rfl rfl rfl rfl rfl rfl h (fun v2 σ1 h => ?_)
      refine zw_go (pc1 := 32) (L1 := [some (.ref a0), some (.ref a1), none, some (.int x3), some (.int x4), some (.int x5), some (.int v2), none, none]) (st1 := []) (σ1 := σ1) zM_X4_pack dX4_pack_30 rfl rfl rfl rfl ?_
      refine zw_go (pc1 := 34) (L1 := [some (.ref a0), some (.ref a1), none, some (.int x3), some (.int x4), some (.int x5), some (.int v2), none, none]) (st1 := [.int v2]) (σ1 := σ1) zM_X4_pack dX4_pack_32 rfl rfl rfl rfl ?_
      refine zw_iconst (v := 3) zM_X4_pack dX4_pack_34 (by decide) ?_
      refine zw_icmp_lt (tgt := 66) zM_X4_pack dX4_pack_35 rfl rfl (fun q => ?_) (fun q => ?_)
      · replace h := h.1 q
        refine zw_go (pc1 := 67) (L1 := [some (.ref a0), some (.ref a1), none, some (.int x3), some (.int x4), some (.int x5), some (.int v2), none, none]) (st1 := [.ref a1]) (σ1 := σ1) zM_X4_pack dX4_pack_66 rfl rfl rfl rfl ?_
        refine zw_go (pc1 := 69) (L1 := [some (.ref a0), some (.ref a1), none, some (.int x3), some (.int x4), some (.int x5), some (.int v2), none, none]) (st1 := [.int x4, .ref a1]) (σ1 := σ1) zM_X4_pack dX4_pack_67 rfl rfl rfl rfl ?_
        refine zw_go (pc1 := 70) (L1 := [some (.ref a0), some (.ref a1), none, some (.int x3), some (.int x4), some (.int x5), some (.int v2), none, none]) (st1 := [.int x3, .int x4, .ref a1]) (σ1 := σ1) zM_X4_pack dX4_pack_69 rfl rfl rfl rfl ?_
        refine zw_callI (as := [.ref a1, .int x4, .int x3]) (rest := []) zM_X4_pack dX4_pack_70 (zx_calS zC_4_45) zM_X4_nextRun rfl rfl rfl rfl rfl rfl rfl h (fun v4 σ3 h => ?_)
        refine zw_go (pc1 := 75) (L1 := [some (.ref a0), some (.ref a1), none, some (.int x3), some (.int x4), some (.int x5), some (.int v2), some (.int v4), none]) (st1 := []) (σ1 := σ3) zM_X4_pack dX4_pack_73 rfl rfl rfl rfl ?_
        refine zw_go (pc1 := 76) (L1 := [some (.ref a0), some (.ref a1), none, some (.int x3), some (.int x4), some (.int x5), some (.int v2), some (.int v4), none]) (st1 := [.ref a0]) (σ1 := σ3) zM_X4_pack dX4_pack_75 rfl rfl rfl rfl ?_
        refine zw_go (pc1 := 78) (L1 := [some (.ref a0), some (.ref a1), none, some (.int x3), some (.int x4), some (.int x5), some (.int v2), some (.int v4), none]) (st1 := [.int v4, .ref a0]) (σ1 := σ3) zM_X4_pack dX4_pack_76 rfl rfl rfl rfl ?_
        refine zw_go (pc1 := 80) (L1 := [some (.ref a0), some (.ref a1), none, some (.int x3), some (.int x4), some (.int x5), some (.int v2), some (.int v4), none]) (st1 := [.int x4, .int v4, .ref a0]) (σ1 := σ3) zM_X4_pack dX4_pack_78 rfl rfl rfl rfl ?_
        refine zw_go (pc1 := 81) (L1 := [some (.ref a0), some (.ref a1), none, some (.int x3), some (.int x4), some (.int x5), some (.int v2), some (.int v4), none]) (st1 := [.int (v4 - x4), .ref a0]) (σ1 := σ3) zM_X4_pack dX4_pack_80 rfl rfl rfl rfl ?_
        refine zw_iconst (v := 1) zM_X4_pack dX4_pack_81 (by decide) ?_
        refine zw_go (pc1 := 83) (L1 := [some (.ref a0), some (.ref a1), none, some (.int x3), some (.int x4), some (.int x5), some (.int v2), some (.int v4), none]) (st1 := [.int ((v4 - x4) - 1), .ref a0]) (σ1 := σ3) zM_X4_pack dX4_pack_82 rfl rfl rfl rfl ?_
        obtain ⟨hk5, h⟩ := h
        refine zw_callV (as := [.ref a0, .int ((v4 - x4) - 1)]) (rest := []) zM_X4_pack dX4_pack_83 (zx_calV zC_4_42) zM_X4_addPacked rfl rfl rfl rfl rfl (zx_args0 hk5 rfl) rfl h (fun σ6 h => ?_)
        refine zw_go (pc1 := 88) (L1 := [some (.ref a0), some (.ref a1), none, some (.int x3), some (.int x4), some (.int x5), some (.int v2), some (.int v4), none]) (st1 := [.int x4]) (σ1 := σ6) zM_X4_pack dX4_pack_86 rfl rfl rfl rfl ?_
        refine zw_go (pc1 := 90) (L1 := [some (.ref a0), some (.ref a1), none, some (.int x3), some (.int x4), some (.int x5), some (.int v2), some (.int v4), some (.int x4)]) (st1 := []) (σ1 := σ6) zM_X4_pack dX4_pack_88 rfl rfl rfl rfl ?_
        exact zw_weak2 h ⟨rfl, rfl, rfl, rfl, rfl, rfl, trivial⟩
      · replace h := h.2 q
        refine zw_go (pc1 := 39) (L1 := [some (.ref a0), some (.ref a1), none, some (.int x3), some (.int x4), some (.int x5), some (.int v2), none, none]) (st1 := [.ref a0]) (σ1 := σ1) zM_X4_pack dX4_pack_38 rfl rfl rfl rfl ?_
        refine zw_sipush (v := 257) zM_X4_pack dX4_pack_39 (by decide) ?_
        refine zw_go (pc1 := 44) (L1 := [some (.ref a0), some (.ref a1), none, some (.int x3), some (.int x4), some (.int x5), some (.int v2), none, none]) (st1 := [.int v2, .int 257, .ref a0]) (σ1 := σ1) zM_X4_pack dX4_pack_42 rfl rfl rfl rfl ?_
        refine zw_go (pc1 := 45) (L1 := [some (.ref a0), some (.ref a1), none, some (.int x3), some (.int x4), some (.int x5), some (.int v2), none, none]) (st1 := [.int (257 - v2), .ref a0]) (σ1 := σ1) zM_X4_pack dX4_pack_44 rfl rfl rfl rfl ?_
        obtain ⟨hk7, h⟩ := h
        refine zw_callV (as := [.ref a0, .int (257 - v2)]) (rest := []) zM_X4_pack dX4_pack_45 (zx_calV zC_4_42) zM_X4_addPacked rfl rfl rfl rfl rfl (zx_args0 hk7 rfl) rfl h (fun σ8 h => ?_)
        refine zw_go (pc1 := 49) (L1 := [some (.ref a0), some (.ref a1), none, some (.int x3), some (.int x4), some (.int x5), some (.int v2), none, none]) (st1 := [.ref a0]) (σ1 := σ8) zM_X4_pack dX4_pack_48 rfl rfl rfl rfl ?_
        refine zw_go (pc1 := 50) (L1 := [some (.ref a0), some (.ref a1), none, some (.int x3), some (.int x4), some (.int x5), some (.int v2), none, none]) (st1 := [.ref a1, .ref a0]) (σ1 := σ8) zM_X4_pack dX4_pack_49 rfl rfl rfl rfl ?_
        refine zw_go (pc1 := 52) (L1 := [some (.ref a0), some (.ref a1), none, some (.int x3), some (.int x4), some (.int x5), some (.int v2), none, none]) (st1 := [.int x4, .ref a1, .ref a0]) (σ1 := σ8) zM_X4_pack dX4_pack_50 rfl rfl rfl rfl ?_
        obtain ⟨hk9, h⟩ := h
        obtain ⟨hi10, h⟩ := h
        refine zw_iald zM_X4_pack dX4_pack_52 ⟨Or.inl hk9, hi10⟩ ?_
        obtain ⟨hk11, h⟩ := h
        refine zw_callV (as := [.ref a0, .int (zI σ8 a1 (Int32.toNatClampNeg x4))]) (rest := []) zM_X4_pack dX4_pack_53 (zx_calV zC_4_42) zM_X4_addPacked rfl rfl rfl rfl rfl (zx_args0 hk11 rfl) rfl h (fun σ12 h => ?_)
        refine zw_go (pc1 := 58) (L1 := [some (.ref a0), some (.ref a1), none, some (.int x3), some (.int x4), some (.int x5), some (.int v2), none, none]) (st1 := [.int x4]) (σ1 := σ12) zM_X4_pack dX4_pack_56 rfl rfl rfl rfl ?_
        refine zw_go (pc1 := 60) (L1 := [some (.ref a0), some (.ref a1), none, some (.int x3), some (.int x4), some (.int x5), some (.int v2), none, none]) (st1 := [.int v2, .int x4]) (σ1 := σ12) zM_X4_pack dX4_pack_58 rfl rfl rfl rfl ?_
        refine zw_go (pc1 := 61) (L1 := [some (.ref a0), some (.ref a1), none, some (.int x3), some (.int x4), some (.int x5), some (.int v2), none, none]) (st1 := [.int (x4 + v2)]) (σ1 := σ12) zM_X4_pack dX4_pack_60 rfl rfl rfl rfl ?_
        refine zw_go (pc1 := 63) (L1 := [some (.ref a0), some (.ref a1), none, some (.int x3), some (.int (x4 + v2)), some (.int x5), some (.int v2), none, none]) (st1 := []) (σ1 := σ12) zM_X4_pack dX4_pack_61 rfl rfl rfl rfl ?_
        refine zw_goto (tgt := 115) zM_X4_pack dX4_pack_63 rfl ?_
        exact zw_weak2 h ⟨rfl, rfl, rfl, rfl, rfl, trivial⟩
set_option maxHeartbeats 4000000 in
set_option maxRecDepth 100000 in
theorem vc_X4_pack_90 (a0 : Nat) (a1 : Nat) (x3 : Int32) (x5 : Int32) (x7 : Int32) (x8 : Int32) (σ : zx_S) (K : zx_S → Prop) (h : ((x7 ≤ x8 → zwV 93 115 [some (.ref a0), some (.ref a1), none, some (.int x3), some (.int x7), some (.int x5), none, none, none] [] σ K) ∧ (¬ x7 ≤ x8 → zK σ a1 = 1 ∧ zx_in x8 (zN σ a1) = true ∧ zK σ a0 = 17 ∧ zwV 88 0 [some (.ref a0), some (.int (zI σ a1 (Int32.toNatClampNeg x8)))] [] σ (fun σ4 => zwV 93 90 [some (.ref a0), some (.ref a1), none, some (.int x3), none, some (.int x5), none, some (.int x7), some (.int (x8 + Int32.ofInt 1))] [] σ4 K)))) : zwV 93 90 [some (.ref a0), some (.ref a1), none, some (.int x3), none, some (.int x5), none, some (.int x7), some (.int x8)] [] σ K := by
  refine zw_go (pc1 := 92) (L1 := [some (.ref a0), some (.ref a1), none, some (.int x3), none, some (.int x5), none, some (.int x7), some (.int x8)]) (st1 := [.int x8]) (σ1 := σ) zM_X4_pack dX4_pack_90 rfl rfl rfl rfl ?_
  refine zw_go (pc1 := 94) (L1 := [some (.ref a0), some (.ref a1), none, some (.int x3), none, some (.int x5), none, some (.int x7), some (.int x8)]) (st1 := [.int x7, .int x8]) (σ1 := σ) zM_X4_pack dX4_pack_92 rfl rfl rfl rfl ?_
  refine zw_icmp_ge (tgt := 111) zM_X4_pack dX4_pack_94 rfl rfl (fun q => ?_) (fun q => ?_)
  · replace h := h.1 q
    refine zw_go (pc1 := 113) (L1 := [some (.ref a0), some (.ref a1), none, some (.int x3), none, some (.int x5), none, some (.int x7), some (.int x8)]) (st1 := [.int x7]) (σ1 := σ) zM_X4_pack dX4_pack_111 rfl rfl rfl rfl ?_
    refine zw_go (pc1 := 115) (L1 := [some (.ref a0), some (.ref a1), none, some (.int x3), some (.int x7), some (.int x5), none, some (.int x7), some (.int x8)]) (st1 := []) (σ1 := σ) zM_X4_pack dX4_pack_113 rfl rfl rfl rfl ?_
    exact zw_weak2 h ⟨rfl, rfl, rfl, rfl, rfl, trivial⟩
  · replace h := h.2 q
    refine zw_go (pc1 := 98) (L1 := [some (.ref a0), some (.ref a1), none, some (.int x3), none, some (.int x5), none, some (.int x7), some (.int x8)]) (st1 := [.ref a0]) (σ1 := σ) zM_X4_pack dX4_pack_97 rfl rfl rfl rfl ?_
    refine zw_go (pc1 := 99) (L1 := [some (.ref a0), some (.ref a1), none, some (.int x3), none, some (.int x5), none, some (.int x7), some (.int x8)]) (st1 := [.ref a1, .ref a0]) (σ1 := σ) zM_X4_pack dX4_pack_98 rfl rfl rfl rfl ?_
    refine zw_go (pc1 := 101) (L1 := [some (.ref a0), some (.ref a1), none, some (.int x3), none, some (.int x5), none, some (.int x7), some (.int x8)]) (st1 := [.int x8, .ref a1, .ref a0]) (σ1 := σ) zM_X4_pack dX4_pack_99 rfl rfl rfl rfl ?_
    obtain ⟨hk1, h⟩ := h
    obtain ⟨hi2, h⟩ := h
    refine zw_iald zM_X4_pack dX4_pack_101 ⟨Or.inl hk1, hi2⟩ ?_
    obtain ⟨hk3, h⟩ := h
    refine zw_callV (as := [.ref a0, .int (zI σ a1 (Int32.toNatClampNeg x8))]) (rest := []) zM_X4_pack dX4_pack_102 (zx_calV zC_4_42) zM_X4_addPacked rfl rfl rfl rfl rfl (zx_args0 hk3 rfl) rfl h (fun σ4 h => ?_)
    refine zw_go (pc1 := 108) (L1 := [some (.ref a0), some (.ref a1), none, some (.int x3), none, some (.int x5), none, some (.int x7), some (.int (x8 + Int32.ofInt 1))]) (st1 := []) (σ1 := σ4) zM_X4_pack dX4_pack_105 rfl rfl rfl rfl ?_
    refine zw_goto (tgt := 90) zM_X4_pack dX4_pack_108 rfl ?_
    exact zw_weak2 h ⟨rfl, rfl, rfl, rfl, rfl, rfl, trivial⟩
set_option maxHeartbeats 4000000 in
set_option maxRecDepth 100000 in
theorem vc_X4_pack_115 (a0 : Nat) (a1 : Nat) (x3 : Int32) (x4 : Int32) (x5 : Int32) (σ : zx_S) (K : zx_S → Prop) (h : zwV 93 11 [some (.ref a0), some (.ref a1), none, some (.int x3), some (.int x4), some (.int (x5 + Int32.ofInt 1)), none, none, none] [] σ K) : zwV 93 115 [some (.ref a0), some (.ref a1), none, some (.int x3), some (.int x4), some (.int x5), none, none, none] [] σ K := by
  refine zw_go (pc1 := 118) (L1 := [some (.ref a0), some (.ref a1), none, some (.int x3), some (.int x4), some (.int (x5 + Int32.ofInt 1)), none, none, none]) (st1 := []) (σ1 := σ) zM_X4_pack dX4_pack_115 rfl rfl rfl rfl ?_
  refine zw_goto (tgt := 11) zM_X4_pack dX4_pack_118 rfl ?_
  exact zw_weak2 h ⟨rfl, rfl, rfl, rfl, rfl, trivial⟩
set_option maxHeartbeats 4000000 in
set_option maxRecDepth 100000 in
theorem vc_X4_runAt_0 (a0 : Nat) (x1 : Int32) (x2 : Int32) (σ : zx_S) (K : Int32 → zx_S → Prop) (h : zwI 94 2 [some (.ref a0), some (.int x1), some (.int x2), some (.int 1)] [] σ K) : zwI 94 0 [some (.ref a0), some (.int x1), some (.int x2), none] [] σ K := by
  refine zw_iconst (v := 1) zM_X4_runAt dX4_runAt_0 (by decide) ?_
  refine zw_go (pc1 := 2) (L1 := [some (.ref a0), some (.int x1), some (.int x2), some (.int 1)]) (st1 := []) (σ1 := σ) zM_X4_runAt dX4_runAt_1 rfl rfl rfl rfl ?_
  exact zw_weak2 h ⟨rfl, rfl, rfl, rfl, trivial⟩
set_option maxHeartbeats 4000000 in
set_option maxRecDepth 100000 in
theorem vc_X4_runAt_2 (a0 : Nat) (x1 : Int32) (x2 : Int32) (x3 : Int32) (σ : zx_S) (K : Int32 → zx_S → Prop) (h : ((x2 ≤ (x1 + x3) → K x3 σ) ∧ (¬ x2 ≤ (x1 + x3) → zK σ a0 = 1 ∧ zx_in (x1 + x3) (zN σ a0) = true ∧ zx_in x1 (zN σ a0) = true ∧ ((¬ (zI σ a0 (Int32.toNatClampNeg (x1 + x3))) = (zI σ a0 (Int32.toNatClampNeg x1)) → K x3 σ) ∧ ((zI σ a0 (Int32.toNatClampNeg (x1 + x3))) = (zI σ a0 (Int32.toNatClampNeg x1)) → zwI 94 2 [some (.ref a0), some (.int x1), some (.int x2), some (.int (x3 + Int32.ofInt 1))] [] σ K))))) : zwI 94 2 [some (.ref a0), some (.int x1), some (.int x2), some (.int x3)] [] σ K := by
  refine zw_go (pc1 := 3) (L1 := [some (.ref a0), some (.int x1), some (.int x2), some (.int x3)]) (st1 := [.int x1]) (σ1 := σ) zM_X4_runAt dX4_runAt_2 rfl rfl rfl rfl ?_
  refine zw_go (pc1 := 4) (L1 := [some (.ref a0), some (.int x1), some (.int x2), some (.int x3)]) (st1 := [.int x3, .int x1]) (σ1 := σ) zM_X4_runAt dX4_runAt_3 rfl rfl rfl rfl ?_
  refine zw_go (pc1 := 5) (L1 := [some (.ref a0), some (.int x1), some (.int x2), some (.int x3)]) (st1 := [.int (x1 + x3)]) (σ1 := σ) zM_X4_runAt dX4_runAt_4 rfl rfl rfl rfl ?_
  refine zw_go (pc1 := 6) (L1 := [some (.ref a0), some (.int x1), some (.int x2), some (.int x3)]) (st1 := [.int x2, .int (x1 + x3)]) (σ1 := σ) zM_X4_runAt dX4_runAt_5 rfl rfl rfl rfl ?_
  refine zw_icmp_ge (tgt := 26) zM_X4_runAt dX4_runAt_6 rfl rfl (fun q => ?_) (fun q => ?_)
  · replace h := h.1 q
    refine zw_go (pc1 := 27) (L1 := [some (.ref a0), some (.int x1), some (.int x2), some (.int x3)]) (st1 := [.int x3]) (σ1 := σ) zM_X4_runAt dX4_runAt_26 rfl rfl rfl rfl ?_
    exact zw_reti zM_X4_runAt dX4_runAt_27 rfl h
  · replace h := h.2 q
    refine zw_go (pc1 := 10) (L1 := [some (.ref a0), some (.int x1), some (.int x2), some (.int x3)]) (st1 := [.ref a0]) (σ1 := σ) zM_X4_runAt dX4_runAt_9 rfl rfl rfl rfl ?_
    refine zw_go (pc1 := 11) (L1 := [some (.ref a0), some (.int x1), some (.int x2), some (.int x3)]) (st1 := [.int x1, .ref a0]) (σ1 := σ) zM_X4_runAt dX4_runAt_10 rfl rfl rfl rfl ?_
    refine zw_go (pc1 := 12) (L1 := [some (.ref a0), some (.int x1), some (.int x2), some (.int x3)]) (st1 := [.int x3, .int x1, .ref a0]) (σ1 := σ) zM_X4_runAt dX4_runAt_11 rfl rfl rfl rfl ?_
    refine zw_go (pc1 := 13) (L1 := [some (.ref a0), some (.int x1), some (.int x2), some (.int x3)]) (st1 := [.int (x1 + x3), .ref a0]) (σ1 := σ) zM_X4_runAt dX4_runAt_12 rfl rfl rfl rfl ?_
    obtain ⟨hk1, h⟩ := h
    obtain ⟨hi2, h⟩ := h
    refine zw_iald zM_X4_runAt dX4_runAt_13 ⟨Or.inl hk1, hi2⟩ ?_
    refine zw_go (pc1 := 15) (L1 := [some (.ref a0), some (.int x1), some (.int x2), some (.int x3)]) (st1 := [.ref a0, .int (zI σ a0 (Int32.toNatClampNeg (x1 + x3)))]) (σ1 := σ) zM_X4_runAt dX4_runAt_14 rfl rfl rfl rfl ?_
    refine zw_go (pc1 := 16) (L1 := [some (.ref a0), some (.int x1), some (.int x2), some (.int x3)]) (st1 := [.int x1, .ref a0, .int (zI σ a0 (Int32.toNatClampNeg (x1 + x3)))]) (σ1 := σ) zM_X4_runAt dX4_runAt_15 rfl rfl rfl rfl ?_
    obtain ⟨hi3, h⟩ := h
    refine zw_iald zM_X4_runAt dX4_runAt_16 ⟨Or.inl hk1, hi3⟩ ?_
    refine zw_icmp_ne (tgt := 26) zM_X4_runAt dX4_runAt_17 rfl rfl (fun q => ?_) (fun q => ?_)
    · replace h := h.1 q
      refine zw_go (pc1 := 27) (L1 := [some (.ref a0), some (.int x1), some (.int x2), some (.int x3)]) (st1 := [.int x3]) (σ1 := σ) zM_X4_runAt dX4_runAt_26 rfl rfl rfl rfl ?_
      exact zw_reti zM_X4_runAt dX4_runAt_27 rfl h
    · replace h := h.2 q
      refine zw_go (pc1 := 23) (L1 := [some (.ref a0), some (.int x1), some (.int x2), some (.int (x3 + Int32.ofInt 1))]) (st1 := []) (σ1 := σ) zM_X4_runAt dX4_runAt_20 rfl rfl rfl rfl ?_
      refine zw_goto (tgt := 2) zM_X4_runAt dX4_runAt_23 rfl ?_
      exact zw_weak2 h ⟨rfl, rfl, rfl, rfl, trivial⟩
set_option maxHeartbeats 4000000 in
set_option maxRecDepth 100000 in
theorem vc_X4_store_0 (a0 : Nat) (a1 : Nat) (x2 : Int32) (x3 : Int32) (a4 : Nat) (σ : zx_S) (K : Int32 → zx_S → Prop) (h : zwI 91 0 [some (.ref a1), some (.int x2), some (.int x3), none] [] σ (fun v2 σ1 => ((v2 = (0 : Int32) → zK σ1 a0 = 17 ∧ zwV 93 0 [some (.ref a0), some (.ref a1), some (.int x2), some (.int (x2 + x3)), none, none, none, none, none] [] σ1 (fun σ4 => zK σ4 a0 = 17 ∧ (((zI σ4 a0 1) < x3 → ∃ b6 : Nat, zR σ4 a0 0 = some b6 ∧ zwV 89 0 [some (.ref b6), some (.int 0), some (.int (zI σ4 a0 1)), some (.ref a4), none] [] σ4 (fun σ8 => zK σ8 a0 = 17 ∧ K (zI σ8 a0 1) σ8)) ∧ (¬ (zI σ4 a0 1) < x3 → zwV 89 0 [some (.ref a1), some (.int x2), some (.int x3), some (.ref a4), none] [] σ4 (fun σ10 => K (32768 + x3) σ10))))) ∧ (¬ v2 = (0 : Int32) → K 0 σ1)))) : zwI 95 0 [some (.ref a0), some (.ref a1), some (.int x2), some (.int x3), some (.ref a4)] [] σ K := by
  refine zw_go (pc1 := 1) (L1 := [some (.ref a0), some (.ref a1), some (.int x2), some (.int x3), some (.ref a4)]) (st1 := [.ref a1]) (σ1 := σ) zM_X4_store dX4_store_0 rfl rfl rfl rfl ?_
  refine zw_go (pc1 := 2) (L1 := [some (.ref a0), some (.ref a1), some (.int x2), some (.int x3), some (.ref a4)]) (st1 := [.int x2, .ref a1]) (σ1 := σ) zM_X4_store dX4_store_1 rfl rfl rfl rfl ?_
  refine zw_go (pc1 := 3) (L1 := [some (.ref a0), some (.ref a1), some (.int x2), some (.int x3), some (.ref a4)]) (st1 := [.int x3, .int x2, .ref a1]) (σ1 := σ) zM_X4_store dX4_store_2 rfl rfl rfl rfl ?_
  refine zw_callI (as := [.ref a1, .int x2, .int x3]) (rest := []) zM_X4_store dX4_store_3 (zx_calS zC_4_15) zM_X4_isZero rfl rfl rfl rfl rfl rfl rfl h (fun v2 σ1 h => ?_)
  refine zw_if_eq (tgt := 11) zM_X4_store dX4_store_6 rfl rfl (fun q => ?_) (fun q => ?_)
  · replace h := h.1 q
    refine zw_go (pc1 := 12) (L1 := [some (.ref a0), some (.ref a1), some (.int x2), some (.int x3), some (.ref a4)]) (st1 := [.ref a0]) (σ1 := σ1) zM_X4_store dX4_store_11 rfl rfl rfl rfl ?_
    refine zw_go (pc1 := 13) (L1 := [some (.ref a0), some (.ref a1), some (.int x2), some (.int x3), some (.ref a4)]) (st1 := [.ref a1, .ref a0]) (σ1 := σ1) zM_X4_store dX4_store_12 rfl rfl rfl rfl ?_
    refine zw_go (pc1 := 14) (L1 := [some (.ref a0), some (.ref a1), some (.int x2), some (.int x3), some (.ref a4)]) (st1 := [.int x2, .ref a1, .ref a0]) (σ1 := σ1) zM_X4_store dX4_store_13 rfl rfl rfl rfl ?_
    refine zw_go (pc1 := 15) (L1 := [some (.ref a0), some (.ref a1), some (.int x2), some (.int x3), some (.ref a4)]) (st1 := [.int x2, .int x2, .ref a1, .ref a0]) (σ1 := σ1) zM_X4_store dX4_store_14 rfl rfl rfl rfl ?_
    refine zw_go (pc1 := 16) (L1 := [some (.ref a0), some (.ref a1), some (.int x2), some (.int x3), some (.ref a4)]) (st1 := [.int x3, .int x2, .int x2, .ref a1, .ref a0]) (σ1 := σ1) zM_X4_store dX4_store_15 rfl rfl rfl rfl ?_
    refine zw_go (pc1 := 17) (L1 := [some (.ref a0), some (.ref a1), some (.int x2), some (.int x3), some (.ref a4)]) (st1 := [.int (x2 + x3), .int x2, .ref a1, .ref a0]) (σ1 := σ1) zM_X4_store dX4_store_16 rfl rfl rfl rfl ?_
    obtain ⟨hk3, h⟩ := h
    refine zw_callV (as := [.ref a0, .ref a1, .int x2, .int (x2 + x3)]) (rest := []) zM_X4_store dX4_store_17 (zx_calV zC_4_19) zM_X4_pack rfl rfl rfl rfl rfl (zx_args0 hk3 rfl) rfl h (fun σ4 h => ?_)
    refine zw_go (pc1 := 21) (L1 := [some (.ref a0), some (.ref a1), some (.int x2), some (.int x3), some (.ref a4)]) (st1 := [.ref a0]) (σ1 := σ4) zM_X4_store dX4_store_20 rfl rfl rfl rfl ?_
    obtain ⟨hk5, h⟩ := h
    refine zw_getI zM_X4_store dX4_store_21 zF_4_23 rfl hk5 ?_
    refine zw_go (pc1 := 25) (L1 := [some (.ref a0), some (.ref a1), some (.int x2), some (.int x3), some (.ref a4)]) (st1 := [.int x3, .int (zI σ4 a0 1)]) (σ1 := σ4) zM_X4_store dX4_store_24 rfl rfl rfl rfl ?_
    refine zw_icmp_lt (tgt := 41) zM_X4_store dX4_store_25 rfl rfl (fun q => ?_) (fun q => ?_)
    · replace h := h.1 q
      refine zw_go (pc1 := 42) (L1 := [some (.ref a0), some (.ref a1), some (.int x2), some (.int x3), some (.ref a4)]) (st1 := [.ref a0]) (σ1 := σ4) zM_X4_store dX4_store_41 rfl rfl rfl rfl ?_
      obtain ⟨b6, hr7, h⟩ := h
      refine zw_getR (a := b6) zM_X4_store dX4_store_42 zF_4_9 rfl hk5 hr7 ?_
      refine zw_iconst (v := 0) zM_X4_store dX4_store_45 (by decide) ?_
      refine zw_go (pc1 := 47) (L1 := [some (.ref a0), some (.ref a1), some (.int x2), some (.int x3), some (.ref a4)]) (st1 := [.ref a0, .int 0, .ref b6]) (σ1 := σ4) zM_X4_store dX4_store_46 rfl rfl rfl rfl ?_
      refine zw_getI zM_X4_store dX4_store_47 zF_4_23 rfl hk5 ?_
      refine zw_go (pc1 := 52) (L1 := [some (.ref a0), some (.ref a1), some (.int x2), some (.int x3), some (.ref a4)]) (st1 := [.ref a4, .int (zI σ4 a0 1), .int 0, .ref b6]) (σ1 := σ4) zM_X4_store dX4_store_50 rfl rfl rfl rfl ?_
      refine zw_callV (as := [.ref b6, .int 0, .int (zI σ4 a0 1), .ref a4]) (rest := []) zM_X4_store dX4_store_52 (zx_calS zC_4_27) zM_X4_copy rfl rfl rfl rfl rfl rfl rfl h (fun σ8 h => ?_)
      refine zw_go (pc1 := 56) (L1 := [some (.ref a0), some (.ref a1), some (.int x2), some (.int x3), some (.ref a4)]) (st1 := [.ref a0]) (σ1 := σ8) zM_X4_store dX4_store_55 rfl rfl rfl rfl ?_
      obtain ⟨hk9, h⟩ := h
      refine zw_getI zM_X4_store dX4_store_56 zF_4_23 rfl hk9 ?_
      exact zw_reti zM_X4_store dX4_store_59 rfl h
    · replace h := h.2 q
      refine zw_go (pc1 := 29) (L1 := [some (.ref a0), some (.ref a1), some (.int x2), some (.int x3), some (.ref a4)]) (st1 := [.ref a1]) (σ1 := σ4) zM_X4_store dX4_store_28 rfl rfl rfl rfl ?_
      refine zw_go (pc1 := 30) (L1 := [some (.ref a0), some (.ref a1), some (.int x2), some (.int x3), some (.ref a4)]) (st1 := [.int x2, .ref a1]) (σ1 := σ4) zM_X4_store dX4_store_29 rfl rfl rfl rfl ?_
      refine zw_go (pc1 := 31) (L1 := [some (.ref a0), some (.ref a1), some (.int x2), some (.int x3), some (.ref a4)]) (st1 := [.int x3, .int x2, .ref a1]) (σ1 := σ4) zM_X4_store dX4_store_30 rfl rfl rfl rfl ?_
      refine zw_go (pc1 := 33) (L1 := [some (.ref a0), some (.ref a1), some (.int x2), some (.int x3), some (.ref a4)]) (st1 := [.ref a4, .int x3, .int x2, .ref a1]) (σ1 := σ4) zM_X4_store dX4_store_31 rfl rfl rfl rfl ?_
      refine zw_callV (as := [.ref a1, .int x2, .int x3, .ref a4]) (rest := []) zM_X4_store dX4_store_33 (zx_calS zC_4_27) zM_X4_copy rfl rfl rfl rfl rfl rfl rfl h (fun σ10 h => ?_)
      refine zw_ldc (v := 32768) zM_X4_store dX4_store_36 zK_4_31 ?_
      refine zw_go (pc1 := 39) (L1 := [some (.ref a0), some (.ref a1), some (.int x2), some (.int x3), some (.ref a4)]) (st1 := [.int x3, .int 32768]) (σ1 := σ10) zM_X4_store dX4_store_38 rfl rfl rfl rfl ?_
      refine zw_go (pc1 := 40) (L1 := [some (.ref a0), some (.ref a1), some (.int x2), some (.int x3), some (.ref a4)]) (st1 := [.int (32768 + x3)]) (σ1 := σ10) zM_X4_store dX4_store_39 rfl rfl rfl rfl ?_
      exact zw_reti zM_X4_store dX4_store_40 rfl h
  · replace h := h.2 q
    refine zw_iconst (v := 0) zM_X4_store dX4_store_9 (by decide) ?_
    exact zw_reti zM_X4_store dX4_store_10 rfl h
