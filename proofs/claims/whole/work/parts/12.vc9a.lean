set_option maxHeartbeats 4000000 in
set_option maxRecDepth 100000 in
theorem vc_J7_fill_53178_0 (a0 : Nat) (x1 : Int32) (σ : zx_S) (K : zx_S → Prop) (h : zK σ a0 = 1 ∧ zwV 0 5 [some (.ref a0), some (.int x1), some (.int 0), some (.int (Int32.ofNat (zN σ a0)))] [] σ K) : zwV 0 0 [some (.ref a0), some (.int x1), none, none] [] σ K := by
  refine zw_iconst (v := 0) zM_J7_fill_53178 dJ7_fill_53178_0 (by decide) ?_
  refine zw_go (pc1 := 2) (L1 := [some (.ref a0), some (.int x1), some (.int 0), none]) (st1 := []) (σ1 := σ) zM_J7_fill_53178 dJ7_fill_53178_1 rfl rfl rfl rfl ?_
  refine zw_go (pc1 := 3) (L1 := [some (.ref a0), some (.int x1), some (.int 0), none]) (st1 := [.ref a0]) (σ1 := σ) zM_J7_fill_53178 dJ7_fill_53178_2 rfl rfl rfl rfl ?_
  obtain ⟨hk1, h⟩ := h
  refine zw_alen zM_J7_fill_53178 dJ7_fill_53178_3 (Or.inl hk1) ?_
  refine zw_go (pc1 := 5) (L1 := [some (.ref a0), some (.int x1), some (.int 0), some (.int (Int32.ofNat (zN σ a0)))]) (st1 := []) (σ1 := σ) zM_J7_fill_53178 dJ7_fill_53178_4 rfl rfl rfl rfl ?_
  exact zw_weak2 h ⟨rfl, rfl, rfl, rfl, trivial⟩
set_option maxHeartbeats 4000000 in
set_option maxRecDepth 100000 in
theorem vc_J7_fill_53178_5 (a0 : Nat) (x1 : Int32) (x2 : Int32) (x3 : Int32) (σ : zx_S) (K : zx_S → Prop) (h : ((x3 ≤ x2 → K σ) ∧ (¬ x3 ≤ x2 → zK σ a0 = 1 ∧ zx_in x2 (zN σ a0) = true ∧ ∀ σ3 : zx_S, σ3 = zx_pI σ a0 (Int32.toNatClampNeg x2) x1 → zwV 0 5 [some (.ref a0), some (.int x1), some (.int (x2 + Int32.ofInt 1)), some (.int x3)] [] σ3 K))) : zwV 0 5 [some (.ref a0), some (.int x1), some (.int x2), some (.int x3)] [] σ K := by
  refine zw_go (pc1 := 6) (L1 := [some (.ref a0), some (.int x1), some (.int x2), some (.int x3)]) (st1 := [.int x2]) (σ1 := σ) zM_J7_fill_53178 dJ7_fill_53178_5 rfl rfl rfl rfl ?_
  refine zw_go (pc1 := 7) (L1 := [some (.ref a0), some (.int x1), some (.int x2), some (.int x3)]) (st1 := [.int x3, .int x2]) (σ1 := σ) zM_J7_fill_53178 dJ7_fill_53178_6 rfl rfl rfl rfl ?_
  refine zw_icmp_ge (tgt := 20) zM_J7_fill_53178 dJ7_fill_53178_7 rfl rfl (fun q => ?_) (fun q => ?_)
  · replace h := h.1 q
    exact zw_retv zM_J7_fill_53178 dJ7_fill_53178_20 rfl h
  · replace h := h.2 q
    refine zw_go (pc1 := 11) (L1 := [some (.ref a0), some (.int x1), some (.int x2), some (.int x3)]) (st1 := [.ref a0]) (σ1 := σ) zM_J7_fill_53178 dJ7_fill_53178_10 rfl rfl rfl rfl ?_
    refine zw_go (pc1 := 12) (L1 := [some (.ref a0), some (.int x1), some (.int x2), some (.int x3)]) (st1 := [.int x2, .ref a0]) (σ1 := σ) zM_J7_fill_53178 dJ7_fill_53178_11 rfl rfl rfl rfl ?_
    refine zw_go (pc1 := 13) (L1 := [some (.ref a0), some (.int x1), some (.int x2), some (.int x3)]) (st1 := [.int x1, .int x2, .ref a0]) (σ1 := σ) zM_J7_fill_53178 dJ7_fill_53178_12 rfl rfl rfl rfl ?_
    obtain ⟨hk1, h⟩ := h
    obtain ⟨hi2, h⟩ := h
    obtain ⟨σ3, e4⟩ : ∃ z9 : zx_S, z9 = zx_pI σ a0 (Int32.toNatClampNeg x2) x1 := ⟨_, rfl⟩
    replace h := h σ3 e4
    refine zw_iast zM_J7_fill_53178 dJ7_fill_53178_13 ⟨hk1, hi2⟩ e4 ?_
    refine zw_go (pc1 := 17) (L1 := [some (.ref a0), some (.int x1), some (.int (x2 + Int32.ofInt 1)), some (.int x3)]) (st1 := []) (σ1 := σ3) zM_J7_fill_53178 dJ7_fill_53178_14 rfl rfl rfl rfl ?_
    refine zw_goto (tgt := 5) zM_J7_fill_53178 dJ7_fill_53178_17 rfl ?_
    exact zw_weak2 h ⟨rfl, rfl, rfl, rfl, trivial⟩
set_option maxHeartbeats 4000000 in
set_option maxRecDepth 100000 in
theorem vc_J7_fill_fda19_0 (a0 : Nat) (x1 : Int32) (x2 : Int32) (x3 : Int32) (σ : zx_S) (K : zx_S → Prop) (h : zK σ a0 = 1 ∧ zwV 2 0 [some (.int (Int32.ofNat (zN σ a0))), some (.int x1), some (.int x2)] [] σ (fun σ2 => zwV 1 10 [some (.ref a0), none, some (.int x2), some (.int x3), some (.int x1)] [] σ2 K)) : zwV 1 0 [some (.ref a0), some (.int x1), some (.int x2), some (.int x3), none] [] σ K := by
  refine zw_go (pc1 := 1) (L1 := [some (.ref a0), some (.int x1), some (.int x2), some (.int x3), none]) (st1 := [.ref a0]) (σ1 := σ) zM_J7_fill_fda19 dJ7_fill_fda19_0 rfl rfl rfl rfl ?_
  obtain ⟨hk1, h⟩ := h
  refine zw_alen zM_J7_fill_fda19 dJ7_fill_fda19_1 (Or.inl hk1) ?_
  refine zw_go (pc1 := 3) (L1 := [some (.ref a0), some (.int x1), some (.int x2), some (.int x3), none]) (st1 := [.int x1, .int (Int32.ofNat (zN σ a0))]) (σ1 := σ) zM_J7_fill_fda19 dJ7_fill_fda19_2 rfl rfl rfl rfl ?_
  refine zw_go (pc1 := 4) (L1 := [some (.ref a0), some (.int x1), some (.int x2), some (.int x3), none]) (st1 := [.int x2, .int x1, .int (Int32.ofNat (zN σ a0))]) (σ1 := σ) zM_J7_fill_fda19 dJ7_fill_fda19_3 rfl rfl rfl rfl ?_
  refine zw_callV (as := [.int (Int32.ofNat (zN σ a0)), .int x1, .int x2]) (rest := []) zM_J7_fill_fda19 dJ7_fill_fda19_4 (zx_calS zC_9_13) zM_J7_rangeCheck_23922 rfl rfl rfl rfl rfl rfl rfl h (fun σ2 h => ?_)
  refine zw_go (pc1 := 8) (L1 := [some (.ref a0), some (.int x1), some (.int x2), some (.int x3), none]) (st1 := [.int x1]) (σ1 := σ2) zM_J7_fill_fda19 dJ7_fill_fda19_7 rfl rfl rfl rfl ?_
  refine zw_go (pc1 := 10) (L1 := [some (.ref a0), some (.int x1), some (.int x2), some (.int x3), some (.int x1)]) (st1 := []) (σ1 := σ2) zM_J7_fill_fda19 dJ7_fill_fda19_8 rfl rfl rfl rfl ?_
  exact zw_weak2 h ⟨rfl, rfl, rfl, rfl, trivial⟩
set_option maxHeartbeats 4000000 in
set_option maxRecDepth 100000 in
theorem vc_J7_fill_fda19_10 (a0 : Nat) (x2 : Int32) (x3 : Int32) (x4 : Int32) (σ : zx_S) (K : zx_S → Prop) (h : ((x2 ≤ x4 → K σ) ∧ (¬ x2 ≤ x4 → zK σ a0 = 1 ∧ zx_in x4 (zN σ a0) = true ∧ ∀ σ3 : zx_S, σ3 = zx_pI σ a0 (Int32.toNatClampNeg x4) x3 → zwV 1 10 [some (.ref a0), none, some (.int x2), some (.int x3), some (.int (x4 + Int32.ofInt 1))] [] σ3 K))) : zwV 1 10 [some (.ref a0), none, some (.int x2), some (.int x3), some (.int x4)] [] σ K := by
  refine zw_go (pc1 := 12) (L1 := [some (.ref a0), none, some (.int x2), some (.int x3), some (.int x4)]) (st1 := [.int x4]) (σ1 := σ) zM_J7_fill_fda19 dJ7_fill_fda19_10 rfl rfl rfl rfl ?_
  refine zw_go (pc1 := 13) (L1 := [some (.ref a0), none, some (.int x2), some (.int x3), some (.int x4)]) (st1 := [.int x2, .int x4]) (σ1 := σ) zM_J7_fill_fda19 dJ7_fill_fda19_12 rfl rfl rfl rfl ?_
  refine zw_icmp_ge (tgt := 27) zM_J7_fill_fda19 dJ7_fill_fda19_13 rfl rfl (fun q => ?_) (fun q => ?_)
  · replace h := h.1 q
    exact zw_retv zM_J7_fill_fda19 dJ7_fill_fda19_27 rfl h
  · replace h := h.2 q
    refine zw_go (pc1 := 17) (L1 := [some (.ref a0), none, some (.int x2), some (.int x3), some (.int x4)]) (st1 := [.ref a0]) (σ1 := σ) zM_J7_fill_fda19 dJ7_fill_fda19_16 rfl rfl rfl rfl ?_
    refine zw_go (pc1 := 19) (L1 := [some (.ref a0), none, some (.int x2), some (.int x3), some (.int x4)]) (st1 := [.int x4, .ref a0]) (σ1 := σ) zM_J7_fill_fda19 dJ7_fill_fda19_17 rfl rfl rfl rfl ?_
    refine zw_go (pc1 := 20) (L1 := [some (.ref a0), none, some (.int x2), some (.int x3), some (.int x4)]) (st1 := [.int x3, .int x4, .ref a0]) (σ1 := σ) zM_J7_fill_fda19 dJ7_fill_fda19_19 rfl rfl rfl rfl ?_
    obtain ⟨hk1, h⟩ := h
    obtain ⟨hi2, h⟩ := h
    obtain ⟨σ3, e4⟩ : ∃ z9 : zx_S, z9 = zx_pI σ a0 (Int32.toNatClampNeg x4) x3 := ⟨_, rfl⟩
    replace h := h σ3 e4
    refine zw_iast zM_J7_fill_fda19 dJ7_fill_fda19_20 ⟨hk1, hi2⟩ e4 ?_
    refine zw_go (pc1 := 24) (L1 := [some (.ref a0), none, some (.int x2), some (.int x3), some (.int (x4 + Int32.ofInt 1))]) (st1 := []) (σ1 := σ3) zM_J7_fill_fda19 dJ7_fill_fda19_21 rfl rfl rfl rfl ?_
    refine zw_goto (tgt := 10) zM_J7_fill_fda19 dJ7_fill_fda19_24 rfl ?_
    exact zw_weak2 h ⟨rfl, rfl, rfl, rfl, trivial⟩
set_option maxHeartbeats 4000000 in
set_option maxRecDepth 100000 in
theorem vc_J7_rangeCheck_23922_0 (x0 : Int32) (x1 : Int32) (x2 : Int32) (σ : zx_S) (K : zx_S → Prop) (h : ((x1 ≤ x2 → (((0 : Int32) ≤ x1 → ((x2 ≤ x0 → K σ) ∧ (¬ x2 ≤ x0 → False))) ∧ (¬ (0 : Int32) ≤ x1 → False))) ∧ (¬ x1 ≤ x2 → False))) : zwV 2 0 [some (.int x0), some (.int x1), some (.int x2)] [] σ K := by
  refine zw_go (pc1 := 1) (L1 := [some (.int x0), some (.int x1), some (.int x2)]) (st1 := [.int x1]) (σ1 := σ) zM_J7_rangeCheck_23922 dJ7_rangeCheck_23922_0 rfl rfl rfl rfl ?_
  refine zw_go (pc1 := 2) (L1 := [some (.int x0), some (.int x1), some (.int x2)]) (st1 := [.int x2, .int x1]) (σ1 := σ) zM_J7_rangeCheck_23922 dJ7_rangeCheck_23922_1 rfl rfl rfl rfl ?_
  refine zw_icmp_le (tgt := 46) zM_J7_rangeCheck_23922 dJ7_rangeCheck_23922_2 rfl rfl (fun q => ?_) (fun q => ?_)
  · replace h := h.1 q
    refine zw_go (pc1 := 47) (L1 := [some (.int x0), some (.int x1), some (.int x2)]) (st1 := [.int x1]) (σ1 := σ) zM_J7_rangeCheck_23922 dJ7_rangeCheck_23922_46 rfl rfl rfl rfl ?_
    refine zw_if_ge (tgt := 59) zM_J7_rangeCheck_23922 dJ7_rangeCheck_23922_47 rfl rfl (fun q => ?_) (fun q => ?_)
    · replace h := h.1 q
      refine zw_go (pc1 := 60) (L1 := [some (.int x0), some (.int x1), some (.int x2)]) (st1 := [.int x2]) (σ1 := σ) zM_J7_rangeCheck_23922 dJ7_rangeCheck_23922_59 rfl rfl rfl rfl ?_
      refine zw_go (pc1 := 61) (L1 := [some (.int x0), some (.int x1), some (.int x2)]) (st1 := [.int x0, .int x2]) (σ1 := σ) zM_J7_rangeCheck_23922 dJ7_rangeCheck_23922_60 rfl rfl rfl rfl ?_
      refine zw_icmp_le (tgt := 73) zM_J7_rangeCheck_23922 dJ7_rangeCheck_23922_61 rfl rfl (fun q => ?_) (fun q => ?_)
      · replace h := h.1 q
        exact zw_retv zM_J7_rangeCheck_23922 dJ7_rangeCheck_23922_73 rfl h
      · replace h := h.2 q
        exact h.elim
    · replace h := h.2 q
      exact h.elim
  · replace h := h.2 q
    exact h.elim
