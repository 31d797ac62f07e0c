set_option maxHeartbeats 4000000 in
set_option maxRecDepth 100000 in
theorem vc_X7_isFile_0 (a0 : Nat) (x1 : Int32) (x2 : Int32) (x3 : Int32) (σ : zx_S) (K : Int32 → zx_S → Prop) (h : zK σ a0 = 20 ∧ zwI 210 0 [some (.ref a0), some (.int x1), some (.int (x2 + 6))] [] σ (fun v3 σ2 => ¬ x3 = 0 ∧ ¬ x3 = 0 ∧ zK σ2 a0 = 20 ∧ zwI 143 0 [some (.ref a0), some (.int x1), some (.int (x2 + 10))] [] σ2 (fun v8 σ7 => zK σ7 a0 = 20 ∧ zwI 143 0 [some (.ref a0), some (.int x1), some (.int (x2 + 11))] [] σ7 (fun v11 σ10 => zK σ10 a0 = 20 ∧ zwI 202 0 [some (.ref a0), some (.int x1)] [] σ10 (fun v14 σ13 => ((v14 < v8 → K 0 σ13) ∧ (¬ v14 < v8 → ((¬ (v3 - v3 / x3 * x3) = (0 : Int32) → zwI 163 70 [some (.ref a0), some (.int x1), some (.int x2), some (.int x3), none, some (.int (v3 / x3)), some (.int (v3 - v3 / x3 * x3)), some (.int v8), some (.int v11), none, none, none, none] [] σ13 K) ∧ ((v3 - v3 / x3 * x3) = (0 : Int32) → (((0 : Int32) < v8 → K 0 σ13) ∧ (¬ (0 : Int32) < v8 → (((0 : Int32) < v11 → K 0 σ13) ∧ (¬ (0 : Int32) < v11 → zwI 163 70 [some (.ref a0), some (.int x1), some (.int x2), some (.int x3), none, some (.int (v3 / x3)), some (.int (v3 - v3 / x3 * x3)), some (.int v8), some (.int v11), none, none, none, none] [] σ13 K))))))))))))) : zwI 163 0 [some (.ref a0), some (.int x1), some (.int x2), some (.int x3), none, none, none, none, none, none, none, none, none] [] σ K := by
  refine zw_go (pc1 := 1) (L1 := [some (.ref a0), some (.int x1), some (.int x2), some (.int x3), none, none, none, none, none, none, none, none, none]) (st1 := [.ref a0]) (σ1 := σ) zM_X7_isFile dX7_isFile_0 rfl rfl rfl rfl ?_
  refine zw_go (pc1 := 2) (L1 := [some (.ref a0), some (.int x1), some (.int x2), some (.int x3), none, none, none, none, none, none, none, none, none]) (st1 := [.int x1, .ref a0]) (σ1 := σ) zM_X7_isFile dX7_isFile_1 rfl rfl rfl rfl ?_
  refine zw_go (pc1 := 3) (L1 := [some (.ref a0), some (.int x1), some (.int x2), some (.int x3), none, none, none, none, none, none, none, none, none]) (st1 := [.int x2, .int x1, .ref a0]) (σ1 := σ) zM_X7_isFile dX7_isFile_2 rfl rfl rfl rfl ?_
  refine zw_bipush (v := 6) zM_X7_isFile dX7_isFile_3 (by decide) ?_
  refine zw_go (pc1 := 6) (L1 := [some (.ref a0), some (.int x1), some (.int x2), some (.int x3), none, none, none, none, none, none, none, none, none]) (st1 := [.int (x2 + 6), .int x1, .ref a0]) (σ1 := σ) zM_X7_isFile dX7_isFile_5 rfl rfl rfl rfl ?_
  obtain ⟨hk1, h⟩ := h
  refine zw_callI (as := [.ref a0, .int x1, .int (x2 + 6)]) (rest := []) zM_X7_isFile dX7_isFile_6 (zx_calV zC_7_201) zM_X7_word rfl rfl rfl rfl rfl (zx_args0 hk1 rfl) rfl h (fun v3 σ2 h => ?_)
  refine zw_go (pc1 := 11) (L1 := [some (.ref a0), some (.int x1), some (.int x2), some (.int x3), some (.int v3), none, none, none, none, none, none, none, none]) (st1 := []) (σ1 := σ2) zM_X7_isFile dX7_isFile_9 rfl rfl rfl rfl ?_
  refine zw_go (pc1 := 13) (L1 := [some (.ref a0), some (.int x1), some (.int x2), some (.int x3), some (.int v3), none, none, none, none, none, none, none, none]) (st1 := [.int v3]) (σ1 := σ2) zM_X7_isFile dX7_isFile_11 rfl rfl rfl rfl ?_
  refine zw_go (pc1 := 14) (L1 := [some (.ref a0), some (.int x1), some (.int x2), some (.int x3), some (.int v3), none, none, none, none, none, none, none, none]) (st1 := [.int x3, .int v3]) (σ1 := σ2) zM_X7_isFile dX7_isFile_13 rfl rfl rfl rfl ?_
  obtain ⟨hz4, h⟩ := h
  refine zw_div zM_X7_isFile dX7_isFile_14 hz4 ?_
  refine zw_go (pc1 := 17) (L1 := [some (.ref a0), some (.int x1), some (.int x2), some (.int x3), some (.int v3), some (.int (v3 / x3)), none, none, none, none, none, none, none]) (st1 := []) (σ1 := σ2) zM_X7_isFile dX7_isFile_15 rfl rfl rfl rfl ?_
  refine zw_go (pc1 := 19) (L1 := [some (.ref a0), some (.int x1), some (.int x2), some (.int x3), some (.int v3), some (.int (v3 / x3)), none, none, none, none, none, none, none]) (st1 := [.int v3]) (σ1 := σ2) zM_X7_isFile dX7_isFile_17 rfl rfl rfl rfl ?_
  refine zw_go (pc1 := 20) (L1 := [some (.ref a0), some (.int x1), some (.int x2), some (.int x3), some (.int v3), some (.int (v3 / x3)), none, none, none, none, none, none, none]) (st1 := [.int x3, .int v3]) (σ1 := σ2) zM_X7_isFile dX7_isFile_19 rfl rfl rfl rfl ?_
  obtain ⟨hz5, h⟩ := h
  refine zw_rem zM_X7_isFile dX7_isFile_20 hz5 ?_
  refine zw_go (pc1 := 23) (L1 := [some (.ref a0), some (.int x1), some (.int x2), some (.int x3), some (.int v3), some (.int (v3 / x3)), some (.int (v3 - v3 / x3 * x3)), none, none, none, none, none, none]) (st1 := []) (σ1 := σ2) zM_X7_isFile dX7_isFile_21 rfl rfl rfl rfl ?_
  refine zw_go (pc1 := 24) (L1 := [some (.ref a0), some (.int x1), some (.int x2), some (.int x3), some (.int v3), some (.int (v3 / x3)), some (.int (v3 - v3 / x3 * x3)), none, none, none, none, none, none]) (st1 := [.ref a0]) (σ1 := σ2) zM_X7_isFile dX7_isFile_23 rfl rfl rfl rfl ?_
  refine zw_go (pc1 := 25) (L1 := [some (.ref a0), some (.int x1), some (.int x2), some (.int x3), some (.int v3), some (.int (v3 / x3)), some (.int (v3 - v3 / x3 * x3)), none, none, none, none, none, none]) (st1 := [.int x1, .ref a0]) (σ1 := σ2) zM_X7_isFile dX7_isFile_24 rfl rfl rfl rfl ?_
  refine zw_go (pc1 := 26) (L1 := [some (.ref a0), some (.int x1), some (.int x2), some (.int x3), some (.int v3), some (.int (v3 / x3)), some (.int (v3 - v3 / x3 * x3)), none, none, none, none, none, none]) (st1 := [.int x2, .int x1, .ref a0]) (σ1 := σ2) zM_X7_isFile dX7_isFile_25 rfl rfl rfl rfl ?_
  refine zw_bipush (v := 10) zM_X7_isFile dX7_isFile_26 (by decide) ?_
  refine zw_go (pc1 := 29) (L1 := [some (.ref a0), some (.int x1), some (.int x2), some (.int x3), some (.int v3), some (.int (v3 / x3)), some (.int (v3 - v3 / x3 * x3)), none, none, none, none, none, none]) (st1 := [.int (x2 + 10), .int x1, .ref a0]) (σ1 := σ2) zM_X7_isFile dX7_isFile_28 rfl rfl rfl rfl ?_
  obtain ⟨hk6, h⟩ := h
  refine zw_callI (as := [.ref a0, .int x1, .int (x2 + 10)]) (rest := []) zM_X7_isFile dX7_isFile_29 (zx_calV zC_7_198) zM_X7_byteAt rfl rfl rfl rfl rfl (zx_args0 hk6 rfl) rfl h (fun v8 σ7 h => ?_)
  refine zw_go (pc1 := 34) (L1 := [some (.ref a0), some (.int x1), some (.int x2), some (.int x3), some (.int v3), some (.int (v3 / x3)), some (.int (v3 - v3 / x3 * x3)), some (.int v8), none, none, none, none, none]) (st1 := []) (σ1 := σ7) zM_X7_isFile dX7_isFile_32 rfl rfl rfl rfl ?_
  refine zw_go (pc1 := 35) (L1 := [some (.ref a0), some (.int x1), some (.int x2), some (.int x3), some (.int v3), some (.int (v3 / x3)), some (.int (v3 - v3 / x3 * x3)), some (.int v8), none, none, none, none, none]) (st1 := [.ref a0]) (σ1 := σ7) zM_X7_isFile dX7_isFile_34 rfl rfl rfl rfl ?_
  refine zw_go (pc1 := 36) (L1 := [some (.ref a0), some (.int x1), some (.int x2), some (.int x3), some (.int v3), some (.int (v3 / x3)), some (.int (v3 - v3 / x3 * x3)), some (.int v8), none, none, none, none, none]) (st1 := [.int x1, .ref a0]) (σ1 := σ7) zM_X7_isFile dX7_isFile_35 rfl rfl rfl rfl ?_
  refine zw_go (pc1 := 37) (L1 := [some (.ref a0), some (.int x1), some (.int x2), some (.int x3), some (.int v3), some (.int (v3 / x3)), some (.int (v3 - v3 / x3 * x3)), some (.int v8), none, none, none, none, none]) (st1 := [.int x2, .int x1, .ref a0]) (σ1 := σ7) zM_X7_isFile dX7_isFile_36 rfl rfl rfl rfl ?_
  refine zw_bipush (v := 11) zM_X7_isFile dX7_isFile_37 (by decide) ?_
  refine zw_go (pc1 := 40) (L1 := [some (.ref a0), some (.int x1), some (.int x2), some (.int x3), some (.int v3), some (.int (v3 / x3)), some (.int (v3 - v3 / x3 * x3)), some (.int v8), none, none, none, none, none]) (st1 := [.int (x2 + 11), .int x1, .ref a0]) (σ1 := σ7) zM_X7_isFile dX7_isFile_39 rfl rfl rfl rfl ?_
  obtain ⟨hk9, h⟩ := h
  refine zw_callI (as := [.ref a0, .int x1, .int (x2 + 11)]) (rest := []) zM_X7_isFile dX7_isFile_40 (zx_calV zC_7_198) zM_X7_byteAt rfl rfl rfl rfl rfl (zx_args0 hk9 rfl) rfl h (fun v11 σ10 h => ?_)
  refine zw_go (pc1 := 45) (L1 := [some (.ref a0), some (.int x1), some (.int x2), some (.int x3), some (.int v3), some (.int (v3 / x3)), some (.int (v3 - v3 / x3 * x3)), some (.int v8), some (.int v11), none, none, none, none]) (st1 := []) (σ1 := σ10) zM_X7_isFile dX7_isFile_43 rfl rfl rfl rfl ?_
  refine zw_go (pc1 := 47) (L1 := [some (.ref a0), some (.int x1), some (.int x2), some (.int x3), some (.int v3), some (.int (v3 / x3)), some (.int (v3 - v3 / x3 * x3)), some (.int v8), some (.int v11), none, none, none, none]) (st1 := [.int v8]) (σ1 := σ10) zM_X7_isFile dX7_isFile_45 rfl rfl rfl rfl ?_
  refine zw_go (pc1 := 48) (L1 := [some (.ref a0), some (.int x1), some (.int x2), some (.int x3), some (.int v3), some (.int (v3 / x3)), some (.int (v3 - v3 / x3 * x3)), some (.int v8), some (.int v11), none, none, none, none]) (st1 := [.ref a0, .int v8]) (σ1 := σ10) zM_X7_isFile dX7_isFile_47 rfl rfl rfl rfl ?_
  refine zw_go (pc1 := 49) (L1 := [some (.ref a0), some (.int x1), some (.int x2), some (.int x3), some (.int v3), some (.int (v3 / x3)), some (.int (v3 - v3 / x3 * x3)), some (.int v8), some (.int v11), none, none, none, none]) (st1 := [.int x1, .ref a0, .int v8]) (σ1 := σ10) zM_X7_isFile dX7_isFile_48 rfl rfl rfl rfl ?_
  obtain ⟨hk12, h⟩ := h
  refine zw_callI (as := [.ref a0, .int x1]) (rest := [.int v8]) zM_X7_isFile dX7_isFile_49 (zx_calV zC_7_232) zM_X7_tailsIn rfl rfl rfl rfl rfl (zx_args0 hk12 rfl) rfl h (fun v14 σ13 h => ?_)
  refine zw_icmp_gt (tgt := 80) zM_X7_isFile dX7_isFile_52 rfl rfl (fun q => ?_) (fun q => ?_)
  · replace h := h.1 q
    refine zw_iconst (v := 0) zM_X7_isFile dX7_isFile_80 (by decide) ?_
    exact zw_retz zM_X7_isFile dX7_isFile_81 rfl (by decide) h
  · replace h := h.2 q
    refine zw_go (pc1 := 57) (L1 := [some (.ref a0), some (.int x1), some (.int x2), some (.int x3), some (.int v3), some (.int (v3 / x3)), some (.int (v3 - v3 / x3 * x3)), some (.int v8), some (.int v11), none, none, none, none]) (st1 := [.int (v3 - v3 / x3 * x3)]) (σ1 := σ13) zM_X7_isFile dX7_isFile_55 rfl rfl rfl rfl ?_
    refine zw_if_ne (tgt := 70) zM_X7_isFile dX7_isFile_57 rfl rfl (fun q => ?_) (fun q => ?_)
    · replace h := h.1 q
      exact zw_weak2 h ⟨rfl, rfl, rfl, rfl, rfl, rfl, rfl, rfl, trivial⟩
    · replace h := h.2 q
      refine zw_go (pc1 := 62) (L1 := [some (.ref a0), some (.int x1), some (.int x2), some (.int x3), some (.int v3), some (.int (v3 / x3)), some (.int (v3 - v3 / x3 * x3)), some (.int v8), some (.int v11), none, none, none, none]) (st1 := [.int v8]) (σ1 := σ13) zM_X7_isFile dX7_isFile_60 rfl rfl rfl rfl ?_
      refine zw_if_gt (tgt := 80) zM_X7_isFile dX7_isFile_62 rfl rfl (fun q => ?_) (fun q => ?_)
      · replace h := h.1 q
        refine zw_iconst (v := 0) zM_X7_isFile dX7_isFile_80 (by decide) ?_
        exact zw_retz zM_X7_isFile dX7_isFile_81 rfl (by decide) h
      · replace h := h.2 q
        refine zw_go (pc1 := 67) (L1 := [some (.ref a0), some (.int x1), some (.int x2), some (.int x3), some (.int v3), some (.int (v3 / x3)), some (.int (v3 - v3 / x3 * x3)), some (.int v8), some (.int v11), none, none, none, none]) (st1 := [.int v11]) (σ1 := σ13) zM_X7_isFile dX7_isFile_65 rfl rfl rfl rfl ?_
        refine zw_if_gt (tgt := 80) zM_X7_isFile dX7_isFile_67 rfl rfl (fun q => ?_) (fun q => ?_)
        · replace h := h.1 q
          refine zw_iconst (v := 0) zM_X7_isFile dX7_isFile_80 (by decide) ?_
          exact zw_retz zM_X7_isFile dX7_isFile_81 rfl (by decide) h
        · replace h := h.2 q
          exact zw_weak2 h ⟨rfl, rfl, rfl, rfl, rfl, rfl, rfl, rfl, trivial⟩
set_option maxHeartbeats 4000000 in
set_option maxRecDepth 100000 in
theorem vc_X7_isFile_70 (a0 : Nat) (x1 : Int32) (x2 : Int32) (x3 : Int32) (x5 : Int32) (x6 : Int32) (x7 : Int32) (x8 : Int32) (σ : zx_S) (K : Int32 → zx_S → Prop) (h : ((x6 ≤ (0 : Int32) → zwI 163 82 [some (.ref a0), some (.int x1), some (.int x2), some (.int x3), none, some (.int x5), some (.int x6), some (.int x7), some (.int x8), none, none, none, none] [] σ K) ∧ (¬ x6 ≤ (0 : Int32) → ((¬ x7 = (0 : Int32) → zwI 163 82 [some (.ref a0), some (.int x1), some (.int x2), some (.int x3), none, some (.int x5), some (.int x6), some (.int x7), some (.int x8), none, none, none, none] [] σ K) ∧ (x7 = (0 : Int32) → K 0 σ))))) : zwI 163 70 [some (.ref a0), some (.int x1), some (.int x2), some (.int x3), none, some (.int x5), some (.int x6), some (.int x7), some (.int x8), none, none, none, none] [] σ K := by
  refine zw_go (pc1 := 72) (L1 := [some (.ref a0), some (.int x1), some (.int x2), some (.int x3), none, some (.int x5), some (.int x6), some (.int x7), some (.int x8), none, none, none, none]) (st1 := [.int x6]) (σ1 := σ) zM_X7_isFile dX7_isFile_70 rfl rfl rfl rfl ?_
  refine zw_if_le (tgt := 82) zM_X7_isFile dX7_isFile_72 rfl rfl (fun q => ?_) (fun q => ?_)
  · replace h := h.1 q
    exact zw_weak2 h ⟨rfl, rfl, rfl, rfl, rfl, rfl, rfl, rfl, trivial⟩
  · replace h := h.2 q
    refine zw_go (pc1 := 77) (L1 := [some (.ref a0), some (.int x1), some (.int x2), some (.int x3), none, some (.int x5), some (.int x6), some (.int x7), some (.int x8), none, none, none, none]) (st1 := [.int x7]) (σ1 := σ) zM_X7_isFile dX7_isFile_75 rfl rfl rfl rfl ?_
    refine zw_if_ne (tgt := 82) zM_X7_isFile dX7_isFile_77 rfl rfl (fun q => ?_) (fun q => ?_)
    · replace h := h.1 q
      exact zw_weak2 h ⟨rfl, rfl, rfl, rfl, rfl, rfl, rfl, rfl, trivial⟩
    · replace h := h.2 q
      refine zw_iconst (v := 0) zM_X7_isFile dX7_isFile_80 (by decide) ?_
      exact zw_retz zM_X7_isFile dX7_isFile_81 rfl (by decide) h
set_option maxHeartbeats 4000000 in
set_option maxRecDepth 100000 in
theorem vc_X7_isFile_82 (a0 : Nat) (x1 : Int32) (x2 : Int32) (x3 : Int32) (x5 : Int32) (x6 : Int32) (x7 : Int32) (x8 : Int32) (σ : zx_S) (K : Int32 → zx_S → Prop) (h : ((x6 ≤ (0 : Int32) → zwI 163 116 [some (.ref a0), some (.int x1), some (.int x2), some (.int x3), none, some (.int x5), none, none, none, none, none, none, none] [] σ K) ∧ (¬ x6 ≤ (0 : Int32) → zK σ a0 = 20 ∧ zwI 210 0 [some (.ref a0), some (.int x1), some (.int 10)] [] σ (fun v3 σ2 => zK σ2 a0 = 20 ∧ zwI 143 0 [some (.ref a0), some (.int x1), some (.int ((v3 + (5 * x7)) - 1))] [] σ2 (fun v6 σ5 => (((x8 + x6) ≤ v6 → zwI 163 116 [some (.ref a0), some (.int x1), some (.int x2), some (.int x3), none, some (.int x5), none, none, none, none, none, none, none] [] σ5 K) ∧ (¬ (x8 + x6) ≤ v6 → K 0 σ5))))))) : zwI 163 82 [some (.ref a0), some (.int x1), some (.int x2), some (.int x3), none, some (.int x5), some (.int x6), some (.int x7), some (.int x8), none, none, none, none] [] σ K := by
  refine zw_go (pc1 := 84) (L1 := [some (.ref a0), some (.int x1), some (.int x2), some (.int x3), none, some (.int x5), some (.int x6), some (.int x7), some (.int x8), none, none, none, none]) (st1 := [.int x6]) (σ1 := σ) zM_X7_isFile dX7_isFile_82 rfl rfl rfl rfl ?_
  refine zw_if_le (tgt := 116) zM_X7_isFile dX7_isFile_84 rfl rfl (fun q => ?_) (fun q => ?_)
  · replace h := h.1 q
    exact zw_weak2 h ⟨rfl, rfl, rfl, rfl, rfl, trivial⟩
  · replace h := h.2 q
    refine zw_go (pc1 := 89) (L1 := [some (.ref a0), some (.int x1), some (.int x2), some (.int x3), none, some (.int x5), some (.int x6), some (.int x7), some (.int x8), none, none, none, none]) (st1 := [.int x8]) (σ1 := σ) zM_X7_isFile dX7_isFile_87 rfl rfl rfl rfl ?_
    refine zw_go (pc1 := 91) (L1 := [some (.ref a0), some (.int x1), some (.int x2), some (.int x3), none, some (.int x5), some (.int x6), some (.int x7), some (.int x8), none, none, none, none]) (st1 := [.int x6, .int x8]) (σ1 := σ) zM_X7_isFile dX7_isFile_89 rfl rfl rfl rfl ?_
    refine zw_go (pc1 := 92) (L1 := [some (.ref a0), some (.int x1), some (.int x2), some (.int x3), none, some (.int x5), some (.int x6), some (.int x7), some (.int x8), none, none, none, none]) (st1 := [.int (x8 + x6)]) (σ1 := σ) zM_X7_isFile dX7_isFile_91 rfl rfl rfl rfl ?_
    refine zw_go (pc1 := 93) (L1 := [some (.ref a0), some (.int x1), some (.int x2), some (.int x3), none, some (.int x5), some (.int x6), some (.int x7), some (.int x8), none, none, none, none]) (st1 := [.ref a0, .int (x8 + x6)]) (σ1 := σ) zM_X7_isFile dX7_isFile_92 rfl rfl rfl rfl ?_
    refine zw_go (pc1 := 94) (L1 := [some (.ref a0), some (.int x1), some (.int x2), some (.int x3), none, some (.int x5), some (.int x6), some (.int x7), some (.int x8), none, none, none, none]) (st1 := [.int x1, .ref a0, .int (x8 + x6)]) (σ1 := σ) zM_X7_isFile dX7_isFile_93 rfl rfl rfl rfl ?_
    refine zw_go (pc1 := 95) (L1 := [some (.ref a0), some (.int x1), some (.int x2), some (.int x3), none, some (.int x5), some (.int x6), some (.int x7), some (.int x8), none, none, none, none]) (st1 := [.ref a0, .int x1, .ref a0, .int (x8 + x6)]) (σ1 := σ) zM_X7_isFile dX7_isFile_94 rfl rfl rfl rfl ?_
    refine zw_go (pc1 := 96) (L1 := [some (.ref a0), some (.int x1), some (.int x2), some (.int x3), none, some (.int x5), some (.int x6), some (.int x7), some (.int x8), none, none, none, none]) (st1 := [.int x1, .ref a0, .int x1, .ref a0, .int (x8 + x6)]) (σ1 := σ) zM_X7_isFile dX7_isFile_95 rfl rfl rfl rfl ?_
    refine zw_bipush (v := 10) zM_X7_isFile dX7_isFile_96 (by decide) ?_
    obtain ⟨hk1, h⟩ := h
    refine zw_callI (as := [.ref a0, .int x1, .int 10]) (rest := [.int x1, .ref a0, .int (x8 + x6)]) zM_X7_isFile dX7_isFile_98 (zx_calV zC_7_201) zM_X7_word rfl rfl rfl rfl rfl (zx_args0 hk1 rfl) rfl h (fun v3 σ2 h => ?_)
    refine zw_iconst (v := 5) zM_X7_isFile dX7_isFile_101 (by decide) ?_
    refine zw_go (pc1 := 104) (L1 := [some (.ref a0), some (.int x1), some (.int x2), some (.int x3), none, some (.int x5), some (.int x6), some (.int x7), some (.int x8), none, none, none, none]) (st1 := [.int x7, .int 5, .int v3, .int x1, .ref a0, .int (x8 + x6)]) (σ1 := σ2) zM_X7_isFile dX7_isFile_102 rfl rfl rfl rfl ?_
    refine zw_go (pc1 := 105) (L1 := [some (.ref a0), some (.int x1), some (.int x2), some (.int x3), none, some (.int x5), some (.int x6), some (.int x7), some (.int x8), none, none, none, none]) (st1 := [.int (5 * x7), .int v3, .int x1, .ref a0, .int (x8 + x6)]) (σ1 := σ2) zM_X7_isFile dX7_isFile_104 rfl rfl rfl rfl ?_
    refine zw_go (pc1 := 106) (L1 := [some (.ref a0), some (.int x1), some (.int x2), some (.int x3), none, some (.int x5), some (.int x6), some (.int x7), some (.int x8), none, none, none, none]) (st1 := [.int (v3 + (5 * x7)), .int x1, .ref a0, .int (x8 + x6)]) (σ1 := σ2) zM_X7_isFile dX7_isFile_105 rfl rfl rfl rfl ?_
    refine zw_iconst (v := 1) zM_X7_isFile dX7_isFile_106 (by decide) ?_
    refine zw_go (pc1 := 108) (L1 := [some (.ref a0), some (.int x1), some (.int x2), some (.int x3), none, some (.int x5), some (.int x6), some (.int x7), some (.int x8), none, none, none, none]) (st1 := [.int ((v3 + (5 * x7)) - 1), .int x1, .ref a0, .int (x8 + x6)]) (σ1 := σ2) zM_X7_isFile dX7_isFile_107 rfl rfl rfl rfl ?_
    obtain ⟨hk4, h⟩ := h
    refine zw_callI (as := [.ref a0, .int x1, .int ((v3 + (5 * x7)) - 1)]) (rest := [.int (x8 + x6)]) zM_X7_isFile dX7_isFile_108 (zx_calV zC_7_198) zM_X7_byteAt rfl rfl rfl rfl rfl (zx_args0 hk4 rfl) rfl h (fun v6 σ5 h => ?_)
    refine zw_icmp_le (tgt := 116) zM_X7_isFile dX7_isFile_111 rfl rfl (fun q => ?_) (fun q => ?_)
    · replace h := h.1 q
      exact zw_weak2 h ⟨rfl, rfl, rfl, rfl, rfl, trivial⟩
    · replace h := h.2 q
      refine zw_iconst (v := 0) zM_X7_isFile dX7_isFile_114 (by decide) ?_
      exact zw_retz zM_X7_isFile dX7_isFile_115 rfl (by decide) h
set_option maxHeartbeats 4000000 in
set_option maxRecDepth 100000 in
theorem vc_X7_isFile_116 (a0 : Nat) (x1 : Int32) (x2 : Int32) (x3 : Int32) (x5 : Int32) (σ : zx_S) (K : Int32 → zx_S → Prop) (h : zK σ a0 = 20 ∧ zwI 210 0 [some (.ref a0), some (.int x1), some (.int (x2 + 8))] [] σ (fun v3 σ2 => zwI 163 133 [some (.ref a0), some (.int x1), some (.int x2), some (.int x3), none, some (.int x5), none, none, none, some (.int v3), some (.int 1), some (.int 0), none] [] σ2 K)) : zwI 163 116 [some (.ref a0), some (.int x1), some (.int x2), some (.int x3), none, some (.int x5), none, none, none, none, none, none, none] [] σ K := by
  refine zw_go (pc1 := 117) (L1 := [some (.ref a0), some (.int x1), some (.int x2), some (.int x3), none, some (.int x5), none, none, none, none, none, none, none]) (st1 := [.ref a0]) (σ1 := σ) zM_X7_isFile dX7_isFile_116 rfl rfl rfl rfl ?_
  refine zw_go (pc1 := 118) (L1 := [some (.ref a0), some (.int x1), some (.int x2), some (.int x3), none, some (.int x5), none, none, none, none, none, none, none]) (st1 := [.int x1, .ref a0]) (σ1 := σ) zM_X7_isFile dX7_isFile_117 rfl rfl rfl rfl ?_
  refine zw_go (pc1 := 119) (L1 := [some (.ref a0), some (.int x1), some (.int x2), some (.int x3), none, some (.int x5), none, none, none, none, none, none, none]) (st1 := [.int x2, .int x1, .ref a0]) (σ1 := σ) zM_X7_isFile dX7_isFile_118 rfl rfl rfl rfl ?_
  refine zw_bipush (v := 8) zM_X7_isFile dX7_isFile_119 (by decide) ?_
  refine zw_go (pc1 := 122) (L1 := [some (.ref a0), some (.int x1), some (.int x2), some (.int x3), none, some (.int x5), none, none, none, none, none, none, none]) (st1 := [.int (x2 + 8), .int x1, .ref a0]) (σ1 := σ) zM_X7_isFile dX7_isFile_121 rfl rfl rfl rfl ?_
  obtain ⟨hk1, h⟩ := h
  refine zw_callI (as := [.ref a0, .int x1, .int (x2 + 8)]) (rest := []) zM_X7_isFile dX7_isFile_122 (zx_calV zC_7_201) zM_X7_word rfl rfl rfl rfl rfl (zx_args0 hk1 rfl) rfl h (fun v3 σ2 h => ?_)
  refine zw_go (pc1 := 127) (L1 := [some (.ref a0), some (.int x1), some (.int x2), some (.int x3), none, some (.int x5), none, none, none, some (.int v3), none, none, none]) (st1 := []) (σ1 := σ2) zM_X7_isFile dX7_isFile_125 rfl rfl rfl rfl ?_
  refine zw_iconst (v := 1) zM_X7_isFile dX7_isFile_127 (by decide) ?_
  refine zw_go (pc1 := 130) (L1 := [some (.ref a0), some (.int x1), some (.int x2), some (.int x3), none, some (.int x5), none, none, none, some (.int v3), some (.int 1), none, none]) (st1 := []) (σ1 := σ2) zM_X7_isFile dX7_isFile_128 rfl rfl rfl rfl ?_
  refine zw_iconst (v := 0) zM_X7_isFile dX7_isFile_130 (by decide) ?_
  refine zw_go (pc1 := 133) (L1 := [some (.ref a0), some (.int x1), some (.int x2), some (.int x3), none, some (.int x5), none, none, none, some (.int v3), some (.int 1), some (.int 0), none]) (st1 := []) (σ1 := σ2) zM_X7_isFile dX7_isFile_131 rfl rfl rfl rfl ?_
  exact zw_weak2 h ⟨rfl, rfl, rfl, rfl, rfl, rfl, rfl, rfl, trivial⟩
set_option maxHeartbeats 4000000 in
set_option maxRecDepth 100000 in
theorem vc_X7_isFile_133 (a0 : Nat) (x1 : Int32) (x2 : Int32) (x3 : Int32) (x5 : Int32) (x9 : Int32) (x10 : Int32) (x11 : Int32) (σ : zx_S) (K : Int32 → zx_S → Prop) (h : ((x5 ≤ x11 → (x10 = 0 ∨ x10 = 1) ∧ K x10 σ) ∧ (¬ x5 ≤ x11 → ((x10 = (0 : Int32) → (x10 = 0 ∨ x10 = 1) ∧ K x10 σ) ∧ (¬ x10 = (0 : Int32) → zK σ a0 = 20 ∧ zwI 210 0 [some (.ref a0), some (.int x1), some (.int ((x2 + 12) + (2 * x11)))] [] σ (fun v5 σ4 => zK σ4 a0 = 20 ∧ zwI 144 0 [some (.ref a0), some (.int x1), some (.int x9), some (.int v5), some (.int x3), none, none, none, none] [] σ4 (fun v8 σ7 => zwI 175 0 [some (.int v5)] [] σ7 (fun v10 σ9 => zwI 163 133 [some (.ref a0), some (.int x1), some (.int x2), some (.int x3), none, some (.int x5), none, none, none, some (.int (x9 + v10)), some (.int v8), some (.int (x11 + Int32.ofInt 1)), none] [] σ9 K)))))))) : zwI 163 133 [some (.ref a0), some (.int x1), some (.int x2), some (.int x3), none, some (.int x5), none, none, none, some (.int x9), some (.int x10), some (.int x11), none] [] σ K := by
  refine zw_go (pc1 := 135) (L1 := [some (.ref a0), some (.int x1), some (.int x2), some (.int x3), none, some (.int x5), none, none, none, some (.int x9), some (.int x10), some (.int x11), none]) (st1 := [.int x11]) (σ1 := σ) zM_X7_isFile dX7_isFile_133 rfl rfl rfl rfl ?_
  refine zw_go (pc1 := 137) (L1 := [some (.ref a0), some (.int x1), some (.int x2), some (.int x3), none, some (.int x5), none, none, none, some (.int x9), some (.int x10), some (.int x11), none]) (st1 := [.int x5, .int x11]) (σ1 := σ) zM_X7_isFile dX7_isFile_135 rfl rfl rfl rfl ?_
  refine zw_icmp_ge (tgt := 189) zM_X7_isFile dX7_isFile_137 rfl rfl (fun q => ?_) (fun q => ?_)
  · replace h := h.1 q
    refine zw_go (pc1 := 191) (L1 := [some (.ref a0), some (.int x1), some (.int x2), some (.int x3), none, some (.int x5), none, none, none, some (.int x9), some (.int x10), some (.int x11), none]) (st1 := [.int x10]) (σ1 := σ) zM_X7_isFile dX7_isFile_189 rfl rfl rfl rfl ?_
    obtain ⟨hv1, h⟩ := h
    exact zw_retz zM_X7_isFile dX7_isFile_191 rfl hv1 h
  · replace h := h.2 q
    refine zw_go (pc1 := 142) (L1 := [some (.ref a0), some (.int x1), some (.int x2), some (.int x3), none, some (.int x5), none, none, none, some (.int x9), some (.int x10), some (.int x11), none]) (st1 := [.int x10]) (σ1 := σ) zM_X7_isFile dX7_isFile_140 rfl rfl rfl rfl ?_
    refine zw_if_eq (tgt := 189) zM_X7_isFile dX7_isFile_142 rfl rfl (fun q => ?_) (fun q => ?_)
    · replace h := h.1 q
      refine zw_go (pc1 := 191) (L1 := [some (.ref a0), some (.int x1), some (.int x2), some (.int x3), none, some (.int x5), none, none, none, some (.int x9), some (.int x10), some (.int x11), none]) (st1 := [.int x10]) (σ1 := σ) zM_X7_isFile dX7_isFile_189 rfl rfl rfl rfl ?_
      obtain ⟨hv2, h⟩ := h
      exact zw_retz zM_X7_isFile dX7_isFile_191 rfl hv2 h
    · replace h := h.2 q
      refine zw_go (pc1 := 146) (L1 := [some (.ref a0), some (.int x1), some (.int x2), some (.int x3), none, some (.int x5), none, none, none, some (.int x9), some (.int x10), some (.int x11), none]) (st1 := [.ref a0]) (σ1 := σ) zM_X7_isFile dX7_isFile_145 rfl rfl rfl rfl ?_
      refine zw_go (pc1 := 147) (L1 := [some (.ref a0), some (.int x1), some (.int x2), some (.int x3), none, some (.int x5), none, none, none, some (.int x9), some (.int x10), some (.int x11), none]) (st1 := [.int x1, .ref a0]) (σ1 := σ) zM_X7_isFile dX7_isFile_146 rfl rfl rfl rfl ?_
      refine zw_go (pc1 := 148) (L1 := [some (.ref a0), some (.int x1), some (.int x2), some (.int x3), none, some (.int x5), none, none, none, some (.int x9), some (.int x10), some (.int x11), none]) (st1 := [.int x2, .int x1, .ref a0]) (σ1 := σ) zM_X7_isFile dX7_isFile_147 rfl rfl rfl rfl ?_
      refine zw_bipush (v := 12) zM_X7_isFile dX7_isFile_148 (by decide) ?_
      refine zw_go (pc1 := 151) (L1 := [some (.ref a0), some (.int x1), some (.int x2), some (.int x3), none, some (.int x5), none, none, none, some (.int x9), some (.int x10), some (.int x11), none]) (st1 := [.int (x2 + 12), .int x1, .ref a0]) (σ1 := σ) zM_X7_isFile dX7_isFile_150 rfl rfl rfl rfl ?_
      refine zw_iconst (v := 2) zM_X7_isFile dX7_isFile_151 (by decide) ?_
      refine zw_go (pc1 := 154) (L1 := [some (.ref a0), some (.int x1), some (.int x2), some (.int x3), none, some (.int x5), none, none, none, some (.int x9), some (.int x10), some (.int x11), none]) (st1 := [.int x11, .int 2, .int (x2 + 12), .int x1, .ref a0]) (σ1 := σ) zM_X7_isFile dX7_isFile_152 rfl rfl rfl rfl ?_
      refine zw_go (pc1 := 155) (L1 := [some (.ref a0), some (.int x1), some (.int x2), some (.int x3), none, some (.int x5), none, none, none, some (.int x9), some (.int x10), some (.int x11), none]) (st1 := [.int (2 * x11), .int (x2 + 12), .int x1, .ref a0]) (σ1 := σ) zM_X7_isFile dX7_isFile_154 rfl rfl rfl rfl ?_
      refine zw_go (pc1 := 156) (L1 := [some (.ref a0), some (.int x1), some (.int x2), some (.int x3), none, some (.int x5), none, none, none, some (.int x9), some (.int x10), some (.int x11), none]) (st1 := [.int ((x2 + 12) + (2 * x11)), .int x1, .ref a0]) (σ1 := σ) zM_X7_isFile dX7_isFile_155 rfl rfl rfl rfl ?_
      obtain ⟨hk3, h⟩ := h
      refine zw_callI (as := [.ref a0, .int x1, .int ((x2 + 12) + (2 * x11))]) (rest := []) zM_X7_isFile dX7_isFile_156 (zx_calV zC_7_201) zM_X7_word rfl rfl rfl rfl rfl (zx_args0 hk3 rfl) rfl h (fun v5 σ4 h => ?_)
      refine zw_go (pc1 := 161) (L1 := [some (.ref a0), some (.int x1), some (.int x2), some (.int x3), none, some (.int x5), none, none, none, some (.int x9), some (.int x10), some (.int x11), some (.int v5)]) (st1 := []) (σ1 := σ4) zM_X7_isFile dX7_isFile_159 rfl rfl rfl rfl ?_
      refine zw_go (pc1 := 162) (L1 := [some (.ref a0), some (.int x1), some (.int x2), some (.int x3), none, some (.int x5), none, none, none, some (.int x9), some (.int x10), some (.int x11), some (.int v5)]) (st1 := [.ref a0]) (σ1 := σ4) zM_X7_isFile dX7_isFile_161 rfl rfl rfl rfl ?_
      refine zw_go (pc1 := 163) (L1 := [some (.ref a0), some (.int x1), some (.int x2), some (.int x3), none, some (.int x5), none, none, none, some (.int x9), some (.int x10), some (.int x11), some (.int v5)]) (st1 := [.int x1, .ref a0]) (σ1 := σ4) zM_X7_isFile dX7_isFile_162 rfl rfl rfl rfl ?_
      refine zw_go (pc1 := 165) (L1 := [some (.ref a0), some (.int x1), some (.int x2), some (.int x3), none, some (.int x5), none, none, none, some (.int x9), some (.int x10), some (.int x11), some (.int v5)]) (st1 := [.int x9, .int x1, .ref a0]) (σ1 := σ4) zM_X7_isFile dX7_isFile_163 rfl rfl rfl rfl ?_
      refine zw_go (pc1 := 167) (L1 := [some (.ref a0), some (.int x1), some (.int x2), some (.int x3), none, some (.int x5), none, none, none, some (.int x9), some (.int x10), some (.int x11), some (.int v5)]) (st1 := [.int v5, .int x9, .int x1, .ref a0]) (σ1 := σ4) zM_X7_isFile dX7_isFile_165 rfl rfl rfl rfl ?_
      refine zw_go (pc1 := 168) (L1 := [some (.ref a0), some (.int x1), some (.int x2), some (.int x3), none, some (.int x5), none, none, none, some (.int x9), some (.int x10), some (.int x11), some (.int v5)]) (st1 := [.int x3, .int v5, .int x9, .int x1, .ref a0]) (σ1 := σ4) zM_X7_isFile dX7_isFile_167 rfl rfl rfl rfl ?_
      obtain ⟨hk6, h⟩ := h
      refine zw_callI (as := [.ref a0, .int x1, .int x9, .int v5, .int x3]) (rest := []) zM_X7_isFile dX7_isFile_168 (zx_calV zC_7_222) zM_X7_canBe rfl rfl rfl rfl rfl (zx_args0 hk6 rfl) rfl h (fun v8 σ7 h => ?_)
      refine zw_go (pc1 := 173) (L1 := [some (.ref a0), some (.int x1), some (.int x2), some (.int x3), none, some (.int x5), none, none, none, some (.int x9), some (.int v8), some (.int x11), some (.int v5)]) (st1 := []) (σ1 := σ7) zM_X7_isFile dX7_isFile_171 rfl rfl rfl rfl ?_
      refine zw_go (pc1 := 175) (L1 := [some (.ref a0), some (.int x1), some (.int x2), some (.int x3), none, some (.int x5), none, none, none, some (.int x9), some (.int v8), some (.int x11), some (.int v5)]) (st1 := [.int x9]) (σ1 := σ7) zM_X7_isFile dX7_isFile_173 rfl rfl rfl rfl ?_
      refine zw_go (pc1 := 177) (L1 := [some (.ref a0), some (.int x1), some (.int x2), some (.int x3), none, some (.int x5), none, none, none, some (.int x9), some (.int v8), some (.int x11), some (.int v5)]) (st1 := [.int v5, .int x9]) (σ1 := σ7) zM_X7_isFile dX7_isFile_175 rfl rfl rfl rfl ?_
      refine zw_callI (as := [.int v5]) (rest := [.int x9]) zM_X7_isFile dX7_isFile_177 (zx_calS zC_7_204) zM_X7_lies rfl rfl rfl rfl rfl rfl rfl h (fun v10 σ9 h => ?_)
      refine zw_go (pc1 := 181) (L1 := [some (.ref a0), some (.int x1), some (.int x2), some (.int x3), none, some (.int x5), none, none, none, some (.int x9), some (.int v8), some (.int x11), some (.int v5)]) (st1 := [.int (x9 + v10)]) (σ1 := σ9) zM_X7_isFile dX7_isFile_180 rfl rfl rfl rfl ?_
      refine zw_go (pc1 := 183) (L1 := [some (.ref a0), some (.int x1), some (.int x2), some (.int x3), none, some (.int x5), none, none, none, some (.int (x9 + v10)), some (.int v8), some (.int x11), some (.int v5)]) (st1 := []) (σ1 := σ9) zM_X7_isFile dX7_isFile_181 rfl rfl rfl rfl ?_
      refine zw_go (pc1 := 186) (L1 := [some (.ref a0), some (.int x1), some (.int x2), some (.int x3), none, some (.int x5), none, none, none, some (.int (x9 + v10)), some (.int v8), some (.int (x11 + Int32.ofInt 1)), some (.int v5)]) (st1 := []) (σ1 := σ9) zM_X7_isFile dX7_isFile_183 rfl rfl rfl rfl ?_
      refine zw_goto (tgt := 133) zM_X7_isFile dX7_isFile_186 rfl ?_
      exact zw_weak2 h ⟨rfl, rfl, rfl, rfl, rfl, rfl, rfl, rfl, trivial⟩
set_option maxHeartbeats 4000000 in
set_option maxRecDepth 100000 in
theorem vc_X7_isFolder_0 (a0 : Nat) (x1 : Int32) (x2 : Int32) (σ : zx_S) (K : Int32 → zx_S → Prop) (h : zK σ a0 = 20 ∧ zwI 162 0 [some (.ref a0), some (.int x1), some (.int x2)] [] σ (fun v3 σ2 => zK σ2 a0 = 20 ∧ zwI 143 0 [some (.ref a0), some (.int x1), some (.int v3)] [] σ2 (fun v6 σ5 => ((¬ v6 = (1 : Int32) → K 0 σ5) ∧ (v6 = (1 : Int32) → K 1 σ5))))) : zwI 164 0 [some (.ref a0), some (.int x1), some (.int x2)] [] σ K := by
  refine zw_go (pc1 := 1) (L1 := [some (.ref a0), some (.int x1), some (.int x2)]) (st1 := [.ref a0]) (σ1 := σ) zM_X7_isFolder dX7_isFolder_0 rfl rfl rfl rfl ?_
  refine zw_go (pc1 := 2) (L1 := [some (.ref a0), some (.int x1), some (.int x2)]) (st1 := [.int x1, .ref a0]) (σ1 := σ) zM_X7_isFolder dX7_isFolder_1 rfl rfl rfl rfl ?_
  refine zw_go (pc1 := 3) (L1 := [some (.ref a0), some (.int x1), some (.int x2)]) (st1 := [.ref a0, .int x1, .ref a0]) (σ1 := σ) zM_X7_isFolder dX7_isFolder_2 rfl rfl rfl rfl ?_
  refine zw_go (pc1 := 4) (L1 := [some (.ref a0), some (.int x1), some (.int x2)]) (st1 := [.int x1, .ref a0, .int x1, .ref a0]) (σ1 := σ) zM_X7_isFolder dX7_isFolder_3 rfl rfl rfl rfl ?_
  refine zw_go (pc1 := 5) (L1 := [some (.ref a0), some (.int x1), some (.int x2)]) (st1 := [.int x2, .int x1, .ref a0, .int x1, .ref a0]) (σ1 := σ) zM_X7_isFolder dX7_isFolder_4 rfl rfl rfl rfl ?_
  obtain ⟨hk1, h⟩ := h
  refine zw_callI (as := [.ref a0, .int x1, .int x2]) (rest := [.int x1, .ref a0]) zM_X7_isFolder dX7_isFolder_5 (zx_calV zC_7_226) zM_X7_inode rfl rfl rfl rfl rfl (zx_args0 hk1 rfl) rfl h (fun v3 σ2 h => ?_)
  obtain ⟨hk4, h⟩ := h
  refine zw_callI (as := [.ref a0, .int x1, .int v3]) (rest := []) zM_X7_isFolder dX7_isFolder_8 (zx_calV zC_7_198) zM_X7_byteAt rfl rfl rfl rfl rfl (zx_args0 hk4 rfl) rfl h (fun v6 σ5 h => ?_)
  refine zw_iconst (v := 1) zM_X7_isFolder dX7_isFolder_11 (by decide) ?_
  refine zw_icmp_ne (tgt := 19) zM_X7_isFolder dX7_isFolder_12 rfl rfl (fun q => ?_) (fun q => ?_)
  · replace h := h.1 q
    refine zw_iconst (v := 0) zM_X7_isFolder dX7_isFolder_19 (by decide) ?_
    exact zw_retz zM_X7_isFolder dX7_isFolder_20 rfl (by decide) h
  · replace h := h.2 q
    refine zw_iconst (v := 1) zM_X7_isFolder dX7_isFolder_15 (by decide) ?_
    refine zw_goto (tgt := 20) zM_X7_isFolder dX7_isFolder_16 rfl ?_
    exact zw_retz zM_X7_isFolder dX7_isFolder_20 rfl (by decide) h
set_option maxHeartbeats 4000000 in
set_option maxRecDepth 100000 in
theorem vc_X7_isImage_0 (a0 : Nat) (x1 : Int32) (σ : zx_S) (K : Int32 → zx_S → Prop) (h : zK σ a0 = 20 ∧ zwI 160 0 [some (.int x1), some (.int 0), some (.int ((zI σ a0 11) - 1))] [] σ (fun v3 σ2 => (v3 = 0 ∨ v3 = 1) ∧ K v3 σ2)) : zwI 165 0 [some (.ref a0), some (.int x1)] [] σ K := by
  refine zw_go (pc1 := 1) (L1 := [some (.ref a0), some (.int x1)]) (st1 := [.int x1]) (σ1 := σ) zM_X7_isImage dX7_isImage_0 rfl rfl rfl rfl ?_
  refine zw_iconst (v := 0) zM_X7_isImage dX7_isImage_1 (by decide) ?_
  refine zw_go (pc1 := 3) (L1 := [some (.ref a0), some (.int x1)]) (st1 := [.ref a0, .int 0, .int x1]) (σ1 := σ) zM_X7_isImage dX7_isImage_2 rfl rfl rfl rfl ?_
  obtain ⟨hk1, h⟩ := h
  refine zw_getI zM_X7_isImage dX7_isImage_3 zF_7_168 rfl hk1 ?_
  refine zw_iconst (v := 1) zM_X7_isImage dX7_isImage_6 (by decide) ?_
  refine zw_go (pc1 := 8) (L1 := [some (.ref a0), some (.int x1)]) (st1 := [.int ((zI σ a0 11) - 1), .int 0, .int x1]) (σ1 := σ) zM_X7_isImage dX7_isImage_7 rfl rfl rfl rfl ?_
  refine zw_callI (as := [.int x1, .int 0, .int ((zI σ a0 11) - 1)]) (rest := []) zM_X7_isImage dX7_isImage_8 (zx_calS zC_7_101) zM_X7_in rfl rfl rfl rfl rfl rfl rfl h (fun v3 σ2 h => ?_)
  obtain ⟨hv4, h⟩ := h
  exact zw_retz zM_X7_isImage dX7_isImage_11 rfl hv4 h
set_option maxHeartbeats 4000000 in
set_option maxRecDepth 100000 in
theorem vc_X7_isLaid_0 (a0 : Nat) (x1 : Int32) (σ : zx_S) (K : Int32 → zx_S → Prop) (h : zwI 166 4 [some (.ref a0), some (.int x1), some (.int 0), some (.int 0)] [] σ K) : zwI 166 0 [some (.ref a0), some (.int x1), none, none] [] σ K := by
  refine zw_iconst (v := 0) zM_X7_isLaid dX7_isLaid_0 (by decide) ?_
  refine zw_go (pc1 := 2) (L1 := [some (.ref a0), some (.int x1), some (.int 0), none]) (st1 := []) (σ1 := σ) zM_X7_isLaid dX7_isLaid_1 rfl rfl rfl rfl ?_
  refine zw_iconst (v := 0) zM_X7_isLaid dX7_isLaid_2 (by decide) ?_
  refine zw_go (pc1 := 4) (L1 := [some (.ref a0), some (.int x1), some (.int 0), some (.int 0)]) (st1 := []) (σ1 := σ) zM_X7_isLaid dX7_isLaid_3 rfl rfl rfl rfl ?_
  exact zw_weak2 h ⟨rfl, rfl, rfl, rfl, trivial⟩
set_option maxHeartbeats 4000000 in
set_option maxRecDepth 100000 in
theorem vc_X7_isLaid_4 (a0 : Nat) (x1 : Int32) (x2 : Int32) (x3 : Int32) (σ : zx_S) (K : Int32 → zx_S → Prop) (h : zK σ a0 = 20 ∧ (((zI σ a0 35) ≤ x3 → (x2 = 0 ∨ x2 = 1) ∧ K x2 σ) ∧ (¬ (zI σ a0 35) ≤ x3 → ((¬ x2 = (0 : Int32) → zwI 166 26 [some (.ref a0), some (.int x1), none, some (.int x3)] [] σ K) ∧ (x2 = (0 : Int32) → ∃ b3 : Nat, zR σ a0 36 = some b3 ∧ zK σ b3 = 1 ∧ zx_in x3 (zN σ b3) = true ∧ ((¬ (zI σ b3 (Int32.toNatClampNeg x3)) = x1 → zwI 166 31 [some (.ref a0), some (.int x1), none, some (.int x3)] [.int 0] σ K) ∧ ((zI σ b3 (Int32.toNatClampNeg x3)) = x1 → zwI 166 26 [some (.ref a0), some (.int x1), none, some (.int x3)] [] σ K))))))) : zwI 166 4 [some (.ref a0), some (.int x1), some (.int x2), some (.int x3)] [] σ K := by
  refine zw_go (pc1 := 5) (L1 := [some (.ref a0), some (.int x1), some (.int x2), some (.int x3)]) (st1 := [.int x3]) (σ1 := σ) zM_X7_isLaid dX7_isLaid_4 rfl rfl rfl rfl ?_
  refine zw_go (pc1 := 6) (L1 := [some (.ref a0), some (.int x1), some (.int x2), some (.int x3)]) (st1 := [.ref a0, .int x3]) (σ1 := σ) zM_X7_isLaid dX7_isLaid_5 rfl rfl rfl rfl ?_
  obtain ⟨hk1, h⟩ := h
  refine zw_getI zM_X7_isLaid dX7_isLaid_6 zF_7_257 rfl hk1 ?_
  refine zw_icmp_ge (tgt := 38) zM_X7_isLaid dX7_isLaid_9 rfl rfl (fun q => ?_) (fun q => ?_)
  · replace h := h.1 q
    refine zw_go (pc1 := 39) (L1 := [some (.ref a0), some (.int x1), some (.int x2), some (.int x3)]) (st1 := [.int x2]) (σ1 := σ) zM_X7_isLaid dX7_isLaid_38 rfl rfl rfl rfl ?_
    obtain ⟨hv2, h⟩ := h
    exact zw_retz zM_X7_isLaid dX7_isLaid_39 rfl hv2 h
  · replace h := h.2 q
    refine zw_go (pc1 := 13) (L1 := [some (.ref a0), some (.int x1), some (.int x2), some (.int x3)]) (st1 := [.int x2]) (σ1 := σ) zM_X7_isLaid dX7_isLaid_12 rfl rfl rfl rfl ?_
    refine zw_if_ne (tgt := 26) zM_X7_isLaid dX7_isLaid_13 rfl rfl (fun q => ?_) (fun q => ?_)
    · replace h := h.1 q
      exact zw_weak2 h ⟨rfl, rfl, rfl, trivial⟩
    · replace h := h.2 q
      refine zw_go (pc1 := 17) (L1 := [some (.ref a0), some (.int x1), some (.int x2), some (.int x3)]) (st1 := [.ref a0]) (σ1 := σ) zM_X7_isLaid dX7_isLaid_16 rfl rfl rfl rfl ?_
      obtain ⟨b3, hr4, h⟩ := h
      refine zw_getR (a := b3) zM_X7_isLaid dX7_isLaid_17 zF_7_82 rfl hk1 hr4 ?_
      refine zw_go (pc1 := 21) (L1 := [some (.ref a0), some (.int x1), some (.int x2), some (.int x3)]) (st1 := [.int x3, .ref b3]) (σ1 := σ) zM_X7_isLaid dX7_isLaid_20 rfl rfl rfl rfl ?_
      obtain ⟨hk5, h⟩ := h
      obtain ⟨hi6, h⟩ := h
      refine zw_iald zM_X7_isLaid dX7_isLaid_21 ⟨Or.inl hk5, hi6⟩ ?_
      refine zw_go (pc1 := 23) (L1 := [some (.ref a0), some (.int x1), some (.int x2), some (.int x3)]) (st1 := [.int x1, .int (zI σ b3 (Int32.toNatClampNeg x3))]) (σ1 := σ) zM_X7_isLaid dX7_isLaid_22 rfl rfl rfl rfl ?_
      refine zw_icmp_ne (tgt := 30) zM_X7_isLaid dX7_isLaid_23 rfl rfl (fun q => ?_) (fun q => ?_)
      · replace h := h.1 q
        refine zw_iconst (v := 0) zM_X7_isLaid dX7_isLaid_30 (by decide) ?_
        exact zw_weak2 h ⟨rfl, rfl, rfl, trivial⟩
      · replace h := h.2 q
        exact zw_weak2 h ⟨rfl, rfl, rfl, trivial⟩
set_option maxHeartbeats 4000000 in
set_option maxRecDepth 100000 in
theorem vc_X7_isLaid_26 (a0 : Nat) (x1 : Int32) (x3 : Int32) (σ : zx_S) (K : Int32 → zx_S → Prop) (h : zwI 166 31 [some (.ref a0), some (.int x1), none, some (.int x3)] [.int 1] σ K) : zwI 166 26 [some (.ref a0), some (.int x1), none, some (.int x3)] [] σ K := by
  refine zw_iconst (v := 1) zM_X7_isLaid dX7_isLaid_26 (by decide) ?_
  refine zw_goto (tgt := 31) zM_X7_isLaid dX7_isLaid_27 rfl ?_
  exact zw_weak2 h ⟨rfl, rfl, rfl, trivial⟩
set_option maxHeartbeats 4000000 in
set_option maxRecDepth 100000 in
theorem vc_X7_isLaid_31 (a0 : Nat) (x1 : Int32) (x3 : Int32) (y0 : Int32) (σ : zx_S) (K : Int32 → zx_S → Prop) (h : zwI 166 4 [some (.ref a0), some (.int x1), some (.int y0), some (.int (x3 + Int32.ofInt 1))] [] σ K) : zwI 166 31 [some (.ref a0), some (.int x1), none, some (.int x3)] [.int y0] σ K := by
  refine zw_go (pc1 := 32) (L1 := [some (.ref a0), some (.int x1), some (.int y0), some (.int x3)]) (st1 := []) (σ1 := σ) zM_X7_isLaid dX7_isLaid_31 rfl rfl rfl rfl ?_
  refine zw_go (pc1 := 35) (L1 := [some (.ref a0), some (.int x1), some (.int y0), some (.int (x3 + Int32.ofInt 1))]) (st1 := []) (σ1 := σ) zM_X7_isLaid dX7_isLaid_32 rfl rfl rfl rfl ?_
  refine zw_goto (tgt := 4) zM_X7_isLaid dX7_isLaid_35 rfl ?_
  exact zw_weak2 h ⟨rfl, rfl, rfl, rfl, trivial⟩
set_option maxHeartbeats 4000000 in
set_option maxRecDepth 100000 in
theorem vc_X7_isNode_0 (a0 : Nat) (x1 : Int32) (σ : zx_S) (K : Int32 → zx_S → Prop) (h : zK σ a0 = 20 ∧ zwI 160 0 [some (.int x1), some (.int 0), some (.int ((zI σ a0 1) - 1))] [] σ (fun v3 σ2 => (v3 = 0 ∨ v3 = 1) ∧ K v3 σ2)) : zwI 167 0 [some (.ref a0), some (.int x1)] [] σ K := by
  refine zw_go (pc1 := 1) (L1 := [some (.ref a0), some (.int x1)]) (st1 := [.int x1]) (σ1 := σ) zM_X7_isNode dX7_isNode_0 rfl rfl rfl rfl ?_
  refine zw_iconst (v := 0) zM_X7_isNode dX7_isNode_1 (by decide) ?_
  refine zw_go (pc1 := 3) (L1 := [some (.ref a0), some (.int x1)]) (st1 := [.ref a0, .int 0, .int x1]) (σ1 := σ) zM_X7_isNode dX7_isNode_2 rfl rfl rfl rfl ?_
  obtain ⟨hk1, h⟩ := h
  refine zw_getI zM_X7_isNode dX7_isNode_3 zF_7_94 rfl hk1 ?_
  refine zw_iconst (v := 1) zM_X7_isNode dX7_isNode_6 (by decide) ?_
  refine zw_go (pc1 := 8) (L1 := [some (.ref a0), some (.int x1)]) (st1 := [.int ((zI σ a0 1) - 1), .int 0, .int x1]) (σ1 := σ) zM_X7_isNode dX7_isNode_7 rfl rfl rfl rfl ?_
  refine zw_callI (as := [.int x1, .int 0, .int ((zI σ a0 1) - 1)]) (rest := []) zM_X7_isNode dX7_isNode_8 (zx_calS zC_7_101) zM_X7_in rfl rfl rfl rfl rfl rfl rfl h (fun v3 σ2 h => ?_)
  obtain ⟨hv4, h⟩ := h
  exact zw_retz zM_X7_isNode dX7_isNode_11 rfl hv4 h
set_option maxHeartbeats 4000000 in
set_option maxRecDepth 100000 in
theorem vc_X7_isSameFile_0 (a0 : Nat) (x1 : Int32) (x2 : Int32) (σ : zx_S) (K : Int32 → zx_S → Prop) (h : zK σ a0 = 20 ∧ ∃ b2 : Nat, zR σ a0 5 = some b2 ∧ zK σ b2 = 1 ∧ zx_in x1 (zN σ b2) = true ∧ zx_in x2 (zN σ b2) = true ∧ ((¬ (zI σ b2 (Int32.toNatClampNeg x1)) = (zI σ b2 (Int32.toNatClampNeg x2)) → zwI 168 20 [some (.ref a0), some (.int x1), some (.int x2), none, none] [.int 0] σ K) ∧ ((zI σ b2 (Int32.toNatClampNeg x1)) = (zI σ b2 (Int32.toNatClampNeg x2)) → zwI 168 20 [some (.ref a0), some (.int x1), some (.int x2), none, none] [.int 1] σ K))) : zwI 168 0 [some (.ref a0), some (.int x1), some (.int x2), none, none] [] σ K := by
  refine zw_go (pc1 := 1) (L1 := [some (.ref a0), some (.int x1), some (.int x2), none, none]) (st1 := [.ref a0]) (σ1 := σ) zM_X7_isSameFile dX7_isSameFile_0 rfl rfl rfl rfl ?_
  obtain ⟨hk1, h⟩ := h
  obtain ⟨b2, hr3, h⟩ := h
  refine zw_getR (a := b2) zM_X7_isSameFile dX7_isSameFile_1 zF_7_19 rfl hk1 hr3 ?_
  refine zw_go (pc1 := 5) (L1 := [some (.ref a0), some (.int x1), some (.int x2), none, none]) (st1 := [.int x1, .ref b2]) (σ1 := σ) zM_X7_isSameFile dX7_isSameFile_4 rfl rfl rfl rfl ?_
  obtain ⟨hk4, h⟩ := h
  obtain ⟨hi5, h⟩ := h
  refine zw_iald zM_X7_isSameFile dX7_isSameFile_5 ⟨Or.inl hk4, hi5⟩ ?_
  refine zw_go (pc1 := 7) (L1 := [some (.ref a0), some (.int x1), some (.int x2), none, none]) (st1 := [.ref a0, .int (zI σ b2 (Int32.toNatClampNeg x1))]) (σ1 := σ) zM_X7_isSameFile dX7_isSameFile_6 rfl rfl rfl rfl ?_
  refine zw_getR (a := b2) zM_X7_isSameFile dX7_isSameFile_7 zF_7_19 rfl hk1 hr3 ?_
  refine zw_go (pc1 := 11) (L1 := [some (.ref a0), some (.int x1), some (.int x2), none, none]) (st1 := [.int x2, .ref b2, .int (zI σ b2 (Int32.toNatClampNeg x1))]) (σ1 := σ) zM_X7_isSameFile dX7_isSameFile_10 rfl rfl rfl rfl ?_
  obtain ⟨hi6, h⟩ := h
  refine zw_iald zM_X7_isSameFile dX7_isSameFile_11 ⟨Or.inl hk4, hi6⟩ ?_
  refine zw_icmp_ne (tgt := 19) zM_X7_isSameFile dX7_isSameFile_12 rfl rfl (fun q => ?_) (fun q => ?_)
  · replace h := h.1 q
    refine zw_iconst (v := 0) zM_X7_isSameFile dX7_isSameFile_19 (by decide) ?_
    exact zw_weak2 h ⟨rfl, rfl, rfl, trivial⟩
  · replace h := h.2 q
    refine zw_iconst (v := 1) zM_X7_isSameFile dX7_isSameFile_15 (by decide) ?_
    refine zw_goto (tgt := 20) zM_X7_isSameFile dX7_isSameFile_16 rfl ?_
    exact zw_weak2 h ⟨rfl, rfl, rfl, trivial⟩
set_option maxHeartbeats 4000000 in
set_option maxRecDepth 100000 in
theorem vc_X7_isSameFile_20 (a0 : Nat) (x1 : Int32) (x2 : Int32) (y0 : Int32) (σ : zx_S) (K : Int32 → zx_S → Prop) (h : zwI 168 24 [some (.ref a0), some (.int x1), some (.int x2), some (.int y0), some (.int 0)] [] σ K) : zwI 168 20 [some (.ref a0), some (.int x1), some (.int x2), none, none] [.int y0] σ K := by
  refine zw_go (pc1 := 21) (L1 := [some (.ref a0), some (.int x1), some (.int x2), some (.int y0), none]) (st1 := []) (σ1 := σ) zM_X7_isSameFile dX7_isSameFile_20 rfl rfl rfl rfl ?_
  refine zw_iconst (v := 0) zM_X7_isSameFile dX7_isSameFile_21 (by decide) ?_
  refine zw_go (pc1 := 24) (L1 := [some (.ref a0), some (.int x1), some (.int x2), some (.int y0), some (.int 0)]) (st1 := []) (σ1 := σ) zM_X7_isSameFile dX7_isSameFile_22 rfl rfl rfl rfl ?_
  exact zw_weak2 h ⟨rfl, rfl, rfl, rfl, rfl, trivial⟩
set_option maxHeartbeats 4000000 in
set_option maxRecDepth 100000 in
theorem vc_X7_isSameFile_24 (a0 : Nat) (x1 : Int32) (x2 : Int32) (x3 : Int32) (x4 : Int32) (σ : zx_S) (K : Int32 → zx_S → Prop) (h : zK σ a0 = 20 ∧ ∃ b2 : Nat, zR σ a0 5 = some b2 ∧ zK σ b2 = 1 ∧ zx_in x1 (zN σ b2) = true ∧ (((zI σ b2 (Int32.toNatClampNeg x1)) ≤ x4 → (x3 = 0 ∨ x3 = 1) ∧ K x3 σ) ∧ (¬ (zI σ b2 (Int32.toNatClampNeg x1)) ≤ x4 → ((x3 = (0 : Int32) → (x3 = 0 ∨ x3 = 1) ∧ K x3 σ) ∧ (¬ x3 = (0 : Int32) → ∃ b8 : Nat, zR σ a0 6 = some b8 ∧ zK σ b8 = 1 ∧ zx_in ((100 * x1) + x4) (zN σ b8) = true ∧ zx_in ((100 * x2) + x4) (zN σ b8) = true ∧ ((¬ (zI σ b8 (Int32.toNatClampNeg ((100 * x1) + x4))) = (zI σ b8 (Int32.toNatClampNeg ((100 * x2) + x4))) → zwI 168 71 [some (.ref a0), some (.int x1), some (.int x2), none, some (.int x4)] [.int 0] σ K) ∧ ((zI σ b8 (Int32.toNatClampNeg ((100 * x1) + x4))) = (zI σ b8 (Int32.toNatClampNeg ((100 * x2) + x4))) → zwI 168 71 [some (.ref a0), some (.int x1), some (.int x2), none, some (.int x4)] [.int 1] σ K))))))) : zwI 168 24 [some (.ref a0), some (.int x1), some (.int x2), some (.int x3), some (.int x4)] [] σ K := by
  refine zw_go (pc1 := 26) (L1 := [some (.ref a0), some (.int x1), some (.int x2), some (.int x3), some (.int x4)]) (st1 := [.int x4]) (σ1 := σ) zM_X7_isSameFile dX7_isSameFile_24 rfl rfl rfl rfl ?_
  refine zw_go (pc1 := 27) (L1 := [some (.ref a0), some (.int x1), some (.int x2), some (.int x3), some (.int x4)]) (st1 := [.ref a0, .int x4]) (σ1 := σ) zM_X7_isSameFile dX7_isSameFile_26 rfl rfl rfl rfl ?_
  obtain ⟨hk1, h⟩ := h
  obtain ⟨b2, hr3, h⟩ := h
  refine zw_getR (a := b2) zM_X7_isSameFile dX7_isSameFile_27 zF_7_19 rfl hk1 hr3 ?_
  refine zw_go (pc1 := 31) (L1 := [some (.ref a0), some (.int x1), some (.int x2), some (.int x3), some (.int x4)]) (st1 := [.int x1, .ref b2, .int x4]) (σ1 := σ) zM_X7_isSameFile dX7_isSameFile_30 rfl rfl rfl rfl ?_
  obtain ⟨hk4, h⟩ := h
  obtain ⟨hi5, h⟩ := h
  refine zw_iald zM_X7_isSameFile dX7_isSameFile_31 ⟨Or.inl hk4, hi5⟩ ?_
  refine zw_icmp_ge (tgt := 78) zM_X7_isSameFile dX7_isSameFile_32 rfl rfl (fun q => ?_) (fun q => ?_)
  · replace h := h.1 q
    refine zw_go (pc1 := 79) (L1 := [some (.ref a0), some (.int x1), some (.int x2), some (.int x3), some (.int x4)]) (st1 := [.int x3]) (σ1 := σ) zM_X7_isSameFile dX7_isSameFile_78 rfl rfl rfl rfl ?_
    obtain ⟨hv6, h⟩ := h
    exact zw_retz zM_X7_isSameFile dX7_isSameFile_79 rfl hv6 h
  · replace h := h.2 q
    refine zw_go (pc1 := 36) (L1 := [some (.ref a0), some (.int x1), some (.int x2), some (.int x3), some (.int x4)]) (st1 := [.int x3]) (σ1 := σ) zM_X7_isSameFile dX7_isSameFile_35 rfl rfl rfl rfl ?_
    refine zw_if_eq (tgt := 78) zM_X7_isSameFile dX7_isSameFile_36 rfl rfl (fun q => ?_) (fun q => ?_)
    · replace h := h.1 q
      refine zw_go (pc1 := 79) (L1 := [some (.ref a0), some (.int x1), some (.int x2), some (.int x3), some (.int x4)]) (st1 := [.int x3]) (σ1 := σ) zM_X7_isSameFile dX7_isSameFile_78 rfl rfl rfl rfl ?_
      obtain ⟨hv7, h⟩ := h
      exact zw_retz zM_X7_isSameFile dX7_isSameFile_79 rfl hv7 h
    · replace h := h.2 q
      refine zw_go (pc1 := 40) (L1 := [some (.ref a0), some (.int x1), some (.int x2), some (.int x3), some (.int x4)]) (st1 := [.ref a0]) (σ1 := σ) zM_X7_isSameFile dX7_isSameFile_39 rfl rfl rfl rfl ?_
      obtain ⟨b8, hr9, h⟩ := h
      refine zw_getR (a := b8) zM_X7_isSameFile dX7_isSameFile_40 zF_7_22 rfl hk1 hr9 ?_
      refine zw_bipush (v := 100) zM_X7_isSameFile dX7_isSameFile_43 (by decide) ?_
      refine zw_go (pc1 := 46) (L1 := [some (.ref a0), some (.int x1), some (.int x2), some (.int x3), some (.int x4)]) (st1 := [.int x1, .int 100, .ref b8]) (σ1 := σ) zM_X7_isSameFile dX7_isSameFile_45 rfl rfl rfl rfl ?_
      refine zw_go (pc1 := 47) (L1 := [some (.ref a0), some (.int x1), some (.int x2), some (.int x3), some (.int x4)]) (st1 := [.int (100 * x1), .ref b8]) (σ1 := σ) zM_X7_isSameFile dX7_isSameFile_46 rfl rfl rfl rfl ?_
      refine zw_go (pc1 := 49) (L1 := [some (.ref a0), some (.int x1), some (.int x2), some (.int x3), some (.int x4)]) (st1 := [.int x4, .int (100 * x1), .ref b8]) (σ1 := σ) zM_X7_isSameFile dX7_isSameFile_47 rfl rfl rfl rfl ?_
      refine zw_go (pc1 := 50) (L1 := [some (.ref a0), some (.int x1), some (.int x2), some (.int x3), some (.int x4)]) (st1 := [.int ((100 * x1) + x4), .ref b8]) (σ1 := σ) zM_X7_isSameFile dX7_isSameFile_49 rfl rfl rfl rfl ?_
      obtain ⟨hk10, h⟩ := h
      obtain ⟨hi11, h⟩ := h
      refine zw_iald zM_X7_isSameFile dX7_isSameFile_50 ⟨Or.inl hk10, hi11⟩ ?_
      refine zw_go (pc1 := 52) (L1 := [some (.ref a0), some (.int x1), some (.int x2), some (.int x3), some (.int x4)]) (st1 := [.ref a0, .int (zI σ b8 (Int32.toNatClampNeg ((100 * x1) + x4)))]) (σ1 := σ) zM_X7_isSameFile dX7_isSameFile_51 rfl rfl rfl rfl ?_
      refine zw_getR (a := b8) zM_X7_isSameFile dX7_isSameFile_52 zF_7_22 rfl hk1 hr9 ?_
      refine zw_bipush (v := 100) zM_X7_isSameFile dX7_isSameFile_55 (by decide) ?_
      refine zw_go (pc1 := 58) (L1 := [some (.ref a0), some (.int x1), some (.int x2), some (.int x3), some (.int x4)]) (st1 := [.int x2, .int 100, .ref b8, .int (zI σ b8 (Int32.toNatClampNeg ((100 * x1) + x4)))]) (σ1 := σ) zM_X7_isSameFile dX7_isSameFile_57 rfl rfl rfl rfl ?_
      refine zw_go (pc1 := 59) (L1 := [some (.ref a0), some (.int x1), some (.int x2), some (.int x3), some (.int x4)]) (st1 := [.int (100 * x2), .ref b8, .int (zI σ b8 (Int32.toNatClampNeg ((100 * x1) + x4)))]) (σ1 := σ) zM_X7_isSameFile dX7_isSameFile_58 rfl rfl rfl rfl ?_
      refine zw_go (pc1 := 61) (L1 := [some (.ref a0), some (.int x1), some (.int x2), some (.int x3), some (.int x4)]) (st1 := [.int x4, .int (100 * x2), .ref b8, .int (zI σ b8 (Int32.toNatClampNeg ((100 * x1) + x4)))]) (σ1 := σ) zM_X7_isSameFile dX7_isSameFile_59 rfl rfl rfl rfl ?_
      refine zw_go (pc1 := 62) (L1 := [some (.ref a0), some (.int x1), some (.int x2), some (.int x3), some (.int x4)]) (st1 := [.int ((100 * x2) + x4), .ref b8, .int (zI σ b8 (Int32.toNatClampNeg ((100 * x1) + x4)))]) (σ1 := σ) zM_X7_isSameFile dX7_isSameFile_61 rfl rfl rfl rfl ?_
      obtain ⟨hi12, h⟩ := h
      refine zw_iald zM_X7_isSameFile dX7_isSameFile_62 ⟨Or.inl hk10, hi12⟩ ?_
      refine zw_icmp_ne (tgt := 70) zM_X7_isSameFile dX7_isSameFile_63 rfl rfl (fun q => ?_) (fun q => ?_)
      · replace h := h.1 q
        refine zw_iconst (v := 0) zM_X7_isSameFile dX7_isSameFile_70 (by decide) ?_
        exact zw_weak2 h ⟨rfl, rfl, rfl, rfl, trivial⟩
      · replace h := h.2 q
        refine zw_iconst (v := 1) zM_X7_isSameFile dX7_isSameFile_66 (by decide) ?_
        refine zw_goto (tgt := 71) zM_X7_isSameFile dX7_isSameFile_67 rfl ?_
        exact zw_weak2 h ⟨rfl, rfl, rfl, rfl, trivial⟩
set_option maxHeartbeats 4000000 in
set_option maxRecDepth 100000 in
theorem vc_X7_isSameFile_71 (a0 : Nat) (x1 : Int32) (x2 : Int32) (x4 : Int32) (y0 : Int32) (σ : zx_S) (K : Int32 → zx_S → Prop) (h : zwI 168 24 [some (.ref a0), some (.int x1), some (.int x2), some (.int y0), some (.int (x4 + Int32.ofInt 1))] [] σ K) : zwI 168 71 [some (.ref a0), some (.int x1), some (.int x2), none, some (.int x4)] [.int y0] σ K := by
  refine zw_go (pc1 := 72) (L1 := [some (.ref a0), some (.int x1), some (.int x2), some (.int y0), some (.int x4)]) (st1 := []) (σ1 := σ) zM_X7_isSameFile dX7_isSameFile_71 rfl rfl rfl rfl ?_
  refine zw_go (pc1 := 75) (L1 := [some (.ref a0), some (.int x1), some (.int x2), some (.int y0), some (.int (x4 + Int32.ofInt 1))]) (st1 := []) (σ1 := σ) zM_X7_isSameFile dX7_isSameFile_72 rfl rfl rfl rfl ?_
  refine zw_goto (tgt := 24) zM_X7_isSameFile dX7_isSameFile_75 rfl ?_
  exact zw_weak2 h ⟨rfl, rfl, rfl, rfl, rfl, trivial⟩
set_option maxHeartbeats 4000000 in
set_option maxRecDepth 100000 in
theorem vc_X7_isThere_0 (a0 : Nat) (x1 : Int32) (x2 : Int32) (σ : zx_S) (K : Int32 → zx_S → Prop) (h : zwI 169 5 [some (.ref a0), some (.int x1), some (.int x2), some (.int 0), some (.int 0)] [] σ K) : zwI 169 0 [some (.ref a0), some (.int x1), some (.int x2), none, none] [] σ K := by
  refine zw_iconst (v := 0) zM_X7_isThere dX7_isThere_0 (by decide) ?_
  refine zw_go (pc1 := 2) (L1 := [some (.ref a0), some (.int x1), some (.int x2), some (.int 0), none]) (st1 := []) (σ1 := σ) zM_X7_isThere dX7_isThere_1 rfl rfl rfl rfl ?_
  refine zw_iconst (v := 0) zM_X7_isThere dX7_isThere_2 (by decide) ?_
  refine zw_go (pc1 := 5) (L1 := [some (.ref a0), some (.int x1), some (.int x2), some (.int 0), some (.int 0)]) (st1 := []) (σ1 := σ) zM_X7_isThere dX7_isThere_3 rfl rfl rfl rfl ?_
  exact zw_weak2 h ⟨rfl, rfl, rfl, rfl, rfl, trivial⟩
set_option maxHeartbeats 4000000 in
set_option maxRecDepth 100000 in
theorem vc_X7_isThere_5 (a0 : Nat) (x1 : Int32) (x2 : Int32) (x3 : Int32) (x4 : Int32) (σ : zx_S) (K : Int32 → zx_S → Prop) (h : zK σ a0 = 20 ∧ (((zI σ a0 7) ≤ x4 → (x3 = 0 ∨ x3 = 1) ∧ K x3 σ) ∧ (¬ (zI σ a0 7) ≤ x4 → ((¬ x3 = (0 : Int32) → zwI 169 40 [some (.ref a0), some (.int x1), some (.int x2), none, some (.int x4)] [] σ K) ∧ (x3 = (0 : Int32) → ∃ b3 : Nat, zR σ a0 8 = some b3 ∧ zK σ b3 = 1 ∧ zx_in x4 (zN σ b3) = true ∧ ((¬ (zI σ b3 (Int32.toNatClampNeg x4)) = x1 → zwI 169 44 [some (.ref a0), some (.int x1), some (.int x2), none, some (.int x4)] [] σ K) ∧ ((zI σ b3 (Int32.toNatClampNeg x4)) = x1 → ∃ b7 : Nat, zR σ a0 9 = some b7 ∧ zK σ b7 = 1 ∧ zx_in x4 (zN σ b7) = true ∧ ((¬ (zI σ b7 (Int32.toNatClampNeg x4)) = x2 → zwI 169 44 [some (.ref a0), some (.int x1), some (.int x2), none, some (.int x4)] [] σ K) ∧ ((zI σ b7 (Int32.toNatClampNeg x4)) = x2 → zwI 169 40 [some (.ref a0), some (.int x1), some (.int x2), none, some (.int x4)] [] σ K))))))))) : zwI 169 5 [some (.ref a0), some (.int x1), some (.int x2), some (.int x3), some (.int x4)] [] σ K := by
  refine zw_go (pc1 := 7) (L1 := [some (.ref a0), some (.int x1), some (.int x2), some (.int x3), some (.int x4)]) (st1 := [.int x4]) (σ1 := σ) zM_X7_isThere dX7_isThere_5 rfl rfl rfl rfl ?_
  refine zw_go (pc1 := 8) (L1 := [some (.ref a0), some (.int x1), some (.int x2), some (.int x3), some (.int x4)]) (st1 := [.ref a0, .int x4]) (σ1 := σ) zM_X7_isThere dX7_isThere_7 rfl rfl rfl rfl ?_
  obtain ⟨hk1, h⟩ := h
  refine zw_getI zM_X7_isThere dX7_isThere_8 zF_7_105 rfl hk1 ?_
  refine zw_icmp_ge (tgt := 52) zM_X7_isThere dX7_isThere_11 rfl rfl (fun q => ?_) (fun q => ?_)
  · replace h := h.1 q
    refine zw_go (pc1 := 53) (L1 := [some (.ref a0), some (.int x1), some (.int x2), some (.int x3), some (.int x4)]) (st1 := [.int x3]) (σ1 := σ) zM_X7_isThere dX7_isThere_52 rfl rfl rfl rfl ?_
    obtain ⟨hv2, h⟩ := h
    exact zw_retz zM_X7_isThere dX7_isThere_53 rfl hv2 h
  · replace h := h.2 q
    refine zw_go (pc1 := 15) (L1 := [some (.ref a0), some (.int x1), some (.int x2), some (.int x3), some (.int x4)]) (st1 := [.int x3]) (σ1 := σ) zM_X7_isThere dX7_isThere_14 rfl rfl rfl rfl ?_
    refine zw_if_ne (tgt := 40) zM_X7_isThere dX7_isThere_15 rfl rfl (fun q => ?_) (fun q => ?_)
    · replace h := h.1 q
      exact zw_weak2 h ⟨rfl, rfl, rfl, rfl, trivial⟩
    · replace h := h.2 q
      refine zw_go (pc1 := 19) (L1 := [some (.ref a0), some (.int x1), some (.int x2), some (.int x3), some (.int x4)]) (st1 := [.ref a0]) (σ1 := σ) zM_X7_isThere dX7_isThere_18 rfl rfl rfl rfl ?_
      obtain ⟨b3, hr4, h⟩ := h
      refine zw_getR (a := b3) zM_X7_isThere dX7_isThere_19 zF_7_25 rfl hk1 hr4 ?_
      refine zw_go (pc1 := 24) (L1 := [some (.ref a0), some (.int x1), some (.int x2), some (.int x3), some (.int x4)]) (st1 := [.int x4, .ref b3]) (σ1 := σ) zM_X7_isThere dX7_isThere_22 rfl rfl rfl rfl ?_
      obtain ⟨hk5, h⟩ := h
      obtain ⟨hi6, h⟩ := h
      refine zw_iald zM_X7_isThere dX7_isThere_24 ⟨Or.inl hk5, hi6⟩ ?_
      refine zw_go (pc1 := 26) (L1 := [some (.ref a0), some (.int x1), some (.int x2), some (.int x3), some (.int x4)]) (st1 := [.int x1, .int (zI σ b3 (Int32.toNatClampNeg x4))]) (σ1 := σ) zM_X7_isThere dX7_isThere_25 rfl rfl rfl rfl ?_
      refine zw_icmp_ne (tgt := 44) zM_X7_isThere dX7_isThere_26 rfl rfl (fun q => ?_) (fun q => ?_)
      · replace h := h.1 q
        exact zw_weak2 h ⟨rfl, rfl, rfl, rfl, trivial⟩
      · replace h := h.2 q
        refine zw_go (pc1 := 30) (L1 := [some (.ref a0), some (.int x1), some (.int x2), some (.int x3), some (.int x4)]) (st1 := [.ref a0]) (σ1 := σ) zM_X7_isThere dX7_isThere_29 rfl rfl rfl rfl ?_
        obtain ⟨b7, hr8, h⟩ := h
        refine zw_getR (a := b7) zM_X7_isThere dX7_isThere_30 zF_7_28 rfl hk1 hr8 ?_
        refine zw_go (pc1 := 35) (L1 := [some (.ref a0), some (.int x1), some (.int x2), some (.int x3), some (.int x4)]) (st1 := [.int x4, .ref b7]) (σ1 := σ) zM_X7_isThere dX7_isThere_33 rfl rfl rfl rfl ?_
        obtain ⟨hk9, h⟩ := h
        obtain ⟨hi10, h⟩ := h
        refine zw_iald zM_X7_isThere dX7_isThere_35 ⟨Or.inl hk9, hi10⟩ ?_
        refine zw_go (pc1 := 37) (L1 := [some (.ref a0), some (.int x1), some (.int x2), some (.int x3), some (.int x4)]) (st1 := [.int x2, .int (zI σ b7 (Int32.toNatClampNeg x4))]) (σ1 := σ) zM_X7_isThere dX7_isThere_36 rfl rfl rfl rfl ?_
        refine zw_icmp_ne (tgt := 44) zM_X7_isThere dX7_isThere_37 rfl rfl (fun q => ?_) (fun q => ?_)
        · replace h := h.1 q
          exact zw_weak2 h ⟨rfl, rfl, rfl, rfl, trivial⟩
        · replace h := h.2 q
          exact zw_weak2 h ⟨rfl, rfl, rfl, rfl, trivial⟩
set_option maxHeartbeats 4000000 in
set_option maxRecDepth 100000 in
theorem vc_X7_isThere_40 (a0 : Nat) (x1 : Int32) (x2 : Int32) (x4 : Int32) (σ : zx_S) (K : Int32 → zx_S → Prop) (h : zwI 169 45 [some (.ref a0), some (.int x1), some (.int x2), none, some (.int x4)] [.int 1] σ K) : zwI 169 40 [some (.ref a0), some (.int x1), some (.int x2), none, some (.int x4)] [] σ K := by
  refine zw_iconst (v := 1) zM_X7_isThere dX7_isThere_40 (by decide) ?_
  refine zw_goto (tgt := 45) zM_X7_isThere dX7_isThere_41 rfl ?_
  exact zw_weak2 h ⟨rfl, rfl, rfl, rfl, trivial⟩
set_option maxHeartbeats 4000000 in
set_option maxRecDepth 100000 in
theorem vc_X7_isThere_44 (a0 : Nat) (x1 : Int32) (x2 : Int32) (x4 : Int32) (σ : zx_S) (K : Int32 → zx_S → Prop) (h : zwI 169 45 [some (.ref a0), some (.int x1), some (.int x2), none, some (.int x4)] [.int 0] σ K) : zwI 169 44 [some (.ref a0), some (.int x1), some (.int x2), none, some (.int x4)] [] σ K := by
  refine zw_iconst (v := 0) zM_X7_isThere dX7_isThere_44 (by decide) ?_
  exact zw_weak2 h ⟨rfl, rfl, rfl, rfl, trivial⟩
set_option maxHeartbeats 4000000 in
set_option maxRecDepth 100000 in
theorem vc_X7_isThere_45 (a0 : Nat) (x1 : Int32) (x2 : Int32) (x4 : Int32) (y0 : Int32) (σ : zx_S) (K : Int32 → zx_S → Prop) (h : zwI 169 5 [some (.ref a0), some (.int x1), some (.int x2), some (.int y0), some (.int (x4 + Int32.ofInt 1))] [] σ K) : zwI 169 45 [some (.ref a0), some (.int x1), some (.int x2), none, some (.int x4)] [.int y0] σ K := by
  refine zw_go (pc1 := 46) (L1 := [some (.ref a0), some (.int x1), some (.int x2), some (.int y0), some (.int x4)]) (st1 := []) (σ1 := σ) zM_X7_isThere dX7_isThere_45 rfl rfl rfl rfl ?_
  refine zw_go (pc1 := 49) (L1 := [some (.ref a0), some (.int x1), some (.int x2), some (.int y0), some (.int (x4 + Int32.ofInt 1))]) (st1 := []) (σ1 := σ) zM_X7_isThere dX7_isThere_46 rfl rfl rfl rfl ?_
  refine zw_goto (tgt := 5) zM_X7_isThere dX7_isThere_49 rfl ?_
  exact zw_weak2 h ⟨rfl, rfl, rfl, rfl, rfl, trivial⟩
set_option maxHeartbeats 4000000 in
set_option maxRecDepth 100000 in
theorem vc_X7_isTree_0 (a0 : Nat) (x1 : Int32) (x2 : Int32) (σ : zx_S) (K : Int32 → zx_S → Prop) (h : zK σ a0 = 20 ∧ zwI 162 0 [some (.ref a0), some (.int x1), some (.int 1)] [] σ (fun v3 σ2 => zK σ2 a0 = 20 ∧ zwI 143 0 [some (.ref a0), some (.int x1), some (.int v3)] [] σ2 (fun v6 σ5 => ((¬ v6 = (1 : Int32) → K 0 σ5) ∧ (v6 = (1 : Int32) → zK σ5 a0 = 20 ∧ zwI 143 0 [some (.ref a0), some (.int x1), some (.int (v3 + 5))] [] σ5 (fun v9 σ8 => ((¬ v9 = (1 : Int32) → K 0 σ8) ∧ (v9 = (1 : Int32) → zK σ8 a0 = 20 ∧ zwI 210 0 [some (.ref a0), some (.int x1), some (.int (v3 + 10))] [] σ8 (fun v12 σ11 => ((¬ v12 = (1 : Int32) → K 0 σ11) ∧ (v12 = (1 : Int32) → zK σ11 a0 = 20 ∧ zwI 183 0 [some (.ref a0), some (.int x1), some (.int x2), some (.int 1), some (.int 0), none, none, none, none] [] σ11 (fun v15 σ14 => ((v15 ≤ (0 : Int32) → zwI 170 58 [some (.ref a0), some (.int x1), some (.int x2), none, some (.int 2), none, none] [] σ14 K) ∧ (¬ v15 ≤ (0 : Int32) → K 0 σ14)))))))))))))) : zwI 170 0 [some (.ref a0), some (.int x1), some (.int x2), none, none, none, none] [] σ K := by
  refine zw_go (pc1 := 1) (L1 := [some (.ref a0), some (.int x1), some (.int x2), none, none, none, none]) (st1 := [.ref a0]) (σ1 := σ) zM_X7_isTree dX7_isTree_0 rfl rfl rfl rfl ?_
  refine zw_go (pc1 := 2) (L1 := [some (.ref a0), some (.int x1), some (.int x2), none, none, none, none]) (st1 := [.int x1, .ref a0]) (σ1 := σ) zM_X7_isTree dX7_isTree_1 rfl rfl rfl rfl ?_
  refine zw_iconst (v := 1) zM_X7_isTree dX7_isTree_2 (by decide) ?_
  obtain ⟨hk1, h⟩ := h
  refine zw_callI (as := [.ref a0, .int x1, .int 1]) (rest := []) zM_X7_isTree dX7_isTree_3 (zx_calV zC_7_226) zM_X7_inode rfl rfl rfl rfl rfl (zx_args0 hk1 rfl) rfl h (fun v3 σ2 h => ?_)
  refine zw_go (pc1 := 7) (L1 := [some (.ref a0), some (.int x1), some (.int x2), some (.int v3), none, none, none]) (st1 := []) (σ1 := σ2) zM_X7_isTree dX7_isTree_6 rfl rfl rfl rfl ?_
  refine zw_go (pc1 := 8) (L1 := [some (.ref a0), some (.int x1), some (.int x2), some (.int v3), none, none, none]) (st1 := [.ref a0]) (σ1 := σ2) zM_X7_isTree dX7_isTree_7 rfl rfl rfl rfl ?_
  refine zw_go (pc1 := 9) (L1 := [some (.ref a0), some (.int x1), some (.int x2), some (.int v3), none, none, none]) (st1 := [.int x1, .ref a0]) (σ1 := σ2) zM_X7_isTree dX7_isTree_8 rfl rfl rfl rfl ?_
  refine zw_go (pc1 := 10) (L1 := [some (.ref a0), some (.int x1), some (.int x2), some (.int v3), none, none, none]) (st1 := [.int v3, .int x1, .ref a0]) (σ1 := σ2) zM_X7_isTree dX7_isTree_9 rfl rfl rfl rfl ?_
  obtain ⟨hk4, h⟩ := h
  refine zw_callI (as := [.ref a0, .int x1, .int v3]) (rest := []) zM_X7_isTree dX7_isTree_10 (zx_calV zC_7_198) zM_X7_byteAt rfl rfl rfl rfl rfl (zx_args0 hk4 rfl) rfl h (fun v6 σ5 h => ?_)
  refine zw_iconst (v := 1) zM_X7_isTree dX7_isTree_13 (by decide) ?_
  refine zw_icmp_ne (tgt := 53) zM_X7_isTree dX7_isTree_14 rfl rfl (fun q => ?_) (fun q => ?_)
  · replace h := h.1 q
    refine zw_iconst (v := 0) zM_X7_isTree dX7_isTree_53 (by decide) ?_
    exact zw_retz zM_X7_isTree dX7_isTree_54 rfl (by decide) h
  · replace h := h.2 q
    refine zw_go (pc1 := 18) (L1 := [some (.ref a0), some (.int x1), some (.int x2), some (.int v3), none, none, none]) (st1 := [.ref a0]) (σ1 := σ5) zM_X7_isTree dX7_isTree_17 rfl rfl rfl rfl ?_
    refine zw_go (pc1 := 19) (L1 := [some (.ref a0), some (.int x1), some (.int x2), some (.int v3), none, none, none]) (st1 := [.int x1, .ref a0]) (σ1 := σ5) zM_X7_isTree dX7_isTree_18 rfl rfl rfl rfl ?_
    refine zw_go (pc1 := 20) (L1 := [some (.ref a0), some (.int x1), some (.int x2), some (.int v3), none, none, none]) (st1 := [.int v3, .int x1, .ref a0]) (σ1 := σ5) zM_X7_isTree dX7_isTree_19 rfl rfl rfl rfl ?_
    refine zw_iconst (v := 5) zM_X7_isTree dX7_isTree_20 (by decide) ?_
    refine zw_go (pc1 := 22) (L1 := [some (.ref a0), some (.int x1), some (.int x2), some (.int v3), none, none, none]) (st1 := [.int (v3 + 5), .int x1, .ref a0]) (σ1 := σ5) zM_X7_isTree dX7_isTree_21 rfl rfl rfl rfl ?_
    obtain ⟨hk7, h⟩ := h
    refine zw_callI (as := [.ref a0, .int x1, .int (v3 + 5)]) (rest := []) zM_X7_isTree dX7_isTree_22 (zx_calV zC_7_198) zM_X7_byteAt rfl rfl rfl rfl rfl (zx_args0 hk7 rfl) rfl h (fun v9 σ8 h => ?_)
    refine zw_iconst (v := 1) zM_X7_isTree dX7_isTree_25 (by decide) ?_
    refine zw_icmp_ne (tgt := 53) zM_X7_isTree dX7_isTree_26 rfl rfl (fun q => ?_) (fun q => ?_)
    · replace h := h.1 q
      refine zw_iconst (v := 0) zM_X7_isTree dX7_isTree_53 (by decide) ?_
      exact zw_retz zM_X7_isTree dX7_isTree_54 rfl (by decide) h
    · replace h := h.2 q
      refine zw_go (pc1 := 30) (L1 := [some (.ref a0), some (.int x1), some (.int x2), some (.int v3), none, none, none]) (st1 := [.ref a0]) (σ1 := σ8) zM_X7_isTree dX7_isTree_29 rfl rfl rfl rfl ?_
      refine zw_go (pc1 := 31) (L1 := [some (.ref a0), some (.int x1), some (.int x2), some (.int v3), none, none, none]) (st1 := [.int x1, .ref a0]) (σ1 := σ8) zM_X7_isTree dX7_isTree_30 rfl rfl rfl rfl ?_
      refine zw_go (pc1 := 32) (L1 := [some (.ref a0), some (.int x1), some (.int x2), some (.int v3), none, none, none]) (st1 := [.int v3, .int x1, .ref a0]) (σ1 := σ8) zM_X7_isTree dX7_isTree_31 rfl rfl rfl rfl ?_
      refine zw_bipush (v := 10) zM_X7_isTree dX7_isTree_32 (by decide) ?_
      refine zw_go (pc1 := 35) (L1 := [some (.ref a0), some (.int x1), some (.int x2), some (.int v3), none, none, none]) (st1 := [.int (v3 + 10), .int x1, .ref a0]) (σ1 := σ8) zM_X7_isTree dX7_isTree_34 rfl rfl rfl rfl ?_
      obtain ⟨hk10, h⟩ := h
      refine zw_callI (as := [.ref a0, .int x1, .int (v3 + 10)]) (rest := []) zM_X7_isTree dX7_isTree_35 (zx_calV zC_7_201) zM_X7_word rfl rfl rfl rfl rfl (zx_args0 hk10 rfl) rfl h (fun v12 σ11 h => ?_)
      refine zw_iconst (v := 1) zM_X7_isTree dX7_isTree_38 (by decide) ?_
      refine zw_icmp_ne (tgt := 53) zM_X7_isTree dX7_isTree_39 rfl rfl (fun q => ?_) (fun q => ?_)
      · replace h := h.1 q
        refine zw_iconst (v := 0) zM_X7_isTree dX7_isTree_53 (by decide) ?_
        exact zw_retz zM_X7_isTree dX7_isTree_54 rfl (by decide) h
      · replace h := h.2 q
        refine zw_go (pc1 := 43) (L1 := [some (.ref a0), some (.int x1), some (.int x2), some (.int v3), none, none, none]) (st1 := [.ref a0]) (σ1 := σ11) zM_X7_isTree dX7_isTree_42 rfl rfl rfl rfl ?_
        refine zw_go (pc1 := 44) (L1 := [some (.ref a0), some (.int x1), some (.int x2), some (.int v3), none, none, none]) (st1 := [.int x1, .ref a0]) (σ1 := σ11) zM_X7_isTree dX7_isTree_43 rfl rfl rfl rfl ?_
        refine zw_go (pc1 := 45) (L1 := [some (.ref a0), some (.int x1), some (.int x2), some (.int v3), none, none, none]) (st1 := [.int x2, .int x1, .ref a0]) (σ1 := σ11) zM_X7_isTree dX7_isTree_44 rfl rfl rfl rfl ?_
        refine zw_iconst (v := 1) zM_X7_isTree dX7_isTree_45 (by decide) ?_
        refine zw_iconst (v := 0) zM_X7_isTree dX7_isTree_46 (by decide) ?_
        obtain ⟨hk13, h⟩ := h
        refine zw_callI (as := [.ref a0, .int x1, .int x2, .int 1, .int 0]) (rest := []) zM_X7_isTree dX7_isTree_47 (zx_calV zC_7_247) zM_X7_named rfl rfl rfl rfl rfl (zx_args0 hk13 rfl) rfl h (fun v15 σ14 h => ?_)
        refine zw_if_le (tgt := 55) zM_X7_isTree dX7_isTree_50 rfl rfl (fun q => ?_) (fun q => ?_)
        · replace h := h.1 q
          refine zw_iconst (v := 2) zM_X7_isTree dX7_isTree_55 (by decide) ?_
          refine zw_go (pc1 := 58) (L1 := [some (.ref a0), some (.int x1), some (.int x2), some (.int v3), some (.int 2), none, none]) (st1 := []) (σ1 := σ14) zM_X7_isTree dX7_isTree_56 rfl rfl rfl rfl ?_
          exact zw_weak2 h ⟨rfl, rfl, rfl, rfl, trivial⟩
        · replace h := h.2 q
          refine zw_iconst (v := 0) zM_X7_isTree dX7_isTree_53 (by decide) ?_
          exact zw_retz zM_X7_isTree dX7_isTree_54 rfl (by decide) h
set_option maxHeartbeats 4000000 in
set_option maxRecDepth 100000 in
theorem vc_X7_isTree_58 (a0 : Nat) (x1 : Int32) (x2 : Int32) (x4 : Int32) (σ : zx_S) (K : Int32 → zx_S → Prop) (h : ((x2 < x4 → zwI 170 156 [some (.ref a0), some (.int x1), some (.int x2), none, some (.int 2), none, none] [] σ K) ∧ (¬ x2 < x4 → zK σ a0 = 20 ∧ zwI 183 0 [some (.ref a0), some (.int x1), some (.int x2), some (.int x4), some (.int 0), none, none, none, none] [] σ (fun v3 σ2 => zK σ2 a0 = 20 ∧ zwI 162 0 [some (.ref a0), some (.int x1), some (.int x4)] [] σ2 (fun v6 σ5 => ((v3 = (0 : Int32) → K 0 σ5) ∧ (¬ v3 = (0 : Int32) → zK σ5 a0 = 20 ∧ zwI 143 0 [some (.ref a0), some (.int x1), some (.int (v6 + 5))] [] σ5 (fun v9 σ8 => ((¬ v3 = v9 → K 0 σ8) ∧ (v3 = v9 → zK σ8 a0 = 20 ∧ zwI 143 0 [some (.ref a0), some (.int x1), some (.int v6)] [] σ8 (fun v12 σ11 => ((v12 = (2 : Int32) → zwI 170 122 [some (.ref a0), some (.int x1), some (.int x2), none, some (.int x4), none, none] [] σ11 K) ∧ (¬ v12 = (2 : Int32) → ((v3 ≤ (1 : Int32) → zwI 170 122 [some (.ref a0), some (.int x1), some (.int x2), none, some (.int x4), none, none] [] σ11 K) ∧ (¬ v3 ≤ (1 : Int32) → K 0 σ11))))))))))))))) : zwI 170 58 [some (.ref a0), some (.int x1), some (.int x2), none, some (.int x4), none, none] [] σ K := by
  refine zw_go (pc1 := 60) (L1 := [some (.ref a0), some (.int x1), some (.int x2), none, some (.int x4), none, none]) (st1 := [.int x4]) (σ1 := σ) zM_X7_isTree dX7_isTree_58 rfl rfl rfl rfl ?_
  refine zw_go (pc1 := 61) (L1 := [some (.ref a0), some (.int x1), some (.int x2), none, some (.int x4), none, none]) (st1 := [.int x2, .int x4]) (σ1 := σ) zM_X7_isTree dX7_isTree_60 rfl rfl rfl rfl ?_
  refine zw_icmp_gt (tgt := 153) zM_X7_isTree dX7_isTree_61 rfl rfl (fun q => ?_) (fun q => ?_)
  · replace h := h.1 q
    refine zw_iconst (v := 2) zM_X7_isTree dX7_isTree_153 (by decide) ?_
    refine zw_go (pc1 := 156) (L1 := [some (.ref a0), some (.int x1), some (.int x2), none, some (.int 2), none, none]) (st1 := []) (σ1 := σ) zM_X7_isTree dX7_isTree_154 rfl rfl rfl rfl ?_
    exact zw_weak2 h ⟨rfl, rfl, rfl, rfl, trivial⟩
  · replace h := h.2 q
    refine zw_go (pc1 := 65) (L1 := [some (.ref a0), some (.int x1), some (.int x2), none, some (.int x4), none, none]) (st1 := [.ref a0]) (σ1 := σ) zM_X7_isTree dX7_isTree_64 rfl rfl rfl rfl ?_
    refine zw_go (pc1 := 66) (L1 := [some (.ref a0), some (.int x1), some (.int x2), none, some (.int x4), none, none]) (st1 := [.int x1, .ref a0]) (σ1 := σ) zM_X7_isTree dX7_isTree_65 rfl rfl rfl rfl ?_
    refine zw_go (pc1 := 67) (L1 := [some (.ref a0), some (.int x1), some (.int x2), none, some (.int x4), none, none]) (st1 := [.int x2, .int x1, .ref a0]) (σ1 := σ) zM_X7_isTree dX7_isTree_66 rfl rfl rfl rfl ?_
    refine zw_go (pc1 := 69) (L1 := [some (.ref a0), some (.int x1), some (.int x2), none, some (.int x4), none, none]) (st1 := [.int x4, .int x2, .int x1, .ref a0]) (σ1 := σ) zM_X7_isTree dX7_isTree_67 rfl rfl rfl rfl ?_
    refine zw_iconst (v := 0) zM_X7_isTree dX7_isTree_69 (by decide) ?_
    obtain ⟨hk1, h⟩ := h
    refine zw_callI (as := [.ref a0, .int x1, .int x2, .int x4, .int 0]) (rest := []) zM_X7_isTree dX7_isTree_70 (zx_calV zC_7_247) zM_X7_named rfl rfl rfl rfl rfl (zx_args0 hk1 rfl) rfl h (fun v3 σ2 h => ?_)
    refine zw_go (pc1 := 75) (L1 := [some (.ref a0), some (.int x1), some (.int x2), none, some (.int x4), some (.int v3), none]) (st1 := []) (σ1 := σ2) zM_X7_isTree dX7_isTree_73 rfl rfl rfl rfl ?_
    refine zw_go (pc1 := 76) (L1 := [some (.ref a0), some (.int x1), some (.int x2), none, some (.int x4), some (.int v3), none]) (st1 := [.ref a0]) (σ1 := σ2) zM_X7_isTree dX7_isTree_75 rfl rfl rfl rfl ?_
    refine zw_go (pc1 := 77) (L1 := [some (.ref a0), some (.int x1), some (.int x2), none, some (.int x4), some (.int v3), none]) (st1 := [.int x1, .ref a0]) (σ1 := σ2) zM_X7_isTree dX7_isTree_76 rfl rfl rfl rfl ?_
    refine zw_go (pc1 := 79) (L1 := [some (.ref a0), some (.int x1), some (.int x2), none, some (.int x4), some (.int v3), none]) (st1 := [.int x4, .int x1, .ref a0]) (σ1 := σ2) zM_X7_isTree dX7_isTree_77 rfl rfl rfl rfl ?_
    obtain ⟨hk4, h⟩ := h
    refine zw_callI (as := [.ref a0, .int x1, .int x4]) (rest := []) zM_X7_isTree dX7_isTree_79 (zx_calV zC_7_226) zM_X7_inode rfl rfl rfl rfl rfl (zx_args0 hk4 rfl) rfl h (fun v6 σ5 h => ?_)
    refine zw_go (pc1 := 84) (L1 := [some (.ref a0), some (.int x1), some (.int x2), none, some (.int x4), some (.int v3), some (.int v6)]) (st1 := []) (σ1 := σ5) zM_X7_isTree dX7_isTree_82 rfl rfl rfl rfl ?_
    refine zw_go (pc1 := 86) (L1 := [some (.ref a0), some (.int x1), some (.int x2), none, some (.int x4), some (.int v3), some (.int v6)]) (st1 := [.int v3]) (σ1 := σ5) zM_X7_isTree dX7_isTree_84 rfl rfl rfl rfl ?_
    refine zw_if_eq (tgt := 120) zM_X7_isTree dX7_isTree_86 rfl rfl (fun q => ?_) (fun q => ?_)
    · replace h := h.1 q
      refine zw_iconst (v := 0) zM_X7_isTree dX7_isTree_120 (by decide) ?_
      exact zw_retz zM_X7_isTree dX7_isTree_121 rfl (by decide) h
    · replace h := h.2 q
      refine zw_go (pc1 := 91) (L1 := [some (.ref a0), some (.int x1), some (.int x2), none, some (.int x4), some (.int v3), some (.int v6)]) (st1 := [.int v3]) (σ1 := σ5) zM_X7_isTree dX7_isTree_89 rfl rfl rfl rfl ?_
      refine zw_go (pc1 := 92) (L1 := [some (.ref a0), some (.int x1), some (.int x2), none, some (.int x4), some (.int v3), some (.int v6)]) (st1 := [.ref a0, .int v3]) (σ1 := σ5) zM_X7_isTree dX7_isTree_91 rfl rfl rfl rfl ?_
      refine zw_go (pc1 := 93) (L1 := [some (.ref a0), some (.int x1), some (.int x2), none, some (.int x4), some (.int v3), some (.int v6)]) (st1 := [.int x1, .ref a0, .int v3]) (σ1 := σ5) zM_X7_isTree dX7_isTree_92 rfl rfl rfl rfl ?_
      refine zw_go (pc1 := 95) (L1 := [some (.ref a0), some (.int x1), some (.int x2), none, some (.int x4), some (.int v3), some (.int v6)]) (st1 := [.int v6, .int x1, .ref a0, .int v3]) (σ1 := σ5) zM_X7_isTree dX7_isTree_93 rfl rfl rfl rfl ?_
      refine zw_iconst (v := 5) zM_X7_isTree dX7_isTree_95 (by decide) ?_
      refine zw_go (pc1 := 97) (L1 := [some (.ref a0), some (.int x1), some (.int x2), none, some (.int x4), some (.int v3), some (.int v6)]) (st1 := [.int (v6 + 5), .int x1, .ref a0, .int v3]) (σ1 := σ5) zM_X7_isTree dX7_isTree_96 rfl rfl rfl rfl ?_
      obtain ⟨hk7, h⟩ := h
      refine zw_callI (as := [.ref a0, .int x1, .int (v6 + 5)]) (rest := [.int v3]) zM_X7_isTree dX7_isTree_97 (zx_calV zC_7_198) zM_X7_byteAt rfl rfl rfl rfl rfl (zx_args0 hk7 rfl) rfl h (fun v9 σ8 h => ?_)
      refine zw_icmp_ne (tgt := 120) zM_X7_isTree dX7_isTree_100 rfl rfl (fun q => ?_) (fun q => ?_)
      · replace h := h.1 q
        refine zw_iconst (v := 0) zM_X7_isTree dX7_isTree_120 (by decide) ?_
        exact zw_retz zM_X7_isTree dX7_isTree_121 rfl (by decide) h
      · replace h := h.2 q
        refine zw_go (pc1 := 104) (L1 := [some (.ref a0), some (.int x1), some (.int x2), none, some (.int x4), some (.int v3), some (.int v6)]) (st1 := [.ref a0]) (σ1 := σ8) zM_X7_isTree dX7_isTree_103 rfl rfl rfl rfl ?_
        refine zw_go (pc1 := 105) (L1 := [some (.ref a0), some (.int x1), some (.int x2), none, some (.int x4), some (.int v3), some (.int v6)]) (st1 := [.int x1, .ref a0]) (σ1 := σ8) zM_X7_isTree dX7_isTree_104 rfl rfl rfl rfl ?_
        refine zw_go (pc1 := 107) (L1 := [some (.ref a0), some (.int x1), some (.int x2), none, some (.int x4), some (.int v3), some (.int v6)]) (st1 := [.int v6, .int x1, .ref a0]) (σ1 := σ8) zM_X7_isTree dX7_isTree_105 rfl rfl rfl rfl ?_
        obtain ⟨hk10, h⟩ := h
        refine zw_callI (as := [.ref a0, .int x1, .int v6]) (rest := []) zM_X7_isTree dX7_isTree_107 (zx_calV zC_7_198) zM_X7_byteAt rfl rfl rfl rfl rfl (zx_args0 hk10 rfl) rfl h (fun v12 σ11 h => ?_)
        refine zw_iconst (v := 2) zM_X7_isTree dX7_isTree_110 (by decide) ?_
        refine zw_icmp_eq (tgt := 122) zM_X7_isTree dX7_isTree_111 rfl rfl (fun q => ?_) (fun q => ?_)
        · replace h := h.1 q
          exact zw_weak2 h ⟨rfl, rfl, rfl, rfl, trivial⟩
        · replace h := h.2 q
          refine zw_go (pc1 := 116) (L1 := [some (.ref a0), some (.int x1), some (.int x2), none, some (.int x4), some (.int v3), some (.int v6)]) (st1 := [.int v3]) (σ1 := σ11) zM_X7_isTree dX7_isTree_114 rfl rfl rfl rfl ?_
          refine zw_iconst (v := 1) zM_X7_isTree dX7_isTree_116 (by decide) ?_
          refine zw_icmp_le (tgt := 122) zM_X7_isTree dX7_isTree_117 rfl rfl (fun q => ?_) (fun q => ?_)
          · replace h := h.1 q
            exact zw_weak2 h ⟨rfl, rfl, rfl, rfl, trivial⟩
          · replace h := h.2 q
            refine zw_iconst (v := 0) zM_X7_isTree dX7_isTree_120 (by decide) ?_
            exact zw_retz zM_X7_isTree dX7_isTree_121 rfl (by decide) h
set_option maxHeartbeats 4000000 in
set_option maxRecDepth 100000 in
theorem vc_X7_isTree_122 (a0 : Nat) (x1 : Int32) (x2 : Int32) (x4 : Int32) (σ : zx_S) (K : Int32 → zx_S → Prop) (h : zK σ a0 = 20 ∧ zwI 164 0 [some (.ref a0), some (.int x1), some (.int x4)] [] σ (fun v3 σ2 => ((v3 = (0 : Int32) → zwI 170 147 [some (.ref a0), some (.int x1), some (.int x2), none, some (.int x4), none, none] [] σ2 K) ∧ (¬ v3 = (0 : Int32) → zK σ2 a0 = 20 ∧ zwI 183 0 [some (.ref a0), some (.int x1), some (.int x2), some (.int x4), some (.int 1), none, none, none, none] [] σ2 (fun v6 σ5 => ((v6 = (1 : Int32) → zwI 170 147 [some (.ref a0), some (.int x1), some (.int x2), none, some (.int x4), none, none] [] σ5 K) ∧ (¬ v6 = (1 : Int32) → K 0 σ5))))))) : zwI 170 122 [some (.ref a0), some (.int x1), some (.int x2), none, some (.int x4), none, none] [] σ K := by
  refine zw_go (pc1 := 123) (L1 := [some (.ref a0), some (.int x1), some (.int x2), none, some (.int x4), none, none]) (st1 := [.ref a0]) (σ1 := σ) zM_X7_isTree dX7_isTree_122 rfl rfl rfl rfl ?_
  refine zw_go (pc1 := 124) (L1 := [some (.ref a0), some (.int x1), some (.int x2), none, some (.int x4), none, none]) (st1 := [.int x1, .ref a0]) (σ1 := σ) zM_X7_isTree dX7_isTree_123 rfl rfl rfl rfl ?_
  refine zw_go (pc1 := 126) (L1 := [some (.ref a0), some (.int x1), some (.int x2), none, some (.int x4), none, none]) (st1 := [.int x4, .int x1, .ref a0]) (σ1 := σ) zM_X7_isTree dX7_isTree_124 rfl rfl rfl rfl ?_
  obtain ⟨hk1, h⟩ := h
  refine zw_callI (as := [.ref a0, .int x1, .int x4]) (rest := []) zM_X7_isTree dX7_isTree_126 (zx_calV zC_7_235) zM_X7_isFolder rfl rfl rfl rfl rfl (zx_args0 hk1 rfl) rfl h (fun v3 σ2 h => ?_)
  refine zw_if_eq (tgt := 147) zM_X7_isTree dX7_isTree_129 rfl rfl (fun q => ?_) (fun q => ?_)
  · replace h := h.1 q
    exact zw_weak2 h ⟨rfl, rfl, rfl, rfl, trivial⟩
  · replace h := h.2 q
    refine zw_go (pc1 := 133) (L1 := [some (.ref a0), some (.int x1), some (.int x2), none, some (.int x4), none, none]) (st1 := [.ref a0]) (σ1 := σ2) zM_X7_isTree dX7_isTree_132 rfl rfl rfl rfl ?_
    refine zw_go (pc1 := 134) (L1 := [some (.ref a0), some (.int x1), some (.int x2), none, some (.int x4), none, none]) (st1 := [.int x1, .ref a0]) (σ1 := σ2) zM_X7_isTree dX7_isTree_133 rfl rfl rfl rfl ?_
    refine zw_go (pc1 := 135) (L1 := [some (.ref a0), some (.int x1), some (.int x2), none, some (.int x4), none, none]) (st1 := [.int x2, .int x1, .ref a0]) (σ1 := σ2) zM_X7_isTree dX7_isTree_134 rfl rfl rfl rfl ?_
    refine zw_go (pc1 := 137) (L1 := [some (.ref a0), some (.int x1), some (.int x2), none, some (.int x4), none, none]) (st1 := [.int x4, .int x2, .int x1, .ref a0]) (σ1 := σ2) zM_X7_isTree dX7_isTree_135 rfl rfl rfl rfl ?_
    refine zw_iconst (v := 1) zM_X7_isTree dX7_isTree_137 (by decide) ?_
    obtain ⟨hk4, h⟩ := h
    refine zw_callI (as := [.ref a0, .int x1, .int x2, .int x4, .int 1]) (rest := []) zM_X7_isTree dX7_isTree_138 (zx_calV zC_7_247) zM_X7_named rfl rfl rfl rfl rfl (zx_args0 hk4 rfl) rfl h (fun v6 σ5 h => ?_)
    refine zw_iconst (v := 1) zM_X7_isTree dX7_isTree_141 (by decide) ?_
    refine zw_icmp_eq (tgt := 147) zM_X7_isTree dX7_isTree_142 rfl rfl (fun q => ?_) (fun q => ?_)
    · replace h := h.1 q
      exact zw_weak2 h ⟨rfl, rfl, rfl, rfl, trivial⟩
    · replace h := h.2 q
      refine zw_iconst (v := 0) zM_X7_isTree dX7_isTree_145 (by decide) ?_
      exact zw_retz zM_X7_isTree dX7_isTree_146 rfl (by decide) h
set_option maxHeartbeats 4000000 in
set_option maxRecDepth 100000 in
theorem vc_X7_isTree_147 (a0 : Nat) (x1 : Int32) (x2 : Int32) (x4 : Int32) (σ : zx_S) (K : Int32 → zx_S → Prop) (h : zwI 170 58 [some (.ref a0), some (.int x1), some (.int x2), none, some (.int (x4 + Int32.ofInt 1)), none, none] [] σ K) : zwI 170 147 [some (.ref a0), some (.int x1), some (.int x2), none, some (.int x4), none, none] [] σ K := by
  refine zw_go (pc1 := 150) (L1 := [some (.ref a0), some (.int x1), some (.int x2), none, some (.int (x4 + Int32.ofInt 1)), none, none]) (st1 := []) (σ1 := σ) zM_X7_isTree dX7_isTree_147 rfl rfl rfl rfl ?_
  refine zw_goto (tgt := 58) zM_X7_isTree dX7_isTree_150 rfl ?_
  exact zw_weak2 h ⟨rfl, rfl, rfl, rfl, trivial⟩
set_option maxHeartbeats 4000000 in
set_option maxRecDepth 100000 in
theorem vc_X7_isTree_156 (a0 : Nat) (x1 : Int32) (x2 : Int32) (x4 : Int32) (σ : zx_S) (K : Int32 → zx_S → Prop) (h : ((x2 < x4 → K 1 σ) ∧ (¬ x2 < x4 → zwI 170 169 [some (.ref a0), some (.int x1), some (.int x2), none, some (.int x4), some (.int x4), some (.int 0)] [] σ K))) : zwI 170 156 [some (.ref a0), some (.int x1), some (.int x2), none, some (.int x4), none, none] [] σ K := by
  refine zw_go (pc1 := 158) (L1 := [some (.ref a0), some (.int x1), some (.int x2), none, some (.int x4), none, none]) (st1 := [.int x4]) (σ1 := σ) zM_X7_isTree dX7_isTree_156 rfl rfl rfl rfl ?_
  refine zw_go (pc1 := 159) (L1 := [some (.ref a0), some (.int x1), some (.int x2), none, some (.int x4), none, none]) (st1 := [.int x2, .int x4]) (σ1 := σ) zM_X7_isTree dX7_isTree_158 rfl rfl rfl rfl ?_
  refine zw_icmp_gt (tgt := 238) zM_X7_isTree dX7_isTree_159 rfl rfl (fun q => ?_) (fun q => ?_)
  · replace h := h.1 q
    refine zw_iconst (v := 1) zM_X7_isTree dX7_isTree_238 (by decide) ?_
    exact zw_retz zM_X7_isTree dX7_isTree_239 rfl (by decide) h
  · replace h := h.2 q
    refine zw_go (pc1 := 164) (L1 := [some (.ref a0), some (.int x1), some (.int x2), none, some (.int x4), none, none]) (st1 := [.int x4]) (σ1 := σ) zM_X7_isTree dX7_isTree_162 rfl rfl rfl rfl ?_
    refine zw_go (pc1 := 166) (L1 := [some (.ref a0), some (.int x1), some (.int x2), none, some (.int x4), some (.int x4), none]) (st1 := []) (σ1 := σ) zM_X7_isTree dX7_isTree_164 rfl rfl rfl rfl ?_
    refine zw_iconst (v := 0) zM_X7_isTree dX7_isTree_166 (by decide) ?_
    refine zw_go (pc1 := 169) (L1 := [some (.ref a0), some (.int x1), some (.int x2), none, some (.int x4), some (.int x4), some (.int 0)]) (st1 := []) (σ1 := σ) zM_X7_isTree dX7_isTree_167 rfl rfl rfl rfl ?_
    exact zw_weak2 h ⟨rfl, rfl, rfl, rfl, rfl, rfl, trivial⟩
set_option maxHeartbeats 4000000 in
set_option maxRecDepth 100000 in
theorem vc_X7_isTree_169 (a0 : Nat) (x1 : Int32) (x2 : Int32) (x4 : Int32) (x5 : Int32) (x6 : Int32) (σ : zx_S) (K : Int32 → zx_S → Prop) (h : ((x2 < x6 → zwI 170 214 [some (.ref a0), some (.int x1), some (.int x2), none, some (.int x4), some (.int x5), none] [] σ K) ∧ (¬ x2 < x6 → ((x5 = (1 : Int32) → zwI 170 214 [some (.ref a0), some (.int x1), some (.int x2), none, some (.int x4), some (.int x5), none] [] σ K) ∧ (¬ x5 = (1 : Int32) → zK σ a0 = 20 ∧ zwI 164 0 [some (.ref a0), some (.int x1), some (.int x4)] [] σ (fun v3 σ2 => ((v3 = (0 : Int32) → zwI 170 214 [some (.ref a0), some (.int x1), some (.int x2), none, some (.int x4), some (.int x5), none] [] σ2 K) ∧ (¬ v3 = (0 : Int32) → zK σ2 a0 = 20 ∧ zwI 162 0 [some (.ref a0), some (.int x1), some (.int x5)] [] σ2 (fun v6 σ5 => zK σ5 a0 = 20 ∧ zwI 210 0 [some (.ref a0), some (.int x1), some (.int (v6 + 10))] [] σ5 (fun v9 σ8 => zwI 170 169 [some (.ref a0), some (.int x1), some (.int x2), none, some (.int x4), some (.int v9), some (.int (x6 + Int32.ofInt 1))] [] σ8 K)))))))))) : zwI 170 169 [some (.ref a0), some (.int x1), some (.int x2), none, some (.int x4), some (.int x5), some (.int x6)] [] σ K := by
  refine zw_go (pc1 := 171) (L1 := [some (.ref a0), some (.int x1), some (.int x2), none, some (.int x4), some (.int x5), some (.int x6)]) (st1 := [.int x6]) (σ1 := σ) zM_X7_isTree dX7_isTree_169 rfl rfl rfl rfl ?_
  refine zw_go (pc1 := 172) (L1 := [some (.ref a0), some (.int x1), some (.int x2), none, some (.int x4), some (.int x5), some (.int x6)]) (st1 := [.int x2, .int x6]) (σ1 := σ) zM_X7_isTree dX7_isTree_171 rfl rfl rfl rfl ?_
  refine zw_icmp_gt (tgt := 214) zM_X7_isTree dX7_isTree_172 rfl rfl (fun q => ?_) (fun q => ?_)
  · replace h := h.1 q
    exact zw_weak2 h ⟨rfl, rfl, rfl, rfl, rfl, trivial⟩
  · replace h := h.2 q
    refine zw_go (pc1 := 177) (L1 := [some (.ref a0), some (.int x1), some (.int x2), none, some (.int x4), some (.int x5), some (.int x6)]) (st1 := [.int x5]) (σ1 := σ) zM_X7_isTree dX7_isTree_175 rfl rfl rfl rfl ?_
    refine zw_iconst (v := 1) zM_X7_isTree dX7_isTree_177 (by decide) ?_
    refine zw_icmp_eq (tgt := 214) zM_X7_isTree dX7_isTree_178 rfl rfl (fun q => ?_) (fun q => ?_)
    · replace h := h.1 q
      exact zw_weak2 h ⟨rfl, rfl, rfl, rfl, rfl, trivial⟩
    · replace h := h.2 q
      refine zw_go (pc1 := 182) (L1 := [some (.ref a0), some (.int x1), some (.int x2), none, some (.int x4), some (.int x5), some (.int x6)]) (st1 := [.ref a0]) (σ1 := σ) zM_X7_isTree dX7_isTree_181 rfl rfl rfl rfl ?_
      refine zw_go (pc1 := 183) (L1 := [some (.ref a0), some (.int x1), some (.int x2), none, some (.int x4), some (.int x5), some (.int x6)]) (st1 := [.int x1, .ref a0]) (σ1 := σ) zM_X7_isTree dX7_isTree_182 rfl rfl rfl rfl ?_
      refine zw_go (pc1 := 185) (L1 := [some (.ref a0), some (.int x1), some (.int x2), none, some (.int x4), some (.int x5), some (.int x6)]) (st1 := [.int x4, .int x1, .ref a0]) (σ1 := σ) zM_X7_isTree dX7_isTree_183 rfl rfl rfl rfl ?_
      obtain ⟨hk1, h⟩ := h
      refine zw_callI (as := [.ref a0, .int x1, .int x4]) (rest := []) zM_X7_isTree dX7_isTree_185 (zx_calV zC_7_235) zM_X7_isFolder rfl rfl rfl rfl rfl (zx_args0 hk1 rfl) rfl h (fun v3 σ2 h => ?_)
      refine zw_if_eq (tgt := 214) zM_X7_isTree dX7_isTree_188 rfl rfl (fun q => ?_) (fun q => ?_)
      · replace h := h.1 q
        exact zw_weak2 h ⟨rfl, rfl, rfl, rfl, rfl, trivial⟩
      · replace h := h.2 q
        refine zw_go (pc1 := 192) (L1 := [some (.ref a0), some (.int x1), some (.int x2), none, some (.int x4), some (.int x5), some (.int x6)]) (st1 := [.ref a0]) (σ1 := σ2) zM_X7_isTree dX7_isTree_191 rfl rfl rfl rfl ?_
        refine zw_go (pc1 := 193) (L1 := [some (.ref a0), some (.int x1), some (.int x2), none, some (.int x4), some (.int x5), some (.int x6)]) (st1 := [.int x1, .ref a0]) (σ1 := σ2) zM_X7_isTree dX7_isTree_192 rfl rfl rfl rfl ?_
        refine zw_go (pc1 := 194) (L1 := [some (.ref a0), some (.int x1), some (.int x2), none, some (.int x4), some (.int x5), some (.int x6)]) (st1 := [.ref a0, .int x1, .ref a0]) (σ1 := σ2) zM_X7_isTree dX7_isTree_193 rfl rfl rfl rfl ?_
        refine zw_go (pc1 := 195) (L1 := [some (.ref a0), some (.int x1), some (.int x2), none, some (.int x4), some (.int x5), some (.int x6)]) (st1 := [.int x1, .ref a0, .int x1, .ref a0]) (σ1 := σ2) zM_X7_isTree dX7_isTree_194 rfl rfl rfl rfl ?_
        refine zw_go (pc1 := 197) (L1 := [some (.ref a0), some (.int x1), some (.int x2), none, some (.int x4), some (.int x5), some (.int x6)]) (st1 := [.int x5, .int x1, .ref a0, .int x1, .ref a0]) (σ1 := σ2) zM_X7_isTree dX7_isTree_195 rfl rfl rfl rfl ?_
        obtain ⟨hk4, h⟩ := h
        refine zw_callI (as := [.ref a0, .int x1, .int x5]) (rest := [.int x1, .ref a0]) zM_X7_isTree dX7_isTree_197 (zx_calV zC_7_226) zM_X7_inode rfl rfl rfl rfl rfl (zx_args0 hk4 rfl) rfl h (fun v6 σ5 h => ?_)
        refine zw_bipush (v := 10) zM_X7_isTree dX7_isTree_200 (by decide) ?_
        refine zw_go (pc1 := 203) (L1 := [some (.ref a0), some (.int x1), some (.int x2), none, some (.int x4), some (.int x5), some (.int x6)]) (st1 := [.int (v6 + 10), .int x1, .ref a0]) (σ1 := σ5) zM_X7_isTree dX7_isTree_202 rfl rfl rfl rfl ?_
        obtain ⟨hk7, h⟩ := h
        refine zw_callI (as := [.ref a0, .int x1, .int (v6 + 10)]) (rest := []) zM_X7_isTree dX7_isTree_203 (zx_calV zC_7_201) zM_X7_word rfl rfl rfl rfl rfl (zx_args0 hk7 rfl) rfl h (fun v9 σ8 h => ?_)
        refine zw_go (pc1 := 208) (L1 := [some (.ref a0), some (.int x1), some (.int x2), none, some (.int x4), some (.int v9), some (.int x6)]) (st1 := []) (σ1 := σ8) zM_X7_isTree dX7_isTree_206 rfl rfl rfl rfl ?_
        refine zw_go (pc1 := 211) (L1 := [some (.ref a0), some (.int x1), some (.int x2), none, some (.int x4), some (.int v9), some (.int (x6 + Int32.ofInt 1))]) (st1 := []) (σ1 := σ8) zM_X7_isTree dX7_isTree_208 rfl rfl rfl rfl ?_
        refine zw_goto (tgt := 169) zM_X7_isTree dX7_isTree_211 rfl ?_
        exact zw_weak2 h ⟨rfl, rfl, rfl, rfl, rfl, rfl, trivial⟩
set_option maxHeartbeats 4000000 in
set_option maxRecDepth 100000 in
theorem vc_X7_isTree_214 (a0 : Nat) (x1 : Int32) (x2 : Int32) (x4 : Int32) (x5 : Int32) (σ : zx_S) (K : Int32 → zx_S → Prop) (h : zK σ a0 = 20 ∧ zwI 164 0 [some (.ref a0), some (.int x1), some (.int x4)] [] σ (fun v3 σ2 => ((v3 = (0 : Int32) → zwI 170 232 [some (.ref a0), some (.int x1), some (.int x2), none, some (.int x4), none, none] [] σ2 K) ∧ (¬ v3 = (0 : Int32) → ((x5 = (1 : Int32) → zwI 170 232 [some (.ref a0), some (.int x1), some (.int x2), none, some (.int x4), none, none] [] σ2 K) ∧ (¬ x5 = (1 : Int32) → K 0 σ2)))))) : zwI 170 214 [some (.ref a0), some (.int x1), some (.int x2), none, some (.int x4), some (.int x5), none] [] σ K := by
  refine zw_go (pc1 := 215) (L1 := [some (.ref a0), some (.int x1), some (.int x2), none, some (.int x4), some (.int x5), none]) (st1 := [.ref a0]) (σ1 := σ) zM_X7_isTree dX7_isTree_214 rfl rfl rfl rfl ?_
  refine zw_go (pc1 := 216) (L1 := [some (.ref a0), some (.int x1), some (.int x2), none, some (.int x4), some (.int x5), none]) (st1 := [.int x1, .ref a0]) (σ1 := σ) zM_X7_isTree dX7_isTree_215 rfl rfl rfl rfl ?_
  refine zw_go (pc1 := 218) (L1 := [some (.ref a0), some (.int x1), some (.int x2), none, some (.int x4), some (.int x5), none]) (st1 := [.int x4, .int x1, .ref a0]) (σ1 := σ) zM_X7_isTree dX7_isTree_216 rfl rfl rfl rfl ?_
  obtain ⟨hk1, h⟩ := h
  refine zw_callI (as := [.ref a0, .int x1, .int x4]) (rest := []) zM_X7_isTree dX7_isTree_218 (zx_calV zC_7_235) zM_X7_isFolder rfl rfl rfl rfl rfl (zx_args0 hk1 rfl) rfl h (fun v3 σ2 h => ?_)
  refine zw_if_eq (tgt := 232) zM_X7_isTree dX7_isTree_221 rfl rfl (fun q => ?_) (fun q => ?_)
  · replace h := h.1 q
    exact zw_weak2 h ⟨rfl, rfl, rfl, rfl, trivial⟩
  · replace h := h.2 q
    refine zw_go (pc1 := 226) (L1 := [some (.ref a0), some (.int x1), some (.int x2), none, some (.int x4), some (.int x5), none]) (st1 := [.int x5]) (σ1 := σ2) zM_X7_isTree dX7_isTree_224 rfl rfl rfl rfl ?_
    refine zw_iconst (v := 1) zM_X7_isTree dX7_isTree_226 (by decide) ?_
    refine zw_icmp_eq (tgt := 232) zM_X7_isTree dX7_isTree_227 rfl rfl (fun q => ?_) (fun q => ?_)
    · replace h := h.1 q
      exact zw_weak2 h ⟨rfl, rfl, rfl, rfl, trivial⟩
    · replace h := h.2 q
      refine zw_iconst (v := 0) zM_X7_isTree dX7_isTree_230 (by decide) ?_
      exact zw_retz zM_X7_isTree dX7_isTree_231 rfl (by decide) h
set_option maxHeartbeats 4000000 in
set_option maxRecDepth 100000 in
theorem vc_X7_isTree_232 (a0 : Nat) (x1 : Int32) (x2 : Int32) (x4 : Int32) (σ : zx_S) (K : Int32 → zx_S → Prop) (h : zwI 170 156 [some (.ref a0), some (.int x1), some (.int x2), none, some (.int (x4 + Int32.ofInt 1)), none, none] [] σ K) : zwI 170 232 [some (.ref a0), some (.int x1), some (.int x2), none, some (.int x4), none, none] [] σ K := by
  refine zw_go (pc1 := 235) (L1 := [some (.ref a0), some (.int x1), some (.int x2), none, some (.int (x4 + Int32.ofInt 1)), none, none]) (st1 := []) (σ1 := σ) zM_X7_isTree dX7_isTree_232 rfl rfl rfl rfl ?_
  refine zw_goto (tgt := 156) zM_X7_isTree dX7_isTree_235 rfl ?_
  exact zw_weak2 h ⟨rfl, rfl, rfl, rfl, trivial⟩
set_option maxHeartbeats 4000000 in
set_option maxRecDepth 100000 in
theorem vc_X7_isView_0 (a0 : Nat) (x1 : Int32) (σ : zx_S) (K : Int32 → zx_S → Prop) (h : zK σ a0 = 20 ∧ zwI 160 0 [some (.int x1), some (.int 0), some (.int ((zI σ a0 37) - 1))] [] σ (fun v3 σ2 => (v3 = 0 ∨ v3 = 1) ∧ K v3 σ2)) : zwI 171 0 [some (.ref a0), some (.int x1)] [] σ K := by
  refine zw_go (pc1 := 1) (L1 := [some (.ref a0), some (.int x1)]) (st1 := [.int x1]) (σ1 := σ) zM_X7_isView dX7_isView_0 rfl rfl rfl rfl ?_
  refine zw_iconst (v := 0) zM_X7_isView dX7_isView_1 (by decide) ?_
  refine zw_go (pc1 := 3) (L1 := [some (.ref a0), some (.int x1)]) (st1 := [.ref a0, .int 0, .int x1]) (σ1 := σ) zM_X7_isView dX7_isView_2 rfl rfl rfl rfl ?_
  obtain ⟨hk1, h⟩ := h
  refine zw_getI zM_X7_isView dX7_isView_3 zF_7_269 rfl hk1 ?_
  refine zw_iconst (v := 1) zM_X7_isView dX7_isView_6 (by decide) ?_
  refine zw_go (pc1 := 8) (L1 := [some (.ref a0), some (.int x1)]) (st1 := [.int ((zI σ a0 37) - 1), .int 0, .int x1]) (σ1 := σ) zM_X7_isView dX7_isView_7 rfl rfl rfl rfl ?_
  refine zw_callI (as := [.int x1, .int 0, .int ((zI σ a0 37) - 1)]) (rest := []) zM_X7_isView dX7_isView_8 (zx_calS zC_7_101) zM_X7_in rfl rfl rfl rfl rfl rfl rfl h (fun v3 σ2 h => ?_)
  obtain ⟨hv4, h⟩ := h
  exact zw_retz zM_X7_isView dX7_isView_11 rfl hv4 h
set_option maxHeartbeats 4000000 in
set_option maxRecDepth 100000 in
theorem vc_X7_judge_0 (a0 : Nat) (x1 : Int32) (σ : zx_S) (K : Int32 → zx_S → Prop) (h : zK σ a0 = 20 ∧ ∃ b2 : Nat, zR σ a0 13 = some b2 ∧ zK σ b2 = 1 ∧ zx_in x1 (zN σ b2) = true ∧ (((zI σ b2 (Int32.toNatClampNeg x1)) < (18 : Int32) → K 1 σ) ∧ (¬ (zI σ b2 (Int32.toNatClampNeg x1)) < (18 : Int32) → zwI 143 0 [some (.ref a0), some (.int x1), some (.int 0)] [] σ (fun v7 σ6 => ((¬ v7 = (84 : Int32) → K 1 σ6) ∧ (v7 = (84 : Int32) → zK σ6 a0 = 20 ∧ zwI 143 0 [some (.ref a0), some (.int x1), some (.int 1)] [] σ6 (fun v10 σ9 => ((¬ v10 = (73 : Int32) → K 1 σ9) ∧ (v10 = (73 : Int32) → zK σ9 a0 = 20 ∧ zwI 143 0 [some (.ref a0), some (.int x1), some (.int 3)] [] σ9 (fun v13 σ12 => ((v13 = (0 : Int32) → zK σ12 a0 = 20 ∧ zwI 143 0 [some (.ref a0), some (.int x1), some (.int 2)] [] σ12 (fun v16 σ15 => ((v16 = (8 : Int32) → zwI 172 71 [some (.ref a0), some (.int x1), some (.int v16), none, none] [] σ15 K) ∧ (¬ v16 = (8 : Int32) → ((v16 = (16 : Int32) → zwI 172 71 [some (.ref a0), some (.int x1), some (.int v16), none, none] [] σ15 K) ∧ (¬ v16 = (16 : Int32) → ((v16 = (32 : Int32) → zwI 172 71 [some (.ref a0), some (.int x1), some (.int v16), none, none] [] σ15 K) ∧ (¬ v16 = (32 : Int32) → K 1 σ15)))))))) ∧ (¬ v13 = (0 : Int32) → K 1 σ12)))))))))))) : zwI 172 0 [some (.ref a0), some (.int x1), none, none, none] [] σ K := by
  refine zw_go (pc1 := 1) (L1 := [some (.ref a0), some (.int x1), none, none, none]) (st1 := [.ref a0]) (σ1 := σ) zM_X7_judge dX7_judge_0 rfl rfl rfl rfl ?_
  obtain ⟨hk1, h⟩ := h
  obtain ⟨b2, hr3, h⟩ := h
  refine zw_getR (a := b2) zM_X7_judge dX7_judge_1 zF_7_37 rfl hk1 hr3 ?_
  refine zw_go (pc1 := 5) (L1 := [some (.ref a0), some (.int x1), none, none, none]) (st1 := [.int x1, .ref b2]) (σ1 := σ) zM_X7_judge dX7_judge_4 rfl rfl rfl rfl ?_
  obtain ⟨hk4, h⟩ := h
  obtain ⟨hi5, h⟩ := h
  refine zw_iald zM_X7_judge dX7_judge_5 ⟨Or.inl hk4, hi5⟩ ?_
  refine zw_bipush (v := 18) zM_X7_judge dX7_judge_6 (by decide) ?_
  refine zw_icmp_lt (tgt := 42) zM_X7_judge dX7_judge_8 rfl rfl (fun q => ?_) (fun q => ?_)
  · replace h := h.1 q
    refine zw_iconst (v := 1) zM_X7_judge dX7_judge_42 (by decide) ?_
    exact zw_reti zM_X7_judge dX7_judge_43 rfl h
  · replace h := h.2 q
    refine zw_go (pc1 := 12) (L1 := [some (.ref a0), some (.int x1), none, none, none]) (st1 := [.ref a0]) (σ1 := σ) zM_X7_judge dX7_judge_11 rfl rfl rfl rfl ?_
    refine zw_go (pc1 := 13) (L1 := [some (.ref a0), some (.int x1), none, none, none]) (st1 := [.int x1, .ref a0]) (σ1 := σ) zM_X7_judge dX7_judge_12 rfl rfl rfl rfl ?_
    refine zw_iconst (v := 0) zM_X7_judge dX7_judge_13 (by decide) ?_
    refine zw_callI (as := [.ref a0, .int x1, .int 0]) (rest := []) zM_X7_judge dX7_judge_14 (zx_calV zC_7_198) zM_X7_byteAt rfl rfl rfl rfl rfl (zx_args0 hk1 rfl) rfl h (fun v7 σ6 h => ?_)
    refine zw_bipush (v := 84) zM_X7_judge dX7_judge_17 (by decide) ?_
    refine zw_icmp_ne (tgt := 42) zM_X7_judge dX7_judge_19 rfl rfl (fun q => ?_) (fun q => ?_)
    · replace h := h.1 q
      refine zw_iconst (v := 1) zM_X7_judge dX7_judge_42 (by decide) ?_
      exact zw_reti zM_X7_judge dX7_judge_43 rfl h
    · replace h := h.2 q
      refine zw_go (pc1 := 23) (L1 := [some (.ref a0), some (.int x1), none, none, none]) (st1 := [.ref a0]) (σ1 := σ6) zM_X7_judge dX7_judge_22 rfl rfl rfl rfl ?_
      refine zw_go (pc1 := 24) (L1 := [some (.ref a0), some (.int x1), none, none, none]) (st1 := [.int x1, .ref a0]) (σ1 := σ6) zM_X7_judge dX7_judge_23 rfl rfl rfl rfl ?_
      refine zw_iconst (v := 1) zM_X7_judge dX7_judge_24 (by decide) ?_
      obtain ⟨hk8, h⟩ := h
      refine zw_callI (as := [.ref a0, .int x1, .int 1]) (rest := []) zM_X7_judge dX7_judge_25 (zx_calV zC_7_198) zM_X7_byteAt rfl rfl rfl rfl rfl (zx_args0 hk8 rfl) rfl h (fun v10 σ9 h => ?_)
      refine zw_bipush (v := 73) zM_X7_judge dX7_judge_28 (by decide) ?_
      refine zw_icmp_ne (tgt := 42) zM_X7_judge dX7_judge_30 rfl rfl (fun q => ?_) (fun q => ?_)
      · replace h := h.1 q
        refine zw_iconst (v := 1) zM_X7_judge dX7_judge_42 (by decide) ?_
        exact zw_reti zM_X7_judge dX7_judge_43 rfl h
      · replace h := h.2 q
        refine zw_go (pc1 := 34) (L1 := [some (.ref a0), some (.int x1), none, none, none]) (st1 := [.ref a0]) (σ1 := σ9) zM_X7_judge dX7_judge_33 rfl rfl rfl rfl ?_
        refine zw_go (pc1 := 35) (L1 := [some (.ref a0), some (.int x1), none, none, none]) (st1 := [.int x1, .ref a0]) (σ1 := σ9) zM_X7_judge dX7_judge_34 rfl rfl rfl rfl ?_
        refine zw_iconst (v := 3) zM_X7_judge dX7_judge_35 (by decide) ?_
        obtain ⟨hk11, h⟩ := h
        refine zw_callI (as := [.ref a0, .int x1, .int 3]) (rest := []) zM_X7_judge dX7_judge_36 (zx_calV zC_7_198) zM_X7_byteAt rfl rfl rfl rfl rfl (zx_args0 hk11 rfl) rfl h (fun v13 σ12 h => ?_)
        refine zw_if_eq (tgt := 44) zM_X7_judge dX7_judge_39 rfl rfl (fun q => ?_) (fun q => ?_)
        · replace h := h.1 q
          refine zw_go (pc1 := 45) (L1 := [some (.ref a0), some (.int x1), none, none, none]) (st1 := [.ref a0]) (σ1 := σ12) zM_X7_judge dX7_judge_44 rfl rfl rfl rfl ?_
          refine zw_go (pc1 := 46) (L1 := [some (.ref a0), some (.int x1), none, none, none]) (st1 := [.int x1, .ref a0]) (σ1 := σ12) zM_X7_judge dX7_judge_45 rfl rfl rfl rfl ?_
          refine zw_iconst (v := 2) zM_X7_judge dX7_judge_46 (by decide) ?_
          obtain ⟨hk14, h⟩ := h
          refine zw_callI (as := [.ref a0, .int x1, .int 2]) (rest := []) zM_X7_judge dX7_judge_47 (zx_calV zC_7_198) zM_X7_byteAt rfl rfl rfl rfl rfl (zx_args0 hk14 rfl) rfl h (fun v16 σ15 h => ?_)
          refine zw_go (pc1 := 51) (L1 := [some (.ref a0), some (.int x1), some (.int v16), none, none]) (st1 := []) (σ1 := σ15) zM_X7_judge dX7_judge_50 rfl rfl rfl rfl ?_
          refine zw_go (pc1 := 52) (L1 := [some (.ref a0), some (.int x1), some (.int v16), none, none]) (st1 := [.int v16]) (σ1 := σ15) zM_X7_judge dX7_judge_51 rfl rfl rfl rfl ?_
          refine zw_bipush (v := 8) zM_X7_judge dX7_judge_52 (by decide) ?_
          refine zw_icmp_eq (tgt := 71) zM_X7_judge dX7_judge_54 rfl rfl (fun q => ?_) (fun q => ?_)
          · replace h := h.1 q
            exact zw_weak2 h ⟨rfl, rfl, rfl, trivial⟩
          · replace h := h.2 q
            refine zw_go (pc1 := 58) (L1 := [some (.ref a0), some (.int x1), some (.int v16), none, none]) (st1 := [.int v16]) (σ1 := σ15) zM_X7_judge dX7_judge_57 rfl rfl rfl rfl ?_
            refine zw_bipush (v := 16) zM_X7_judge dX7_judge_58 (by decide) ?_
            refine zw_icmp_eq (tgt := 71) zM_X7_judge dX7_judge_60 rfl rfl (fun q => ?_) (fun q => ?_)
            · replace h := h.1 q
              exact zw_weak2 h ⟨rfl, rfl, rfl, trivial⟩
            · replace h := h.2 q
              refine zw_go (pc1 := 64) (L1 := [some (.ref a0), some (.int x1), some (.int v16), none, none]) (st1 := [.int v16]) (σ1 := σ15) zM_X7_judge dX7_judge_63 rfl rfl rfl rfl ?_
              refine zw_bipush (v := 32) zM_X7_judge dX7_judge_64 (by decide) ?_
              refine zw_icmp_eq (tgt := 71) zM_X7_judge dX7_judge_66 rfl rfl (fun q => ?_) (fun q => ?_)
              · replace h := h.1 q
                exact zw_weak2 h ⟨rfl, rfl, rfl, trivial⟩
              · replace h := h.2 q
                refine zw_iconst (v := 1) zM_X7_judge dX7_judge_69 (by decide) ?_
                exact zw_reti zM_X7_judge dX7_judge_70 rfl h
        · replace h := h.2 q
          refine zw_iconst (v := 1) zM_X7_judge dX7_judge_42 (by decide) ?_
          exact zw_reti zM_X7_judge dX7_judge_43 rfl h
set_option maxHeartbeats 4000000 in
set_option maxRecDepth 100000 in
theorem vc_X7_judge_71 (a0 : Nat) (x1 : Int32) (x2 : Int32) (σ : zx_S) (K : Int32 → zx_S → Prop) (h : zK σ a0 = 20 ∧ zwI 191 0 [some (.ref a0), some (.int x1)] [] σ (fun v3 σ2 => zK σ2 a0 = 20 ∧ zwI 210 0 [some (.ref a0), some (.int x1), some (.int 6)] [] σ2 (fun v6 σ5 => ((v6 < (18 : Int32) → zwI 172 160 [some (.ref a0), some (.int x1), some (.int x2), some (.int v3), none] [] σ5 K) ∧ (¬ v6 < (18 : Int32) → zK σ5 a0 = 20 ∧ zwI 210 0 [some (.ref a0), some (.int x1), some (.int 8)] [] σ5 (fun v9 σ8 => zK σ8 a0 = 20 ∧ zwI 210 0 [some (.ref a0), some (.int x1), some (.int 6)] [] σ8 (fun v12 σ11 => ((v9 < v12 → zwI 172 160 [some (.ref a0), some (.int x1), some (.int x2), some (.int v3), none] [] σ11 K) ∧ (¬ v9 < v12 → zK σ11 a0 = 20 ∧ zwI 210 0 [some (.ref a0), some (.int x1), some (.int 10)] [] σ11 (fun v15 σ14 => zK σ14 a0 = 20 ∧ zwI 210 0 [some (.ref a0), some (.int x1), some (.int 8)] [] σ14 (fun v18 σ17 => ((v15 < v18 → zwI 172 160 [some (.ref a0), some (.int x1), some (.int x2), some (.int v3), none] [] σ17 K) ∧ (¬ v15 < v18 → zK σ17 a0 = 20 ∧ zwI 210 0 [some (.ref a0), some (.int x1), some (.int 12)] [] σ17 (fun v21 σ20 => zK σ20 a0 = 20 ∧ zwI 210 0 [some (.ref a0), some (.int x1), some (.int 10)] [] σ20 (fun v24 σ23 => ((v21 < v24 → zwI 172 160 [some (.ref a0), some (.int x1), some (.int x2), some (.int v3), none] [] σ23 K) ∧ (¬ v21 < v24 → zK σ23 a0 = 20 ∧ ∃ b26 : Nat, zR σ23 a0 13 = some b26 ∧ zK σ23 b26 = 1 ∧ zx_in x1 (zN σ23 b26) = true ∧ zwI 210 0 [some (.ref a0), some (.int x1), some (.int 12)] [] σ23 (fun v31 σ30 => (((zI σ23 b26 (Int32.toNatClampNeg x1)) < v31 → zwI 172 160 [some (.ref a0), some (.int x1), some (.int x2), some (.int v3), none] [] σ30 K) ∧ (¬ (zI σ23 b26 (Int32.toNatClampNeg x1)) < v31 → zwI 172 161 [some (.ref a0), some (.int x1), some (.int x2), some (.int v3), none] [.int 1] σ30 K)))))))))))))))))))) : zwI 172 71 [some (.ref a0), some (.int x1), some (.int x2), none, none] [] σ K := by
  refine zw_go (pc1 := 72) (L1 := [some (.ref a0), some (.int x1), some (.int x2), none, none]) (st1 := [.ref a0]) (σ1 := σ) zM_X7_judge dX7_judge_71 rfl rfl rfl rfl ?_
  refine zw_go (pc1 := 73) (L1 := [some (.ref a0), some (.int x1), some (.int x2), none, none]) (st1 := [.int x1, .ref a0]) (σ1 := σ) zM_X7_judge dX7_judge_72 rfl rfl rfl rfl ?_
  obtain ⟨hk1, h⟩ := h
  refine zw_callI (as := [.ref a0, .int x1]) (rest := []) zM_X7_judge dX7_judge_73 (zx_calV zC_7_207) zM_X7_numbersIn rfl rfl rfl rfl rfl (zx_args0 hk1 rfl) rfl h (fun v3 σ2 h => ?_)
  refine zw_go (pc1 := 77) (L1 := [some (.ref a0), some (.int x1), some (.int x2), some (.int v3), none]) (st1 := []) (σ1 := σ2) zM_X7_judge dX7_judge_76 rfl rfl rfl rfl ?_
  refine zw_go (pc1 := 78) (L1 := [some (.ref a0), some (.int x1), some (.int x2), some (.int v3), none]) (st1 := [.ref a0]) (σ1 := σ2) zM_X7_judge dX7_judge_77 rfl rfl rfl rfl ?_
  refine zw_go (pc1 := 79) (L1 := [some (.ref a0), some (.int x1), some (.int x2), some (.int v3), none]) (st1 := [.int x1, .ref a0]) (σ1 := σ2) zM_X7_judge dX7_judge_78 rfl rfl rfl rfl ?_
  refine zw_bipush (v := 6) zM_X7_judge dX7_judge_79 (by decide) ?_
  obtain ⟨hk4, h⟩ := h
  refine zw_callI (as := [.ref a0, .int x1, .int 6]) (rest := []) zM_X7_judge dX7_judge_81 (zx_calV zC_7_201) zM_X7_word rfl rfl rfl rfl rfl (zx_args0 hk4 rfl) rfl h (fun v6 σ5 h => ?_)
  refine zw_bipush (v := 18) zM_X7_judge dX7_judge_84 (by decide) ?_
  refine zw_icmp_lt (tgt := 160) zM_X7_judge dX7_judge_86 rfl rfl (fun q => ?_) (fun q => ?_)
  · replace h := h.1 q
    exact zw_weak2 h ⟨rfl, rfl, rfl, rfl, trivial⟩
  · replace h := h.2 q
    refine zw_go (pc1 := 90) (L1 := [some (.ref a0), some (.int x1), some (.int x2), some (.int v3), none]) (st1 := [.ref a0]) (σ1 := σ5) zM_X7_judge dX7_judge_89 rfl rfl rfl rfl ?_
    refine zw_go (pc1 := 91) (L1 := [some (.ref a0), some (.int x1), some (.int x2), some (.int v3), none]) (st1 := [.int x1, .ref a0]) (σ1 := σ5) zM_X7_judge dX7_judge_90 rfl rfl rfl rfl ?_
    refine zw_bipush (v := 8) zM_X7_judge dX7_judge_91 (by decide) ?_
    obtain ⟨hk7, h⟩ := h
    refine zw_callI (as := [.ref a0, .int x1, .int 8]) (rest := []) zM_X7_judge dX7_judge_93 (zx_calV zC_7_201) zM_X7_word rfl rfl rfl rfl rfl (zx_args0 hk7 rfl) rfl h (fun v9 σ8 h => ?_)
    refine zw_go (pc1 := 97) (L1 := [some (.ref a0), some (.int x1), some (.int x2), some (.int v3), none]) (st1 := [.ref a0, .int v9]) (σ1 := σ8) zM_X7_judge dX7_judge_96 rfl rfl rfl rfl ?_
    refine zw_go (pc1 := 98) (L1 := [some (.ref a0), some (.int x1), some (.int x2), some (.int v3), none]) (st1 := [.int x1, .ref a0, .int v9]) (σ1 := σ8) zM_X7_judge dX7_judge_97 rfl rfl rfl rfl ?_
    refine zw_bipush (v := 6) zM_X7_judge dX7_judge_98 (by decide) ?_
    obtain ⟨hk10, h⟩ := h
    refine zw_callI (as := [.ref a0, .int x1, .int 6]) (rest := [.int v9]) zM_X7_judge dX7_judge_100 (zx_calV zC_7_201) zM_X7_word rfl rfl rfl rfl rfl (zx_args0 hk10 rfl) rfl h (fun v12 σ11 h => ?_)
    refine zw_icmp_lt (tgt := 160) zM_X7_judge dX7_judge_103 rfl rfl (fun q => ?_) (fun q => ?_)
    · replace h := h.1 q
      exact zw_weak2 h ⟨rfl, rfl, rfl, rfl, trivial⟩
    · replace h := h.2 q
      refine zw_go (pc1 := 107) (L1 := [some (.ref a0), some (.int x1), some (.int x2), some (.int v3), none]) (st1 := [.ref a0]) (σ1 := σ11) zM_X7_judge dX7_judge_106 rfl rfl rfl rfl ?_
      refine zw_go (pc1 := 108) (L1 := [some (.ref a0), some (.int x1), some (.int x2), some (.int v3), none]) (st1 := [.int x1, .ref a0]) (σ1 := σ11) zM_X7_judge dX7_judge_107 rfl rfl rfl rfl ?_
      refine zw_bipush (v := 10) zM_X7_judge dX7_judge_108 (by decide) ?_
      obtain ⟨hk13, h⟩ := h
      refine zw_callI (as := [.ref a0, .int x1, .int 10]) (rest := []) zM_X7_judge dX7_judge_110 (zx_calV zC_7_201) zM_X7_word rfl rfl rfl rfl rfl (zx_args0 hk13 rfl) rfl h (fun v15 σ14 h => ?_)
      refine zw_go (pc1 := 114) (L1 := [some (.ref a0), some (.int x1), some (.int x2), some (.int v3), none]) (st1 := [.ref a0, .int v15]) (σ1 := σ14) zM_X7_judge dX7_judge_113 rfl rfl rfl rfl ?_
      refine zw_go (pc1 := 115) (L1 := [some (.ref a0), some (.int x1), some (.int x2), some (.int v3), none]) (st1 := [.int x1, .ref a0, .int v15]) (σ1 := σ14) zM_X7_judge dX7_judge_114 rfl rfl rfl rfl ?_
      refine zw_bipush (v := 8) zM_X7_judge dX7_judge_115 (by decide) ?_
      obtain ⟨hk16, h⟩ := h
      refine zw_callI (as := [.ref a0, .int x1, .int 8]) (rest := [.int v15]) zM_X7_judge dX7_judge_117 (zx_calV zC_7_201) zM_X7_word rfl rfl rfl rfl rfl (zx_args0 hk16 rfl) rfl h (fun v18 σ17 h => ?_)
      refine zw_icmp_lt (tgt := 160) zM_X7_judge dX7_judge_120 rfl rfl (fun q => ?_) (fun q => ?_)
      · replace h := h.1 q
        exact zw_weak2 h ⟨rfl, rfl, rfl, rfl, trivial⟩
      · replace h := h.2 q
        refine zw_go (pc1 := 124) (L1 := [some (.ref a0), some (.int x1), some (.int x2), some (.int v3), none]) (st1 := [.ref a0]) (σ1 := σ17) zM_X7_judge dX7_judge_123 rfl rfl rfl rfl ?_
        refine zw_go (pc1 := 125) (L1 := [some (.ref a0), some (.int x1), some (.int x2), some (.int v3), none]) (st1 := [.int x1, .ref a0]) (σ1 := σ17) zM_X7_judge dX7_judge_124 rfl rfl rfl rfl ?_
        refine zw_bipush (v := 12) zM_X7_judge dX7_judge_125 (by decide) ?_
        obtain ⟨hk19, h⟩ := h
        refine zw_callI (as := [.ref a0, .int x1, .int 12]) (rest := []) zM_X7_judge dX7_judge_127 (zx_calV zC_7_201) zM_X7_word rfl rfl rfl rfl rfl (zx_args0 hk19 rfl) rfl h (fun v21 σ20 h => ?_)
        refine zw_go (pc1 := 131) (L1 := [some (.ref a0), some (.int x1), some (.int x2), some (.int v3), none]) (st1 := [.ref a0, .int v21]) (σ1 := σ20) zM_X7_judge dX7_judge_130 rfl rfl rfl rfl ?_
        refine zw_go (pc1 := 132) (L1 := [some (.ref a0), some (.int x1), some (.int x2), some (.int v3), none]) (st1 := [.int x1, .ref a0, .int v21]) (σ1 := σ20) zM_X7_judge dX7_judge_131 rfl rfl rfl rfl ?_
        refine zw_bipush (v := 10) zM_X7_judge dX7_judge_132 (by decide) ?_
        obtain ⟨hk22, h⟩ := h
        refine zw_callI (as := [.ref a0, .int x1, .int 10]) (rest := [.int v21]) zM_X7_judge dX7_judge_134 (zx_calV zC_7_201) zM_X7_word rfl rfl rfl rfl rfl (zx_args0 hk22 rfl) rfl h (fun v24 σ23 h => ?_)
        refine zw_icmp_lt (tgt := 160) zM_X7_judge dX7_judge_137 rfl rfl (fun q => ?_) (fun q => ?_)
        · replace h := h.1 q
          exact zw_weak2 h ⟨rfl, rfl, rfl, rfl, trivial⟩
        · replace h := h.2 q
          refine zw_go (pc1 := 141) (L1 := [some (.ref a0), some (.int x1), some (.int x2), some (.int v3), none]) (st1 := [.ref a0]) (σ1 := σ23) zM_X7_judge dX7_judge_140 rfl rfl rfl rfl ?_
          obtain ⟨hk25, h⟩ := h
          obtain ⟨b26, hr27, h⟩ := h
          refine zw_getR (a := b26) zM_X7_judge dX7_judge_141 zF_7_37 rfl hk25 hr27 ?_
          refine zw_go (pc1 := 145) (L1 := [some (.ref a0), some (.int x1), some (.int x2), some (.int v3), none]) (st1 := [.int x1, .ref b26]) (σ1 := σ23) zM_X7_judge dX7_judge_144 rfl rfl rfl rfl ?_
          obtain ⟨hk28, h⟩ := h
          obtain ⟨hi29, h⟩ := h
          refine zw_iald zM_X7_judge dX7_judge_145 ⟨Or.inl hk28, hi29⟩ ?_
          refine zw_go (pc1 := 147) (L1 := [some (.ref a0), some (.int x1), some (.int x2), some (.int v3), none]) (st1 := [.ref a0, .int (zI σ23 b26 (Int32.toNatClampNeg x1))]) (σ1 := σ23) zM_X7_judge dX7_judge_146 rfl rfl rfl rfl ?_
          refine zw_go (pc1 := 148) (L1 := [some (.ref a0), some (.int x1), some (.int x2), some (.int v3), none]) (st1 := [.int x1, .ref a0, .int (zI σ23 b26 (Int32.toNatClampNeg x1))]) (σ1 := σ23) zM_X7_judge dX7_judge_147 rfl rfl rfl rfl ?_
          refine zw_bipush (v := 12) zM_X7_judge dX7_judge_148 (by decide) ?_
          refine zw_callI (as := [.ref a0, .int x1, .int 12]) (rest := [.int (zI σ23 b26 (Int32.toNatClampNeg x1))]) zM_X7_judge dX7_judge_150 (zx_calV zC_7_201) zM_X7_word rfl rfl rfl rfl rfl (zx_args0 hk25 rfl) rfl h (fun v31 σ30 h => ?_)
          refine zw_icmp_lt (tgt := 160) zM_X7_judge dX7_judge_153 rfl rfl (fun q => ?_) (fun q => ?_)
          · replace h := h.1 q
            exact zw_weak2 h ⟨rfl, rfl, rfl, rfl, trivial⟩
          · replace h := h.2 q
            refine zw_iconst (v := 1) zM_X7_judge dX7_judge_156 (by decide) ?_
            refine zw_goto (tgt := 161) zM_X7_judge dX7_judge_157 rfl ?_
            exact zw_weak2 h ⟨rfl, rfl, rfl, rfl, trivial⟩
set_option maxHeartbeats 4000000 in
set_option maxRecDepth 100000 in
theorem vc_X7_judge_160 (a0 : Nat) (x1 : Int32) (x2 : Int32) (x3 : Int32) (σ : zx_S) (K : Int32 → zx_S → Prop) (h : zwI 172 161 [some (.ref a0), some (.int x1), some (.int x2), some (.int x3), none] [.int 0] σ K) : zwI 172 160 [some (.ref a0), some (.int x1), some (.int x2), some (.int x3), none] [] σ K := by
  refine zw_iconst (v := 0) zM_X7_judge dX7_judge_160 (by decide) ?_
  exact zw_weak2 h ⟨rfl, rfl, rfl, rfl, trivial⟩
set_option maxHeartbeats 4000000 in
set_option maxRecDepth 100000 in
theorem vc_X7_judge_161 (a0 : Nat) (x1 : Int32) (x2 : Int32) (x3 : Int32) (y0 : Int32) (σ : zx_S) (K : Int32 → zx_S → Prop) (h : zK σ a0 = 20 ∧ zwI 210 0 [some (.ref a0), some (.int x1), some (.int 14)] [] σ (fun v3 σ2 => zK σ2 a0 = 20 ∧ ∃ b5 : Nat, zR σ2 a0 13 = some b5 ∧ zK σ2 b5 = 1 ∧ zx_in x1 (zN σ2 b5) = true ∧ ((¬ v3 = (zI σ2 b5 (Int32.toNatClampNeg x1)) → K 2 σ2) ∧ (v3 = (zI σ2 b5 (Int32.toNatClampNeg x1)) → ((y0 = (0 : Int32) → K 2 σ2) ∧ (¬ y0 = (0 : Int32) → ((x3 = (0 : Int32) → K 2 σ2) ∧ (¬ x3 = (0 : Int32) → zx_in x1 (zN σ2 b5) = true ∧ zwI 210 0 [some (.ref a0), some (.int x1), some (.int 12)] [] σ2 (fun v11 σ10 => ((((zI σ2 b5 (Int32.toNatClampNeg x1)) - v11) = (2 * x3) → zK σ10 a0 = 20 ∧ zwI 210 0 [some (.ref a0), some (.int x1), some (.int 16)] [] σ10 (fun v14 σ13 => zK σ13 a0 = 20 ∧ zwI 201 0 [some (.ref a0), some (.int x1), none, none, none] [] σ13 (fun v17 σ16 => ((v14 = v17 → zK σ16 a0 = 20 ∧ zwI 140 0 [some (.ref a0), some (.int x1), some (.int x2), none, none, none, none, none] [] σ16 (fun v20 σ19 => ((¬ v20 = (0 : Int32) → zK σ19 a0 = 20 ∧ zwI 139 0 [some (.ref a0), some (.int x1), some (.int x3), some (.int x2), none, none, none, none, none, none] [] σ19 (fun v23 σ22 => ((¬ v23 = (0 : Int32) → zK σ22 a0 = 20 ∧ zwI 138 0 [some (.ref a0), some (.int x1), some (.int x3), none, none, none, none, none, none] [] σ22 (fun v26 σ25 => ((¬ v26 = (0 : Int32) → zK σ25 a0 = 20 ∧ zwI 170 0 [some (.ref a0), some (.int x1), some (.int x3), none, none, none, none] [] σ25 (fun v29 σ28 => ((v29 = (0 : Int32) → K 7 σ28) ∧ (¬ v29 = (0 : Int32) → K 0 σ28)))) ∧ (v26 = (0 : Int32) → K 6 σ25)))) ∧ (v23 = (0 : Int32) → K 5 σ22)))) ∧ (v20 = (0 : Int32) → K 4 σ19)))) ∧ (¬ v14 = v17 → K 3 σ16))))) ∧ (¬ ((zI σ2 b5 (Int32.toNatClampNeg x1)) - v11) = (2 * x3) → K 2 σ10))))))))))) : zwI 172 161 [some (.ref a0), some (.int x1), some (.int x2), some (.int x3), none] [.int y0] σ K := by
  refine zw_go (pc1 := 163) (L1 := [some (.ref a0), some (.int x1), some (.int x2), some (.int x3), some (.int y0)]) (st1 := []) (σ1 := σ) zM_X7_judge dX7_judge_161 rfl rfl rfl rfl ?_
  refine zw_go (pc1 := 164) (L1 := [some (.ref a0), some (.int x1), some (.int x2), some (.int x3), some (.int y0)]) (st1 := [.ref a0]) (σ1 := σ) zM_X7_judge dX7_judge_163 rfl rfl rfl rfl ?_
  refine zw_go (pc1 := 165) (L1 := [some (.ref a0), some (.int x1), some (.int x2), some (.int x3), some (.int y0)]) (st1 := [.int x1, .ref a0]) (σ1 := σ) zM_X7_judge dX7_judge_164 rfl rfl rfl rfl ?_
  refine zw_bipush (v := 14) zM_X7_judge dX7_judge_165 (by decide) ?_
  obtain ⟨hk1, h⟩ := h
  refine zw_callI (as := [.ref a0, .int x1, .int 14]) (rest := []) zM_X7_judge dX7_judge_167 (zx_calV zC_7_201) zM_X7_word rfl rfl rfl rfl rfl (zx_args0 hk1 rfl) rfl h (fun v3 σ2 h => ?_)
  refine zw_go (pc1 := 171) (L1 := [some (.ref a0), some (.int x1), some (.int x2), some (.int x3), some (.int y0)]) (st1 := [.ref a0, .int v3]) (σ1 := σ2) zM_X7_judge dX7_judge_170 rfl rfl rfl rfl ?_
  obtain ⟨hk4, h⟩ := h
  obtain ⟨b5, hr6, h⟩ := h
  refine zw_getR (a := b5) zM_X7_judge dX7_judge_171 zF_7_37 rfl hk4 hr6 ?_
  refine zw_go (pc1 := 175) (L1 := [some (.ref a0), some (.int x1), some (.int x2), some (.int x3), some (.int y0)]) (st1 := [.int x1, .ref b5, .int v3]) (σ1 := σ2) zM_X7_judge dX7_judge_174 rfl rfl rfl rfl ?_
  obtain ⟨hk7, h⟩ := h
  obtain ⟨hi8, h⟩ := h
  refine zw_iald zM_X7_judge dX7_judge_175 ⟨Or.inl hk7, hi8⟩ ?_
  refine zw_icmp_ne (tgt := 208) zM_X7_judge dX7_judge_176 rfl rfl (fun q => ?_) (fun q => ?_)
  · replace h := h.1 q
    refine zw_iconst (v := 2) zM_X7_judge dX7_judge_208 (by decide) ?_
    exact zw_reti zM_X7_judge dX7_judge_209 rfl h
  · replace h := h.2 q
    refine zw_go (pc1 := 181) (L1 := [some (.ref a0), some (.int x1), some (.int x2), some (.int x3), some (.int y0)]) (st1 := [.int y0]) (σ1 := σ2) zM_X7_judge dX7_judge_179 rfl rfl rfl rfl ?_
    refine zw_if_eq (tgt := 208) zM_X7_judge dX7_judge_181 rfl rfl (fun q => ?_) (fun q => ?_)
    · replace h := h.1 q
      refine zw_iconst (v := 2) zM_X7_judge dX7_judge_208 (by decide) ?_
      exact zw_reti zM_X7_judge dX7_judge_209 rfl h
    · replace h := h.2 q
      refine zw_go (pc1 := 185) (L1 := [some (.ref a0), some (.int x1), some (.int x2), some (.int x3), some (.int y0)]) (st1 := [.int x3]) (σ1 := σ2) zM_X7_judge dX7_judge_184 rfl rfl rfl rfl ?_
      refine zw_if_eq (tgt := 208) zM_X7_judge dX7_judge_185 rfl rfl (fun q => ?_) (fun q => ?_)
      · replace h := h.1 q
        refine zw_iconst (v := 2) zM_X7_judge dX7_judge_208 (by decide) ?_
        exact zw_reti zM_X7_judge dX7_judge_209 rfl h
      · replace h := h.2 q
        refine zw_go (pc1 := 189) (L1 := [some (.ref a0), some (.int x1), some (.int x2), some (.int x3), some (.int y0)]) (st1 := [.ref a0]) (σ1 := σ2) zM_X7_judge dX7_judge_188 rfl rfl rfl rfl ?_
        refine zw_getR (a := b5) zM_X7_judge dX7_judge_189 zF_7_37 rfl hk4 hr6 ?_
        refine zw_go (pc1 := 193) (L1 := [some (.ref a0), some (.int x1), some (.int x2), some (.int x3), some (.int y0)]) (st1 := [.int x1, .ref b5]) (σ1 := σ2) zM_X7_judge dX7_judge_192 rfl rfl rfl rfl ?_
        obtain ⟨hi9, h⟩ := h
        refine zw_iald zM_X7_judge dX7_judge_193 ⟨Or.inl hk7, hi9⟩ ?_
        refine zw_go (pc1 := 195) (L1 := [some (.ref a0), some (.int x1), some (.int x2), some (.int x3), some (.int y0)]) (st1 := [.ref a0, .int (zI σ2 b5 (Int32.toNatClampNeg x1))]) (σ1 := σ2) zM_X7_judge dX7_judge_194 rfl rfl rfl rfl ?_
        refine zw_go (pc1 := 196) (L1 := [some (.ref a0), some (.int x1), some (.int x2), some (.int x3), some (.int y0)]) (st1 := [.int x1, .ref a0, .int (zI σ2 b5 (Int32.toNatClampNeg x1))]) (σ1 := σ2) zM_X7_judge dX7_judge_195 rfl rfl rfl rfl ?_
        refine zw_bipush (v := 12) zM_X7_judge dX7_judge_196 (by decide) ?_
        refine zw_callI (as := [.ref a0, .int x1, .int 12]) (rest := [.int (zI σ2 b5 (Int32.toNatClampNeg x1))]) zM_X7_judge dX7_judge_198 (zx_calV zC_7_201) zM_X7_word rfl rfl rfl rfl rfl (zx_args0 hk4 rfl) rfl h (fun v11 σ10 h => ?_)
        refine zw_go (pc1 := 202) (L1 := [some (.ref a0), some (.int x1), some (.int x2), some (.int x3), some (.int y0)]) (st1 := [.int ((zI σ2 b5 (Int32.toNatClampNeg x1)) - v11)]) (σ1 := σ10) zM_X7_judge dX7_judge_201 rfl rfl rfl rfl ?_
        refine zw_iconst (v := 2) zM_X7_judge dX7_judge_202 (by decide) ?_
        refine zw_go (pc1 := 204) (L1 := [some (.ref a0), some (.int x1), some (.int x2), some (.int x3), some (.int y0)]) (st1 := [.int x3, .int 2, .int ((zI σ2 b5 (Int32.toNatClampNeg x1)) - v11)]) (σ1 := σ10) zM_X7_judge dX7_judge_203 rfl rfl rfl rfl ?_
        refine zw_go (pc1 := 205) (L1 := [some (.ref a0), some (.int x1), some (.int x2), some (.int x3), some (.int y0)]) (st1 := [.int (2 * x3), .int ((zI σ2 b5 (Int32.toNatClampNeg x1)) - v11)]) (σ1 := σ10) zM_X7_judge dX7_judge_204 rfl rfl rfl rfl ?_
        refine zw_icmp_eq (tgt := 210) zM_X7_judge dX7_judge_205 rfl rfl (fun q => ?_) (fun q => ?_)
        · replace h := h.1 q
          refine zw_go (pc1 := 211) (L1 := [some (.ref a0), some (.int x1), some (.int x2), some (.int x3), some (.int y0)]) (st1 := [.ref a0]) (σ1 := σ10) zM_X7_judge dX7_judge_210 rfl rfl rfl rfl ?_
          refine zw_go (pc1 := 212) (L1 := [some (.ref a0), some (.int x1), some (.int x2), some (.int x3), some (.int y0)]) (st1 := [.int x1, .ref a0]) (σ1 := σ10) zM_X7_judge dX7_judge_211 rfl rfl rfl rfl ?_
          refine zw_bipush (v := 16) zM_X7_judge dX7_judge_212 (by decide) ?_
          obtain ⟨hk12, h⟩ := h
          refine zw_callI (as := [.ref a0, .int x1, .int 16]) (rest := []) zM_X7_judge dX7_judge_214 (zx_calV zC_7_201) zM_X7_word rfl rfl rfl rfl rfl (zx_args0 hk12 rfl) rfl h (fun v14 σ13 h => ?_)
          refine zw_go (pc1 := 218) (L1 := [some (.ref a0), some (.int x1), some (.int x2), some (.int x3), some (.int y0)]) (st1 := [.ref a0, .int v14]) (σ1 := σ13) zM_X7_judge dX7_judge_217 rfl rfl rfl rfl ?_
          refine zw_go (pc1 := 219) (L1 := [some (.ref a0), some (.int x1), some (.int x2), some (.int x3), some (.int y0)]) (st1 := [.int x1, .ref a0, .int v14]) (σ1 := σ13) zM_X7_judge dX7_judge_218 rfl rfl rfl rfl ?_
          obtain ⟨hk15, h⟩ := h
          refine zw_callI (as := [.ref a0, .int x1]) (rest := [.int v14]) zM_X7_judge dX7_judge_219 (zx_calV zC_7_187) zM_X7_sumOf rfl rfl rfl rfl rfl (zx_args0 hk15 rfl) rfl h (fun v17 σ16 h => ?_)
          refine zw_icmp_eq (tgt := 227) zM_X7_judge dX7_judge_222 rfl rfl (fun q => ?_) (fun q => ?_)
          · replace h := h.1 q
            refine zw_go (pc1 := 228) (L1 := [some (.ref a0), some (.int x1), some (.int x2), some (.int x3), some (.int y0)]) (st1 := [.ref a0]) (σ1 := σ16) zM_X7_judge dX7_judge_227 rfl rfl rfl rfl ?_
            refine zw_go (pc1 := 229) (L1 := [some (.ref a0), some (.int x1), some (.int x2), some (.int x3), some (.int y0)]) (st1 := [.int x1, .ref a0]) (σ1 := σ16) zM_X7_judge dX7_judge_228 rfl rfl rfl rfl ?_
            refine zw_go (pc1 := 230) (L1 := [some (.ref a0), some (.int x1), some (.int x2), some (.int x3), some (.int y0)]) (st1 := [.int x2, .int x1, .ref a0]) (σ1 := σ16) zM_X7_judge dX7_judge_229 rfl rfl rfl rfl ?_
            obtain ⟨hk18, h⟩ := h
            refine zw_callI (as := [.ref a0, .int x1, .int x2]) (rest := []) zM_X7_judge dX7_judge_230 (zx_calV zC_7_210) zM_X7_areTails rfl rfl rfl rfl rfl (zx_args0 hk18 rfl) rfl h (fun v20 σ19 h => ?_)
            refine zw_if_ne (tgt := 238) zM_X7_judge dX7_judge_233 rfl rfl (fun q => ?_) (fun q => ?_)
            · replace h := h.1 q
              refine zw_go (pc1 := 239) (L1 := [some (.ref a0), some (.int x1), some (.int x2), some (.int x3), some (.int y0)]) (st1 := [.ref a0]) (σ1 := σ19) zM_X7_judge dX7_judge_238 rfl rfl rfl rfl ?_
              refine zw_go (pc1 := 240) (L1 := [some (.ref a0), some (.int x1), some (.int x2), some (.int x3), some (.int y0)]) (st1 := [.int x1, .ref a0]) (σ1 := σ19) zM_X7_judge dX7_judge_239 rfl rfl rfl rfl ?_
              refine zw_go (pc1 := 241) (L1 := [some (.ref a0), some (.int x1), some (.int x2), some (.int x3), some (.int y0)]) (st1 := [.int x3, .int x1, .ref a0]) (σ1 := σ19) zM_X7_judge dX7_judge_240 rfl rfl rfl rfl ?_
              refine zw_go (pc1 := 242) (L1 := [some (.ref a0), some (.int x1), some (.int x2), some (.int x3), some (.int y0)]) (st1 := [.int x2, .int x3, .int x1, .ref a0]) (σ1 := σ19) zM_X7_judge dX7_judge_241 rfl rfl rfl rfl ?_
              obtain ⟨hk21, h⟩ := h
              refine zw_callI (as := [.ref a0, .int x1, .int x3, .int x2]) (rest := []) zM_X7_judge dX7_judge_242 (zx_calV zC_7_213) zM_X7_areInodes rfl rfl rfl rfl rfl (zx_args0 hk21 rfl) rfl h (fun v23 σ22 h => ?_)
              refine zw_if_ne (tgt := 250) zM_X7_judge dX7_judge_245 rfl rfl (fun q => ?_) (fun q => ?_)
              · replace h := h.1 q
                refine zw_go (pc1 := 251) (L1 := [some (.ref a0), some (.int x1), some (.int x2), some (.int x3), some (.int y0)]) (st1 := [.ref a0]) (σ1 := σ22) zM_X7_judge dX7_judge_250 rfl rfl rfl rfl ?_
                refine zw_go (pc1 := 252) (L1 := [some (.ref a0), some (.int x1), some (.int x2), some (.int x3), some (.int y0)]) (st1 := [.int x1, .ref a0]) (σ1 := σ22) zM_X7_judge dX7_judge_251 rfl rfl rfl rfl ?_
                refine zw_go (pc1 := 253) (L1 := [some (.ref a0), some (.int x1), some (.int x2), some (.int x3), some (.int y0)]) (st1 := [.int x3, .int x1, .ref a0]) (σ1 := σ22) zM_X7_judge dX7_judge_252 rfl rfl rfl rfl ?_
                obtain ⟨hk24, h⟩ := h
                refine zw_callI (as := [.ref a0, .int x1, .int x3]) (rest := []) zM_X7_judge dX7_judge_253 (zx_calV zC_7_216) zM_X7_areFolders rfl rfl rfl rfl rfl (zx_args0 hk24 rfl) rfl h (fun v26 σ25 h => ?_)
                refine zw_if_ne (tgt := 262) zM_X7_judge dX7_judge_256 rfl rfl (fun q => ?_) (fun q => ?_)
                · replace h := h.1 q
                  refine zw_go (pc1 := 263) (L1 := [some (.ref a0), some (.int x1), some (.int x2), some (.int x3), some (.int y0)]) (st1 := [.ref a0]) (σ1 := σ25) zM_X7_judge dX7_judge_262 rfl rfl rfl rfl ?_
                  refine zw_go (pc1 := 264) (L1 := [some (.ref a0), some (.int x1), some (.int x2), some (.int x3), some (.int y0)]) (st1 := [.int x1, .ref a0]) (σ1 := σ25) zM_X7_judge dX7_judge_263 rfl rfl rfl rfl ?_
                  refine zw_go (pc1 := 265) (L1 := [some (.ref a0), some (.int x1), some (.int x2), some (.int x3), some (.int y0)]) (st1 := [.int x3, .int x1, .ref a0]) (σ1 := σ25) zM_X7_judge dX7_judge_264 rfl rfl rfl rfl ?_
                  obtain ⟨hk27, h⟩ := h
                  refine zw_callI (as := [.ref a0, .int x1, .int x3]) (rest := []) zM_X7_judge dX7_judge_265 (zx_calV zC_7_219) zM_X7_isTree rfl rfl rfl rfl rfl (zx_args0 hk27 rfl) rfl h (fun v29 σ28 h => ?_)
                  refine zw_if_eq (tgt := 275) zM_X7_judge dX7_judge_268 rfl rfl (fun q => ?_) (fun q => ?_)
                  · replace h := h.1 q
                    refine zw_bipush (v := 7) zM_X7_judge dX7_judge_275 (by decide) ?_
                    exact zw_reti zM_X7_judge dX7_judge_277 rfl h
                  · replace h := h.2 q
                    refine zw_iconst (v := 0) zM_X7_judge dX7_judge_271 (by decide) ?_
                    refine zw_goto (tgt := 277) zM_X7_judge dX7_judge_272 rfl ?_
                    exact zw_reti zM_X7_judge dX7_judge_277 rfl h
                · replace h := h.2 q
                  refine zw_bipush (v := 6) zM_X7_judge dX7_judge_259 (by decide) ?_
                  exact zw_reti zM_X7_judge dX7_judge_261 rfl h
              · replace h := h.2 q
                refine zw_iconst (v := 5) zM_X7_judge dX7_judge_248 (by decide) ?_
                exact zw_reti zM_X7_judge dX7_judge_249 rfl h
            · replace h := h.2 q
              refine zw_iconst (v := 4) zM_X7_judge dX7_judge_236 (by decide) ?_
              exact zw_reti zM_X7_judge dX7_judge_237 rfl h
          · replace h := h.2 q
            refine zw_iconst (v := 3) zM_X7_judge dX7_judge_225 (by decide) ?_
            exact zw_reti zM_X7_judge dX7_judge_226 rfl h
        · replace h := h.2 q
          refine zw_iconst (v := 2) zM_X7_judge dX7_judge_208 (by decide) ?_
          exact zw_reti zM_X7_judge dX7_judge_209 rfl h
set_option maxHeartbeats 4000000 in
set_option maxRecDepth 100000 in
theorem vc_X7_kindOf_0 (a0 : Nat) (x1 : Int32) (σ : zx_S) (K : Int32 → zx_S → Prop) (h : zK σ a0 = 20 ∧ ∃ b2 : Nat, zR σ a0 39 = some b2 ∧ zK σ b2 = 1 ∧ zx_in (3 * x1) (zN σ b2) = true ∧ ∃ b6 : Nat, zR σ a0 40 = some b6 ∧ zK σ b6 = 1 ∧ zx_in (3 * x1) (zN σ b6) = true ∧ zwI 208 0 [some (.ref a0), some (.int (zI σ b2 (Int32.toNatClampNeg (3 * x1)))), some (.int (zI σ b6 (Int32.toNatClampNeg (3 * x1)))), some (.int 0), none, none] [] σ (fun v11 σ10 => K v11 σ10)) : zwI 173 0 [some (.ref a0), some (.int x1)] [] σ K := by
  refine zw_go (pc1 := 1) (L1 := [some (.ref a0), some (.int x1)]) (st1 := [.ref a0]) (σ1 := σ) zM_X7_kindOf dX7_kindOf_0 rfl rfl rfl rfl ?_
  refine zw_go (pc1 := 2) (L1 := [some (.ref a0), some (.int x1)]) (st1 := [.ref a0, .ref a0]) (σ1 := σ) zM_X7_kindOf dX7_kindOf_1 rfl rfl rfl rfl ?_
  obtain ⟨hk1, h⟩ := h
  obtain ⟨b2, hr3, h⟩ := h
  refine zw_getR (a := b2) zM_X7_kindOf dX7_kindOf_2 zF_7_88 rfl hk1 hr3 ?_
  refine zw_iconst (v := 3) zM_X7_kindOf dX7_kindOf_5 (by decide) ?_
  refine zw_go (pc1 := 7) (L1 := [some (.ref a0), some (.int x1)]) (st1 := [.int x1, .int 3, .ref b2, .ref a0]) (σ1 := σ) zM_X7_kindOf dX7_kindOf_6 rfl rfl rfl rfl ?_
  refine zw_go (pc1 := 8) (L1 := [some (.ref a0), some (.int x1)]) (st1 := [.int (3 * x1), .ref b2, .ref a0]) (σ1 := σ) zM_X7_kindOf dX7_kindOf_7 rfl rfl rfl rfl ?_
  obtain ⟨hk4, h⟩ := h
  obtain ⟨hi5, h⟩ := h
  refine zw_iald zM_X7_kindOf dX7_kindOf_8 ⟨Or.inl hk4, hi5⟩ ?_
  refine zw_go (pc1 := 10) (L1 := [some (.ref a0), some (.int x1)]) (st1 := [.ref a0, .int (zI σ b2 (Int32.toNatClampNeg (3 * x1))), .ref a0]) (σ1 := σ) zM_X7_kindOf dX7_kindOf_9 rfl rfl rfl rfl ?_
  obtain ⟨b6, hr7, h⟩ := h
  refine zw_getR (a := b6) zM_X7_kindOf dX7_kindOf_10 zF_7_91 rfl hk1 hr7 ?_
  refine zw_iconst (v := 3) zM_X7_kindOf dX7_kindOf_13 (by decide) ?_
  refine zw_go (pc1 := 15) (L1 := [some (.ref a0), some (.int x1)]) (st1 := [.int x1, .int 3, .ref b6, .int (zI σ b2 (Int32.toNatClampNeg (3 * x1))), .ref a0]) (σ1 := σ) zM_X7_kindOf dX7_kindOf_14 rfl rfl rfl rfl ?_
  refine zw_go (pc1 := 16) (L1 := [some (.ref a0), some (.int x1)]) (st1 := [.int (3 * x1), .ref b6, .int (zI σ b2 (Int32.toNatClampNeg (3 * x1))), .ref a0]) (σ1 := σ) zM_X7_kindOf dX7_kindOf_15 rfl rfl rfl rfl ?_
  obtain ⟨hk8, h⟩ := h
  obtain ⟨hi9, h⟩ := h
  refine zw_iald zM_X7_kindOf dX7_kindOf_16 ⟨Or.inl hk8, hi9⟩ ?_
  refine zw_iconst (v := 0) zM_X7_kindOf dX7_kindOf_17 (by decide) ?_
  refine zw_callI (as := [.ref a0, .int (zI σ b2 (Int32.toNatClampNeg (3 * x1))), .int (zI σ b6 (Int32.toNatClampNeg (3 * x1))), .int 0]) (rest := []) zM_X7_kindOf dX7_kindOf_18 (zx_calV zC_7_266) zM_X7_told rfl rfl rfl rfl rfl (zx_args0 hk1 rfl) rfl h (fun v11 σ10 h => ?_)
  exact zw_reti zM_X7_kindOf dX7_kindOf_21 rfl h
set_option maxHeartbeats 4000000 in
set_option maxRecDepth 100000 in
theorem vc_X7_leads_0 (a0 : Nat) (x1 : Int32) (x2 : Int32) (σ : zx_S) (K : Int32 → zx_S → Prop) (h : zwI 174 8 [some (.ref a0), some (.int x1), some (.int x2), some (.int 0), some (.int 1), some (.int 0), none, none, none] [] σ K) : zwI 174 0 [some (.ref a0), some (.int x1), some (.int x2), none, none, none, none, none, none] [] σ K := by
  refine zw_iconst (v := 0) zM_X7_leads dX7_leads_0 (by decide) ?_
  refine zw_go (pc1 := 2) (L1 := [some (.ref a0), some (.int x1), some (.int x2), some (.int 0), none, none, none, none, none]) (st1 := []) (σ1 := σ) zM_X7_leads dX7_leads_1 rfl rfl rfl rfl ?_
  refine zw_iconst (v := 1) zM_X7_leads dX7_leads_2 (by decide) ?_
  refine zw_go (pc1 := 5) (L1 := [some (.ref a0), some (.int x1), some (.int x2), some (.int 0), some (.int 1), none, none, none, none]) (st1 := []) (σ1 := σ) zM_X7_leads dX7_leads_3 rfl rfl rfl rfl ?_
  refine zw_iconst (v := 0) zM_X7_leads dX7_leads_5 (by decide) ?_
  refine zw_go (pc1 := 8) (L1 := [some (.ref a0), some (.int x1), some (.int x2), some (.int 0), some (.int 1), some (.int 0), none, none, none]) (st1 := []) (σ1 := σ) zM_X7_leads dX7_leads_6 rfl rfl rfl rfl ?_
  exact zw_weak2 h ⟨rfl, rfl, rfl, rfl, rfl, rfl, trivial⟩
set_option maxHeartbeats 4000000 in
set_option maxRecDepth 100000 in
theorem vc_X7_leads_8 (a0 : Nat) (x1 : Int32) (x2 : Int32) (x3 : Int32) (x4 : Int32) (x5 : Int32) (σ : zx_S) (K : Int32 → zx_S → Prop) (h : zK σ a0 = 20 ∧ ∃ b2 : Nat, zR σ a0 38 = some b2 ∧ zK σ b2 = 1 ∧ zx_in x1 (zN σ b2) = true ∧ (((zI σ b2 (Int32.toNatClampNeg x1)) ≤ x5 → zx_in (zI σ a0 37) (zN σ b2) = true ∧ ∀ σ7 : zx_S, σ7 = zx_pI σ b2 (Int32.toNatClampNeg (zI σ a0 37)) x3 → K x3 σ7) ∧ (¬ (zI σ b2 (Int32.toNatClampNeg x1)) ≤ x5 → ((x4 = (0 : Int32) → zx_in (zI σ a0 37) (zN σ b2) = true ∧ ∀ σ10 : zx_S, σ10 = zx_pI σ b2 (Int32.toNatClampNeg (zI σ a0 37)) x3 → K x3 σ10) ∧ (¬ x4 = (0 : Int32) → ∃ b12 : Nat, zR σ a0 39 = some b12 ∧ zK σ b12 = 1 ∧ zx_in ((3 * x1) + x5) (zN σ b12) = true ∧ ∃ b16 : Nat, zR σ a0 40 = some b16 ∧ zK σ b16 = 1 ∧ zx_in ((3 * x1) + x5) (zN σ b16) = true ∧ zwI 145 0 [some (.ref a0), some (.int (zI σ b12 (Int32.toNatClampNeg ((3 * x1) + x5)))), some (.int (zI σ b16 (Int32.toNatClampNeg ((3 * x1) + x5)))), some (.int x2), none, none] [] σ (fun v21 σ20 => ((v21 ≤ (0 : Int32) → zwI 174 135 [some (.ref a0), some (.int x1), some (.int x2), some (.int x3), some (.int x4), some (.int x5), none, none, none] [] σ20 K) ∧ (¬ v21 ≤ (0 : Int32) → zK σ20 a0 = 20 ∧ zwI 208 0 [some (.ref a0), some (.int (zI σ b12 (Int32.toNatClampNeg ((3 * x1) + x5)))), some (.int v21), some (.int 0), none, none] [] σ20 (fun v24 σ23 => ((v24 = (1 : Int32) → zwI 174 89 [some (.ref a0), some (.int x1), some (.int x2), some (.int x3), none, some (.int x5), some (.int (zI σ b12 (Int32.toNatClampNeg ((3 * x1) + x5)))), some (.int v21), some (.int v24)] [] σ23 K) ∧ (¬ v24 = (1 : Int32) → ((¬ v24 = (2 : Int32) → zwI 174 122 [some (.ref a0), some (.int x1), some (.int x2), some (.int x3), none, some (.int x5), none, none, some (.int v24)] [] σ23 K) ∧ (v24 = (2 : Int32) → ((¬ x3 = (0 : Int32) → zwI 174 122 [some (.ref a0), some (.int x1), some (.int x2), some (.int x3), none, some (.int x5), none, none, some (.int v24)] [] σ23 K) ∧ (x3 = (0 : Int32) → zwI 174 89 [some (.ref a0), some (.int x1), some (.int x2), some (.int x3), none, some (.int x5), some (.int (zI σ b12 (Int32.toNatClampNeg ((3 * x1) + x5)))), some (.int v21), some (.int v24)] [] σ23 K))))))))))))))) : zwI 174 8 [some (.ref a0), some (.int x1), some (.int x2), some (.int x3), some (.int x4), some (.int x5), none, none, none] [] σ K := by
  refine zw_go (pc1 := 10) (L1 := [some (.ref a0), some (.int x1), some (.int x2), some (.int x3), some (.int x4), some (.int x5), none, none, none]) (st1 := [.int x5]) (σ1 := σ) zM_X7_leads dX7_leads_8 rfl rfl rfl rfl ?_
  refine zw_go (pc1 := 11) (L1 := [some (.ref a0), some (.int x1), some (.int x2), some (.int x3), some (.int x4), some (.int x5), none, none, none]) (st1 := [.ref a0, .int x5]) (σ1 := σ) zM_X7_leads dX7_leads_10 rfl rfl rfl rfl ?_
  obtain ⟨hk1, h⟩ := h
  obtain ⟨b2, hr3, h⟩ := h
  refine zw_getR (a := b2) zM_X7_leads dX7_leads_11 zF_7_85 rfl hk1 hr3 ?_
  refine zw_go (pc1 := 15) (L1 := [some (.ref a0), some (.int x1), some (.int x2), some (.int x3), some (.int x4), some (.int x5), none, none, none]) (st1 := [.int x1, .ref b2, .int x5]) (σ1 := σ) zM_X7_leads dX7_leads_14 rfl rfl rfl rfl ?_
  obtain ⟨hk4, h⟩ := h
  obtain ⟨hi5, h⟩ := h
  refine zw_iald zM_X7_leads dX7_leads_15 ⟨Or.inl hk4, hi5⟩ ?_
  refine zw_icmp_ge (tgt := 141) zM_X7_leads dX7_leads_16 rfl rfl (fun q => ?_) (fun q => ?_)
  · replace h := h.1 q
    refine zw_go (pc1 := 142) (L1 := [some (.ref a0), some (.int x1), some (.int x2), some (.int x3), some (.int x4), some (.int x5), none, none, none]) (st1 := [.ref a0]) (σ1 := σ) zM_X7_leads dX7_leads_141 rfl rfl rfl rfl ?_
    refine zw_getR (a := b2) zM_X7_leads dX7_leads_142 zF_7_85 rfl hk1 hr3 ?_
    refine zw_go (pc1 := 146) (L1 := [some (.ref a0), some (.int x1), some (.int x2), some (.int x3), some (.int x4), some (.int x5), none, none, none]) (st1 := [.ref a0, .ref b2]) (σ1 := σ) zM_X7_leads dX7_leads_145 rfl rfl rfl rfl ?_
    refine zw_getI zM_X7_leads dX7_leads_146 zF_7_269 rfl hk1 ?_
    refine zw_go (pc1 := 150) (L1 := [some (.ref a0), some (.int x1), some (.int x2), some (.int x3), some (.int x4), some (.int x5), none, none, none]) (st1 := [.int x3, .int (zI σ a0 37), .ref b2]) (σ1 := σ) zM_X7_leads dX7_leads_149 rfl rfl rfl rfl ?_
    obtain ⟨hi6, h⟩ := h
    obtain ⟨σ7, e8⟩ : ∃ z9 : zx_S, z9 = zx_pI σ b2 (Int32.toNatClampNeg (zI σ a0 37)) x3 := ⟨_, rfl⟩
    replace h := h σ7 e8
    refine zw_iast zM_X7_leads dX7_leads_150 ⟨hk4, hi6⟩ e8 ?_
    refine zw_go (pc1 := 152) (L1 := [some (.ref a0), some (.int x1), some (.int x2), some (.int x3), some (.int x4), some (.int x5), none, none, none]) (st1 := [.int x3]) (σ1 := σ7) zM_X7_leads dX7_leads_151 rfl rfl rfl rfl ?_
    exact zw_reti zM_X7_leads dX7_leads_152 rfl h
  · replace h := h.2 q
    refine zw_go (pc1 := 21) (L1 := [some (.ref a0), some (.int x1), some (.int x2), some (.int x3), some (.int x4), some (.int x5), none, none, none]) (st1 := [.int x4]) (σ1 := σ) zM_X7_leads dX7_leads_19 rfl rfl rfl rfl ?_
    refine zw_if_eq (tgt := 141) zM_X7_leads dX7_leads_21 rfl rfl (fun q => ?_) (fun q => ?_)
    · replace h := h.1 q
      refine zw_go (pc1 := 142) (L1 := [some (.ref a0), some (.int x1), some (.int x2), some (.int x3), some (.int x4), some (.int x5), none, none, none]) (st1 := [.ref a0]) (σ1 := σ) zM_X7_leads dX7_leads_141 rfl rfl rfl rfl ?_
      refine zw_getR (a := b2) zM_X7_leads dX7_leads_142 zF_7_85 rfl hk1 hr3 ?_
      refine zw_go (pc1 := 146) (L1 := [some (.ref a0), some (.int x1), some (.int x2), some (.int x3), some (.int x4), some (.int x5), none, none, none]) (st1 := [.ref a0, .ref b2]) (σ1 := σ) zM_X7_leads dX7_leads_145 rfl rfl rfl rfl ?_
      refine zw_getI zM_X7_leads dX7_leads_146 zF_7_269 rfl hk1 ?_
      refine zw_go (pc1 := 150) (L1 := [some (.ref a0), some (.int x1), some (.int x2), some (.int x3), some (.int x4), some (.int x5), none, none, none]) (st1 := [.int x3, .int (zI σ a0 37), .ref b2]) (σ1 := σ) zM_X7_leads dX7_leads_149 rfl rfl rfl rfl ?_
      obtain ⟨hi9, h⟩ := h
      obtain ⟨σ10, e11⟩ : ∃ z9 : zx_S, z9 = zx_pI σ b2 (Int32.toNatClampNeg (zI σ a0 37)) x3 := ⟨_, rfl⟩
      replace h := h σ10 e11
      refine zw_iast zM_X7_leads dX7_leads_150 ⟨hk4, hi9⟩ e11 ?_
      refine zw_go (pc1 := 152) (L1 := [some (.ref a0), some (.int x1), some (.int x2), some (.int x3), some (.int x4), some (.int x5), none, none, none]) (st1 := [.int x3]) (σ1 := σ10) zM_X7_leads dX7_leads_151 rfl rfl rfl rfl ?_
      exact zw_reti zM_X7_leads dX7_leads_152 rfl h
    · replace h := h.2 q
      refine zw_go (pc1 := 25) (L1 := [some (.ref a0), some (.int x1), some (.int x2), some (.int x3), some (.int x4), some (.int x5), none, none, none]) (st1 := [.ref a0]) (σ1 := σ) zM_X7_leads dX7_leads_24 rfl rfl rfl rfl ?_
      obtain ⟨b12, hr13, h⟩ := h
      refine zw_getR (a := b12) zM_X7_leads dX7_leads_25 zF_7_88 rfl hk1 hr13 ?_
      refine zw_iconst (v := 3) zM_X7_leads dX7_leads_28 (by decide) ?_
      refine zw_go (pc1 := 30) (L1 := [some (.ref a0), some (.int x1), some (.int x2), some (.int x3), some (.int x4), some (.int x5), none, none, none]) (st1 := [.int x1, .int 3, .ref b12]) (σ1 := σ) zM_X7_leads dX7_leads_29 rfl rfl rfl rfl ?_
      refine zw_go (pc1 := 31) (L1 := [some (.ref a0), some (.int x1), some (.int x2), some (.int x3), some (.int x4), some (.int x5), none, none, none]) (st1 := [.int (3 * x1), .ref b12]) (σ1 := σ) zM_X7_leads dX7_leads_30 rfl rfl rfl rfl ?_
      refine zw_go (pc1 := 33) (L1 := [some (.ref a0), some (.int x1), some (.int x2), some (.int x3), some (.int x4), some (.int x5), none, none, none]) (st1 := [.int x5, .int (3 * x1), .ref b12]) (σ1 := σ) zM_X7_leads dX7_leads_31 rfl rfl rfl rfl ?_
      refine zw_go (pc1 := 34) (L1 := [some (.ref a0), some (.int x1), some (.int x2), some (.int x3), some (.int x4), some (.int x5), none, none, none]) (st1 := [.int ((3 * x1) + x5), .ref b12]) (σ1 := σ) zM_X7_leads dX7_leads_33 rfl rfl rfl rfl ?_
      obtain ⟨hk14, h⟩ := h
      obtain ⟨hi15, h⟩ := h
      refine zw_iald zM_X7_leads dX7_leads_34 ⟨Or.inl hk14, hi15⟩ ?_
      refine zw_go (pc1 := 37) (L1 := [some (.ref a0), some (.int x1), some (.int x2), some (.int x3), some (.int x4), some (.int x5), some (.int (zI σ b12 (Int32.toNatClampNeg ((3 * x1) + x5)))), none, none]) (st1 := []) (σ1 := σ) zM_X7_leads dX7_leads_35 rfl rfl rfl rfl ?_
      refine zw_go (pc1 := 38) (L1 := [some (.ref a0), some (.int x1), some (.int x2), some (.int x3), some (.int x4), some (.int x5), some (.int (zI σ b12 (Int32.toNatClampNeg ((3 * x1) + x5)))), none, none]) (st1 := [.ref a0]) (σ1 := σ) zM_X7_leads dX7_leads_37 rfl rfl rfl rfl ?_
      refine zw_go (pc1 := 40) (L1 := [some (.ref a0), some (.int x1), some (.int x2), some (.int x3), some (.int x4), some (.int x5), some (.int (zI σ b12 (Int32.toNatClampNeg ((3 * x1) + x5)))), none, none]) (st1 := [.int (zI σ b12 (Int32.toNatClampNeg ((3 * x1) + x5))), .ref a0]) (σ1 := σ) zM_X7_leads dX7_leads_38 rfl rfl rfl rfl ?_
      refine zw_go (pc1 := 41) (L1 := [some (.ref a0), some (.int x1), some (.int x2), some (.int x3), some (.int x4), some (.int x5), some (.int (zI σ b12 (Int32.toNatClampNeg ((3 * x1) + x5)))), none, none]) (st1 := [.ref a0, .int (zI σ b12 (Int32.toNatClampNeg ((3 * x1) + x5))), .ref a0]) (σ1 := σ) zM_X7_leads dX7_leads_40 rfl rfl rfl rfl ?_
      obtain ⟨b16, hr17, h⟩ := h
      refine zw_getR (a := b16) zM_X7_leads dX7_leads_41 zF_7_91 rfl hk1 hr17 ?_
      refine zw_iconst (v := 3) zM_X7_leads dX7_leads_44 (by decide) ?_
      refine zw_go (pc1 := 46) (L1 := [some (.ref a0), some (.int x1), some (.int x2), some (.int x3), some (.int x4), some (.int x5), some (.int (zI σ b12 (Int32.toNatClampNeg ((3 * x1) + x5)))), none, none]) (st1 := [.int x1, .int 3, .ref b16, .int (zI σ b12 (Int32.toNatClampNeg ((3 * x1) + x5))), .ref a0]) (σ1 := σ) zM_X7_leads dX7_leads_45 rfl rfl rfl rfl ?_
      refine zw_go (pc1 := 47) (L1 := [some (.ref a0), some (.int x1), some (.int x2), some (.int x3), some (.int x4), some (.int x5), some (.int (zI σ b12 (Int32.toNatClampNeg ((3 * x1) + x5)))), none, none]) (st1 := [.int (3 * x1), .ref b16, .int (zI σ b12 (Int32.toNatClampNeg ((3 * x1) + x5))), .ref a0]) (σ1 := σ) zM_X7_leads dX7_leads_46 rfl rfl rfl rfl ?_
      refine zw_go (pc1 := 49) (L1 := [some (.ref a0), some (.int x1), some (.int x2), some (.int x3), some (.int x4), some (.int x5), some (.int (zI σ b12 (Int32.toNatClampNeg ((3 * x1) + x5)))), none, none]) (st1 := [.int x5, .int (3 * x1), .ref b16, .int (zI σ b12 (Int32.toNatClampNeg ((3 * x1) + x5))), .ref a0]) (σ1 := σ) zM_X7_leads dX7_leads_47 rfl rfl rfl rfl ?_
      refine zw_go (pc1 := 50) (L1 := [some (.ref a0), some (.int x1), some (.int x2), some (.int x3), some (.int x4), some (.int x5), some (.int (zI σ b12 (Int32.toNatClampNeg ((3 * x1) + x5)))), none, none]) (st1 := [.int ((3 * x1) + x5), .ref b16, .int (zI σ b12 (Int32.toNatClampNeg ((3 * x1) + x5))), .ref a0]) (σ1 := σ) zM_X7_leads dX7_leads_49 rfl rfl rfl rfl ?_
      obtain ⟨hk18, h⟩ := h
      obtain ⟨hi19, h⟩ := h
      refine zw_iald zM_X7_leads dX7_leads_50 ⟨Or.inl hk18, hi19⟩ ?_
      refine zw_go (pc1 := 52) (L1 := [some (.ref a0), some (.int x1), some (.int x2), some (.int x3), some (.int x4), some (.int x5), some (.int (zI σ b12 (Int32.toNatClampNeg ((3 * x1) + x5)))), none, none]) (st1 := [.int x2, .int (zI σ b16 (Int32.toNatClampNeg ((3 * x1) + x5))), .int (zI σ b12 (Int32.toNatClampNeg ((3 * x1) + x5))), .ref a0]) (σ1 := σ) zM_X7_leads dX7_leads_51 rfl rfl rfl rfl ?_
      refine zw_callI (as := [.ref a0, .int (zI σ b12 (Int32.toNatClampNeg ((3 * x1) + x5))), .int (zI σ b16 (Int32.toNatClampNeg ((3 * x1) + x5))), .int x2]) (rest := []) zM_X7_leads dX7_leads_52 (zx_calV zC_7_275) zM_X7_child rfl rfl rfl rfl rfl (zx_args0 hk1 rfl) rfl h (fun v21 σ20 h => ?_)
      refine zw_go (pc1 := 57) (L1 := [some (.ref a0), some (.int x1), some (.int x2), some (.int x3), some (.int x4), some (.int x5), some (.int (zI σ b12 (Int32.toNatClampNeg ((3 * x1) + x5)))), some (.int v21), none]) (st1 := []) (σ1 := σ20) zM_X7_leads dX7_leads_55 rfl rfl rfl rfl ?_
      refine zw_go (pc1 := 59) (L1 := [some (.ref a0), some (.int x1), some (.int x2), some (.int x3), some (.int x4), some (.int x5), some (.int (zI σ b12 (Int32.toNatClampNeg ((3 * x1) + x5)))), some (.int v21), none]) (st1 := [.int v21]) (σ1 := σ20) zM_X7_leads dX7_leads_57 rfl rfl rfl rfl ?_
      refine zw_if_le (tgt := 135) zM_X7_leads dX7_leads_59 rfl rfl (fun q => ?_) (fun q => ?_)
      · replace h := h.1 q
        exact zw_weak2 h ⟨rfl, rfl, rfl, rfl, rfl, rfl, trivial⟩
      · replace h := h.2 q
        refine zw_go (pc1 := 63) (L1 := [some (.ref a0), some (.int x1), some (.int x2), some (.int x3), some (.int x4), some (.int x5), some (.int (zI σ b12 (Int32.toNatClampNeg ((3 * x1) + x5)))), some (.int v21), none]) (st1 := [.ref a0]) (σ1 := σ20) zM_X7_leads dX7_leads_62 rfl rfl rfl rfl ?_
        refine zw_go (pc1 := 65) (L1 := [some (.ref a0), some (.int x1), some (.int x2), some (.int x3), some (.int x4), some (.int x5), some (.int (zI σ b12 (Int32.toNatClampNeg ((3 * x1) + x5)))), some (.int v21), none]) (st1 := [.int (zI σ b12 (Int32.toNatClampNeg ((3 * x1) + x5))), .ref a0]) (σ1 := σ20) zM_X7_leads dX7_leads_63 rfl rfl rfl rfl ?_
        refine zw_go (pc1 := 67) (L1 := [some (.ref a0), some (.int x1), some (.int x2), some (.int x3), some (.int x4), some (.int x5), some (.int (zI σ b12 (Int32.toNatClampNeg ((3 * x1) + x5)))), some (.int v21), none]) (st1 := [.int v21, .int (zI σ b12 (Int32.toNatClampNeg ((3 * x1) + x5))), .ref a0]) (σ1 := σ20) zM_X7_leads dX7_leads_65 rfl rfl rfl rfl ?_
        refine zw_iconst (v := 0) zM_X7_leads dX7_leads_67 (by decide) ?_
        obtain ⟨hk22, h⟩ := h
        refine zw_callI (as := [.ref a0, .int (zI σ b12 (Int32.toNatClampNeg ((3 * x1) + x5))), .int v21, .int 0]) (rest := []) zM_X7_leads dX7_leads_68 (zx_calV zC_7_266) zM_X7_told rfl rfl rfl rfl rfl (zx_args0 hk22 rfl) rfl h (fun v24 σ23 h => ?_)
        refine zw_go (pc1 := 73) (L1 := [some (.ref a0), some (.int x1), some (.int x2), some (.int x3), some (.int x4), some (.int x5), some (.int (zI σ b12 (Int32.toNatClampNeg ((3 * x1) + x5)))), some (.int v21), some (.int v24)]) (st1 := []) (σ1 := σ23) zM_X7_leads dX7_leads_71 rfl rfl rfl rfl ?_
        refine zw_go (pc1 := 75) (L1 := [some (.ref a0), some (.int x1), some (.int x2), some (.int x3), some (.int x4), some (.int x5), some (.int (zI σ b12 (Int32.toNatClampNeg ((3 * x1) + x5)))), some (.int v21), some (.int v24)]) (st1 := [.int v24]) (σ1 := σ23) zM_X7_leads dX7_leads_73 rfl rfl rfl rfl ?_
        refine zw_iconst (v := 1) zM_X7_leads dX7_leads_75 (by decide) ?_
        refine zw_icmp_eq (tgt := 89) zM_X7_leads dX7_leads_76 rfl rfl (fun q => ?_) (fun q => ?_)
        · replace h := h.1 q
          exact zw_weak2 h ⟨rfl, rfl, rfl, rfl, rfl, rfl, rfl, rfl, trivial⟩
        · replace h := h.2 q
          refine zw_go (pc1 := 81) (L1 := [some (.ref a0), some (.int x1), some (.int x2), some (.int x3), some (.int x4), some (.int x5), some (.int (zI σ b12 (Int32.toNatClampNeg ((3 * x1) + x5)))), some (.int v21), some (.int v24)]) (st1 := [.int v24]) (σ1 := σ23) zM_X7_leads dX7_leads_79 rfl rfl rfl rfl ?_
          refine zw_iconst (v := 2) zM_X7_leads dX7_leads_81 (by decide) ?_
          refine zw_icmp_ne (tgt := 122) zM_X7_leads dX7_leads_82 rfl rfl (fun q => ?_) (fun q => ?_)
          · replace h := h.1 q
            exact zw_weak2 h ⟨rfl, rfl, rfl, rfl, rfl, rfl, trivial⟩
          · replace h := h.2 q
            refine zw_go (pc1 := 86) (L1 := [some (.ref a0), some (.int x1), some (.int x2), some (.int x3), some (.int x4), some (.int x5), some (.int (zI σ b12 (Int32.toNatClampNeg ((3 * x1) + x5)))), some (.int v21), some (.int v24)]) (st1 := [.int x3]) (σ1 := σ23) zM_X7_leads dX7_leads_85 rfl rfl rfl rfl ?_
            refine zw_if_ne (tgt := 122) zM_X7_leads dX7_leads_86 rfl rfl (fun q => ?_) (fun q => ?_)
            · replace h := h.1 q
              exact zw_weak2 h ⟨rfl, rfl, rfl, rfl, rfl, rfl, trivial⟩
            · replace h := h.2 q
              exact zw_weak2 h ⟨rfl, rfl, rfl, rfl, rfl, rfl, rfl, rfl, trivial⟩
set_option maxHeartbeats 4000000 in
set_option maxRecDepth 100000 in
theorem vc_X7_leads_89 (a0 : Nat) (x1 : Int32) (x2 : Int32) (x3 : Int32) (x5 : Int32) (x6 : Int32) (x7 : Int32) (x8 : Int32) (σ : zx_S) (K : Int32 → zx_S → Prop) (h : zK σ a0 = 20 ∧ ∃ b2 : Nat, zR σ a0 39 = some b2 ∧ zK σ b2 = 1 ∧ zx_in ((3 * (zI σ a0 37)) + x3) (zN σ b2) = true ∧ ∀ σ6 : zx_S, σ6 = zx_pI σ b2 (Int32.toNatClampNeg ((3 * (zI σ a0 37)) + x3)) x6 → ∃ b8 : Nat, zR σ6 a0 40 = some b8 ∧ zK σ6 b8 = 1 ∧ zx_in ((3 * (zI σ6 a0 37)) + x3) (zN σ6 b8) = true ∧ ∀ σ12 : zx_S, σ12 = zx_pI σ6 b8 (Int32.toNatClampNeg ((3 * (zI σ6 a0 37)) + x3)) x7 → zwI 174 122 [some (.ref a0), some (.int x1), some (.int x2), some (.int (x3 + Int32.ofInt 1)), none, some (.int x5), none, none, some (.int x8)] [] σ12 K) : zwI 174 89 [some (.ref a0), some (.int x1), some (.int x2), some (.int x3), none, some (.int x5), some (.int x6), some (.int x7), some (.int x8)] [] σ K := by
  refine zw_go (pc1 := 90) (L1 := [some (.ref a0), some (.int x1), some (.int x2), some (.int x3), none, some (.int x5), some (.int x6), some (.int x7), some (.int x8)]) (st1 := [.ref a0]) (σ1 := σ) zM_X7_leads dX7_leads_89 rfl rfl rfl rfl ?_
  obtain ⟨hk1, h⟩ := h
  obtain ⟨b2, hr3, h⟩ := h
  refine zw_getR (a := b2) zM_X7_leads dX7_leads_90 zF_7_88 rfl hk1 hr3 ?_
  refine zw_iconst (v := 3) zM_X7_leads dX7_leads_93 (by decide) ?_
  refine zw_go (pc1 := 95) (L1 := [some (.ref a0), some (.int x1), some (.int x2), some (.int x3), none, some (.int x5), some (.int x6), some (.int x7), some (.int x8)]) (st1 := [.ref a0, .int 3, .ref b2]) (σ1 := σ) zM_X7_leads dX7_leads_94 rfl rfl rfl rfl ?_
  refine zw_getI zM_X7_leads dX7_leads_95 zF_7_269 rfl hk1 ?_
  refine zw_go (pc1 := 99) (L1 := [some (.ref a0), some (.int x1), some (.int x2), some (.int x3), none, some (.int x5), some (.int x6), some (.int x7), some (.int x8)]) (st1 := [.int (3 * (zI σ a0 37)), .ref b2]) (σ1 := σ) zM_X7_leads dX7_leads_98 rfl rfl rfl rfl ?_
  refine zw_go (pc1 := 100) (L1 := [some (.ref a0), some (.int x1), some (.int x2), some (.int x3), none, some (.int x5), some (.int x6), some (.int x7), some (.int x8)]) (st1 := [.int x3, .int (3 * (zI σ a0 37)), .ref b2]) (σ1 := σ) zM_X7_leads dX7_leads_99 rfl rfl rfl rfl ?_
  refine zw_go (pc1 := 101) (L1 := [some (.ref a0), some (.int x1), some (.int x2), some (.int x3), none, some (.int x5), some (.int x6), some (.int x7), some (.int x8)]) (st1 := [.int ((3 * (zI σ a0 37)) + x3), .ref b2]) (σ1 := σ) zM_X7_leads dX7_leads_100 rfl rfl rfl rfl ?_
  refine zw_go (pc1 := 103) (L1 := [some (.ref a0), some (.int x1), some (.int x2), some (.int x3), none, some (.int x5), some (.int x6), some (.int x7), some (.int x8)]) (st1 := [.int x6, .int ((3 * (zI σ a0 37)) + x3), .ref b2]) (σ1 := σ) zM_X7_leads dX7_leads_101 rfl rfl rfl rfl ?_
  obtain ⟨hk4, h⟩ := h
  obtain ⟨hi5, h⟩ := h
  obtain ⟨σ6, e7⟩ : ∃ z9 : zx_S, z9 = zx_pI σ b2 (Int32.toNatClampNeg ((3 * (zI σ a0 37)) + x3)) x6 := ⟨_, rfl⟩
  replace h := h σ6 e7
  refine zw_iast zM_X7_leads dX7_leads_103 ⟨hk4, hi5⟩ e7 ?_
  refine zw_go (pc1 := 105) (L1 := [some (.ref a0), some (.int x1), some (.int x2), some (.int x3), none, some (.int x5), some (.int x6), some (.int x7), some (.int x8)]) (st1 := [.ref a0]) (σ1 := σ6) zM_X7_leads dX7_leads_104 rfl rfl rfl rfl ?_
  obtain ⟨b8, hr9, h⟩ := h
  refine zw_getR (a := b8) zM_X7_leads dX7_leads_105 zF_7_91 rfl (by rw [e7]; exact hk1) hr9 ?_
  refine zw_iconst (v := 3) zM_X7_leads dX7_leads_108 (by decide) ?_
  refine zw_go (pc1 := 110) (L1 := [some (.ref a0), some (.int x1), some (.int x2), some (.int x3), none, some (.int x5), some (.int x6), some (.int x7), some (.int x8)]) (st1 := [.ref a0, .int 3, .ref b8]) (σ1 := σ6) zM_X7_leads dX7_leads_109 rfl rfl rfl rfl ?_
  refine zw_getI zM_X7_leads dX7_leads_110 zF_7_269 rfl (by rw [e7]; exact hk1) ?_
  refine zw_go (pc1 := 114) (L1 := [some (.ref a0), some (.int x1), some (.int x2), some (.int x3), none, some (.int x5), some (.int x6), some (.int x7), some (.int x8)]) (st1 := [.int (3 * (zI σ6 a0 37)), .ref b8]) (σ1 := σ6) zM_X7_leads dX7_leads_113 rfl rfl rfl rfl ?_
  refine zw_go (pc1 := 115) (L1 := [some (.ref a0), some (.int x1), some (.int x2), some (.int x3), none, some (.int x5), some (.int x6), some (.int x7), some (.int x8)]) (st1 := [.int x3, .int (3 * (zI σ6 a0 37)), .ref b8]) (σ1 := σ6) zM_X7_leads dX7_leads_114 rfl rfl rfl rfl ?_
  refine zw_go (pc1 := 116) (L1 := [some (.ref a0), some (.int x1), some (.int x2), some (.int x3), none, some (.int x5), some (.int x6), some (.int x7), some (.int x8)]) (st1 := [.int ((3 * (zI σ6 a0 37)) + x3), .ref b8]) (σ1 := σ6) zM_X7_leads dX7_leads_115 rfl rfl rfl rfl ?_
  refine zw_go (pc1 := 118) (L1 := [some (.ref a0), some (.int x1), some (.int x2), some (.int x3), none, some (.int x5), some (.int x6), some (.int x7), some (.int x8)]) (st1 := [.int x7, .int ((3 * (zI σ6 a0 37)) + x3), .ref b8]) (σ1 := σ6) zM_X7_leads dX7_leads_116 rfl rfl rfl rfl ?_
  obtain ⟨hk10, h⟩ := h
  obtain ⟨hi11, h⟩ := h
  obtain ⟨σ12, e13⟩ : ∃ z9 : zx_S, z9 = zx_pI σ6 b8 (Int32.toNatClampNeg ((3 * (zI σ6 a0 37)) + x3)) x7 := ⟨_, rfl⟩
  replace h := h σ12 e13
  refine zw_iast zM_X7_leads dX7_leads_118 ⟨hk10, hi11⟩ e13 ?_
  refine zw_go (pc1 := 122) (L1 := [some (.ref a0), some (.int x1), some (.int x2), some (.int (x3 + Int32.ofInt 1)), none, some (.int x5), some (.int x6), some (.int x7), some (.int x8)]) (st1 := []) (σ1 := σ12) zM_X7_leads dX7_leads_119 rfl rfl rfl rfl ?_
  exact zw_weak2 h ⟨rfl, rfl, rfl, rfl, rfl, rfl, trivial⟩
set_option maxHeartbeats 4000000 in
set_option maxRecDepth 100000 in
theorem vc_X7_leads_122 (a0 : Nat) (x1 : Int32) (x2 : Int32) (x3 : Int32) (x5 : Int32) (x8 : Int32) (σ : zx_S) (K : Int32 → zx_S → Prop) (h : ((¬ x8 = (1 : Int32) → zwI 174 133 [some (.ref a0), some (.int x1), some (.int x2), some (.int x3), none, some (.int x5), none, none, none] [.int 0] σ K) ∧ (x8 = (1 : Int32) → zwI 174 133 [some (.ref a0), some (.int x1), some (.int x2), some (.int x3), none, some (.int x5), none, none, none] [.int 1] σ K))) : zwI 174 122 [some (.ref a0), some (.int x1), some (.int x2), some (.int x3), none, some (.int x5), none, none, some (.int x8)] [] σ K := by
  refine zw_go (pc1 := 124) (L1 := [some (.ref a0), some (.int x1), some (.int x2), some (.int x3), none, some (.int x5), none, none, some (.int x8)]) (st1 := [.int x8]) (σ1 := σ) zM_X7_leads dX7_leads_122 rfl rfl rfl rfl ?_
  refine zw_iconst (v := 1) zM_X7_leads dX7_leads_124 (by decide) ?_
  refine zw_icmp_ne (tgt := 132) zM_X7_leads dX7_leads_125 rfl rfl (fun q => ?_) (fun q => ?_)
  · replace h := h.1 q
    refine zw_iconst (v := 0) zM_X7_leads dX7_leads_132 (by decide) ?_
    exact zw_weak2 h ⟨rfl, rfl, rfl, rfl, rfl, trivial⟩
  · replace h := h.2 q
    refine zw_iconst (v := 1) zM_X7_leads dX7_leads_128 (by decide) ?_
    refine zw_goto (tgt := 133) zM_X7_leads dX7_leads_129 rfl ?_
    exact zw_weak2 h ⟨rfl, rfl, rfl, rfl, rfl, trivial⟩
set_option maxHeartbeats 4000000 in
set_option maxRecDepth 100000 in
theorem vc_X7_leads_133 (a0 : Nat) (x1 : Int32) (x2 : Int32) (x3 : Int32) (x5 : Int32) (y0 : Int32) (σ : zx_S) (K : Int32 → zx_S → Prop) (h : zwI 174 135 [some (.ref a0), some (.int x1), some (.int x2), some (.int x3), some (.int y0), some (.int x5), none, none, none] [] σ K) : zwI 174 133 [some (.ref a0), some (.int x1), some (.int x2), some (.int x3), none, some (.int x5), none, none, none] [.int y0] σ K := by
  refine zw_go (pc1 := 135) (L1 := [some (.ref a0), some (.int x1), some (.int x2), some (.int x3), some (.int y0), some (.int x5), none, none, none]) (st1 := []) (σ1 := σ) zM_X7_leads dX7_leads_133 rfl rfl rfl rfl ?_
  exact zw_weak2 h ⟨rfl, rfl, rfl, rfl, rfl, rfl, trivial⟩
set_option maxHeartbeats 4000000 in
set_option maxRecDepth 100000 in
theorem vc_X7_leads_135 (a0 : Nat) (x1 : Int32) (x2 : Int32) (x3 : Int32) (x4 : Int32) (x5 : Int32) (σ : zx_S) (K : Int32 → zx_S → Prop) (h : zwI 174 8 [some (.ref a0), some (.int x1), some (.int x2), some (.int x3), some (.int x4), some (.int (x5 + Int32.ofInt 1)), none, none, none] [] σ K) : zwI 174 135 [some (.ref a0), some (.int x1), some (.int x2), some (.int x3), some (.int x4), some (.int x5), none, none, none] [] σ K := by
  refine zw_go (pc1 := 138) (L1 := [some (.ref a0), some (.int x1), some (.int x2), some (.int x3), some (.int x4), some (.int (x5 + Int32.ofInt 1)), none, none, none]) (st1 := []) (σ1 := σ) zM_X7_leads dX7_leads_135 rfl rfl rfl rfl ?_
  refine zw_goto (tgt := 8) zM_X7_leads dX7_leads_138 rfl ?_
  exact zw_weak2 h ⟨rfl, rfl, rfl, rfl, rfl, rfl, trivial⟩
set_option maxHeartbeats 4000000 in
set_option maxRecDepth 100000 in
theorem vc_X7_lies_0 (x0 : Int32) (σ : zx_S) (K : Int32 → zx_S → Prop) (h : ((x0 < (32768 : Int32) → K x0 σ) ∧ (¬ x0 < (32768 : Int32) → K (x0 - 32768) σ))) : zwI 175 0 [some (.int x0)] [] σ K := by
  refine zw_go (pc1 := 1) (L1 := [some (.int x0)]) (st1 := [.int x0]) (σ1 := σ) zM_X7_lies dX7_lies_0 rfl rfl rfl rfl ?_
  refine zw_ldc (v := 32768) zM_X7_lies dX7_lies_1 zK_7_158 ?_
  refine zw_icmp_lt (tgt := 13) zM_X7_lies dX7_lies_3 rfl rfl (fun q => ?_) (fun q => ?_)
  · replace h := h.1 q
    refine zw_go (pc1 := 14) (L1 := [some (.int x0)]) (st1 := [.int x0]) (σ1 := σ) zM_X7_lies dX7_lies_13 rfl rfl rfl rfl ?_
    exact zw_reti zM_X7_lies dX7_lies_14 rfl h
  · replace h := h.2 q
    refine zw_go (pc1 := 7) (L1 := [some (.int x0)]) (st1 := [.int x0]) (σ1 := σ) zM_X7_lies dX7_lies_6 rfl rfl rfl rfl ?_
    refine zw_ldc (v := 32768) zM_X7_lies dX7_lies_7 zK_7_158 ?_
    refine zw_go (pc1 := 10) (L1 := [some (.int x0)]) (st1 := [.int (x0 - 32768)]) (σ1 := σ) zM_X7_lies dX7_lies_9 rfl rfl rfl rfl ?_
    refine zw_goto (tgt := 14) zM_X7_lies dX7_lies_10 rfl ?_
    exact zw_reti zM_X7_lies dX7_lies_14 rfl h
