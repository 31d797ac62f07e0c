set_option maxHeartbeats 4000000 in
set_option maxRecDepth 100000 in
theorem vd_X7_isFile_0 (x1 : Int) (r_x1 : jW x1) (x2 : Int) (r_x2 : jW x2) (x3 : Int) (r_x3 : jW x3) (E : jE) (A : jA) (K : Int → jA → Prop) (h : jrI 210 0 [some (.ref 49), some (.int (jI x1)), some (.int (jI (x2 + 6)))] [] E A (fun v3 A1 => 0 ≤ v3 ∧ 0 < x3 ∧ 0 ≤ v3 ∧ 0 < x3 ∧ jrI 143 0 [some (.ref 49), some (.int (jI x1)), some (.int (jI (x2 + 10)))] [] E A1 (fun v11 A9 => jrI 143 0 [some (.ref 49), some (.int (jI x1)), some (.int (jI (x2 + 11)))] [] E A9 (fun v15 A13 => jrI 202 0 [some (.ref 49), some (.int (jI x1))] [] E A13 (fun v19 A17 => ((v19 < v11 → K 0 A17) ∧ (v11 ≤ v19 → jW (v3 % x3) ∧ ((¬ (v3 % x3) = (0 : Int) → jrI 163 70 [some (.ref 49), some (.int (jI x1)), some (.int (jI x2)), some (.int (jI x3)), none, some (.int (jI (v3 / x3))), some (.int (jI (v3 % x3))), some (.int (jI v11)), some (.int (jI v15)), none, none, none, none] [] E A17 K) ∧ ((v3 % x3) = (0 : Int) → (((0 : Int) < v11 → K 0 A17) ∧ (v11 ≤ (0 : Int) → (((0 : Int) < v15 → K 0 A17) ∧ (v15 ≤ (0 : Int) → jrI 163 70 [some (.ref 49), some (.int (jI x1)), some (.int (jI x2)), some (.int (jI x3)), none, some (.int (jI (v3 / x3))), some (.int (jI (v3 % x3))), some (.int (jI v11)), some (.int (jI v15)), none, none, none, none] [] E A17 K))))))))))))) : jrI 163 0 [some (.ref 49), some (.int (jI x1)), some (.int (jI x2)), some (.int (jI x3)), none, none, none, none, none, none, none, none, none] [] E A K := by
  intro hA
  refine zw_go (pc1 := 1) (L1 := [some (.ref 49), some (.int (jI x1)), some (.int (jI x2)), some (.int (jI x3)), none, none, none, none, none, none, none, none, none]) (st1 := [.ref 49]) (σ1 := js E A) zM_X7_isFile dX7_isFile_0 rfl rfl rfl rfl ?_
  refine zw_go (pc1 := 2) (L1 := [some (.ref 49), some (.int (jI x1)), some (.int (jI x2)), some (.int (jI x3)), none, none, none, none, none, none, none, none, none]) (st1 := [.int (jI x1), .ref 49]) (σ1 := js E A) zM_X7_isFile dX7_isFile_1 rfl rfl rfl rfl ?_
  refine zw_go (pc1 := 3) (L1 := [some (.ref 49), some (.int (jI x1)), some (.int (jI x2)), some (.int (jI x3)), none, none, none, none, none, none, none, none, none]) (st1 := [.int (jI x2), .int (jI x1), .ref 49]) (σ1 := js E A) zM_X7_isFile dX7_isFile_2 rfl rfl rfl rfl ?_
  refine jw_bipush (v := 6) zM_X7_isFile dX7_isFile_3 (by decide) ?_
  refine jw_add zM_X7_isFile dX7_isFile_5 ?_
  refine jw_callI (as := [.ref 49, .int (jI x1), .int (jI (x2 + 6))]) (rest := []) zM_X7_isFile dX7_isFile_6 (zx_calV zC_7_201) zM_X7_word rfl rfl rfl rfl rfl (j_args0 rfl rfl) rfl hA h (fun v3 A1 rv4 hA2 h => ?_)
  refine zw_go (pc1 := 11) (L1 := [some (.ref 49), some (.int (jI x1)), some (.int (jI x2)), some (.int (jI x3)), some (.int (jI v3)), none, none, none, none, none, none, none, none]) (st1 := []) (σ1 := js E A1) zM_X7_isFile dX7_isFile_9 rfl rfl rfl rfl ?_
  refine zw_go (pc1 := 13) (L1 := [some (.ref 49), some (.int (jI x1)), some (.int (jI x2)), some (.int (jI x3)), some (.int (jI v3)), none, none, none, none, none, none, none, none]) (st1 := [.int (jI v3)]) (σ1 := js E A1) zM_X7_isFile dX7_isFile_11 rfl rfl rfl rfl ?_
  refine zw_go (pc1 := 14) (L1 := [some (.ref 49), some (.int (jI x1)), some (.int (jI x2)), some (.int (jI x3)), some (.int (jI v3)), none, none, none, none, none, none, none, none]) (st1 := [.int (jI x3), .int (jI v3)]) (σ1 := js E A1) zM_X7_isFile dX7_isFile_13 rfl rfl rfl rfl ?_
  obtain ⟨hz5, h⟩ := h
  obtain ⟨hz6, h⟩ := h
  refine jw_div zM_X7_isFile dX7_isFile_14 rv4 r_x3 hz5 hz6 ?_
  refine zw_go (pc1 := 17) (L1 := [some (.ref 49), some (.int (jI x1)), some (.int (jI x2)), some (.int (jI x3)), some (.int (jI v3)), some (.int (jI (v3 / x3))), none, none, none, none, none, none, none]) (st1 := []) (σ1 := js E A1) zM_X7_isFile dX7_isFile_15 rfl rfl rfl rfl ?_
  refine zw_go (pc1 := 19) (L1 := [some (.ref 49), some (.int (jI x1)), some (.int (jI x2)), some (.int (jI x3)), some (.int (jI v3)), some (.int (jI (v3 / x3))), none, none, none, none, none, none, none]) (st1 := [.int (jI v3)]) (σ1 := js E A1) zM_X7_isFile dX7_isFile_17 rfl rfl rfl rfl ?_
  refine zw_go (pc1 := 20) (L1 := [some (.ref 49), some (.int (jI x1)), some (.int (jI x2)), some (.int (jI x3)), some (.int (jI v3)), some (.int (jI (v3 / x3))), none, none, none, none, none, none, none]) (st1 := [.int (jI x3), .int (jI v3)]) (σ1 := js E A1) zM_X7_isFile dX7_isFile_19 rfl rfl rfl rfl ?_
  obtain ⟨hz7, h⟩ := h
  obtain ⟨hz8, h⟩ := h
  refine jw_rem zM_X7_isFile dX7_isFile_20 rv4 r_x3 hz7 hz8 ?_
  refine zw_go (pc1 := 23) (L1 := [some (.ref 49), some (.int (jI x1)), some (.int (jI x2)), some (.int (jI x3)), some (.int (jI v3)), some (.int (jI (v3 / x3))), some (.int (jI (v3 % x3))), none, none, none, none, none, none]) (st1 := []) (σ1 := js E A1) zM_X7_isFile dX7_isFile_21 rfl rfl rfl rfl ?_
  refine zw_go (pc1 := 24) (L1 := [some (.ref 49), some (.int (jI x1)), some (.int (jI x2)), some (.int (jI x3)), some (.int (jI v3)), some (.int (jI (v3 / x3))), some (.int (jI (v3 % x3))), none, none, none, none, none, none]) (st1 := [.ref 49]) (σ1 := js E A1) zM_X7_isFile dX7_isFile_23 rfl rfl rfl rfl ?_
  refine zw_go (pc1 := 25) (L1 := [some (.ref 49), some (.int (jI x1)), some (.int (jI x2)), some (.int (jI x3)), some (.int (jI v3)), some (.int (jI (v3 / x3))), some (.int (jI (v3 % x3))), none, none, none, none, none, none]) (st1 := [.int (jI x1), .ref 49]) (σ1 := js E A1) zM_X7_isFile dX7_isFile_24 rfl rfl rfl rfl ?_
  refine zw_go (pc1 := 26) (L1 := [some (.ref 49), some (.int (jI x1)), some (.int (jI x2)), some (.int (jI x3)), some (.int (jI v3)), some (.int (jI (v3 / x3))), some (.int (jI (v3 % x3))), none, none, none, none, none, none]) (st1 := [.int (jI x2), .int (jI x1), .ref 49]) (σ1 := js E A1) zM_X7_isFile dX7_isFile_25 rfl rfl rfl rfl ?_
  refine jw_bipush (v := 10) zM_X7_isFile dX7_isFile_26 (by decide) ?_
  refine jw_add zM_X7_isFile dX7_isFile_28 ?_
  refine jw_callI (as := [.ref 49, .int (jI x1), .int (jI (x2 + 10))]) (rest := []) zM_X7_isFile dX7_isFile_29 (zx_calV zC_7_198) zM_X7_byteAt rfl rfl rfl rfl rfl (j_args0 rfl rfl) rfl hA2 h (fun v11 A9 rv12 hA10 h => ?_)
  refine zw_go (pc1 := 34) (L1 := [some (.ref 49), some (.int (jI x1)), some (.int (jI x2)), some (.int (jI x3)), some (.int (jI v3)), some (.int (jI (v3 / x3))), some (.int (jI (v3 % x3))), some (.int (jI v11)), none, none, none, none, none]) (st1 := []) (σ1 := js E A9) zM_X7_isFile dX7_isFile_32 rfl rfl rfl rfl ?_
  refine zw_go (pc1 := 35) (L1 := [some (.ref 49), some (.int (jI x1)), some (.int (jI x2)), some (.int (jI x3)), some (.int (jI v3)), some (.int (jI (v3 / x3))), some (.int (jI (v3 % x3))), some (.int (jI v11)), none, none, none, none, none]) (st1 := [.ref 49]) (σ1 := js E A9) zM_X7_isFile dX7_isFile_34 rfl rfl rfl rfl ?_
  refine zw_go (pc1 := 36) (L1 := [some (.ref 49), some (.int (jI x1)), some (.int (jI x2)), some (.int (jI x3)), some (.int (jI v3)), some (.int (jI (v3 / x3))), some (.int (jI (v3 % x3))), some (.int (jI v11)), none, none, none, none, none]) (st1 := [.int (jI x1), .ref 49]) (σ1 := js E A9) zM_X7_isFile dX7_isFile_35 rfl rfl rfl rfl ?_
  refine zw_go (pc1 := 37) (L1 := [some (.ref 49), some (.int (jI x1)), some (.int (jI x2)), some (.int (jI x3)), some (.int (jI v3)), some (.int (jI (v3 / x3))), some (.int (jI (v3 % x3))), some (.int (jI v11)), none, none, none, none, none]) (st1 := [.int (jI x2), .int (jI x1), .ref 49]) (σ1 := js E A9) zM_X7_isFile dX7_isFile_36 rfl rfl rfl rfl ?_
  refine jw_bipush (v := 11) zM_X7_isFile dX7_isFile_37 (by decide) ?_
  refine jw_add zM_X7_isFile dX7_isFile_39 ?_
  refine jw_callI (as := [.ref 49, .int (jI x1), .int (jI (x2 + 11))]) (rest := []) zM_X7_isFile dX7_isFile_40 (zx_calV zC_7_198) zM_X7_byteAt rfl rfl rfl rfl rfl (j_args0 rfl rfl) rfl hA10 h (fun v15 A13 rv16 hA14 h => ?_)
  refine zw_go (pc1 := 45) (L1 := [some (.ref 49), some (.int (jI x1)), some (.int (jI x2)), some (.int (jI x3)), some (.int (jI v3)), some (.int (jI (v3 / x3))), some (.int (jI (v3 % x3))), some (.int (jI v11)), some (.int (jI v15)), none, none, none, none]) (st1 := []) (σ1 := js E A13) zM_X7_isFile dX7_isFile_43 rfl rfl rfl rfl ?_
  refine zw_go (pc1 := 47) (L1 := [some (.ref 49), some (.int (jI x1)), some (.int (jI x2)), some (.int (jI x3)), some (.int (jI v3)), some (.int (jI (v3 / x3))), some (.int (jI (v3 % x3))), some (.int (jI v11)), some (.int (jI v15)), none, none, none, none]) (st1 := [.int (jI v11)]) (σ1 := js E A13) zM_X7_isFile dX7_isFile_45 rfl rfl rfl rfl ?_
  refine zw_go (pc1 := 48) (L1 := [some (.ref 49), some (.int (jI x1)), some (.int (jI x2)), some (.int (jI x3)), some (.int (jI v3)), some (.int (jI (v3 / x3))), some (.int (jI (v3 % x3))), some (.int (jI v11)), some (.int (jI v15)), none, none, none, none]) (st1 := [.ref 49, .int (jI v11)]) (σ1 := js E A13) zM_X7_isFile dX7_isFile_47 rfl rfl rfl rfl ?_
  refine zw_go (pc1 := 49) (L1 := [some (.ref 49), some (.int (jI x1)), some (.int (jI x2)), some (.int (jI x3)), some (.int (jI v3)), some (.int (jI (v3 / x3))), some (.int (jI (v3 % x3))), some (.int (jI v11)), some (.int (jI v15)), none, none, none, none]) (st1 := [.int (jI x1), .ref 49, .int (jI v11)]) (σ1 := js E A13) zM_X7_isFile dX7_isFile_48 rfl rfl rfl rfl ?_
  refine jw_callI (as := [.ref 49, .int (jI x1)]) (rest := [.int (jI v11)]) zM_X7_isFile dX7_isFile_49 (zx_calV zC_7_232) zM_X7_tailsIn rfl rfl rfl rfl rfl (j_args0 rfl rfl) rfl hA14 h (fun v19 A17 rv20 hA18 h => ?_)
  refine jw_icmp_gt (tgt := 80) zM_X7_isFile dX7_isFile_52 rfl rv12 rv20 (fun q => ?_) (fun q => ?_)
  · replace h := h.1 q
    refine jw_iconst (v := 0) zM_X7_isFile dX7_isFile_80 rfl ?_
    exact jw_retz zM_X7_isFile dX7_isFile_81 rfl (Or.inl rfl) hA18 h
  · replace h := h.2 q
    refine zw_go (pc1 := 57) (L1 := [some (.ref 49), some (.int (jI x1)), some (.int (jI x2)), some (.int (jI x3)), some (.int (jI v3)), some (.int (jI (v3 / x3))), some (.int (jI (v3 % x3))), some (.int (jI v11)), some (.int (jI v15)), none, none, none, none]) (st1 := [.int (jI (v3 % x3))]) (σ1 := js E A17) zM_X7_isFile dX7_isFile_55 rfl rfl rfl rfl ?_
    obtain ⟨hw21, h⟩ := h
    refine jw_if_ne (tgt := 70) zM_X7_isFile dX7_isFile_57 rfl hw21 (fun q => ?_) (fun q => ?_)
    · replace h := h.1 q
      exact zw_weak2 (h hA18) ⟨rfl, rfl, rfl, rfl, rfl, rfl, rfl, rfl, trivial⟩
    · replace h := h.2 q
      refine zw_go (pc1 := 62) (L1 := [some (.ref 49), some (.int (jI x1)), some (.int (jI x2)), some (.int (jI x3)), some (.int (jI v3)), some (.int (jI (v3 / x3))), some (.int (jI (v3 % x3))), some (.int (jI v11)), some (.int (jI v15)), none, none, none, none]) (st1 := [.int (jI v11)]) (σ1 := js E A17) zM_X7_isFile dX7_isFile_60 rfl rfl rfl rfl ?_
      refine jw_if_gt (tgt := 80) zM_X7_isFile dX7_isFile_62 rfl rv12 (fun q => ?_) (fun q => ?_)
      · replace h := h.1 q
        refine jw_iconst (v := 0) zM_X7_isFile dX7_isFile_80 rfl ?_
        exact jw_retz zM_X7_isFile dX7_isFile_81 rfl (Or.inl rfl) hA18 h
      · replace h := h.2 q
        refine zw_go (pc1 := 67) (L1 := [some (.ref 49), some (.int (jI x1)), some (.int (jI x2)), some (.int (jI x3)), some (.int (jI v3)), some (.int (jI (v3 / x3))), some (.int (jI (v3 % x3))), some (.int (jI v11)), some (.int (jI v15)), none, none, none, none]) (st1 := [.int (jI v15)]) (σ1 := js E A17) zM_X7_isFile dX7_isFile_65 rfl rfl rfl rfl ?_
        refine jw_if_gt (tgt := 80) zM_X7_isFile dX7_isFile_67 rfl rv16 (fun q => ?_) (fun q => ?_)
        · replace h := h.1 q
          refine jw_iconst (v := 0) zM_X7_isFile dX7_isFile_80 rfl ?_
          exact jw_retz zM_X7_isFile dX7_isFile_81 rfl (Or.inl rfl) hA18 h
        · replace h := h.2 q
          exact zw_weak2 (h hA18) ⟨rfl, rfl, rfl, rfl, rfl, rfl, rfl, rfl, trivial⟩
set_option maxHeartbeats 4000000 in
set_option maxRecDepth 100000 in
theorem vd_X7_isFile_70 (x1 : Int) (r_x1 : jW x1) (x2 : Int) (r_x2 : jW x2) (x3 : Int) (r_x3 : jW x3) (x5 : Int) (r_x5 : jW x5) (x6 : Int) (r_x6 : jW x6) (x7 : Int) (r_x7 : jW x7) (x8 : Int) (r_x8 : jW x8) (E : jE) (A : jA) (K : Int → jA → Prop) (h : ((x6 ≤ (0 : Int) → jrI 163 82 [some (.ref 49), some (.int (jI x1)), some (.int (jI x2)), some (.int (jI x3)), none, some (.int (jI x5)), some (.int (jI x6)), some (.int (jI x7)), some (.int (jI x8)), none, none, none, none] [] E A K) ∧ ((0 : Int) < x6 → ((¬ x7 = (0 : Int) → jrI 163 82 [some (.ref 49), some (.int (jI x1)), some (.int (jI x2)), some (.int (jI x3)), none, some (.int (jI x5)), some (.int (jI x6)), some (.int (jI x7)), some (.int (jI x8)), none, none, none, none] [] E A K) ∧ (x7 = (0 : Int) → K 0 A))))) : jrI 163 70 [some (.ref 49), some (.int (jI x1)), some (.int (jI x2)), some (.int (jI x3)), none, some (.int (jI x5)), some (.int (jI x6)), some (.int (jI x7)), some (.int (jI x8)), none, none, none, none] [] E A K := by
  intro hA
  refine zw_go (pc1 := 72) (L1 := [some (.ref 49), some (.int (jI x1)), some (.int (jI x2)), some (.int (jI x3)), none, some (.int (jI x5)), some (.int (jI x6)), some (.int (jI x7)), some (.int (jI x8)), none, none, none, none]) (st1 := [.int (jI x6)]) (σ1 := js E A) zM_X7_isFile dX7_isFile_70 rfl rfl rfl rfl ?_
  refine jw_if_le (tgt := 82) zM_X7_isFile dX7_isFile_72 rfl r_x6 (fun q => ?_) (fun q => ?_)
  · replace h := h.1 q
    exact zw_weak2 (h hA) ⟨rfl, rfl, rfl, rfl, rfl, rfl, rfl, rfl, trivial⟩
  · replace h := h.2 q
    refine zw_go (pc1 := 77) (L1 := [some (.ref 49), some (.int (jI x1)), some (.int (jI x2)), some (.int (jI x3)), none, some (.int (jI x5)), some (.int (jI x6)), some (.int (jI x7)), some (.int (jI x8)), none, none, none, none]) (st1 := [.int (jI x7)]) (σ1 := js E A) zM_X7_isFile dX7_isFile_75 rfl rfl rfl rfl ?_
    refine jw_if_ne (tgt := 82) zM_X7_isFile dX7_isFile_77 rfl r_x7 (fun q => ?_) (fun q => ?_)
    · replace h := h.1 q
      exact zw_weak2 (h hA) ⟨rfl, rfl, rfl, rfl, rfl, rfl, rfl, rfl, trivial⟩
    · replace h := h.2 q
      refine jw_iconst (v := 0) zM_X7_isFile dX7_isFile_80 rfl ?_
      exact jw_retz zM_X7_isFile dX7_isFile_81 rfl (Or.inl rfl) hA h
set_option maxHeartbeats 4000000 in
set_option maxRecDepth 100000 in
theorem vd_X7_isFile_82 (x1 : Int) (r_x1 : jW x1) (x2 : Int) (r_x2 : jW x2) (x3 : Int) (r_x3 : jW x3) (x5 : Int) (r_x5 : jW x5) (x6 : Int) (r_x6 : jW x6) (x7 : Int) (r_x7 : jW x7) (x8 : Int) (r_x8 : jW x8) (E : jE) (A : jA) (K : Int → jA → Prop) (h : ((x6 ≤ (0 : Int) → jrI 163 116 [some (.ref 49), some (.int (jI x1)), some (.int (jI x2)), some (.int (jI x3)), none, some (.int (jI x5)), none, none, none, none, none, none, none] [] E A K) ∧ ((0 : Int) < x6 → jrI 210 0 [some (.ref 49), some (.int (jI x1)), some (.int (jI 10))] [] E A (fun v3 A1 => jrI 143 0 [some (.ref 49), some (.int (jI x1)), some (.int (jI ((v3 + (5 * x7)) - 1)))] [] E A1 (fun v7 A5 => jW (x8 + x6) ∧ (((x8 + x6) ≤ v7 → jrI 163 116 [some (.ref 49), some (.int (jI x1)), some (.int (jI x2)), some (.int (jI x3)), none, some (.int (jI x5)), none, none, none, none, none, none, none] [] E A5 K) ∧ (v7 < (x8 + x6) → K 0 A5))))))) : jrI 163 82 [some (.ref 49), some (.int (jI x1)), some (.int (jI x2)), some (.int (jI x3)), none, some (.int (jI x5)), some (.int (jI x6)), some (.int (jI x7)), some (.int (jI x8)), none, none, none, none] [] E A K := by
  intro hA
  refine zw_go (pc1 := 84) (L1 := [some (.ref 49), some (.int (jI x1)), some (.int (jI x2)), some (.int (jI x3)), none, some (.int (jI x5)), some (.int (jI x6)), some (.int (jI x7)), some (.int (jI x8)), none, none, none, none]) (st1 := [.int (jI x6)]) (σ1 := js E A) zM_X7_isFile dX7_isFile_82 rfl rfl rfl rfl ?_
  refine jw_if_le (tgt := 116) zM_X7_isFile dX7_isFile_84 rfl r_x6 (fun q => ?_) (fun q => ?_)
  · replace h := h.1 q
    exact zw_weak2 (h hA) ⟨rfl, rfl, rfl, rfl, rfl, trivial⟩
  · replace h := h.2 q
    refine zw_go (pc1 := 89) (L1 := [some (.ref 49), some (.int (jI x1)), some (.int (jI x2)), some (.int (jI x3)), none, some (.int (jI x5)), some (.int (jI x6)), some (.int (jI x7)), some (.int (jI x8)), none, none, none, none]) (st1 := [.int (jI x8)]) (σ1 := js E A) zM_X7_isFile dX7_isFile_87 rfl rfl rfl rfl ?_
    refine zw_go (pc1 := 91) (L1 := [some (.ref 49), some (.int (jI x1)), some (.int (jI x2)), some (.int (jI x3)), none, some (.int (jI x5)), some (.int (jI x6)), some (.int (jI x7)), some (.int (jI x8)), none, none, none, none]) (st1 := [.int (jI x6), .int (jI x8)]) (σ1 := js E A) zM_X7_isFile dX7_isFile_89 rfl rfl rfl rfl ?_
    refine jw_add zM_X7_isFile dX7_isFile_91 ?_
    refine zw_go (pc1 := 93) (L1 := [some (.ref 49), some (.int (jI x1)), some (.int (jI x2)), some (.int (jI x3)), none, some (.int (jI x5)), some (.int (jI x6)), some (.int (jI x7)), some (.int (jI x8)), none, none, none, none]) (st1 := [.ref 49, .int (jI (x8 + x6))]) (σ1 := js E A) zM_X7_isFile dX7_isFile_92 rfl rfl rfl rfl ?_
    refine zw_go (pc1 := 94) (L1 := [some (.ref 49), some (.int (jI x1)), some (.int (jI x2)), some (.int (jI x3)), none, some (.int (jI x5)), some (.int (jI x6)), some (.int (jI x7)), some (.int (jI x8)), none, none, none, none]) (st1 := [.int (jI x1), .ref 49, .int (jI (x8 + x6))]) (σ1 := js E A) zM_X7_isFile dX7_isFile_93 rfl rfl rfl rfl ?_
    refine zw_go (pc1 := 95) (L1 := [some (.ref 49), some (.int (jI x1)), some (.int (jI x2)), some (.int (jI x3)), none, some (.int (jI x5)), some (.int (jI x6)), some (.int (jI x7)), some (.int (jI x8)), none, none, none, none]) (st1 := [.ref 49, .int (jI x1), .ref 49, .int (jI (x8 + x6))]) (σ1 := js E A) zM_X7_isFile dX7_isFile_94 rfl rfl rfl rfl ?_
    refine zw_go (pc1 := 96) (L1 := [some (.ref 49), some (.int (jI x1)), some (.int (jI x2)), some (.int (jI x3)), none, some (.int (jI x5)), some (.int (jI x6)), some (.int (jI x7)), some (.int (jI x8)), none, none, none, none]) (st1 := [.int (jI x1), .ref 49, .int (jI x1), .ref 49, .int (jI (x8 + x6))]) (σ1 := js E A) zM_X7_isFile dX7_isFile_95 rfl rfl rfl rfl ?_
    refine jw_bipush (v := 10) zM_X7_isFile dX7_isFile_96 (by decide) ?_
    refine jw_callI (as := [.ref 49, .int (jI x1), .int (jI 10)]) (rest := [.int (jI x1), .ref 49, .int (jI (x8 + x6))]) zM_X7_isFile dX7_isFile_98 (zx_calV zC_7_201) zM_X7_word rfl rfl rfl rfl rfl (j_args0 rfl rfl) rfl hA h (fun v3 A1 rv4 hA2 h => ?_)
    refine jw_iconst (v := 5) zM_X7_isFile dX7_isFile_101 rfl ?_
    refine zw_go (pc1 := 104) (L1 := [some (.ref 49), some (.int (jI x1)), some (.int (jI x2)), some (.int (jI x3)), none, some (.int (jI x5)), some (.int (jI x6)), some (.int (jI x7)), some (.int (jI x8)), none, none, none, none]) (st1 := [.int (jI x7), .int (jI 5), .int (jI v3), .int (jI x1), .ref 49, .int (jI (x8 + x6))]) (σ1 := js E A1) zM_X7_isFile dX7_isFile_102 rfl rfl rfl rfl ?_
    refine jw_mul zM_X7_isFile dX7_isFile_104 ?_
    refine jw_add zM_X7_isFile dX7_isFile_105 ?_
    refine jw_iconst (v := 1) zM_X7_isFile dX7_isFile_106 rfl ?_
    refine jw_sub zM_X7_isFile dX7_isFile_107 ?_
    refine jw_callI (as := [.ref 49, .int (jI x1), .int (jI ((v3 + (5 * x7)) - 1))]) (rest := [.int (jI (x8 + x6))]) zM_X7_isFile dX7_isFile_108 (zx_calV zC_7_198) zM_X7_byteAt rfl rfl rfl rfl rfl (j_args0 rfl rfl) rfl hA2 h (fun v7 A5 rv8 hA6 h => ?_)
    obtain ⟨hw9, h⟩ := h
    refine jw_icmp_le (tgt := 116) zM_X7_isFile dX7_isFile_111 rfl hw9 rv8 (fun q => ?_) (fun q => ?_)
    · replace h := h.1 q
      exact zw_weak2 (h hA6) ⟨rfl, rfl, rfl, rfl, rfl, trivial⟩
    · replace h := h.2 q
      refine jw_iconst (v := 0) zM_X7_isFile dX7_isFile_114 rfl ?_
      exact jw_retz zM_X7_isFile dX7_isFile_115 rfl (Or.inl rfl) hA6 h
set_option maxHeartbeats 4000000 in
set_option maxRecDepth 100000 in
theorem vd_X7_isFile_116 (x1 : Int) (r_x1 : jW x1) (x2 : Int) (r_x2 : jW x2) (x3 : Int) (r_x3 : jW x3) (x5 : Int) (r_x5 : jW x5) (E : jE) (A : jA) (K : Int → jA → Prop) (h : jrI 210 0 [some (.ref 49), some (.int (jI x1)), some (.int (jI (x2 + 8)))] [] E A (fun v3 A1 => jrI 163 133 [some (.ref 49), some (.int (jI x1)), some (.int (jI x2)), some (.int (jI x3)), none, some (.int (jI x5)), none, none, none, some (.int (jI v3)), some (.int (jI 1)), some (.int (jI 0)), none] [] E A1 K)) : jrI 163 116 [some (.ref 49), some (.int (jI x1)), some (.int (jI x2)), some (.int (jI x3)), none, some (.int (jI x5)), none, none, none, none, none, none, none] [] E A K := by
  intro hA
  refine zw_go (pc1 := 117) (L1 := [some (.ref 49), some (.int (jI x1)), some (.int (jI x2)), some (.int (jI x3)), none, some (.int (jI x5)), none, none, none, none, none, none, none]) (st1 := [.ref 49]) (σ1 := js E A) zM_X7_isFile dX7_isFile_116 rfl rfl rfl rfl ?_
  refine zw_go (pc1 := 118) (L1 := [some (.ref 49), some (.int (jI x1)), some (.int (jI x2)), some (.int (jI x3)), none, some (.int (jI x5)), none, none, none, none, none, none, none]) (st1 := [.int (jI x1), .ref 49]) (σ1 := js E A) zM_X7_isFile dX7_isFile_117 rfl rfl rfl rfl ?_
  refine zw_go (pc1 := 119) (L1 := [some (.ref 49), some (.int (jI x1)), some (.int (jI x2)), some (.int (jI x3)), none, some (.int (jI x5)), none, none, none, none, none, none, none]) (st1 := [.int (jI x2), .int (jI x1), .ref 49]) (σ1 := js E A) zM_X7_isFile dX7_isFile_118 rfl rfl rfl rfl ?_
  refine jw_bipush (v := 8) zM_X7_isFile dX7_isFile_119 (by decide) ?_
  refine jw_add zM_X7_isFile dX7_isFile_121 ?_
  refine jw_callI (as := [.ref 49, .int (jI x1), .int (jI (x2 + 8))]) (rest := []) zM_X7_isFile dX7_isFile_122 (zx_calV zC_7_201) zM_X7_word rfl rfl rfl rfl rfl (j_args0 rfl rfl) rfl hA h (fun v3 A1 rv4 hA2 h => ?_)
  refine zw_go (pc1 := 127) (L1 := [some (.ref 49), some (.int (jI x1)), some (.int (jI x2)), some (.int (jI x3)), none, some (.int (jI x5)), none, none, none, some (.int (jI v3)), none, none, none]) (st1 := []) (σ1 := js E A1) zM_X7_isFile dX7_isFile_125 rfl rfl rfl rfl ?_
  refine jw_iconst (v := 1) zM_X7_isFile dX7_isFile_127 rfl ?_
  refine zw_go (pc1 := 130) (L1 := [some (.ref 49), some (.int (jI x1)), some (.int (jI x2)), some (.int (jI x3)), none, some (.int (jI x5)), none, none, none, some (.int (jI v3)), some (.int (jI 1)), none, none]) (st1 := []) (σ1 := js E A1) zM_X7_isFile dX7_isFile_128 rfl rfl rfl rfl ?_
  refine jw_iconst (v := 0) zM_X7_isFile dX7_isFile_130 rfl ?_
  refine zw_go (pc1 := 133) (L1 := [some (.ref 49), some (.int (jI x1)), some (.int (jI x2)), some (.int (jI x3)), none, some (.int (jI x5)), none, none, none, some (.int (jI v3)), some (.int (jI 1)), some (.int (jI 0)), none]) (st1 := []) (σ1 := js E A1) zM_X7_isFile dX7_isFile_131 rfl rfl rfl rfl ?_
  exact zw_weak2 (h hA2) ⟨rfl, rfl, rfl, rfl, rfl, rfl, rfl, rfl, trivial⟩
set_option maxHeartbeats 4000000 in
set_option maxRecDepth 100000 in
theorem vd_X7_isFile_133 (x1 : Int) (r_x1 : jW x1) (x2 : Int) (r_x2 : jW x2) (x3 : Int) (r_x3 : jW x3) (x5 : Int) (r_x5 : jW x5) (x9 : Int) (r_x9 : jW x9) (x10 : Int) (r_x10 : jW x10) (x11 : Int) (r_x11 : jW x11) (E : jE) (A : jA) (K : Int → jA → Prop) (h : ((x5 ≤ x11 → (x10 = 0 ∨ x10 = 1) ∧ K x10 A) ∧ (x11 < x5 → ((x10 = (0 : Int) → (x10 = 0 ∨ x10 = 1) ∧ K x10 A) ∧ (¬ x10 = (0 : Int) → jrI 210 0 [some (.ref 49), some (.int (jI x1)), some (.int (jI ((x2 + 12) + (2 * x11))))] [] E A (fun v5 A3 => jrI 144 0 [some (.ref 49), some (.int (jI x1)), some (.int (jI x9)), some (.int (jI v5)), some (.int (jI x3)), none, none, none, none] [] E A3 (fun v9 A7 => jrI 175 0 [some (.int (jI v5))] [] E A7 (fun v13 A11 => jrI 163 133 [some (.ref 49), some (.int (jI x1)), some (.int (jI x2)), some (.int (jI x3)), none, some (.int (jI x5)), none, none, none, some (.int (jI (x9 + v13))), some (.int (jI v9)), some (.int (jI (x11 + 1))), none] [] E A11 K)))))))) : jrI 163 133 [some (.ref 49), some (.int (jI x1)), some (.int (jI x2)), some (.int (jI x3)), none, some (.int (jI x5)), none, none, none, some (.int (jI x9)), some (.int (jI x10)), some (.int (jI x11)), none] [] E A K := by
  intro hA
  refine zw_go (pc1 := 135) (L1 := [some (.ref 49), some (.int (jI x1)), some (.int (jI x2)), some (.int (jI x3)), none, some (.int (jI x5)), none, none, none, some (.int (jI x9)), some (.int (jI x10)), some (.int (jI x11)), none]) (st1 := [.int (jI x11)]) (σ1 := js E A) zM_X7_isFile dX7_isFile_133 rfl rfl rfl rfl ?_
  refine zw_go (pc1 := 137) (L1 := [some (.ref 49), some (.int (jI x1)), some (.int (jI x2)), some (.int (jI x3)), none, some (.int (jI x5)), none, none, none, some (.int (jI x9)), some (.int (jI x10)), some (.int (jI x11)), none]) (st1 := [.int (jI x5), .int (jI x11)]) (σ1 := js E A) zM_X7_isFile dX7_isFile_135 rfl rfl rfl rfl ?_
  refine jw_icmp_ge (tgt := 189) zM_X7_isFile dX7_isFile_137 rfl r_x11 r_x5 (fun q => ?_) (fun q => ?_)
  · replace h := h.1 q
    refine zw_go (pc1 := 191) (L1 := [some (.ref 49), some (.int (jI x1)), some (.int (jI x2)), some (.int (jI x3)), none, some (.int (jI x5)), none, none, none, some (.int (jI x9)), some (.int (jI x10)), some (.int (jI x11)), none]) (st1 := [.int (jI x10)]) (σ1 := js E A) zM_X7_isFile dX7_isFile_189 rfl rfl rfl rfl ?_
    obtain ⟨hv1, h⟩ := h
    exact jw_retz zM_X7_isFile dX7_isFile_191 rfl hv1 hA h
  · replace h := h.2 q
    refine zw_go (pc1 := 142) (L1 := [some (.ref 49), some (.int (jI x1)), some (.int (jI x2)), some (.int (jI x3)), none, some (.int (jI x5)), none, none, none, some (.int (jI x9)), some (.int (jI x10)), some (.int (jI x11)), none]) (st1 := [.int (jI x10)]) (σ1 := js E A) zM_X7_isFile dX7_isFile_140 rfl rfl rfl rfl ?_
    refine jw_if_eq (tgt := 189) zM_X7_isFile dX7_isFile_142 rfl r_x10 (fun q => ?_) (fun q => ?_)
    · replace h := h.1 q
      refine zw_go (pc1 := 191) (L1 := [some (.ref 49), some (.int (jI x1)), some (.int (jI x2)), some (.int (jI x3)), none, some (.int (jI x5)), none, none, none, some (.int (jI x9)), some (.int (jI x10)), some (.int (jI x11)), none]) (st1 := [.int (jI x10)]) (σ1 := js E A) zM_X7_isFile dX7_isFile_189 rfl rfl rfl rfl ?_
      obtain ⟨hv2, h⟩ := h
      exact jw_retz zM_X7_isFile dX7_isFile_191 rfl hv2 hA h
    · replace h := h.2 q
      refine zw_go (pc1 := 146) (L1 := [some (.ref 49), some (.int (jI x1)), some (.int (jI x2)), some (.int (jI x3)), none, some (.int (jI x5)), none, none, none, some (.int (jI x9)), some (.int (jI x10)), some (.int (jI x11)), none]) (st1 := [.ref 49]) (σ1 := js E A) zM_X7_isFile dX7_isFile_145 rfl rfl rfl rfl ?_
      refine zw_go (pc1 := 147) (L1 := [some (.ref 49), some (.int (jI x1)), some (.int (jI x2)), some (.int (jI x3)), none, some (.int (jI x5)), none, none, none, some (.int (jI x9)), some (.int (jI x10)), some (.int (jI x11)), none]) (st1 := [.int (jI x1), .ref 49]) (σ1 := js E A) zM_X7_isFile dX7_isFile_146 rfl rfl rfl rfl ?_
      refine zw_go (pc1 := 148) (L1 := [some (.ref 49), some (.int (jI x1)), some (.int (jI x2)), some (.int (jI x3)), none, some (.int (jI x5)), none, none, none, some (.int (jI x9)), some (.int (jI x10)), some (.int (jI x11)), none]) (st1 := [.int (jI x2), .int (jI x1), .ref 49]) (σ1 := js E A) zM_X7_isFile dX7_isFile_147 rfl rfl rfl rfl ?_
      refine jw_bipush (v := 12) zM_X7_isFile dX7_isFile_148 (by decide) ?_
      refine jw_add zM_X7_isFile dX7_isFile_150 ?_
      refine jw_iconst (v := 2) zM_X7_isFile dX7_isFile_151 rfl ?_
      refine zw_go (pc1 := 154) (L1 := [some (.ref 49), some (.int (jI x1)), some (.int (jI x2)), some (.int (jI x3)), none, some (.int (jI x5)), none, none, none, some (.int (jI x9)), some (.int (jI x10)), some (.int (jI x11)), none]) (st1 := [.int (jI x11), .int (jI 2), .int (jI (x2 + 12)), .int (jI x1), .ref 49]) (σ1 := js E A) zM_X7_isFile dX7_isFile_152 rfl rfl rfl rfl ?_
      refine jw_mul zM_X7_isFile dX7_isFile_154 ?_
      refine jw_add zM_X7_isFile dX7_isFile_155 ?_
      refine jw_callI (as := [.ref 49, .int (jI x1), .int (jI ((x2 + 12) + (2 * x11)))]) (rest := []) zM_X7_isFile dX7_isFile_156 (zx_calV zC_7_201) zM_X7_word rfl rfl rfl rfl rfl (j_args0 rfl rfl) rfl hA h (fun v5 A3 rv6 hA4 h => ?_)
      refine zw_go (pc1 := 161) (L1 := [some (.ref 49), some (.int (jI x1)), some (.int (jI x2)), some (.int (jI x3)), none, some (.int (jI x5)), none, none, none, some (.int (jI x9)), some (.int (jI x10)), some (.int (jI x11)), some (.int (jI v5))]) (st1 := []) (σ1 := js E A3) zM_X7_isFile dX7_isFile_159 rfl rfl rfl rfl ?_
      refine zw_go (pc1 := 162) (L1 := [some (.ref 49), some (.int (jI x1)), some (.int (jI x2)), some (.int (jI x3)), none, some (.int (jI x5)), none, none, none, some (.int (jI x9)), some (.int (jI x10)), some (.int (jI x11)), some (.int (jI v5))]) (st1 := [.ref 49]) (σ1 := js E A3) zM_X7_isFile dX7_isFile_161 rfl rfl rfl rfl ?_
      refine zw_go (pc1 := 163) (L1 := [some (.ref 49), some (.int (jI x1)), some (.int (jI x2)), some (.int (jI x3)), none, some (.int (jI x5)), none, none, none, some (.int (jI x9)), some (.int (jI x10)), some (.int (jI x11)), some (.int (jI v5))]) (st1 := [.int (jI x1), .ref 49]) (σ1 := js E A3) zM_X7_isFile dX7_isFile_162 rfl rfl rfl rfl ?_
      refine zw_go (pc1 := 165) (L1 := [some (.ref 49), some (.int (jI x1)), some (.int (jI x2)), some (.int (jI x3)), none, some (.int (jI x5)), none, none, none, some (.int (jI x9)), some (.int (jI x10)), some (.int (jI x11)), some (.int (jI v5))]) (st1 := [.int (jI x9), .int (jI x1), .ref 49]) (σ1 := js E A3) zM_X7_isFile dX7_isFile_163 rfl rfl rfl rfl ?_
      refine zw_go (pc1 := 167) (L1 := [some (.ref 49), some (.int (jI x1)), some (.int (jI x2)), some (.int (jI x3)), none, some (.int (jI x5)), none, none, none, some (.int (jI x9)), some (.int (jI x10)), some (.int (jI x11)), some (.int (jI v5))]) (st1 := [.int (jI v5), .int (jI x9), .int (jI x1), .ref 49]) (σ1 := js E A3) zM_X7_isFile dX7_isFile_165 rfl rfl rfl rfl ?_
      refine zw_go (pc1 := 168) (L1 := [some (.ref 49), some (.int (jI x1)), some (.int (jI x2)), some (.int (jI x3)), none, some (.int (jI x5)), none, none, none, some (.int (jI x9)), some (.int (jI x10)), some (.int (jI x11)), some (.int (jI v5))]) (st1 := [.int (jI x3), .int (jI v5), .int (jI x9), .int (jI x1), .ref 49]) (σ1 := js E A3) zM_X7_isFile dX7_isFile_167 rfl rfl rfl rfl ?_
      refine jw_callI (as := [.ref 49, .int (jI x1), .int (jI x9), .int (jI v5), .int (jI x3)]) (rest := []) zM_X7_isFile dX7_isFile_168 (zx_calV zC_7_222) zM_X7_canBe rfl rfl rfl rfl rfl (j_args0 rfl rfl) rfl hA4 h (fun v9 A7 rv10 hA8 h => ?_)
      refine zw_go (pc1 := 173) (L1 := [some (.ref 49), some (.int (jI x1)), some (.int (jI x2)), some (.int (jI x3)), none, some (.int (jI x5)), none, none, none, some (.int (jI x9)), some (.int (jI v9)), some (.int (jI x11)), some (.int (jI v5))]) (st1 := []) (σ1 := js E A7) zM_X7_isFile dX7_isFile_171 rfl rfl rfl rfl ?_
      refine zw_go (pc1 := 175) (L1 := [some (.ref 49), some (.int (jI x1)), some (.int (jI x2)), some (.int (jI x3)), none, some (.int (jI x5)), none, none, none, some (.int (jI x9)), some (.int (jI v9)), some (.int (jI x11)), some (.int (jI v5))]) (st1 := [.int (jI x9)]) (σ1 := js E A7) zM_X7_isFile dX7_isFile_173 rfl rfl rfl rfl ?_
      refine zw_go (pc1 := 177) (L1 := [some (.ref 49), some (.int (jI x1)), some (.int (jI x2)), some (.int (jI x3)), none, some (.int (jI x5)), none, none, none, some (.int (jI x9)), some (.int (jI v9)), some (.int (jI x11)), some (.int (jI v5))]) (st1 := [.int (jI v5), .int (jI x9)]) (σ1 := js E A7) zM_X7_isFile dX7_isFile_175 rfl rfl rfl rfl ?_
      refine jw_callI (as := [.int (jI v5)]) (rest := [.int (jI x9)]) zM_X7_isFile dX7_isFile_177 (zx_calS zC_7_204) zM_X7_lies rfl rfl rfl rfl rfl rfl rfl hA8 h (fun v13 A11 rv14 hA12 h => ?_)
      refine jw_add zM_X7_isFile dX7_isFile_180 ?_
      refine zw_go (pc1 := 183) (L1 := [some (.ref 49), some (.int (jI x1)), some (.int (jI x2)), some (.int (jI x3)), none, some (.int (jI x5)), none, none, none, some (.int (jI (x9 + v13))), some (.int (jI v9)), some (.int (jI x11)), some (.int (jI v5))]) (st1 := []) (σ1 := js E A11) zM_X7_isFile dX7_isFile_181 rfl rfl rfl rfl ?_
      refine jw_iinc (x := x11) (L1 := [some (.ref 49), some (.int (jI x1)), some (.int (jI x2)), some (.int (jI x3)), none, some (.int (jI x5)), none, none, none, some (.int (jI (x9 + v13))), some (.int (jI v9)), some (.int (jI (x11 + 1))), some (.int (jI v5))]) zM_X7_isFile dX7_isFile_183 rfl (show 11 < 13 by decide) rfl ?_
      refine zw_goto (tgt := 133) zM_X7_isFile dX7_isFile_186 rfl ?_
      exact zw_weak2 (h hA12) ⟨rfl, rfl, rfl, rfl, rfl, rfl, rfl, rfl, trivial⟩
set_option maxHeartbeats 4000000 in
set_option maxRecDepth 100000 in
theorem vd_X7_isFolder_0 (x1 : Int) (r_x1 : jW x1) (x2 : Int) (r_x2 : jW x2) (E : jE) (A : jA) (K : Int → jA → Prop) (h : jrI 162 0 [some (.ref 49), some (.int (jI x1)), some (.int (jI x2))] [] E A (fun v3 A1 => jrI 143 0 [some (.ref 49), some (.int (jI x1)), some (.int (jI v3))] [] E A1 (fun v7 A5 => ((¬ v7 = (1 : Int) → K 0 A5) ∧ (v7 = (1 : Int) → K 1 A5))))) : jrI 164 0 [some (.ref 49), some (.int (jI x1)), some (.int (jI x2))] [] E A K := by
  intro hA
  refine zw_go (pc1 := 1) (L1 := [some (.ref 49), some (.int (jI x1)), some (.int (jI x2))]) (st1 := [.ref 49]) (σ1 := js E A) zM_X7_isFolder dX7_isFolder_0 rfl rfl rfl rfl ?_
  refine zw_go (pc1 := 2) (L1 := [some (.ref 49), some (.int (jI x1)), some (.int (jI x2))]) (st1 := [.int (jI x1), .ref 49]) (σ1 := js E A) zM_X7_isFolder dX7_isFolder_1 rfl rfl rfl rfl ?_
  refine zw_go (pc1 := 3) (L1 := [some (.ref 49), some (.int (jI x1)), some (.int (jI x2))]) (st1 := [.ref 49, .int (jI x1), .ref 49]) (σ1 := js E A) zM_X7_isFolder dX7_isFolder_2 rfl rfl rfl rfl ?_
  refine zw_go (pc1 := 4) (L1 := [some (.ref 49), some (.int (jI x1)), some (.int (jI x2))]) (st1 := [.int (jI x1), .ref 49, .int (jI x1), .ref 49]) (σ1 := js E A) zM_X7_isFolder dX7_isFolder_3 rfl rfl rfl rfl ?_
  refine zw_go (pc1 := 5) (L1 := [some (.ref 49), some (.int (jI x1)), some (.int (jI x2))]) (st1 := [.int (jI x2), .int (jI x1), .ref 49, .int (jI x1), .ref 49]) (σ1 := js E A) zM_X7_isFolder dX7_isFolder_4 rfl rfl rfl rfl ?_
  refine jw_callI (as := [.ref 49, .int (jI x1), .int (jI x2)]) (rest := [.int (jI x1), .ref 49]) zM_X7_isFolder dX7_isFolder_5 (zx_calV zC_7_226) zM_X7_inode rfl rfl rfl rfl rfl (j_args0 rfl rfl) rfl hA h (fun v3 A1 rv4 hA2 h => ?_)
  refine jw_callI (as := [.ref 49, .int (jI x1), .int (jI v3)]) (rest := []) zM_X7_isFolder dX7_isFolder_8 (zx_calV zC_7_198) zM_X7_byteAt rfl rfl rfl rfl rfl (j_args0 rfl rfl) rfl hA2 h (fun v7 A5 rv8 hA6 h => ?_)
  refine jw_iconst (v := 1) zM_X7_isFolder dX7_isFolder_11 rfl ?_
  refine jw_icmp_ne (tgt := 19) zM_X7_isFolder dX7_isFolder_12 rfl rv8 (show jW 1 from ⟨by decide, by decide⟩) (fun q => ?_) (fun q => ?_)
  · replace h := h.1 q
    refine jw_iconst (v := 0) zM_X7_isFolder dX7_isFolder_19 rfl ?_
    exact jw_retz zM_X7_isFolder dX7_isFolder_20 rfl (Or.inl rfl) hA6 h
  · replace h := h.2 q
    refine jw_iconst (v := 1) zM_X7_isFolder dX7_isFolder_15 rfl ?_
    refine zw_goto (tgt := 20) zM_X7_isFolder dX7_isFolder_16 rfl ?_
    exact jw_retz zM_X7_isFolder dX7_isFolder_20 rfl (Or.inr rfl) hA6 h
set_option maxHeartbeats 4000000 in
set_option maxRecDepth 100000 in
theorem vd_X7_isImage_0 (x1 : Int) (r_x1 : jW x1) (E : jE) (A : jA) (K : Int → jA → Prop) (h : jrI 160 0 [some (.int (jI x1)), some (.int (jI 0)), some (.int (jI ((A 49 11) - 1)))] [] E A (fun v3 A1 => (v3 = 0 ∨ v3 = 1) ∧ K v3 A1)) : jrI 165 0 [some (.ref 49), some (.int (jI x1))] [] E A K := by
  intro hA
  refine zw_go (pc1 := 1) (L1 := [some (.ref 49), some (.int (jI x1))]) (st1 := [.int (jI x1)]) (σ1 := js E A) zM_X7_isImage dX7_isImage_0 rfl rfl rfl rfl ?_
  refine jw_iconst (v := 0) zM_X7_isImage dX7_isImage_1 rfl ?_
  refine zw_go (pc1 := 3) (L1 := [some (.ref 49), some (.int (jI x1))]) (st1 := [.ref 49, .int (jI 0), .int (jI x1)]) (σ1 := js E A) zM_X7_isImage dX7_isImage_2 rfl rfl rfl rfl ?_
  refine jw_getI zM_X7_isImage dX7_isImage_3 zF_7_168 rfl rfl rfl ?_
  refine jw_iconst (v := 1) zM_X7_isImage dX7_isImage_6 rfl ?_
  refine jw_sub zM_X7_isImage dX7_isImage_7 ?_
  refine jw_callI (as := [.int (jI x1), .int (jI 0), .int (jI ((A 49 11) - 1))]) (rest := []) zM_X7_isImage dX7_isImage_8 (zx_calS zC_7_101) zM_X7_in rfl rfl rfl rfl rfl rfl rfl hA h (fun v3 A1 rv4 hA2 h => ?_)
  obtain ⟨hv5, h⟩ := h
  exact jw_retz zM_X7_isImage dX7_isImage_11 rfl hv5 hA2 h
set_option maxHeartbeats 4000000 in
set_option maxRecDepth 100000 in
theorem vd_X7_isLaid_0 (x1 : Int) (r_x1 : jW x1) (E : jE) (A : jA) (K : Int → jA → Prop) (h : jrI 166 4 [some (.ref 49), some (.int (jI x1)), some (.int (jI 0)), some (.int (jI 0))] [] E A K) : jrI 166 0 [some (.ref 49), some (.int (jI x1)), none, none] [] E A K := by
  intro hA
  refine jw_iconst (v := 0) zM_X7_isLaid dX7_isLaid_0 rfl ?_
  refine zw_go (pc1 := 2) (L1 := [some (.ref 49), some (.int (jI x1)), some (.int (jI 0)), none]) (st1 := []) (σ1 := js E A) zM_X7_isLaid dX7_isLaid_1 rfl rfl rfl rfl ?_
  refine jw_iconst (v := 0) zM_X7_isLaid dX7_isLaid_2 rfl ?_
  refine zw_go (pc1 := 4) (L1 := [some (.ref 49), some (.int (jI x1)), some (.int (jI 0)), some (.int (jI 0))]) (st1 := []) (σ1 := js E A) zM_X7_isLaid dX7_isLaid_3 rfl rfl rfl rfl ?_
  exact zw_weak2 (h hA) ⟨rfl, rfl, rfl, rfl, trivial⟩
set_option maxHeartbeats 4000000 in
set_option maxRecDepth 100000 in
theorem vd_X7_isLaid_4 (x1 : Int) (r_x1 : jW x1) (x2 : Int) (r_x2 : jW x2) (x3 : Int) (r_x3 : jW x3) (E : jE) (A : jA) (K : Int → jA → Prop) (h : (((A 49 35) ≤ x3 → (x2 = 0 ∨ x2 = 1) ∧ K x2 A) ∧ (x3 < (A 49 35) → ((¬ x2 = (0 : Int) → jrI 166 26 [some (.ref 49), some (.int (jI x1)), none, some (.int (jI x3))] [] E A K) ∧ (x2 = (0 : Int) → (0 ≤ x3 ∧ x3 < 3) ∧ ((¬ (A 74 x3) = x1 → jrI 166 31 [some (.ref 49), some (.int (jI x1)), none, some (.int (jI x3))] [.int (jI 0)] E A K) ∧ ((A 74 x3) = x1 → jrI 166 26 [some (.ref 49), some (.int (jI x1)), none, some (.int (jI x3))] [] E A K))))))) : jrI 166 4 [some (.ref 49), some (.int (jI x1)), some (.int (jI x2)), some (.int (jI x3))] [] E A K := by
  intro hA
  refine zw_go (pc1 := 5) (L1 := [some (.ref 49), some (.int (jI x1)), some (.int (jI x2)), some (.int (jI x3))]) (st1 := [.int (jI x3)]) (σ1 := js E A) zM_X7_isLaid dX7_isLaid_4 rfl rfl rfl rfl ?_
  refine zw_go (pc1 := 6) (L1 := [some (.ref 49), some (.int (jI x1)), some (.int (jI x2)), some (.int (jI x3))]) (st1 := [.ref 49, .int (jI x3)]) (σ1 := js E A) zM_X7_isLaid dX7_isLaid_5 rfl rfl rfl rfl ?_
  refine jw_getI zM_X7_isLaid dX7_isLaid_6 zF_7_257 rfl rfl rfl ?_
  refine jw_icmp_ge (tgt := 38) zM_X7_isLaid dX7_isLaid_9 rfl r_x3 (hA 49 35) (fun q => ?_) (fun q => ?_)
  · replace h := h.1 q
    refine zw_go (pc1 := 39) (L1 := [some (.ref 49), some (.int (jI x1)), some (.int (jI x2)), some (.int (jI x3))]) (st1 := [.int (jI x2)]) (σ1 := js E A) zM_X7_isLaid dX7_isLaid_38 rfl rfl rfl rfl ?_
    obtain ⟨hv1, h⟩ := h
    exact jw_retz zM_X7_isLaid dX7_isLaid_39 rfl hv1 hA h
  · replace h := h.2 q
    refine zw_go (pc1 := 13) (L1 := [some (.ref 49), some (.int (jI x1)), some (.int (jI x2)), some (.int (jI x3))]) (st1 := [.int (jI x2)]) (σ1 := js E A) zM_X7_isLaid dX7_isLaid_12 rfl rfl rfl rfl ?_
    refine jw_if_ne (tgt := 26) zM_X7_isLaid dX7_isLaid_13 rfl r_x2 (fun q => ?_) (fun q => ?_)
    · replace h := h.1 q
      exact zw_weak2 (h hA) ⟨rfl, rfl, rfl, trivial⟩
    · replace h := h.2 q
      refine zw_go (pc1 := 17) (L1 := [some (.ref 49), some (.int (jI x1)), some (.int (jI x2)), some (.int (jI x3))]) (st1 := [.ref 49]) (σ1 := js E A) zM_X7_isLaid dX7_isLaid_16 rfl rfl rfl rfl ?_
      refine jw_getR (a := 74) zM_X7_isLaid dX7_isLaid_17 zF_7_82 rfl rfl rfl ?_
      refine zw_go (pc1 := 21) (L1 := [some (.ref 49), some (.int (jI x1)), some (.int (jI x2)), some (.int (jI x3))]) (st1 := [.int (jI x3), .ref 74]) (σ1 := js E A) zM_X7_isLaid dX7_isLaid_20 rfl rfl rfl rfl ?_
      obtain ⟨hi2, h⟩ := h
      refine jw_iald zM_X7_isLaid dX7_isLaid_21 rfl rfl hi2 ?_
      refine zw_go (pc1 := 23) (L1 := [some (.ref 49), some (.int (jI x1)), some (.int (jI x2)), some (.int (jI x3))]) (st1 := [.int (jI x1), .int (jI (A 74 x3))]) (σ1 := js E A) zM_X7_isLaid dX7_isLaid_22 rfl rfl rfl rfl ?_
      refine jw_icmp_ne (tgt := 30) zM_X7_isLaid dX7_isLaid_23 rfl (hA 74 x3) r_x1 (fun q => ?_) (fun q => ?_)
      · replace h := h.1 q
        refine jw_iconst (v := 0) zM_X7_isLaid dX7_isLaid_30 rfl ?_
        exact zw_weak2 (h hA) ⟨rfl, rfl, rfl, trivial⟩
      · replace h := h.2 q
        exact zw_weak2 (h hA) ⟨rfl, rfl, rfl, trivial⟩
set_option maxHeartbeats 4000000 in
set_option maxRecDepth 100000 in
theorem vd_X7_isLaid_26 (x1 : Int) (r_x1 : jW x1) (x3 : Int) (r_x3 : jW x3) (E : jE) (A : jA) (K : Int → jA → Prop) (h : jrI 166 31 [some (.ref 49), some (.int (jI x1)), none, some (.int (jI x3))] [.int (jI 1)] E A K) : jrI 166 26 [some (.ref 49), some (.int (jI x1)), none, some (.int (jI x3))] [] E A K := by
  intro hA
  refine jw_iconst (v := 1) zM_X7_isLaid dX7_isLaid_26 rfl ?_
  refine zw_goto (tgt := 31) zM_X7_isLaid dX7_isLaid_27 rfl ?_
  exact zw_weak2 (h hA) ⟨rfl, rfl, rfl, trivial⟩
set_option maxHeartbeats 4000000 in
set_option maxRecDepth 100000 in
theorem vd_X7_isLaid_31 (x1 : Int) (r_x1 : jW x1) (x3 : Int) (r_x3 : jW x3) (y0 : Int) (r_y0 : jW y0) (E : jE) (A : jA) (K : Int → jA → Prop) (h : jrI 166 4 [some (.ref 49), some (.int (jI x1)), some (.int (jI y0)), some (.int (jI (x3 + 1)))] [] E A K) : jrI 166 31 [some (.ref 49), some (.int (jI x1)), none, some (.int (jI x3))] [.int (jI y0)] E A K := by
  intro hA
  refine zw_go (pc1 := 32) (L1 := [some (.ref 49), some (.int (jI x1)), some (.int (jI y0)), some (.int (jI x3))]) (st1 := []) (σ1 := js E A) zM_X7_isLaid dX7_isLaid_31 rfl rfl rfl rfl ?_
  refine jw_iinc (x := x3) (L1 := [some (.ref 49), some (.int (jI x1)), some (.int (jI y0)), some (.int (jI (x3 + 1)))]) zM_X7_isLaid dX7_isLaid_32 rfl (show 3 < 4 by decide) rfl ?_
  refine zw_goto (tgt := 4) zM_X7_isLaid dX7_isLaid_35 rfl ?_
  exact zw_weak2 (h hA) ⟨rfl, rfl, rfl, rfl, trivial⟩
set_option maxHeartbeats 4000000 in
set_option maxRecDepth 100000 in
theorem vd_X7_isNode_0 (x1 : Int) (r_x1 : jW x1) (E : jE) (A : jA) (K : Int → jA → Prop) (h : jrI 160 0 [some (.int (jI x1)), some (.int (jI 0)), some (.int (jI ((A 49 1) - 1)))] [] E A (fun v3 A1 => (v3 = 0 ∨ v3 = 1) ∧ K v3 A1)) : jrI 167 0 [some (.ref 49), some (.int (jI x1))] [] E A K := by
  intro hA
  refine zw_go (pc1 := 1) (L1 := [some (.ref 49), some (.int (jI x1))]) (st1 := [.int (jI x1)]) (σ1 := js E A) zM_X7_isNode dX7_isNode_0 rfl rfl rfl rfl ?_
  refine jw_iconst (v := 0) zM_X7_isNode dX7_isNode_1 rfl ?_
  refine zw_go (pc1 := 3) (L1 := [some (.ref 49), some (.int (jI x1))]) (st1 := [.ref 49, .int (jI 0), .int (jI x1)]) (σ1 := js E A) zM_X7_isNode dX7_isNode_2 rfl rfl rfl rfl ?_
  refine jw_getI zM_X7_isNode dX7_isNode_3 zF_7_94 rfl rfl rfl ?_
  refine jw_iconst (v := 1) zM_X7_isNode dX7_isNode_6 rfl ?_
  refine jw_sub zM_X7_isNode dX7_isNode_7 ?_
  refine jw_callI (as := [.int (jI x1), .int (jI 0), .int (jI ((A 49 1) - 1))]) (rest := []) zM_X7_isNode dX7_isNode_8 (zx_calS zC_7_101) zM_X7_in rfl rfl rfl rfl rfl rfl rfl hA h (fun v3 A1 rv4 hA2 h => ?_)
  obtain ⟨hv5, h⟩ := h
  exact jw_retz zM_X7_isNode dX7_isNode_11 rfl hv5 hA2 h
set_option maxHeartbeats 4000000 in
set_option maxRecDepth 100000 in
theorem vd_X7_isSameFile_0 (x1 : Int) (r_x1 : jW x1) (x2 : Int) (r_x2 : jW x2) (E : jE) (A : jA) (K : Int → jA → Prop) (h : (0 ≤ x1 ∧ x1 < 32) ∧ (0 ≤ x2 ∧ x2 < 32) ∧ ((¬ (A 53 x1) = (A 53 x2) → jrI 168 20 [some (.ref 49), some (.int (jI x1)), some (.int (jI x2)), none, none] [.int (jI 0)] E A K) ∧ ((A 53 x1) = (A 53 x2) → jrI 168 20 [some (.ref 49), some (.int (jI x1)), some (.int (jI x2)), none, none] [.int (jI 1)] E A K))) : jrI 168 0 [some (.ref 49), some (.int (jI x1)), some (.int (jI x2)), none, none] [] E A K := by
  intro hA
  refine zw_go (pc1 := 1) (L1 := [some (.ref 49), some (.int (jI x1)), some (.int (jI x2)), none, none]) (st1 := [.ref 49]) (σ1 := js E A) zM_X7_isSameFile dX7_isSameFile_0 rfl rfl rfl rfl ?_
  refine jw_getR (a := 53) zM_X7_isSameFile dX7_isSameFile_1 zF_7_19 rfl rfl rfl ?_
  refine zw_go (pc1 := 5) (L1 := [some (.ref 49), some (.int (jI x1)), some (.int (jI x2)), none, none]) (st1 := [.int (jI x1), .ref 53]) (σ1 := js E A) zM_X7_isSameFile dX7_isSameFile_4 rfl rfl rfl rfl ?_
  obtain ⟨hi1, h⟩ := h
  refine jw_iald zM_X7_isSameFile dX7_isSameFile_5 rfl rfl hi1 ?_
  refine zw_go (pc1 := 7) (L1 := [some (.ref 49), some (.int (jI x1)), some (.int (jI x2)), none, none]) (st1 := [.ref 49, .int (jI (A 53 x1))]) (σ1 := js E A) zM_X7_isSameFile dX7_isSameFile_6 rfl rfl rfl rfl ?_
  refine jw_getR (a := 53) zM_X7_isSameFile dX7_isSameFile_7 zF_7_19 rfl rfl rfl ?_
  refine zw_go (pc1 := 11) (L1 := [some (.ref 49), some (.int (jI x1)), some (.int (jI x2)), none, none]) (st1 := [.int (jI x2), .ref 53, .int (jI (A 53 x1))]) (σ1 := js E A) zM_X7_isSameFile dX7_isSameFile_10 rfl rfl rfl rfl ?_
  obtain ⟨hi2, h⟩ := h
  refine jw_iald zM_X7_isSameFile dX7_isSameFile_11 rfl rfl hi2 ?_
  refine jw_icmp_ne (tgt := 19) zM_X7_isSameFile dX7_isSameFile_12 rfl (hA 53 x1) (hA 53 x2) (fun q => ?_) (fun q => ?_)
  · replace h := h.1 q
    refine jw_iconst (v := 0) zM_X7_isSameFile dX7_isSameFile_19 rfl ?_
    exact zw_weak2 (h hA) ⟨rfl, rfl, rfl, trivial⟩
  · replace h := h.2 q
    refine jw_iconst (v := 1) zM_X7_isSameFile dX7_isSameFile_15 rfl ?_
    refine zw_goto (tgt := 20) zM_X7_isSameFile dX7_isSameFile_16 rfl ?_
    exact zw_weak2 (h hA) ⟨rfl, rfl, rfl, trivial⟩
set_option maxHeartbeats 4000000 in
set_option maxRecDepth 100000 in
theorem vd_X7_isSameFile_20 (x1 : Int) (r_x1 : jW x1) (x2 : Int) (r_x2 : jW x2) (y0 : Int) (r_y0 : jW y0) (E : jE) (A : jA) (K : Int → jA → Prop) (h : jrI 168 24 [some (.ref 49), some (.int (jI x1)), some (.int (jI x2)), some (.int (jI y0)), some (.int (jI 0))] [] E A K) : jrI 168 20 [some (.ref 49), some (.int (jI x1)), some (.int (jI x2)), none, none] [.int (jI y0)] E A K := by
  intro hA
  refine zw_go (pc1 := 21) (L1 := [some (.ref 49), some (.int (jI x1)), some (.int (jI x2)), some (.int (jI y0)), none]) (st1 := []) (σ1 := js E A) zM_X7_isSameFile dX7_isSameFile_20 rfl rfl rfl rfl ?_
  refine jw_iconst (v := 0) zM_X7_isSameFile dX7_isSameFile_21 rfl ?_
  refine zw_go (pc1 := 24) (L1 := [some (.ref 49), some (.int (jI x1)), some (.int (jI x2)), some (.int (jI y0)), some (.int (jI 0))]) (st1 := []) (σ1 := js E A) zM_X7_isSameFile dX7_isSameFile_22 rfl rfl rfl rfl ?_
  exact zw_weak2 (h hA) ⟨rfl, rfl, rfl, rfl, rfl, trivial⟩
set_option maxHeartbeats 4000000 in
set_option maxRecDepth 100000 in
theorem vd_X7_isSameFile_24 (x1 : Int) (r_x1 : jW x1) (x2 : Int) (r_x2 : jW x2) (x3 : Int) (r_x3 : jW x3) (x4 : Int) (r_x4 : jW x4) (E : jE) (A : jA) (K : Int → jA → Prop) (h : (0 ≤ x1 ∧ x1 < 32) ∧ (((A 53 x1) ≤ x4 → (x3 = 0 ∨ x3 = 1) ∧ K x3 A) ∧ (x4 < (A 53 x1) → ((x3 = (0 : Int) → (x3 = 0 ∨ x3 = 1) ∧ K x3 A) ∧ (¬ x3 = (0 : Int) → (0 ≤ ((100 * x1) + x4) ∧ ((100 * x1) + x4) < 3200) ∧ (0 ≤ ((100 * x2) + x4) ∧ ((100 * x2) + x4) < 3200) ∧ ((¬ (A 54 ((100 * x1) + x4)) = (A 54 ((100 * x2) + x4)) → jrI 168 71 [some (.ref 49), some (.int (jI x1)), some (.int (jI x2)), none, some (.int (jI x4))] [.int (jI 0)] E A K) ∧ ((A 54 ((100 * x1) + x4)) = (A 54 ((100 * x2) + x4)) → jrI 168 71 [some (.ref 49), some (.int (jI x1)), some (.int (jI x2)), none, some (.int (jI x4))] [.int (jI 1)] E A K))))))) : jrI 168 24 [some (.ref 49), some (.int (jI x1)), some (.int (jI x2)), some (.int (jI x3)), some (.int (jI x4))] [] E A K := by
  intro hA
  refine zw_go (pc1 := 26) (L1 := [some (.ref 49), some (.int (jI x1)), some (.int (jI x2)), some (.int (jI x3)), some (.int (jI x4))]) (st1 := [.int (jI x4)]) (σ1 := js E A) zM_X7_isSameFile dX7_isSameFile_24 rfl rfl rfl rfl ?_
  refine zw_go (pc1 := 27) (L1 := [some (.ref 49), some (.int (jI x1)), some (.int (jI x2)), some (.int (jI x3)), some (.int (jI x4))]) (st1 := [.ref 49, .int (jI x4)]) (σ1 := js E A) zM_X7_isSameFile dX7_isSameFile_26 rfl rfl rfl rfl ?_
  refine jw_getR (a := 53) zM_X7_isSameFile dX7_isSameFile_27 zF_7_19 rfl rfl rfl ?_
  refine zw_go (pc1 := 31) (L1 := [some (.ref 49), some (.int (jI x1)), some (.int (jI x2)), some (.int (jI x3)), some (.int (jI x4))]) (st1 := [.int (jI x1), .ref 53, .int (jI x4)]) (σ1 := js E A) zM_X7_isSameFile dX7_isSameFile_30 rfl rfl rfl rfl ?_
  obtain ⟨hi1, h⟩ := h
  refine jw_iald zM_X7_isSameFile dX7_isSameFile_31 rfl rfl hi1 ?_
  refine jw_icmp_ge (tgt := 78) zM_X7_isSameFile dX7_isSameFile_32 rfl r_x4 (hA 53 x1) (fun q => ?_) (fun q => ?_)
  · replace h := h.1 q
    refine zw_go (pc1 := 79) (L1 := [some (.ref 49), some (.int (jI x1)), some (.int (jI x2)), some (.int (jI x3)), some (.int (jI x4))]) (st1 := [.int (jI x3)]) (σ1 := js E A) zM_X7_isSameFile dX7_isSameFile_78 rfl rfl rfl rfl ?_
    obtain ⟨hv2, h⟩ := h
    exact jw_retz zM_X7_isSameFile dX7_isSameFile_79 rfl hv2 hA h
  · replace h := h.2 q
    refine zw_go (pc1 := 36) (L1 := [some (.ref 49), some (.int (jI x1)), some (.int (jI x2)), some (.int (jI x3)), some (.int (jI x4))]) (st1 := [.int (jI x3)]) (σ1 := js E A) zM_X7_isSameFile dX7_isSameFile_35 rfl rfl rfl rfl ?_
    refine jw_if_eq (tgt := 78) zM_X7_isSameFile dX7_isSameFile_36 rfl r_x3 (fun q => ?_) (fun q => ?_)
    · replace h := h.1 q
      refine zw_go (pc1 := 79) (L1 := [some (.ref 49), some (.int (jI x1)), some (.int (jI x2)), some (.int (jI x3)), some (.int (jI x4))]) (st1 := [.int (jI x3)]) (σ1 := js E A) zM_X7_isSameFile dX7_isSameFile_78 rfl rfl rfl rfl ?_
      obtain ⟨hv3, h⟩ := h
      exact jw_retz zM_X7_isSameFile dX7_isSameFile_79 rfl hv3 hA h
    · replace h := h.2 q
      refine zw_go (pc1 := 40) (L1 := [some (.ref 49), some (.int (jI x1)), some (.int (jI x2)), some (.int (jI x3)), some (.int (jI x4))]) (st1 := [.ref 49]) (σ1 := js E A) zM_X7_isSameFile dX7_isSameFile_39 rfl rfl rfl rfl ?_
      refine jw_getR (a := 54) zM_X7_isSameFile dX7_isSameFile_40 zF_7_22 rfl rfl rfl ?_
      refine jw_bipush (v := 100) zM_X7_isSameFile dX7_isSameFile_43 (by decide) ?_
      refine zw_go (pc1 := 46) (L1 := [some (.ref 49), some (.int (jI x1)), some (.int (jI x2)), some (.int (jI x3)), some (.int (jI x4))]) (st1 := [.int (jI x1), .int (jI 100), .ref 54]) (σ1 := js E A) zM_X7_isSameFile dX7_isSameFile_45 rfl rfl rfl rfl ?_
      refine jw_mul zM_X7_isSameFile dX7_isSameFile_46 ?_
      refine zw_go (pc1 := 49) (L1 := [some (.ref 49), some (.int (jI x1)), some (.int (jI x2)), some (.int (jI x3)), some (.int (jI x4))]) (st1 := [.int (jI x4), .int (jI (100 * x1)), .ref 54]) (σ1 := js E A) zM_X7_isSameFile dX7_isSameFile_47 rfl rfl rfl rfl ?_
      refine jw_add zM_X7_isSameFile dX7_isSameFile_49 ?_
      obtain ⟨hi4, h⟩ := h
      refine jw_iald zM_X7_isSameFile dX7_isSameFile_50 rfl rfl hi4 ?_
      refine zw_go (pc1 := 52) (L1 := [some (.ref 49), some (.int (jI x1)), some (.int (jI x2)), some (.int (jI x3)), some (.int (jI x4))]) (st1 := [.ref 49, .int (jI (A 54 ((100 * x1) + x4)))]) (σ1 := js E A) zM_X7_isSameFile dX7_isSameFile_51 rfl rfl rfl rfl ?_
      refine jw_getR (a := 54) zM_X7_isSameFile dX7_isSameFile_52 zF_7_22 rfl rfl rfl ?_
      refine jw_bipush (v := 100) zM_X7_isSameFile dX7_isSameFile_55 (by decide) ?_
      refine zw_go (pc1 := 58) (L1 := [some (.ref 49), some (.int (jI x1)), some (.int (jI x2)), some (.int (jI x3)), some (.int (jI x4))]) (st1 := [.int (jI x2), .int (jI 100), .ref 54, .int (jI (A 54 ((100 * x1) + x4)))]) (σ1 := js E A) zM_X7_isSameFile dX7_isSameFile_57 rfl rfl rfl rfl ?_
      refine jw_mul zM_X7_isSameFile dX7_isSameFile_58 ?_
      refine zw_go (pc1 := 61) (L1 := [some (.ref 49), some (.int (jI x1)), some (.int (jI x2)), some (.int (jI x3)), some (.int (jI x4))]) (st1 := [.int (jI x4), .int (jI (100 * x2)), .ref 54, .int (jI (A 54 ((100 * x1) + x4)))]) (σ1 := js E A) zM_X7_isSameFile dX7_isSameFile_59 rfl rfl rfl rfl ?_
      refine jw_add zM_X7_isSameFile dX7_isSameFile_61 ?_
      obtain ⟨hi5, h⟩ := h
      refine jw_iald zM_X7_isSameFile dX7_isSameFile_62 rfl rfl hi5 ?_
      refine jw_icmp_ne (tgt := 70) zM_X7_isSameFile dX7_isSameFile_63 rfl (hA 54 ((100 * x1) + x4)) (hA 54 ((100 * x2) + x4)) (fun q => ?_) (fun q => ?_)
      · replace h := h.1 q
        refine jw_iconst (v := 0) zM_X7_isSameFile dX7_isSameFile_70 rfl ?_
        exact zw_weak2 (h hA) ⟨rfl, rfl, rfl, rfl, trivial⟩
      · replace h := h.2 q
        refine jw_iconst (v := 1) zM_X7_isSameFile dX7_isSameFile_66 rfl ?_
        refine zw_goto (tgt := 71) zM_X7_isSameFile dX7_isSameFile_67 rfl ?_
        exact zw_weak2 (h hA) ⟨rfl, rfl, rfl, rfl, trivial⟩
set_option maxHeartbeats 4000000 in
set_option maxRecDepth 100000 in
theorem vd_X7_isSameFile_71 (x1 : Int) (r_x1 : jW x1) (x2 : Int) (r_x2 : jW x2) (x4 : Int) (r_x4 : jW x4) (y0 : Int) (r_y0 : jW y0) (E : jE) (A : jA) (K : Int → jA → Prop) (h : jrI 168 24 [some (.ref 49), some (.int (jI x1)), some (.int (jI x2)), some (.int (jI y0)), some (.int (jI (x4 + 1)))] [] E A K) : jrI 168 71 [some (.ref 49), some (.int (jI x1)), some (.int (jI x2)), none, some (.int (jI x4))] [.int (jI y0)] E A K := by
  intro hA
  refine zw_go (pc1 := 72) (L1 := [some (.ref 49), some (.int (jI x1)), some (.int (jI x2)), some (.int (jI y0)), some (.int (jI x4))]) (st1 := []) (σ1 := js E A) zM_X7_isSameFile dX7_isSameFile_71 rfl rfl rfl rfl ?_
  refine jw_iinc (x := x4) (L1 := [some (.ref 49), some (.int (jI x1)), some (.int (jI x2)), some (.int (jI y0)), some (.int (jI (x4 + 1)))]) zM_X7_isSameFile dX7_isSameFile_72 rfl (show 4 < 5 by decide) rfl ?_
  refine zw_goto (tgt := 24) zM_X7_isSameFile dX7_isSameFile_75 rfl ?_
  exact zw_weak2 (h hA) ⟨rfl, rfl, rfl, rfl, rfl, trivial⟩
set_option maxHeartbeats 4000000 in
set_option maxRecDepth 100000 in
theorem vd_X7_isThere_0 (x1 : Int) (r_x1 : jW x1) (x2 : Int) (r_x2 : jW x2) (E : jE) (A : jA) (K : Int → jA → Prop) (h : jrI 169 5 [some (.ref 49), some (.int (jI x1)), some (.int (jI x2)), some (.int (jI 0)), some (.int (jI 0))] [] E A K) : jrI 169 0 [some (.ref 49), some (.int (jI x1)), some (.int (jI x2)), none, none] [] E A K := by
  intro hA
  refine jw_iconst (v := 0) zM_X7_isThere dX7_isThere_0 rfl ?_
  refine zw_go (pc1 := 2) (L1 := [some (.ref 49), some (.int (jI x1)), some (.int (jI x2)), some (.int (jI 0)), none]) (st1 := []) (σ1 := js E A) zM_X7_isThere dX7_isThere_1 rfl rfl rfl rfl ?_
  refine jw_iconst (v := 0) zM_X7_isThere dX7_isThere_2 rfl ?_
  refine zw_go (pc1 := 5) (L1 := [some (.ref 49), some (.int (jI x1)), some (.int (jI x2)), some (.int (jI 0)), some (.int (jI 0))]) (st1 := []) (σ1 := js E A) zM_X7_isThere dX7_isThere_3 rfl rfl rfl rfl ?_
  exact zw_weak2 (h hA) ⟨rfl, rfl, rfl, rfl, rfl, trivial⟩
set_option maxHeartbeats 4000000 in
set_option maxRecDepth 100000 in
theorem vd_X7_isThere_5 (x1 : Int) (r_x1 : jW x1) (x2 : Int) (r_x2 : jW x2) (x3 : Int) (r_x3 : jW x3) (x4 : Int) (r_x4 : jW x4) (E : jE) (A : jA) (K : Int → jA → Prop) (h : (((A 49 7) ≤ x4 → (x3 = 0 ∨ x3 = 1) ∧ K x3 A) ∧ (x4 < (A 49 7) → ((¬ x3 = (0 : Int) → jrI 169 40 [some (.ref 49), some (.int (jI x1)), some (.int (jI x2)), none, some (.int (jI x4))] [] E A K) ∧ (x3 = (0 : Int) → (0 ≤ x4 ∧ x4 < 300) ∧ ((¬ (A 55 x4) = x1 → jrI 169 44 [some (.ref 49), some (.int (jI x1)), some (.int (jI x2)), none, some (.int (jI x4))] [] E A K) ∧ ((A 55 x4) = x1 → (0 ≤ x4 ∧ x4 < 300) ∧ ((¬ (A 56 x4) = x2 → jrI 169 44 [some (.ref 49), some (.int (jI x1)), some (.int (jI x2)), none, some (.int (jI x4))] [] E A K) ∧ ((A 56 x4) = x2 → jrI 169 40 [some (.ref 49), some (.int (jI x1)), some (.int (jI x2)), none, some (.int (jI x4))] [] E A K))))))))) : jrI 169 5 [some (.ref 49), some (.int (jI x1)), some (.int (jI x2)), some (.int (jI x3)), some (.int (jI x4))] [] E A K := by
  intro hA
  refine zw_go (pc1 := 7) (L1 := [some (.ref 49), some (.int (jI x1)), some (.int (jI x2)), some (.int (jI x3)), some (.int (jI x4))]) (st1 := [.int (jI x4)]) (σ1 := js E A) zM_X7_isThere dX7_isThere_5 rfl rfl rfl rfl ?_
  refine zw_go (pc1 := 8) (L1 := [some (.ref 49), some (.int (jI x1)), some (.int (jI x2)), some (.int (jI x3)), some (.int (jI x4))]) (st1 := [.ref 49, .int (jI x4)]) (σ1 := js E A) zM_X7_isThere dX7_isThere_7 rfl rfl rfl rfl ?_
  refine jw_getI zM_X7_isThere dX7_isThere_8 zF_7_105 rfl rfl rfl ?_
  refine jw_icmp_ge (tgt := 52) zM_X7_isThere dX7_isThere_11 rfl r_x4 (hA 49 7) (fun q => ?_) (fun q => ?_)
  · replace h := h.1 q
    refine zw_go (pc1 := 53) (L1 := [some (.ref 49), some (.int (jI x1)), some (.int (jI x2)), some (.int (jI x3)), some (.int (jI x4))]) (st1 := [.int (jI x3)]) (σ1 := js E A) zM_X7_isThere dX7_isThere_52 rfl rfl rfl rfl ?_
    obtain ⟨hv1, h⟩ := h
    exact jw_retz zM_X7_isThere dX7_isThere_53 rfl hv1 hA h
  · replace h := h.2 q
    refine zw_go (pc1 := 15) (L1 := [some (.ref 49), some (.int (jI x1)), some (.int (jI x2)), some (.int (jI x3)), some (.int (jI x4))]) (st1 := [.int (jI x3)]) (σ1 := js E A) zM_X7_isThere dX7_isThere_14 rfl rfl rfl rfl ?_
    refine jw_if_ne (tgt := 40) zM_X7_isThere dX7_isThere_15 rfl r_x3 (fun q => ?_) (fun q => ?_)
    · replace h := h.1 q
      exact zw_weak2 (h hA) ⟨rfl, rfl, rfl, rfl, trivial⟩
    · replace h := h.2 q
      refine zw_go (pc1 := 19) (L1 := [some (.ref 49), some (.int (jI x1)), some (.int (jI x2)), some (.int (jI x3)), some (.int (jI x4))]) (st1 := [.ref 49]) (σ1 := js E A) zM_X7_isThere dX7_isThere_18 rfl rfl rfl rfl ?_
      refine jw_getR (a := 55) zM_X7_isThere dX7_isThere_19 zF_7_25 rfl rfl rfl ?_
      refine zw_go (pc1 := 24) (L1 := [some (.ref 49), some (.int (jI x1)), some (.int (jI x2)), some (.int (jI x3)), some (.int (jI x4))]) (st1 := [.int (jI x4), .ref 55]) (σ1 := js E A) zM_X7_isThere dX7_isThere_22 rfl rfl rfl rfl ?_
      obtain ⟨hi2, h⟩ := h
      refine jw_iald zM_X7_isThere dX7_isThere_24 rfl rfl hi2 ?_
      refine zw_go (pc1 := 26) (L1 := [some (.ref 49), some (.int (jI x1)), some (.int (jI x2)), some (.int (jI x3)), some (.int (jI x4))]) (st1 := [.int (jI x1), .int (jI (A 55 x4))]) (σ1 := js E A) zM_X7_isThere dX7_isThere_25 rfl rfl rfl rfl ?_
      refine jw_icmp_ne (tgt := 44) zM_X7_isThere dX7_isThere_26 rfl (hA 55 x4) r_x1 (fun q => ?_) (fun q => ?_)
      · replace h := h.1 q
        exact zw_weak2 (h hA) ⟨rfl, rfl, rfl, rfl, trivial⟩
      · replace h := h.2 q
        refine zw_go (pc1 := 30) (L1 := [some (.ref 49), some (.int (jI x1)), some (.int (jI x2)), some (.int (jI x3)), some (.int (jI x4))]) (st1 := [.ref 49]) (σ1 := js E A) zM_X7_isThere dX7_isThere_29 rfl rfl rfl rfl ?_
        refine jw_getR (a := 56) zM_X7_isThere dX7_isThere_30 zF_7_28 rfl rfl rfl ?_
        refine zw_go (pc1 := 35) (L1 := [some (.ref 49), some (.int (jI x1)), some (.int (jI x2)), some (.int (jI x3)), some (.int (jI x4))]) (st1 := [.int (jI x4), .ref 56]) (σ1 := js E A) zM_X7_isThere dX7_isThere_33 rfl rfl rfl rfl ?_
        obtain ⟨hi3, h⟩ := h
        refine jw_iald zM_X7_isThere dX7_isThere_35 rfl rfl hi3 ?_
        refine zw_go (pc1 := 37) (L1 := [some (.ref 49), some (.int (jI x1)), some (.int (jI x2)), some (.int (jI x3)), some (.int (jI x4))]) (st1 := [.int (jI x2), .int (jI (A 56 x4))]) (σ1 := js E A) zM_X7_isThere dX7_isThere_36 rfl rfl rfl rfl ?_
        refine jw_icmp_ne (tgt := 44) zM_X7_isThere dX7_isThere_37 rfl (hA 56 x4) r_x2 (fun q => ?_) (fun q => ?_)
        · replace h := h.1 q
          exact zw_weak2 (h hA) ⟨rfl, rfl, rfl, rfl, trivial⟩
        · replace h := h.2 q
          exact zw_weak2 (h hA) ⟨rfl, rfl, rfl, rfl, trivial⟩
set_option maxHeartbeats 4000000 in
set_option maxRecDepth 100000 in
theorem vd_X7_isThere_40 (x1 : Int) (r_x1 : jW x1) (x2 : Int) (r_x2 : jW x2) (x4 : Int) (r_x4 : jW x4) (E : jE) (A : jA) (K : Int → jA → Prop) (h : jrI 169 45 [some (.ref 49), some (.int (jI x1)), some (.int (jI x2)), none, some (.int (jI x4))] [.int (jI 1)] E A K) : jrI 169 40 [some (.ref 49), some (.int (jI x1)), some (.int (jI x2)), none, some (.int (jI x4))] [] E A K := by
  intro hA
  refine jw_iconst (v := 1) zM_X7_isThere dX7_isThere_40 rfl ?_
  refine zw_goto (tgt := 45) zM_X7_isThere dX7_isThere_41 rfl ?_
  exact zw_weak2 (h hA) ⟨rfl, rfl, rfl, rfl, trivial⟩
set_option maxHeartbeats 4000000 in
set_option maxRecDepth 100000 in
theorem vd_X7_isThere_44 (x1 : Int) (r_x1 : jW x1) (x2 : Int) (r_x2 : jW x2) (x4 : Int) (r_x4 : jW x4) (E : jE) (A : jA) (K : Int → jA → Prop) (h : jrI 169 45 [some (.ref 49), some (.int (jI x1)), some (.int (jI x2)), none, some (.int (jI x4))] [.int (jI 0)] E A K) : jrI 169 44 [some (.ref 49), some (.int (jI x1)), some (.int (jI x2)), none, some (.int (jI x4))] [] E A K := by
  intro hA
  refine jw_iconst (v := 0) zM_X7_isThere dX7_isThere_44 rfl ?_
  exact zw_weak2 (h hA) ⟨rfl, rfl, rfl, rfl, trivial⟩
set_option maxHeartbeats 4000000 in
set_option maxRecDepth 100000 in
theorem vd_X7_isThere_45 (x1 : Int) (r_x1 : jW x1) (x2 : Int) (r_x2 : jW x2) (x4 : Int) (r_x4 : jW x4) (y0 : Int) (r_y0 : jW y0) (E : jE) (A : jA) (K : Int → jA → Prop) (h : jrI 169 5 [some (.ref 49), some (.int (jI x1)), some (.int (jI x2)), some (.int (jI y0)), some (.int (jI (x4 + 1)))] [] E A K) : jrI 169 45 [some (.ref 49), some (.int (jI x1)), some (.int (jI x2)), none, some (.int (jI x4))] [.int (jI y0)] E A K := by
  intro hA
  refine zw_go (pc1 := 46) (L1 := [some (.ref 49), some (.int (jI x1)), some (.int (jI x2)), some (.int (jI y0)), some (.int (jI x4))]) (st1 := []) (σ1 := js E A) zM_X7_isThere dX7_isThere_45 rfl rfl rfl rfl ?_
  refine jw_iinc (x := x4) (L1 := [some (.ref 49), some (.int (jI x1)), some (.int (jI x2)), some (.int (jI y0)), some (.int (jI (x4 + 1)))]) zM_X7_isThere dX7_isThere_46 rfl (show 4 < 5 by decide) rfl ?_
  refine zw_goto (tgt := 5) zM_X7_isThere dX7_isThere_49 rfl ?_
  exact zw_weak2 (h hA) ⟨rfl, rfl, rfl, rfl, rfl, trivial⟩
set_option maxHeartbeats 4000000 in
set_option maxRecDepth 100000 in
theorem vd_X7_isTree_0 (x1 : Int) (r_x1 : jW x1) (x2 : Int) (r_x2 : jW x2) (E : jE) (A : jA) (K : Int → jA → Prop) (h : jrI 162 0 [some (.ref 49), some (.int (jI x1)), some (.int (jI 1))] [] E A (fun v3 A1 => jrI 143 0 [some (.ref 49), some (.int (jI x1)), some (.int (jI v3))] [] E A1 (fun v7 A5 => ((¬ v7 = (1 : Int) → K 0 A5) ∧ (v7 = (1 : Int) → jrI 143 0 [some (.ref 49), some (.int (jI x1)), some (.int (jI (v3 + 5)))] [] E A5 (fun v11 A9 => ((¬ v11 = (1 : Int) → K 0 A9) ∧ (v11 = (1 : Int) → jrI 210 0 [some (.ref 49), some (.int (jI x1)), some (.int (jI (v3 + 10)))] [] E A9 (fun v15 A13 => ((¬ v15 = (1 : Int) → K 0 A13) ∧ (v15 = (1 : Int) → jrI 183 0 [some (.ref 49), some (.int (jI x1)), some (.int (jI x2)), some (.int (jI 1)), some (.int (jI 0)), none, none, none, none] [] E A13 (fun v19 A17 => ((v19 ≤ (0 : Int) → jrI 170 58 [some (.ref 49), some (.int (jI x1)), some (.int (jI x2)), none, some (.int (jI 2)), none, none] [] E A17 K) ∧ ((0 : Int) < v19 → K 0 A17)))))))))))))) : jrI 170 0 [some (.ref 49), some (.int (jI x1)), some (.int (jI x2)), none, none, none, none] [] E A K := by
  intro hA
  refine zw_go (pc1 := 1) (L1 := [some (.ref 49), some (.int (jI x1)), some (.int (jI x2)), none, none, none, none]) (st1 := [.ref 49]) (σ1 := js E A) zM_X7_isTree dX7_isTree_0 rfl rfl rfl rfl ?_
  refine zw_go (pc1 := 2) (L1 := [some (.ref 49), some (.int (jI x1)), some (.int (jI x2)), none, none, none, none]) (st1 := [.int (jI x1), .ref 49]) (σ1 := js E A) zM_X7_isTree dX7_isTree_1 rfl rfl rfl rfl ?_
  refine jw_iconst (v := 1) zM_X7_isTree dX7_isTree_2 rfl ?_
  refine jw_callI (as := [.ref 49, .int (jI x1), .int (jI 1)]) (rest := []) zM_X7_isTree dX7_isTree_3 (zx_calV zC_7_226) zM_X7_inode rfl rfl rfl rfl rfl (j_args0 rfl rfl) rfl hA h (fun v3 A1 rv4 hA2 h => ?_)
  refine zw_go (pc1 := 7) (L1 := [some (.ref 49), some (.int (jI x1)), some (.int (jI x2)), some (.int (jI v3)), none, none, none]) (st1 := []) (σ1 := js E A1) zM_X7_isTree dX7_isTree_6 rfl rfl rfl rfl ?_
  refine zw_go (pc1 := 8) (L1 := [some (.ref 49), some (.int (jI x1)), some (.int (jI x2)), some (.int (jI v3)), none, none, none]) (st1 := [.ref 49]) (σ1 := js E A1) zM_X7_isTree dX7_isTree_7 rfl rfl rfl rfl ?_
  refine zw_go (pc1 := 9) (L1 := [some (.ref 49), some (.int (jI x1)), some (.int (jI x2)), some (.int (jI v3)), none, none, none]) (st1 := [.int (jI x1), .ref 49]) (σ1 := js E A1) zM_X7_isTree dX7_isTree_8 rfl rfl rfl rfl ?_
  refine zw_go (pc1 := 10) (L1 := [some (.ref 49), some (.int (jI x1)), some (.int (jI x2)), some (.int (jI v3)), none, none, none]) (st1 := [.int (jI v3), .int (jI x1), .ref 49]) (σ1 := js E A1) zM_X7_isTree dX7_isTree_9 rfl rfl rfl rfl ?_
  refine jw_callI (as := [.ref 49, .int (jI x1), .int (jI v3)]) (rest := []) zM_X7_isTree dX7_isTree_10 (zx_calV zC_7_198) zM_X7_byteAt rfl rfl rfl rfl rfl (j_args0 rfl rfl) rfl hA2 h (fun v7 A5 rv8 hA6 h => ?_)
  refine jw_iconst (v := 1) zM_X7_isTree dX7_isTree_13 rfl ?_
  refine jw_icmp_ne (tgt := 53) zM_X7_isTree dX7_isTree_14 rfl rv8 (show jW 1 from ⟨by decide, by decide⟩) (fun q => ?_) (fun q => ?_)
  · replace h := h.1 q
    refine jw_iconst (v := 0) zM_X7_isTree dX7_isTree_53 rfl ?_
    exact jw_retz zM_X7_isTree dX7_isTree_54 rfl (Or.inl rfl) hA6 h
  · replace h := h.2 q
    refine zw_go (pc1 := 18) (L1 := [some (.ref 49), some (.int (jI x1)), some (.int (jI x2)), some (.int (jI v3)), none, none, none]) (st1 := [.ref 49]) (σ1 := js E A5) zM_X7_isTree dX7_isTree_17 rfl rfl rfl rfl ?_
    refine zw_go (pc1 := 19) (L1 := [some (.ref 49), some (.int (jI x1)), some (.int (jI x2)), some (.int (jI v3)), none, none, none]) (st1 := [.int (jI x1), .ref 49]) (σ1 := js E A5) zM_X7_isTree dX7_isTree_18 rfl rfl rfl rfl ?_
    refine zw_go (pc1 := 20) (L1 := [some (.ref 49), some (.int (jI x1)), some (.int (jI x2)), some (.int (jI v3)), none, none, none]) (st1 := [.int (jI v3), .int (jI x1), .ref 49]) (σ1 := js E A5) zM_X7_isTree dX7_isTree_19 rfl rfl rfl rfl ?_
    refine jw_iconst (v := 5) zM_X7_isTree dX7_isTree_20 rfl ?_
    refine jw_add zM_X7_isTree dX7_isTree_21 ?_
    refine jw_callI (as := [.ref 49, .int (jI x1), .int (jI (v3 + 5))]) (rest := []) zM_X7_isTree dX7_isTree_22 (zx_calV zC_7_198) zM_X7_byteAt rfl rfl rfl rfl rfl (j_args0 rfl rfl) rfl hA6 h (fun v11 A9 rv12 hA10 h => ?_)
    refine jw_iconst (v := 1) zM_X7_isTree dX7_isTree_25 rfl ?_
    refine jw_icmp_ne (tgt := 53) zM_X7_isTree dX7_isTree_26 rfl rv12 (show jW 1 from ⟨by decide, by decide⟩) (fun q => ?_) (fun q => ?_)
    · replace h := h.1 q
      refine jw_iconst (v := 0) zM_X7_isTree dX7_isTree_53 rfl ?_
      exact jw_retz zM_X7_isTree dX7_isTree_54 rfl (Or.inl rfl) hA10 h
    · replace h := h.2 q
      refine zw_go (pc1 := 30) (L1 := [some (.ref 49), some (.int (jI x1)), some (.int (jI x2)), some (.int (jI v3)), none, none, none]) (st1 := [.ref 49]) (σ1 := js E A9) zM_X7_isTree dX7_isTree_29 rfl rfl rfl rfl ?_
      refine zw_go (pc1 := 31) (L1 := [some (.ref 49), some (.int (jI x1)), some (.int (jI x2)), some (.int (jI v3)), none, none, none]) (st1 := [.int (jI x1), .ref 49]) (σ1 := js E A9) zM_X7_isTree dX7_isTree_30 rfl rfl rfl rfl ?_
      refine zw_go (pc1 := 32) (L1 := [some (.ref 49), some (.int (jI x1)), some (.int (jI x2)), some (.int (jI v3)), none, none, none]) (st1 := [.int (jI v3), .int (jI x1), .ref 49]) (σ1 := js E A9) zM_X7_isTree dX7_isTree_31 rfl rfl rfl rfl ?_
      refine jw_bipush (v := 10) zM_X7_isTree dX7_isTree_32 (by decide) ?_
      refine jw_add zM_X7_isTree dX7_isTree_34 ?_
      refine jw_callI (as := [.ref 49, .int (jI x1), .int (jI (v3 + 10))]) (rest := []) zM_X7_isTree dX7_isTree_35 (zx_calV zC_7_201) zM_X7_word rfl rfl rfl rfl rfl (j_args0 rfl rfl) rfl hA10 h (fun v15 A13 rv16 hA14 h => ?_)
      refine jw_iconst (v := 1) zM_X7_isTree dX7_isTree_38 rfl ?_
      refine jw_icmp_ne (tgt := 53) zM_X7_isTree dX7_isTree_39 rfl rv16 (show jW 1 from ⟨by decide, by decide⟩) (fun q => ?_) (fun q => ?_)
      · replace h := h.1 q
        refine jw_iconst (v := 0) zM_X7_isTree dX7_isTree_53 rfl ?_
        exact jw_retz zM_X7_isTree dX7_isTree_54 rfl (Or.inl rfl) hA14 h
      · replace h := h.2 q
        refine zw_go (pc1 := 43) (L1 := [some (.ref 49), some (.int (jI x1)), some (.int (jI x2)), some (.int (jI v3)), none, none, none]) (st1 := [.ref 49]) (σ1 := js E A13) zM_X7_isTree dX7_isTree_42 rfl rfl rfl rfl ?_
        refine zw_go (pc1 := 44) (L1 := [some (.ref 49), some (.int (jI x1)), some (.int (jI x2)), some (.int (jI v3)), none, none, none]) (st1 := [.int (jI x1), .ref 49]) (σ1 := js E A13) zM_X7_isTree dX7_isTree_43 rfl rfl rfl rfl ?_
        refine zw_go (pc1 := 45) (L1 := [some (.ref 49), some (.int (jI x1)), some (.int (jI x2)), some (.int (jI v3)), none, none, none]) (st1 := [.int (jI x2), .int (jI x1), .ref 49]) (σ1 := js E A13) zM_X7_isTree dX7_isTree_44 rfl rfl rfl rfl ?_
        refine jw_iconst (v := 1) zM_X7_isTree dX7_isTree_45 rfl ?_
        refine jw_iconst (v := 0) zM_X7_isTree dX7_isTree_46 rfl ?_
        refine jw_callI (as := [.ref 49, .int (jI x1), .int (jI x2), .int (jI 1), .int (jI 0)]) (rest := []) zM_X7_isTree dX7_isTree_47 (zx_calV zC_7_247) zM_X7_named rfl rfl rfl rfl rfl (j_args0 rfl rfl) rfl hA14 h (fun v19 A17 rv20 hA18 h => ?_)
        refine jw_if_le (tgt := 55) zM_X7_isTree dX7_isTree_50 rfl rv20 (fun q => ?_) (fun q => ?_)
        · replace h := h.1 q
          refine jw_iconst (v := 2) zM_X7_isTree dX7_isTree_55 rfl ?_
          refine zw_go (pc1 := 58) (L1 := [some (.ref 49), some (.int (jI x1)), some (.int (jI x2)), some (.int (jI v3)), some (.int (jI 2)), none, none]) (st1 := []) (σ1 := js E A17) zM_X7_isTree dX7_isTree_56 rfl rfl rfl rfl ?_
          exact zw_weak2 (h hA18) ⟨rfl, rfl, rfl, rfl, trivial⟩
        · replace h := h.2 q
          refine jw_iconst (v := 0) zM_X7_isTree dX7_isTree_53 rfl ?_
          exact jw_retz zM_X7_isTree dX7_isTree_54 rfl (Or.inl rfl) hA18 h
set_option maxHeartbeats 4000000 in
set_option maxRecDepth 100000 in
theorem vd_X7_isTree_58 (x1 : Int) (r_x1 : jW x1) (x2 : Int) (r_x2 : jW x2) (x4 : Int) (r_x4 : jW x4) (E : jE) (A : jA) (K : Int → jA → Prop) (h : ((x2 < x4 → jrI 170 156 [some (.ref 49), some (.int (jI x1)), some (.int (jI x2)), none, some (.int (jI 2)), none, none] [] E A K) ∧ (x4 ≤ x2 → jrI 183 0 [some (.ref 49), some (.int (jI x1)), some (.int (jI x2)), some (.int (jI x4)), some (.int (jI 0)), none, none, none, none] [] E A (fun v3 A1 => jrI 162 0 [some (.ref 49), some (.int (jI x1)), some (.int (jI x4))] [] E A1 (fun v7 A5 => ((v3 = (0 : Int) → K 0 A5) ∧ (¬ v3 = (0 : Int) → jrI 143 0 [some (.ref 49), some (.int (jI x1)), some (.int (jI (v7 + 5)))] [] E A5 (fun v11 A9 => ((¬ v3 = v11 → K 0 A9) ∧ (v3 = v11 → jrI 143 0 [some (.ref 49), some (.int (jI x1)), some (.int (jI v7))] [] E A9 (fun v15 A13 => ((v15 = (2 : Int) → jrI 170 122 [some (.ref 49), some (.int (jI x1)), some (.int (jI x2)), none, some (.int (jI x4)), none, none] [] E A13 K) ∧ (¬ v15 = (2 : Int) → ((v3 ≤ (1 : Int) → jrI 170 122 [some (.ref 49), some (.int (jI x1)), some (.int (jI x2)), none, some (.int (jI x4)), none, none] [] E A13 K) ∧ ((1 : Int) < v3 → K 0 A13))))))))))))))) : jrI 170 58 [some (.ref 49), some (.int (jI x1)), some (.int (jI x2)), none, some (.int (jI x4)), none, none] [] E A K := by
  intro hA
  refine zw_go (pc1 := 60) (L1 := [some (.ref 49), some (.int (jI x1)), some (.int (jI x2)), none, some (.int (jI x4)), none, none]) (st1 := [.int (jI x4)]) (σ1 := js E A) zM_X7_isTree dX7_isTree_58 rfl rfl rfl rfl ?_
  refine zw_go (pc1 := 61) (L1 := [some (.ref 49), some (.int (jI x1)), some (.int (jI x2)), none, some (.int (jI x4)), none, none]) (st1 := [.int (jI x2), .int (jI x4)]) (σ1 := js E A) zM_X7_isTree dX7_isTree_60 rfl rfl rfl rfl ?_
  refine jw_icmp_gt (tgt := 153) zM_X7_isTree dX7_isTree_61 rfl r_x4 r_x2 (fun q => ?_) (fun q => ?_)
  · replace h := h.1 q
    refine jw_iconst (v := 2) zM_X7_isTree dX7_isTree_153 rfl ?_
    refine zw_go (pc1 := 156) (L1 := [some (.ref 49), some (.int (jI x1)), some (.int (jI x2)), none, some (.int (jI 2)), none, none]) (st1 := []) (σ1 := js E A) zM_X7_isTree dX7_isTree_154 rfl rfl rfl rfl ?_
    exact zw_weak2 (h hA) ⟨rfl, rfl, rfl, rfl, trivial⟩
  · replace h := h.2 q
    refine zw_go (pc1 := 65) (L1 := [some (.ref 49), some (.int (jI x1)), some (.int (jI x2)), none, some (.int (jI x4)), none, none]) (st1 := [.ref 49]) (σ1 := js E A) zM_X7_isTree dX7_isTree_64 rfl rfl rfl rfl ?_
    refine zw_go (pc1 := 66) (L1 := [some (.ref 49), some (.int (jI x1)), some (.int (jI x2)), none, some (.int (jI x4)), none, none]) (st1 := [.int (jI x1), .ref 49]) (σ1 := js E A) zM_X7_isTree dX7_isTree_65 rfl rfl rfl rfl ?_
    refine zw_go (pc1 := 67) (L1 := [some (.ref 49), some (.int (jI x1)), some (.int (jI x2)), none, some (.int (jI x4)), none, none]) (st1 := [.int (jI x2), .int (jI x1), .ref 49]) (σ1 := js E A) zM_X7_isTree dX7_isTree_66 rfl rfl rfl rfl ?_
    refine zw_go (pc1 := 69) (L1 := [some (.ref 49), some (.int (jI x1)), some (.int (jI x2)), none, some (.int (jI x4)), none, none]) (st1 := [.int (jI x4), .int (jI x2), .int (jI x1), .ref 49]) (σ1 := js E A) zM_X7_isTree dX7_isTree_67 rfl rfl rfl rfl ?_
    refine jw_iconst (v := 0) zM_X7_isTree dX7_isTree_69 rfl ?_
    refine jw_callI (as := [.ref 49, .int (jI x1), .int (jI x2), .int (jI x4), .int (jI 0)]) (rest := []) zM_X7_isTree dX7_isTree_70 (zx_calV zC_7_247) zM_X7_named rfl rfl rfl rfl rfl (j_args0 rfl rfl) rfl hA h (fun v3 A1 rv4 hA2 h => ?_)
    refine zw_go (pc1 := 75) (L1 := [some (.ref 49), some (.int (jI x1)), some (.int (jI x2)), none, some (.int (jI x4)), some (.int (jI v3)), none]) (st1 := []) (σ1 := js E A1) zM_X7_isTree dX7_isTree_73 rfl rfl rfl rfl ?_
    refine zw_go (pc1 := 76) (L1 := [some (.ref 49), some (.int (jI x1)), some (.int (jI x2)), none, some (.int (jI x4)), some (.int (jI v3)), none]) (st1 := [.ref 49]) (σ1 := js E A1) zM_X7_isTree dX7_isTree_75 rfl rfl rfl rfl ?_
    refine zw_go (pc1 := 77) (L1 := [some (.ref 49), some (.int (jI x1)), some (.int (jI x2)), none, some (.int (jI x4)), some (.int (jI v3)), none]) (st1 := [.int (jI x1), .ref 49]) (σ1 := js E A1) zM_X7_isTree dX7_isTree_76 rfl rfl rfl rfl ?_
    refine zw_go (pc1 := 79) (L1 := [some (.ref 49), some (.int (jI x1)), some (.int (jI x2)), none, some (.int (jI x4)), some (.int (jI v3)), none]) (st1 := [.int (jI x4), .int (jI x1), .ref 49]) (σ1 := js E A1) zM_X7_isTree dX7_isTree_77 rfl rfl rfl rfl ?_
    refine jw_callI (as := [.ref 49, .int (jI x1), .int (jI x4)]) (rest := []) zM_X7_isTree dX7_isTree_79 (zx_calV zC_7_226) zM_X7_inode rfl rfl rfl rfl rfl (j_args0 rfl rfl) rfl hA2 h (fun v7 A5 rv8 hA6 h => ?_)
    refine zw_go (pc1 := 84) (L1 := [some (.ref 49), some (.int (jI x1)), some (.int (jI x2)), none, some (.int (jI x4)), some (.int (jI v3)), some (.int (jI v7))]) (st1 := []) (σ1 := js E A5) zM_X7_isTree dX7_isTree_82 rfl rfl rfl rfl ?_
    refine zw_go (pc1 := 86) (L1 := [some (.ref 49), some (.int (jI x1)), some (.int (jI x2)), none, some (.int (jI x4)), some (.int (jI v3)), some (.int (jI v7))]) (st1 := [.int (jI v3)]) (σ1 := js E A5) zM_X7_isTree dX7_isTree_84 rfl rfl rfl rfl ?_
    refine jw_if_eq (tgt := 120) zM_X7_isTree dX7_isTree_86 rfl rv4 (fun q => ?_) (fun q => ?_)
    · replace h := h.1 q
      refine jw_iconst (v := 0) zM_X7_isTree dX7_isTree_120 rfl ?_
      exact jw_retz zM_X7_isTree dX7_isTree_121 rfl (Or.inl rfl) hA6 h
    · replace h := h.2 q
      refine zw_go (pc1 := 91) (L1 := [some (.ref 49), some (.int (jI x1)), some (.int (jI x2)), none, some (.int (jI x4)), some (.int (jI v3)), some (.int (jI v7))]) (st1 := [.int (jI v3)]) (σ1 := js E A5) zM_X7_isTree dX7_isTree_89 rfl rfl rfl rfl ?_
      refine zw_go (pc1 := 92) (L1 := [some (.ref 49), some (.int (jI x1)), some (.int (jI x2)), none, some (.int (jI x4)), some (.int (jI v3)), some (.int (jI v7))]) (st1 := [.ref 49, .int (jI v3)]) (σ1 := js E A5) zM_X7_isTree dX7_isTree_91 rfl rfl rfl rfl ?_
      refine zw_go (pc1 := 93) (L1 := [some (.ref 49), some (.int (jI x1)), some (.int (jI x2)), none, some (.int (jI x4)), some (.int (jI v3)), some (.int (jI v7))]) (st1 := [.int (jI x1), .ref 49, .int (jI v3)]) (σ1 := js E A5) zM_X7_isTree dX7_isTree_92 rfl rfl rfl rfl ?_
      refine zw_go (pc1 := 95) (L1 := [some (.ref 49), some (.int (jI x1)), some (.int (jI x2)), none, some (.int (jI x4)), some (.int (jI v3)), some (.int (jI v7))]) (st1 := [.int (jI v7), .int (jI x1), .ref 49, .int (jI v3)]) (σ1 := js E A5) zM_X7_isTree dX7_isTree_93 rfl rfl rfl rfl ?_
      refine jw_iconst (v := 5) zM_X7_isTree dX7_isTree_95 rfl ?_
      refine jw_add zM_X7_isTree dX7_isTree_96 ?_
      refine jw_callI (as := [.ref 49, .int (jI x1), .int (jI (v7 + 5))]) (rest := [.int (jI v3)]) zM_X7_isTree dX7_isTree_97 (zx_calV zC_7_198) zM_X7_byteAt rfl rfl rfl rfl rfl (j_args0 rfl rfl) rfl hA6 h (fun v11 A9 rv12 hA10 h => ?_)
      refine jw_icmp_ne (tgt := 120) zM_X7_isTree dX7_isTree_100 rfl rv4 rv12 (fun q => ?_) (fun q => ?_)
      · replace h := h.1 q
        refine jw_iconst (v := 0) zM_X7_isTree dX7_isTree_120 rfl ?_
        exact jw_retz zM_X7_isTree dX7_isTree_121 rfl (Or.inl rfl) hA10 h
      · replace h := h.2 q
        refine zw_go (pc1 := 104) (L1 := [some (.ref 49), some (.int (jI x1)), some (.int (jI x2)), none, some (.int (jI x4)), some (.int (jI v3)), some (.int (jI v7))]) (st1 := [.ref 49]) (σ1 := js E A9) zM_X7_isTree dX7_isTree_103 rfl rfl rfl rfl ?_
        refine zw_go (pc1 := 105) (L1 := [some (.ref 49), some (.int (jI x1)), some (.int (jI x2)), none, some (.int (jI x4)), some (.int (jI v3)), some (.int (jI v7))]) (st1 := [.int (jI x1), .ref 49]) (σ1 := js E A9) zM_X7_isTree dX7_isTree_104 rfl rfl rfl rfl ?_
        refine zw_go (pc1 := 107) (L1 := [some (.ref 49), some (.int (jI x1)), some (.int (jI x2)), none, some (.int (jI x4)), some (.int (jI v3)), some (.int (jI v7))]) (st1 := [.int (jI v7), .int (jI x1), .ref 49]) (σ1 := js E A9) zM_X7_isTree dX7_isTree_105 rfl rfl rfl rfl ?_
        refine jw_callI (as := [.ref 49, .int (jI x1), .int (jI v7)]) (rest := []) zM_X7_isTree dX7_isTree_107 (zx_calV zC_7_198) zM_X7_byteAt rfl rfl rfl rfl rfl (j_args0 rfl rfl) rfl hA10 h (fun v15 A13 rv16 hA14 h => ?_)
        refine jw_iconst (v := 2) zM_X7_isTree dX7_isTree_110 rfl ?_
        refine jw_icmp_eq (tgt := 122) zM_X7_isTree dX7_isTree_111 rfl rv16 (show jW 2 from ⟨by decide, by decide⟩) (fun q => ?_) (fun q => ?_)
        · replace h := h.1 q
          exact zw_weak2 (h hA14) ⟨rfl, rfl, rfl, rfl, trivial⟩
        · replace h := h.2 q
          refine zw_go (pc1 := 116) (L1 := [some (.ref 49), some (.int (jI x1)), some (.int (jI x2)), none, some (.int (jI x4)), some (.int (jI v3)), some (.int (jI v7))]) (st1 := [.int (jI v3)]) (σ1 := js E A13) zM_X7_isTree dX7_isTree_114 rfl rfl rfl rfl ?_
          refine jw_iconst (v := 1) zM_X7_isTree dX7_isTree_116 rfl ?_
          refine jw_icmp_le (tgt := 122) zM_X7_isTree dX7_isTree_117 rfl rv4 (show jW 1 from ⟨by decide, by decide⟩) (fun q => ?_) (fun q => ?_)
          · replace h := h.1 q
            exact zw_weak2 (h hA14) ⟨rfl, rfl, rfl, rfl, trivial⟩
          · replace h := h.2 q
            refine jw_iconst (v := 0) zM_X7_isTree dX7_isTree_120 rfl ?_
            exact jw_retz zM_X7_isTree dX7_isTree_121 rfl (Or.inl rfl) hA14 h
set_option maxHeartbeats 4000000 in
set_option maxRecDepth 100000 in
theorem vd_X7_isTree_122 (x1 : Int) (r_x1 : jW x1) (x2 : Int) (r_x2 : jW x2) (x4 : Int) (r_x4 : jW x4) (E : jE) (A : jA) (K : Int → jA → Prop) (h : jrI 164 0 [some (.ref 49), some (.int (jI x1)), some (.int (jI x4))] [] E A (fun v3 A1 => ((v3 = (0 : Int) → jrI 170 147 [some (.ref 49), some (.int (jI x1)), some (.int (jI x2)), none, some (.int (jI x4)), none, none] [] E A1 K) ∧ (¬ v3 = (0 : Int) → jrI 183 0 [some (.ref 49), some (.int (jI x1)), some (.int (jI x2)), some (.int (jI x4)), some (.int (jI 1)), none, none, none, none] [] E A1 (fun v7 A5 => ((v7 = (1 : Int) → jrI 170 147 [some (.ref 49), some (.int (jI x1)), some (.int (jI x2)), none, some (.int (jI x4)), none, none] [] E A5 K) ∧ (¬ v7 = (1 : Int) → K 0 A5))))))) : jrI 170 122 [some (.ref 49), some (.int (jI x1)), some (.int (jI x2)), none, some (.int (jI x4)), none, none] [] E A K := by
  intro hA
  refine zw_go (pc1 := 123) (L1 := [some (.ref 49), some (.int (jI x1)), some (.int (jI x2)), none, some (.int (jI x4)), none, none]) (st1 := [.ref 49]) (σ1 := js E A) zM_X7_isTree dX7_isTree_122 rfl rfl rfl rfl ?_
  refine zw_go (pc1 := 124) (L1 := [some (.ref 49), some (.int (jI x1)), some (.int (jI x2)), none, some (.int (jI x4)), none, none]) (st1 := [.int (jI x1), .ref 49]) (σ1 := js E A) zM_X7_isTree dX7_isTree_123 rfl rfl rfl rfl ?_
  refine zw_go (pc1 := 126) (L1 := [some (.ref 49), some (.int (jI x1)), some (.int (jI x2)), none, some (.int (jI x4)), none, none]) (st1 := [.int (jI x4), .int (jI x1), .ref 49]) (σ1 := js E A) zM_X7_isTree dX7_isTree_124 rfl rfl rfl rfl ?_
  refine jw_callI (as := [.ref 49, .int (jI x1), .int (jI x4)]) (rest := []) zM_X7_isTree dX7_isTree_126 (zx_calV zC_7_235) zM_X7_isFolder rfl rfl rfl rfl rfl (j_args0 rfl rfl) rfl hA h (fun v3 A1 rv4 hA2 h => ?_)
  refine jw_if_eq (tgt := 147) zM_X7_isTree dX7_isTree_129 rfl rv4 (fun q => ?_) (fun q => ?_)
  · replace h := h.1 q
    exact zw_weak2 (h hA2) ⟨rfl, rfl, rfl, rfl, trivial⟩
  · replace h := h.2 q
    refine zw_go (pc1 := 133) (L1 := [some (.ref 49), some (.int (jI x1)), some (.int (jI x2)), none, some (.int (jI x4)), none, none]) (st1 := [.ref 49]) (σ1 := js E A1) zM_X7_isTree dX7_isTree_132 rfl rfl rfl rfl ?_
    refine zw_go (pc1 := 134) (L1 := [some (.ref 49), some (.int (jI x1)), some (.int (jI x2)), none, some (.int (jI x4)), none, none]) (st1 := [.int (jI x1), .ref 49]) (σ1 := js E A1) zM_X7_isTree dX7_isTree_133 rfl rfl rfl rfl ?_
    refine zw_go (pc1 := 135) (L1 := [some (.ref 49), some (.int (jI x1)), some (.int (jI x2)), none, some (.int (jI x4)), none, none]) (st1 := [.int (jI x2), .int (jI x1), .ref 49]) (σ1 := js E A1) zM_X7_isTree dX7_isTree_134 rfl rfl rfl rfl ?_
    refine zw_go (pc1 := 137) (L1 := [some (.ref 49), some (.int (jI x1)), some (.int (jI x2)), none, some (.int (jI x4)), none, none]) (st1 := [.int (jI x4), .int (jI x2), .int (jI x1), .ref 49]) (σ1 := js E A1) zM_X7_isTree dX7_isTree_135 rfl rfl rfl rfl ?_
    refine jw_iconst (v := 1) zM_X7_isTree dX7_isTree_137 rfl ?_
    refine jw_callI (as := [.ref 49, .int (jI x1), .int (jI x2), .int (jI x4), .int (jI 1)]) (rest := []) zM_X7_isTree dX7_isTree_138 (zx_calV zC_7_247) zM_X7_named rfl rfl rfl rfl rfl (j_args0 rfl rfl) rfl hA2 h (fun v7 A5 rv8 hA6 h => ?_)
    refine jw_iconst (v := 1) zM_X7_isTree dX7_isTree_141 rfl ?_
    refine jw_icmp_eq (tgt := 147) zM_X7_isTree dX7_isTree_142 rfl rv8 (show jW 1 from ⟨by decide, by decide⟩) (fun q => ?_) (fun q => ?_)
    · replace h := h.1 q
      exact zw_weak2 (h hA6) ⟨rfl, rfl, rfl, rfl, trivial⟩
    · replace h := h.2 q
      refine jw_iconst (v := 0) zM_X7_isTree dX7_isTree_145 rfl ?_
      exact jw_retz zM_X7_isTree dX7_isTree_146 rfl (Or.inl rfl) hA6 h
set_option maxHeartbeats 4000000 in
set_option maxRecDepth 100000 in
theorem vd_X7_isTree_147 (x1 : Int) (r_x1 : jW x1) (x2 : Int) (r_x2 : jW x2) (x4 : Int) (r_x4 : jW x4) (E : jE) (A : jA) (K : Int → jA → Prop) (h : jrI 170 58 [some (.ref 49), some (.int (jI x1)), some (.int (jI x2)), none, some (.int (jI (x4 + 1))), none, none] [] E A K) : jrI 170 147 [some (.ref 49), some (.int (jI x1)), some (.int (jI x2)), none, some (.int (jI x4)), none, none] [] E A K := by
  intro hA
  refine jw_iinc (x := x4) (L1 := [some (.ref 49), some (.int (jI x1)), some (.int (jI x2)), none, some (.int (jI (x4 + 1))), none, none]) zM_X7_isTree dX7_isTree_147 rfl (show 4 < 7 by decide) rfl ?_
  refine zw_goto (tgt := 58) zM_X7_isTree dX7_isTree_150 rfl ?_
  exact zw_weak2 (h hA) ⟨rfl, rfl, rfl, rfl, trivial⟩
set_option maxHeartbeats 4000000 in
set_option maxRecDepth 100000 in
theorem vd_X7_isTree_156 (x1 : Int) (r_x1 : jW x1) (x2 : Int) (r_x2 : jW x2) (x4 : Int) (r_x4 : jW x4) (E : jE) (A : jA) (K : Int → jA → Prop) (h : ((x2 < x4 → K 1 A) ∧ (x4 ≤ x2 → jrI 170 169 [some (.ref 49), some (.int (jI x1)), some (.int (jI x2)), none, some (.int (jI x4)), some (.int (jI x4)), some (.int (jI 0))] [] E A K))) : jrI 170 156 [some (.ref 49), some (.int (jI x1)), some (.int (jI x2)), none, some (.int (jI x4)), none, none] [] E A K := by
  intro hA
  refine zw_go (pc1 := 158) (L1 := [some (.ref 49), some (.int (jI x1)), some (.int (jI x2)), none, some (.int (jI x4)), none, none]) (st1 := [.int (jI x4)]) (σ1 := js E A) zM_X7_isTree dX7_isTree_156 rfl rfl rfl rfl ?_
  refine zw_go (pc1 := 159) (L1 := [some (.ref 49), some (.int (jI x1)), some (.int (jI x2)), none, some (.int (jI x4)), none, none]) (st1 := [.int (jI x2), .int (jI x4)]) (σ1 := js E A) zM_X7_isTree dX7_isTree_158 rfl rfl rfl rfl ?_
  refine jw_icmp_gt (tgt := 238) zM_X7_isTree dX7_isTree_159 rfl r_x4 r_x2 (fun q => ?_) (fun q => ?_)
  · replace h := h.1 q
    refine jw_iconst (v := 1) zM_X7_isTree dX7_isTree_238 rfl ?_
    exact jw_retz zM_X7_isTree dX7_isTree_239 rfl (Or.inr rfl) hA h
  · replace h := h.2 q
    refine zw_go (pc1 := 164) (L1 := [some (.ref 49), some (.int (jI x1)), some (.int (jI x2)), none, some (.int (jI x4)), none, none]) (st1 := [.int (jI x4)]) (σ1 := js E A) zM_X7_isTree dX7_isTree_162 rfl rfl rfl rfl ?_
    refine zw_go (pc1 := 166) (L1 := [some (.ref 49), some (.int (jI x1)), some (.int (jI x2)), none, some (.int (jI x4)), some (.int (jI x4)), none]) (st1 := []) (σ1 := js E A) zM_X7_isTree dX7_isTree_164 rfl rfl rfl rfl ?_
    refine jw_iconst (v := 0) zM_X7_isTree dX7_isTree_166 rfl ?_
    refine zw_go (pc1 := 169) (L1 := [some (.ref 49), some (.int (jI x1)), some (.int (jI x2)), none, some (.int (jI x4)), some (.int (jI x4)), some (.int (jI 0))]) (st1 := []) (σ1 := js E A) zM_X7_isTree dX7_isTree_167 rfl rfl rfl rfl ?_
    exact zw_weak2 (h hA) ⟨rfl, rfl, rfl, rfl, rfl, rfl, trivial⟩
set_option maxHeartbeats 4000000 in
set_option maxRecDepth 100000 in
theorem vd_X7_isTree_169 (x1 : Int) (r_x1 : jW x1) (x2 : Int) (r_x2 : jW x2) (x4 : Int) (r_x4 : jW x4) (x5 : Int) (r_x5 : jW x5) (x6 : Int) (r_x6 : jW x6) (E : jE) (A : jA) (K : Int → jA → Prop) (h : ((x2 < x6 → jrI 170 214 [some (.ref 49), some (.int (jI x1)), some (.int (jI x2)), none, some (.int (jI x4)), some (.int (jI x5)), none] [] E A K) ∧ (x6 ≤ x2 → ((x5 = (1 : Int) → jrI 170 214 [some (.ref 49), some (.int (jI x1)), some (.int (jI x2)), none, some (.int (jI x4)), some (.int (jI x5)), none] [] E A K) ∧ (¬ x5 = (1 : Int) → jrI 164 0 [some (.ref 49), some (.int (jI x1)), some (.int (jI x4))] [] E A (fun v3 A1 => ((v3 = (0 : Int) → jrI 170 214 [some (.ref 49), some (.int (jI x1)), some (.int (jI x2)), none, some (.int (jI x4)), some (.int (jI x5)), none] [] E A1 K) ∧ (¬ v3 = (0 : Int) → jrI 162 0 [some (.ref 49), some (.int (jI x1)), some (.int (jI x5))] [] E A1 (fun v7 A5 => jrI 210 0 [some (.ref 49), some (.int (jI x1)), some (.int (jI (v7 + 10)))] [] E A5 (fun v11 A9 => jrI 170 169 [some (.ref 49), some (.int (jI x1)), some (.int (jI x2)), none, some (.int (jI x4)), some (.int (jI v11)), some (.int (jI (x6 + 1)))] [] E A9 K)))))))))) : jrI 170 169 [some (.ref 49), some (.int (jI x1)), some (.int (jI x2)), none, some (.int (jI x4)), some (.int (jI x5)), some (.int (jI x6))] [] E A K := by
  intro hA
  refine zw_go (pc1 := 171) (L1 := [some (.ref 49), some (.int (jI x1)), some (.int (jI x2)), none, some (.int (jI x4)), some (.int (jI x5)), some (.int (jI x6))]) (st1 := [.int (jI x6)]) (σ1 := js E A) zM_X7_isTree dX7_isTree_169 rfl rfl rfl rfl ?_
  refine zw_go (pc1 := 172) (L1 := [some (.ref 49), some (.int (jI x1)), some (.int (jI x2)), none, some (.int (jI x4)), some (.int (jI x5)), some (.int (jI x6))]) (st1 := [.int (jI x2), .int (jI x6)]) (σ1 := js E A) zM_X7_isTree dX7_isTree_171 rfl rfl rfl rfl ?_
  refine jw_icmp_gt (tgt := 214) zM_X7_isTree dX7_isTree_172 rfl r_x6 r_x2 (fun q => ?_) (fun q => ?_)
  · replace h := h.1 q
    exact zw_weak2 (h hA) ⟨rfl, rfl, rfl, rfl, rfl, trivial⟩
  · replace h := h.2 q
    refine zw_go (pc1 := 177) (L1 := [some (.ref 49), some (.int (jI x1)), some (.int (jI x2)), none, some (.int (jI x4)), some (.int (jI x5)), some (.int (jI x6))]) (st1 := [.int (jI x5)]) (σ1 := js E A) zM_X7_isTree dX7_isTree_175 rfl rfl rfl rfl ?_
    refine jw_iconst (v := 1) zM_X7_isTree dX7_isTree_177 rfl ?_
    refine jw_icmp_eq (tgt := 214) zM_X7_isTree dX7_isTree_178 rfl r_x5 (show jW 1 from ⟨by decide, by decide⟩) (fun q => ?_) (fun q => ?_)
    · replace h := h.1 q
      exact zw_weak2 (h hA) ⟨rfl, rfl, rfl, rfl, rfl, trivial⟩
    · replace h := h.2 q
      refine zw_go (pc1 := 182) (L1 := [some (.ref 49), some (.int (jI x1)), some (.int (jI x2)), none, some (.int (jI x4)), some (.int (jI x5)), some (.int (jI x6))]) (st1 := [.ref 49]) (σ1 := js E A) zM_X7_isTree dX7_isTree_181 rfl rfl rfl rfl ?_
      refine zw_go (pc1 := 183) (L1 := [some (.ref 49), some (.int (jI x1)), some (.int (jI x2)), none, some (.int (jI x4)), some (.int (jI x5)), some (.int (jI x6))]) (st1 := [.int (jI x1), .ref 49]) (σ1 := js E A) zM_X7_isTree dX7_isTree_182 rfl rfl rfl rfl ?_
      refine zw_go (pc1 := 185) (L1 := [some (.ref 49), some (.int (jI x1)), some (.int (jI x2)), none, some (.int (jI x4)), some (.int (jI x5)), some (.int (jI x6))]) (st1 := [.int (jI x4), .int (jI x1), .ref 49]) (σ1 := js E A) zM_X7_isTree dX7_isTree_183 rfl rfl rfl rfl ?_
      refine jw_callI (as := [.ref 49, .int (jI x1), .int (jI x4)]) (rest := []) zM_X7_isTree dX7_isTree_185 (zx_calV zC_7_235) zM_X7_isFolder rfl rfl rfl rfl rfl (j_args0 rfl rfl) rfl hA h (fun v3 A1 rv4 hA2 h => ?_)
      refine jw_if_eq (tgt := 214) zM_X7_isTree dX7_isTree_188 rfl rv4 (fun q => ?_) (fun q => ?_)
      · replace h := h.1 q
        exact zw_weak2 (h hA2) ⟨rfl, rfl, rfl, rfl, rfl, trivial⟩
      · replace h := h.2 q
        refine zw_go (pc1 := 192) (L1 := [some (.ref 49), some (.int (jI x1)), some (.int (jI x2)), none, some (.int (jI x4)), some (.int (jI x5)), some (.int (jI x6))]) (st1 := [.ref 49]) (σ1 := js E A1) zM_X7_isTree dX7_isTree_191 rfl rfl rfl rfl ?_
        refine zw_go (pc1 := 193) (L1 := [some (.ref 49), some (.int (jI x1)), some (.int (jI x2)), none, some (.int (jI x4)), some (.int (jI x5)), some (.int (jI x6))]) (st1 := [.int (jI x1), .ref 49]) (σ1 := js E A1) zM_X7_isTree dX7_isTree_192 rfl rfl rfl rfl ?_
        refine zw_go (pc1 := 194) (L1 := [some (.ref 49), some (.int (jI x1)), some (.int (jI x2)), none, some (.int (jI x4)), some (.int (jI x5)), some (.int (jI x6))]) (st1 := [.ref 49, .int (jI x1), .ref 49]) (σ1 := js E A1) zM_X7_isTree dX7_isTree_193 rfl rfl rfl rfl ?_
        refine zw_go (pc1 := 195) (L1 := [some (.ref 49), some (.int (jI x1)), some (.int (jI x2)), none, some (.int (jI x4)), some (.int (jI x5)), some (.int (jI x6))]) (st1 := [.int (jI x1), .ref 49, .int (jI x1), .ref 49]) (σ1 := js E A1) zM_X7_isTree dX7_isTree_194 rfl rfl rfl rfl ?_
        refine zw_go (pc1 := 197) (L1 := [some (.ref 49), some (.int (jI x1)), some (.int (jI x2)), none, some (.int (jI x4)), some (.int (jI x5)), some (.int (jI x6))]) (st1 := [.int (jI x5), .int (jI x1), .ref 49, .int (jI x1), .ref 49]) (σ1 := js E A1) zM_X7_isTree dX7_isTree_195 rfl rfl rfl rfl ?_
        refine jw_callI (as := [.ref 49, .int (jI x1), .int (jI x5)]) (rest := [.int (jI x1), .ref 49]) zM_X7_isTree dX7_isTree_197 (zx_calV zC_7_226) zM_X7_inode rfl rfl rfl rfl rfl (j_args0 rfl rfl) rfl hA2 h (fun v7 A5 rv8 hA6 h => ?_)
        refine jw_bipush (v := 10) zM_X7_isTree dX7_isTree_200 (by decide) ?_
        refine jw_add zM_X7_isTree dX7_isTree_202 ?_
        refine jw_callI (as := [.ref 49, .int (jI x1), .int (jI (v7 + 10))]) (rest := []) zM_X7_isTree dX7_isTree_203 (zx_calV zC_7_201) zM_X7_word rfl rfl rfl rfl rfl (j_args0 rfl rfl) rfl hA6 h (fun v11 A9 rv12 hA10 h => ?_)
        refine zw_go (pc1 := 208) (L1 := [some (.ref 49), some (.int (jI x1)), some (.int (jI x2)), none, some (.int (jI x4)), some (.int (jI v11)), some (.int (jI x6))]) (st1 := []) (σ1 := js E A9) zM_X7_isTree dX7_isTree_206 rfl rfl rfl rfl ?_
        refine jw_iinc (x := x6) (L1 := [some (.ref 49), some (.int (jI x1)), some (.int (jI x2)), none, some (.int (jI x4)), some (.int (jI v11)), some (.int (jI (x6 + 1)))]) zM_X7_isTree dX7_isTree_208 rfl (show 6 < 7 by decide) rfl ?_
        refine zw_goto (tgt := 169) zM_X7_isTree dX7_isTree_211 rfl ?_
        exact zw_weak2 (h hA10) ⟨rfl, rfl, rfl, rfl, rfl, rfl, trivial⟩
set_option maxHeartbeats 4000000 in
set_option maxRecDepth 100000 in
theorem vd_X7_isTree_214 (x1 : Int) (r_x1 : jW x1) (x2 : Int) (r_x2 : jW x2) (x4 : Int) (r_x4 : jW x4) (x5 : Int) (r_x5 : jW x5) (E : jE) (A : jA) (K : Int → jA → Prop) (h : jrI 164 0 [some (.ref 49), some (.int (jI x1)), some (.int (jI x4))] [] E A (fun v3 A1 => ((v3 = (0 : Int) → jrI 170 232 [some (.ref 49), some (.int (jI x1)), some (.int (jI x2)), none, some (.int (jI x4)), none, none] [] E A1 K) ∧ (¬ v3 = (0 : Int) → ((x5 = (1 : Int) → jrI 170 232 [some (.ref 49), some (.int (jI x1)), some (.int (jI x2)), none, some (.int (jI x4)), none, none] [] E A1 K) ∧ (¬ x5 = (1 : Int) → K 0 A1)))))) : jrI 170 214 [some (.ref 49), some (.int (jI x1)), some (.int (jI x2)), none, some (.int (jI x4)), some (.int (jI x5)), none] [] E A K := by
  intro hA
  refine zw_go (pc1 := 215) (L1 := [some (.ref 49), some (.int (jI x1)), some (.int (jI x2)), none, some (.int (jI x4)), some (.int (jI x5)), none]) (st1 := [.ref 49]) (σ1 := js E A) zM_X7_isTree dX7_isTree_214 rfl rfl rfl rfl ?_
  refine zw_go (pc1 := 216) (L1 := [some (.ref 49), some (.int (jI x1)), some (.int (jI x2)), none, some (.int (jI x4)), some (.int (jI x5)), none]) (st1 := [.int (jI x1), .ref 49]) (σ1 := js E A) zM_X7_isTree dX7_isTree_215 rfl rfl rfl rfl ?_
  refine zw_go (pc1 := 218) (L1 := [some (.ref 49), some (.int (jI x1)), some (.int (jI x2)), none, some (.int (jI x4)), some (.int (jI x5)), none]) (st1 := [.int (jI x4), .int (jI x1), .ref 49]) (σ1 := js E A) zM_X7_isTree dX7_isTree_216 rfl rfl rfl rfl ?_
  refine jw_callI (as := [.ref 49, .int (jI x1), .int (jI x4)]) (rest := []) zM_X7_isTree dX7_isTree_218 (zx_calV zC_7_235) zM_X7_isFolder rfl rfl rfl rfl rfl (j_args0 rfl rfl) rfl hA h (fun v3 A1 rv4 hA2 h => ?_)
  refine jw_if_eq (tgt := 232) zM_X7_isTree dX7_isTree_221 rfl rv4 (fun q => ?_) (fun q => ?_)
  · replace h := h.1 q
    exact zw_weak2 (h hA2) ⟨rfl, rfl, rfl, rfl, trivial⟩
  · replace h := h.2 q
    refine zw_go (pc1 := 226) (L1 := [some (.ref 49), some (.int (jI x1)), some (.int (jI x2)), none, some (.int (jI x4)), some (.int (jI x5)), none]) (st1 := [.int (jI x5)]) (σ1 := js E A1) zM_X7_isTree dX7_isTree_224 rfl rfl rfl rfl ?_
    refine jw_iconst (v := 1) zM_X7_isTree dX7_isTree_226 rfl ?_
    refine jw_icmp_eq (tgt := 232) zM_X7_isTree dX7_isTree_227 rfl r_x5 (show jW 1 from ⟨by decide, by decide⟩) (fun q => ?_) (fun q => ?_)
    · replace h := h.1 q
      exact zw_weak2 (h hA2) ⟨rfl, rfl, rfl, rfl, trivial⟩
    · replace h := h.2 q
      refine jw_iconst (v := 0) zM_X7_isTree dX7_isTree_230 rfl ?_
      exact jw_retz zM_X7_isTree dX7_isTree_231 rfl (Or.inl rfl) hA2 h
set_option maxHeartbeats 4000000 in
set_option maxRecDepth 100000 in
theorem vd_X7_isTree_232 (x1 : Int) (r_x1 : jW x1) (x2 : Int) (r_x2 : jW x2) (x4 : Int) (r_x4 : jW x4) (E : jE) (A : jA) (K : Int → jA → Prop) (h : jrI 170 156 [some (.ref 49), some (.int (jI x1)), some (.int (jI x2)), none, some (.int (jI (x4 + 1))), none, none] [] E A K) : jrI 170 232 [some (.ref 49), some (.int (jI x1)), some (.int (jI x2)), none, some (.int (jI x4)), none, none] [] E A K := by
  intro hA
  refine jw_iinc (x := x4) (L1 := [some (.ref 49), some (.int (jI x1)), some (.int (jI x2)), none, some (.int (jI (x4 + 1))), none, none]) zM_X7_isTree dX7_isTree_232 rfl (show 4 < 7 by decide) rfl ?_
  refine zw_goto (tgt := 156) zM_X7_isTree dX7_isTree_235 rfl ?_
  exact zw_weak2 (h hA) ⟨rfl, rfl, rfl, rfl, trivial⟩
set_option maxHeartbeats 4000000 in
set_option maxRecDepth 100000 in
theorem vd_X7_isView_0 (x1 : Int) (r_x1 : jW x1) (E : jE) (A : jA) (K : Int → jA → Prop) (h : jrI 160 0 [some (.int (jI x1)), some (.int (jI 0)), some (.int (jI ((A 49 37) - 1)))] [] E A (fun v3 A1 => (v3 = 0 ∨ v3 = 1) ∧ K v3 A1)) : jrI 171 0 [some (.ref 49), some (.int (jI x1))] [] E A K := by
  intro hA
  refine zw_go (pc1 := 1) (L1 := [some (.ref 49), some (.int (jI x1))]) (st1 := [.int (jI x1)]) (σ1 := js E A) zM_X7_isView dX7_isView_0 rfl rfl rfl rfl ?_
  refine jw_iconst (v := 0) zM_X7_isView dX7_isView_1 rfl ?_
  refine zw_go (pc1 := 3) (L1 := [some (.ref 49), some (.int (jI x1))]) (st1 := [.ref 49, .int (jI 0), .int (jI x1)]) (σ1 := js E A) zM_X7_isView dX7_isView_2 rfl rfl rfl rfl ?_
  refine jw_getI zM_X7_isView dX7_isView_3 zF_7_269 rfl rfl rfl ?_
  refine jw_iconst (v := 1) zM_X7_isView dX7_isView_6 rfl ?_
  refine jw_sub zM_X7_isView dX7_isView_7 ?_
  refine jw_callI (as := [.int (jI x1), .int (jI 0), .int (jI ((A 49 37) - 1))]) (rest := []) zM_X7_isView dX7_isView_8 (zx_calS zC_7_101) zM_X7_in rfl rfl rfl rfl rfl rfl rfl hA h (fun v3 A1 rv4 hA2 h => ?_)
  obtain ⟨hv5, h⟩ := h
  exact jw_retz zM_X7_isView dX7_isView_11 rfl hv5 hA2 h
