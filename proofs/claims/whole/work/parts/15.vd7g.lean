set_option maxHeartbeats 4000000 in
set_option maxRecDepth 100000 in
theorem vd_X7_opened_0 (x1 : Int) (r_x1 : jW x1) (x2 : Int) (r_x2 : jW x2) (x3 : Int) (r_x3 : jW x3) (x4 : Int) (r_x4 : jW x4) (E : jE) (A : jA) (K : Int → jA → Prop) (h : ((¬ x3 = (0 : Int) → ((x3 < (32768 : Int) → jrI 192 28 [some (.ref 49), some (.int (jI x1)), none, none, some (.int (jI x4)), some (.int (jI x2)), some (.int (jI 0)), none] [] E A K) ∧ ((32768 : Int) ≤ x3 → jrI 143 0 [some (.ref 49), some (.int (jI x1)), some (.int (jI (x2 + x4)))] [] E A (fun v3 A1 => K v3 A1)))) ∧ (x3 = (0 : Int) → K 0 A))) : jrI 192 0 [some (.ref 49), some (.int (jI x1)), some (.int (jI x2)), some (.int (jI x3)), some (.int (jI x4)), none, none, none] [] E A K := by
  intro hA
  refine zw_go (pc1 := 1) (L1 := [some (.ref 49), some (.int (jI x1)), some (.int (jI x2)), some (.int (jI x3)), some (.int (jI x4)), none, none, none]) (st1 := [.int (jI x3)]) (σ1 := js E A) zM_X7_opened dX7_opened_0 rfl rfl rfl rfl ?_
  refine jw_if_ne (tgt := 6) zM_X7_opened dX7_opened_1 rfl r_x3 (fun q => ?_) (fun q => ?_)
  · replace h := h.1 q
    refine zw_go (pc1 := 7) (L1 := [some (.ref 49), some (.int (jI x1)), some (.int (jI x2)), some (.int (jI x3)), some (.int (jI x4)), none, none, none]) (st1 := [.int (jI x3)]) (σ1 := js E A) zM_X7_opened dX7_opened_6 rfl rfl rfl rfl ?_
    refine jw_ldc (w := 32768) zM_X7_opened dX7_opened_7 zK_7_158 (by decide) ?_
    refine jw_icmp_lt (tgt := 22) zM_X7_opened dX7_opened_9 rfl r_x3 (show jW 32768 from ⟨by decide, by decide⟩) (fun q => ?_) (fun q => ?_)
    · replace h := h.1 q
      refine zw_go (pc1 := 23) (L1 := [some (.ref 49), some (.int (jI x1)), some (.int (jI x2)), some (.int (jI x3)), some (.int (jI x4)), none, none, none]) (st1 := [.int (jI x2)]) (σ1 := js E A) zM_X7_opened dX7_opened_22 rfl rfl rfl rfl ?_
      refine zw_go (pc1 := 25) (L1 := [some (.ref 49), some (.int (jI x1)), some (.int (jI x2)), some (.int (jI x3)), some (.int (jI x4)), some (.int (jI x2)), none, none]) (st1 := []) (σ1 := js E A) zM_X7_opened dX7_opened_23 rfl rfl rfl rfl ?_
      refine jw_iconst (v := 0) zM_X7_opened dX7_opened_25 rfl ?_
      refine zw_go (pc1 := 28) (L1 := [some (.ref 49), some (.int (jI x1)), some (.int (jI x2)), some (.int (jI x3)), some (.int (jI x4)), some (.int (jI x2)), some (.int (jI 0)), none]) (st1 := []) (σ1 := js E A) zM_X7_opened dX7_opened_26 rfl rfl rfl rfl ?_
      exact zw_weak2 (h hA) ⟨rfl, rfl, rfl, rfl, rfl, trivial⟩
    · replace h := h.2 q
      refine zw_go (pc1 := 13) (L1 := [some (.ref 49), some (.int (jI x1)), some (.int (jI x2)), some (.int (jI x3)), some (.int (jI x4)), none, none, none]) (st1 := [.ref 49]) (σ1 := js E A) zM_X7_opened dX7_opened_12 rfl rfl rfl rfl ?_
      refine zw_go (pc1 := 14) (L1 := [some (.ref 49), some (.int (jI x1)), some (.int (jI x2)), some (.int (jI x3)), some (.int (jI x4)), none, none, none]) (st1 := [.int (jI x1), .ref 49]) (σ1 := js E A) zM_X7_opened dX7_opened_13 rfl rfl rfl rfl ?_
      refine zw_go (pc1 := 15) (L1 := [some (.ref 49), some (.int (jI x1)), some (.int (jI x2)), some (.int (jI x3)), some (.int (jI x4)), none, none, none]) (st1 := [.int (jI x2), .int (jI x1), .ref 49]) (σ1 := js E A) zM_X7_opened dX7_opened_14 rfl rfl rfl rfl ?_
      refine zw_go (pc1 := 17) (L1 := [some (.ref 49), some (.int (jI x1)), some (.int (jI x2)), some (.int (jI x3)), some (.int (jI x4)), none, none, none]) (st1 := [.int (jI x4), .int (jI x2), .int (jI x1), .ref 49]) (σ1 := js E A) zM_X7_opened dX7_opened_15 rfl rfl rfl rfl ?_
      refine jw_add zM_X7_opened dX7_opened_17 ?_
      refine jw_callI (as := [.ref 49, .int (jI x1), .int (jI (x2 + x4))]) (rest := []) zM_X7_opened dX7_opened_18 (zx_calV zC_7_198) zM_X7_byteAt rfl rfl rfl rfl rfl (j_args0 rfl rfl) rfl hA h (fun v3 A1 rv4 hA2 h => ?_)
      exact jw_reti zM_X7_opened dX7_opened_21 rfl rv4 hA2 h
  · replace h := h.2 q
    refine jw_iconst (v := 0) zM_X7_opened dX7_opened_4 rfl ?_
    exact jw_reti zM_X7_opened dX7_opened_5 rfl (show jW 0 from ⟨by decide, by decide⟩) hA h
set_option maxHeartbeats 4000000 in
set_option maxRecDepth 100000 in
theorem vd_X7_opened_28 (x1 : Int) (r_x1 : jW x1) (x4 : Int) (r_x4 : jW x4) (x5 : Int) (r_x5 : jW x5) (x6 : Int) (r_x6 : jW x6) (E : jE) (A : jA) (K : Int → jA → Prop) (h : jrI 143 0 [some (.ref 49), some (.int (jI x1)), some (.int (jI x5))] [] E A (fun v3 A1 => (((128 : Int) ≤ v3 → ((v3 ≤ (128 : Int) → jrI 192 146 [some (.ref 49), some (.int (jI x1)), none, none, some (.int (jI x4)), some (.int (jI (x5 + 1))), some (.int (jI x6)), none] [] E A1 K) ∧ ((128 : Int) < v3 → jW ((x6 + 257) - v3) ∧ ((((x6 + 257) - v3) ≤ x4 → jrI 192 146 [some (.ref 49), some (.int (jI x1)), none, none, some (.int (jI x4)), some (.int (jI (x5 + 2))), some (.int (jI (x6 + (257 - v3)))), none] [] E A1 K) ∧ (x4 < ((x6 + 257) - v3) → jrI 143 0 [some (.ref 49), some (.int (jI x1)), some (.int (jI (x5 + 1)))] [] E A1 (fun v8 A6 => K v8 A6)))))) ∧ (v3 < (128 : Int) → jW ((x6 + v3) + 1) ∧ ((((x6 + v3) + 1) ≤ x4 → jrI 192 146 [some (.ref 49), some (.int (jI x1)), none, none, some (.int (jI x4)), some (.int (jI (x5 + (v3 + 2)))), some (.int (jI (x6 + (v3 + 1)))), none] [] E A1 K) ∧ (x4 < ((x6 + v3) + 1) → jrI 143 0 [some (.ref 49), some (.int (jI x1)), some (.int (jI (((x5 + 1) + x4) - x6)))] [] E A1 (fun v13 A11 => K v13 A11))))))) : jrI 192 28 [some (.ref 49), some (.int (jI x1)), none, none, some (.int (jI x4)), some (.int (jI x5)), some (.int (jI x6)), none] [] E A K := by
  intro hA
  refine zw_go (pc1 := 29) (L1 := [some (.ref 49), some (.int (jI x1)), none, none, some (.int (jI x4)), some (.int (jI x5)), some (.int (jI x6)), none]) (st1 := [.ref 49]) (σ1 := js E A) zM_X7_opened dX7_opened_28 rfl rfl rfl rfl ?_
  refine zw_go (pc1 := 30) (L1 := [some (.ref 49), some (.int (jI x1)), none, none, some (.int (jI x4)), some (.int (jI x5)), some (.int (jI x6)), none]) (st1 := [.int (jI x1), .ref 49]) (σ1 := js E A) zM_X7_opened dX7_opened_29 rfl rfl rfl rfl ?_
  refine zw_go (pc1 := 32) (L1 := [some (.ref 49), some (.int (jI x1)), none, none, some (.int (jI x4)), some (.int (jI x5)), some (.int (jI x6)), none]) (st1 := [.int (jI x5), .int (jI x1), .ref 49]) (σ1 := js E A) zM_X7_opened dX7_opened_30 rfl rfl rfl rfl ?_
  refine jw_callI (as := [.ref 49, .int (jI x1), .int (jI x5)]) (rest := []) zM_X7_opened dX7_opened_32 (zx_calV zC_7_198) zM_X7_byteAt rfl rfl rfl rfl rfl (j_args0 rfl rfl) rfl hA h (fun v3 A1 rv4 hA2 h => ?_)
  refine zw_go (pc1 := 37) (L1 := [some (.ref 49), some (.int (jI x1)), none, none, some (.int (jI x4)), some (.int (jI x5)), some (.int (jI x6)), some (.int (jI v3))]) (st1 := []) (σ1 := js E A1) zM_X7_opened dX7_opened_35 rfl rfl rfl rfl ?_
  refine zw_go (pc1 := 39) (L1 := [some (.ref 49), some (.int (jI x1)), none, none, some (.int (jI x4)), some (.int (jI x5)), some (.int (jI x6)), some (.int (jI v3))]) (st1 := [.int (jI v3)]) (σ1 := js E A1) zM_X7_opened dX7_opened_37 rfl rfl rfl rfl ?_
  refine jw_sipush (v := 128) zM_X7_opened dX7_opened_39 (by decide) ?_
  refine jw_icmp_ge (tgt := 94) zM_X7_opened dX7_opened_42 rfl rv4 (show jW 128 from ⟨by decide, by decide⟩) (fun q => ?_) (fun q => ?_)
  · replace h := h.1 q
    refine zw_go (pc1 := 96) (L1 := [some (.ref 49), some (.int (jI x1)), none, none, some (.int (jI x4)), some (.int (jI x5)), some (.int (jI x6)), some (.int (jI v3))]) (st1 := [.int (jI v3)]) (σ1 := js E A1) zM_X7_opened dX7_opened_94 rfl rfl rfl rfl ?_
    refine jw_sipush (v := 128) zM_X7_opened dX7_opened_96 (by decide) ?_
    refine jw_icmp_le (tgt := 143) zM_X7_opened dX7_opened_99 rfl rv4 (show jW 128 from ⟨by decide, by decide⟩) (fun q => ?_) (fun q => ?_)
    · replace h := h.1 q
      refine jw_iinc (x := x5) (L1 := [some (.ref 49), some (.int (jI x1)), none, none, some (.int (jI x4)), some (.int (jI (x5 + 1))), some (.int (jI x6)), some (.int (jI v3))]) zM_X7_opened dX7_opened_143 rfl (show 5 < 8 by decide) rfl ?_
      exact zw_weak2 (h hA2) ⟨rfl, rfl, rfl, rfl, rfl, trivial⟩
    · replace h := h.2 q
      refine zw_go (pc1 := 104) (L1 := [some (.ref 49), some (.int (jI x1)), none, none, some (.int (jI x4)), some (.int (jI x5)), some (.int (jI x6)), some (.int (jI v3))]) (st1 := [.int (jI x4)]) (σ1 := js E A1) zM_X7_opened dX7_opened_102 rfl rfl rfl rfl ?_
      refine zw_go (pc1 := 106) (L1 := [some (.ref 49), some (.int (jI x1)), none, none, some (.int (jI x4)), some (.int (jI x5)), some (.int (jI x6)), some (.int (jI v3))]) (st1 := [.int (jI x6), .int (jI x4)]) (σ1 := js E A1) zM_X7_opened dX7_opened_104 rfl rfl rfl rfl ?_
      refine jw_sipush (v := 257) zM_X7_opened dX7_opened_106 (by decide) ?_
      refine jw_add zM_X7_opened dX7_opened_109 ?_
      refine zw_go (pc1 := 112) (L1 := [some (.ref 49), some (.int (jI x1)), none, none, some (.int (jI x4)), some (.int (jI x5)), some (.int (jI x6)), some (.int (jI v3))]) (st1 := [.int (jI v3), .int (jI (x6 + 257)), .int (jI x4)]) (σ1 := js E A1) zM_X7_opened dX7_opened_110 rfl rfl rfl rfl ?_
      refine jw_sub zM_X7_opened dX7_opened_112 ?_
      obtain ⟨hw5, h⟩ := h
      refine jw_icmp_ge (tgt := 126) zM_X7_opened dX7_opened_113 rfl r_x4 hw5 (fun q => ?_) (fun q => ?_)
      · replace h := h.1 q
        refine zw_go (pc1 := 128) (L1 := [some (.ref 49), some (.int (jI x1)), none, none, some (.int (jI x4)), some (.int (jI x5)), some (.int (jI x6)), some (.int (jI v3))]) (st1 := [.int (jI x6)]) (σ1 := js E A1) zM_X7_opened dX7_opened_126 rfl rfl rfl rfl ?_
        refine jw_sipush (v := 257) zM_X7_opened dX7_opened_128 (by decide) ?_
        refine zw_go (pc1 := 133) (L1 := [some (.ref 49), some (.int (jI x1)), none, none, some (.int (jI x4)), some (.int (jI x5)), some (.int (jI x6)), some (.int (jI v3))]) (st1 := [.int (jI v3), .int (jI 257), .int (jI x6)]) (σ1 := js E A1) zM_X7_opened dX7_opened_131 rfl rfl rfl rfl ?_
        refine jw_sub zM_X7_opened dX7_opened_133 ?_
        refine jw_add zM_X7_opened dX7_opened_134 ?_
        refine zw_go (pc1 := 137) (L1 := [some (.ref 49), some (.int (jI x1)), none, none, some (.int (jI x4)), some (.int (jI x5)), some (.int (jI (x6 + (257 - v3)))), some (.int (jI v3))]) (st1 := []) (σ1 := js E A1) zM_X7_opened dX7_opened_135 rfl rfl rfl rfl ?_
        refine jw_iinc (x := x5) (L1 := [some (.ref 49), some (.int (jI x1)), none, none, some (.int (jI x4)), some (.int (jI (x5 + 2))), some (.int (jI (x6 + (257 - v3)))), some (.int (jI v3))]) zM_X7_opened dX7_opened_137 rfl (show 5 < 8 by decide) rfl ?_
        refine zw_goto (tgt := 146) zM_X7_opened dX7_opened_140 rfl ?_
        exact zw_weak2 (h hA2) ⟨rfl, rfl, rfl, rfl, rfl, trivial⟩
      · replace h := h.2 q
        refine zw_go (pc1 := 117) (L1 := [some (.ref 49), some (.int (jI x1)), none, none, some (.int (jI x4)), some (.int (jI x5)), some (.int (jI x6)), some (.int (jI v3))]) (st1 := [.ref 49]) (σ1 := js E A1) zM_X7_opened dX7_opened_116 rfl rfl rfl rfl ?_
        refine zw_go (pc1 := 118) (L1 := [some (.ref 49), some (.int (jI x1)), none, none, some (.int (jI x4)), some (.int (jI x5)), some (.int (jI x6)), some (.int (jI v3))]) (st1 := [.int (jI x1), .ref 49]) (σ1 := js E A1) zM_X7_opened dX7_opened_117 rfl rfl rfl rfl ?_
        refine zw_go (pc1 := 120) (L1 := [some (.ref 49), some (.int (jI x1)), none, none, some (.int (jI x4)), some (.int (jI x5)), some (.int (jI x6)), some (.int (jI v3))]) (st1 := [.int (jI x5), .int (jI x1), .ref 49]) (σ1 := js E A1) zM_X7_opened dX7_opened_118 rfl rfl rfl rfl ?_
        refine jw_iconst (v := 1) zM_X7_opened dX7_opened_120 rfl ?_
        refine jw_add zM_X7_opened dX7_opened_121 ?_
        refine jw_callI (as := [.ref 49, .int (jI x1), .int (jI (x5 + 1))]) (rest := []) zM_X7_opened dX7_opened_122 (zx_calV zC_7_198) zM_X7_byteAt rfl rfl rfl rfl rfl (j_args0 rfl rfl) rfl hA2 h (fun v8 A6 rv9 hA7 h => ?_)
        exact jw_reti zM_X7_opened dX7_opened_125 rfl rv9 hA7 h
  · replace h := h.2 q
    refine zw_go (pc1 := 47) (L1 := [some (.ref 49), some (.int (jI x1)), none, none, some (.int (jI x4)), some (.int (jI x5)), some (.int (jI x6)), some (.int (jI v3))]) (st1 := [.int (jI x4)]) (σ1 := js E A1) zM_X7_opened dX7_opened_45 rfl rfl rfl rfl ?_
    refine zw_go (pc1 := 49) (L1 := [some (.ref 49), some (.int (jI x1)), none, none, some (.int (jI x4)), some (.int (jI x5)), some (.int (jI x6)), some (.int (jI v3))]) (st1 := [.int (jI x6), .int (jI x4)]) (σ1 := js E A1) zM_X7_opened dX7_opened_47 rfl rfl rfl rfl ?_
    refine zw_go (pc1 := 51) (L1 := [some (.ref 49), some (.int (jI x1)), none, none, some (.int (jI x4)), some (.int (jI x5)), some (.int (jI x6)), some (.int (jI v3))]) (st1 := [.int (jI v3), .int (jI x6), .int (jI x4)]) (σ1 := js E A1) zM_X7_opened dX7_opened_49 rfl rfl rfl rfl ?_
    refine jw_add zM_X7_opened dX7_opened_51 ?_
    refine jw_iconst (v := 1) zM_X7_opened dX7_opened_52 rfl ?_
    refine jw_add zM_X7_opened dX7_opened_53 ?_
    obtain ⟨hw10, h⟩ := h
    refine jw_icmp_ge (tgt := 73) zM_X7_opened dX7_opened_54 rfl r_x4 hw10 (fun q => ?_) (fun q => ?_)
    · replace h := h.1 q
      refine zw_go (pc1 := 75) (L1 := [some (.ref 49), some (.int (jI x1)), none, none, some (.int (jI x4)), some (.int (jI x5)), some (.int (jI x6)), some (.int (jI v3))]) (st1 := [.int (jI x6)]) (σ1 := js E A1) zM_X7_opened dX7_opened_73 rfl rfl rfl rfl ?_
      refine zw_go (pc1 := 77) (L1 := [some (.ref 49), some (.int (jI x1)), none, none, some (.int (jI x4)), some (.int (jI x5)), some (.int (jI x6)), some (.int (jI v3))]) (st1 := [.int (jI v3), .int (jI x6)]) (σ1 := js E A1) zM_X7_opened dX7_opened_75 rfl rfl rfl rfl ?_
      refine jw_iconst (v := 1) zM_X7_opened dX7_opened_77 rfl ?_
      refine jw_add zM_X7_opened dX7_opened_78 ?_
      refine jw_add zM_X7_opened dX7_opened_79 ?_
      refine zw_go (pc1 := 82) (L1 := [some (.ref 49), some (.int (jI x1)), none, none, some (.int (jI x4)), some (.int (jI x5)), some (.int (jI (x6 + (v3 + 1)))), some (.int (jI v3))]) (st1 := []) (σ1 := js E A1) zM_X7_opened dX7_opened_80 rfl rfl rfl rfl ?_
      refine zw_go (pc1 := 84) (L1 := [some (.ref 49), some (.int (jI x1)), none, none, some (.int (jI x4)), some (.int (jI x5)), some (.int (jI (x6 + (v3 + 1)))), some (.int (jI v3))]) (st1 := [.int (jI x5)]) (σ1 := js E A1) zM_X7_opened dX7_opened_82 rfl rfl rfl rfl ?_
      refine zw_go (pc1 := 86) (L1 := [some (.ref 49), some (.int (jI x1)), none, none, some (.int (jI x4)), some (.int (jI x5)), some (.int (jI (x6 + (v3 + 1)))), some (.int (jI v3))]) (st1 := [.int (jI v3), .int (jI x5)]) (σ1 := js E A1) zM_X7_opened dX7_opened_84 rfl rfl rfl rfl ?_
      refine jw_iconst (v := 2) zM_X7_opened dX7_opened_86 rfl ?_
      refine jw_add zM_X7_opened dX7_opened_87 ?_
      refine jw_add zM_X7_opened dX7_opened_88 ?_
      refine zw_go (pc1 := 91) (L1 := [some (.ref 49), some (.int (jI x1)), none, none, some (.int (jI x4)), some (.int (jI (x5 + (v3 + 2)))), some (.int (jI (x6 + (v3 + 1)))), some (.int (jI v3))]) (st1 := []) (σ1 := js E A1) zM_X7_opened dX7_opened_89 rfl rfl rfl rfl ?_
      refine zw_goto (tgt := 146) zM_X7_opened dX7_opened_91 rfl ?_
      exact zw_weak2 (h hA2) ⟨rfl, rfl, rfl, rfl, rfl, trivial⟩
    · replace h := h.2 q
      refine zw_go (pc1 := 58) (L1 := [some (.ref 49), some (.int (jI x1)), none, none, some (.int (jI x4)), some (.int (jI x5)), some (.int (jI x6)), some (.int (jI v3))]) (st1 := [.ref 49]) (σ1 := js E A1) zM_X7_opened dX7_opened_57 rfl rfl rfl rfl ?_
      refine zw_go (pc1 := 59) (L1 := [some (.ref 49), some (.int (jI x1)), none, none, some (.int (jI x4)), some (.int (jI x5)), some (.int (jI x6)), some (.int (jI v3))]) (st1 := [.int (jI x1), .ref 49]) (σ1 := js E A1) zM_X7_opened dX7_opened_58 rfl rfl rfl rfl ?_
      refine zw_go (pc1 := 61) (L1 := [some (.ref 49), some (.int (jI x1)), none, none, some (.int (jI x4)), some (.int (jI x5)), some (.int (jI x6)), some (.int (jI v3))]) (st1 := [.int (jI x5), .int (jI x1), .ref 49]) (σ1 := js E A1) zM_X7_opened dX7_opened_59 rfl rfl rfl rfl ?_
      refine jw_iconst (v := 1) zM_X7_opened dX7_opened_61 rfl ?_
      refine jw_add zM_X7_opened dX7_opened_62 ?_
      refine zw_go (pc1 := 65) (L1 := [some (.ref 49), some (.int (jI x1)), none, none, some (.int (jI x4)), some (.int (jI x5)), some (.int (jI x6)), some (.int (jI v3))]) (st1 := [.int (jI x4), .int (jI (x5 + 1)), .int (jI x1), .ref 49]) (σ1 := js E A1) zM_X7_opened dX7_opened_63 rfl rfl rfl rfl ?_
      refine jw_add zM_X7_opened dX7_opened_65 ?_
      refine zw_go (pc1 := 68) (L1 := [some (.ref 49), some (.int (jI x1)), none, none, some (.int (jI x4)), some (.int (jI x5)), some (.int (jI x6)), some (.int (jI v3))]) (st1 := [.int (jI x6), .int (jI ((x5 + 1) + x4)), .int (jI x1), .ref 49]) (σ1 := js E A1) zM_X7_opened dX7_opened_66 rfl rfl rfl rfl ?_
      refine jw_sub zM_X7_opened dX7_opened_68 ?_
      refine jw_callI (as := [.ref 49, .int (jI x1), .int (jI (((x5 + 1) + x4) - x6))]) (rest := []) zM_X7_opened dX7_opened_69 (zx_calV zC_7_198) zM_X7_byteAt rfl rfl rfl rfl rfl (j_args0 rfl rfl) rfl hA2 h (fun v13 A11 rv14 hA12 h => ?_)
      exact jw_reti zM_X7_opened dX7_opened_72 rfl rv14 hA12 h
set_option maxHeartbeats 4000000 in
set_option maxRecDepth 100000 in
theorem vd_X7_opened_146 (x1 : Int) (r_x1 : jW x1) (x4 : Int) (r_x4 : jW x4) (x5 : Int) (r_x5 : jW x5) (x6 : Int) (r_x6 : jW x6) (E : jE) (A : jA) (K : Int → jA → Prop) (h : jrI 192 28 [some (.ref 49), some (.int (jI x1)), none, none, some (.int (jI x4)), some (.int (jI x5)), some (.int (jI x6)), none] [] E A K) : jrI 192 146 [some (.ref 49), some (.int (jI x1)), none, none, some (.int (jI x4)), some (.int (jI x5)), some (.int (jI x6)), none] [] E A K := by
  intro hA
  refine zw_goto (tgt := 28) zM_X7_opened dX7_opened_146 rfl ?_
  exact zw_weak2 (h hA) ⟨rfl, rfl, rfl, rfl, rfl, trivial⟩
set_option maxHeartbeats 4000000 in
set_option maxRecDepth 100000 in
theorem vd_X7_out_0 (x1 : Int) (r_x1 : jW x1) (x2 : Int) (r_x2 : jW x2) (E : jE) (A : jA) (K : Int → jA → Prop) (h : ∀ A1 : jA, A1 = jup A 49 0 0 → jrI 165 0 [some (.ref 49), some (.int (jI x1))] [] E A1 (fun v6 A4 => ((¬ v6 = (0 : Int) → (0 ≤ x1 ∧ x1 < 3) ∧ jrI 160 0 [some (.int (jI x2)), some (.int (jI 0)), some (.int (jI ((A4 59 x1) - 1)))] [] E A4 (fun v11 A9 => ((¬ v11 = (0 : Int) → jrI 143 0 [some (.ref 49), some (.int (jI x1)), some (.int (jI x2))] [] E A9 (fun v15 A13 => K v15 A13)) ∧ (v11 = (0 : Int) → ∀ A17 : jA, A17 = jup A9 49 0 1 → K 0 A17)))) ∧ (v6 = (0 : Int) → K (-1) A4)))) : jrI 193 0 [some (.ref 49), some (.int (jI x1)), some (.int (jI x2))] [] E A K := by
  intro hA
  refine zw_go (pc1 := 1) (L1 := [some (.ref 49), some (.int (jI x1)), some (.int (jI x2))]) (st1 := [.ref 49]) (σ1 := js E A) zM_X7_out dX7_out_0 rfl rfl rfl rfl ?_
  refine jw_iconst (v := 0) zM_X7_out dX7_out_1 rfl ?_
  obtain ⟨A1, e2⟩ : ∃ z9 : jA, z9 = jup A 49 0 0 := ⟨_, rfl⟩
  replace h := h A1 e2
  have hA3 : jOK A1 := jOK.up hA (show jW 0 from ⟨by decide, by decide⟩) e2
  refine jw_putI zM_X7_out dX7_out_2 zF_7_98 rfl rfl rfl rfl e2 ?_
  refine zw_go (pc1 := 6) (L1 := [some (.ref 49), some (.int (jI x1)), some (.int (jI x2))]) (st1 := [.ref 49]) (σ1 := js E A1) zM_X7_out dX7_out_5 rfl rfl rfl rfl ?_
  refine zw_go (pc1 := 7) (L1 := [some (.ref 49), some (.int (jI x1)), some (.int (jI x2))]) (st1 := [.int (jI x1), .ref 49]) (σ1 := js E A1) zM_X7_out dX7_out_6 rfl rfl rfl rfl ?_
  refine jw_callI (as := [.ref 49, .int (jI x1)]) (rest := []) zM_X7_out dX7_out_7 (zx_calV zC_7_263) zM_X7_isImage rfl rfl rfl rfl rfl (j_args0 rfl rfl) rfl hA3 h (fun v6 A4 rv7 hA5 h => ?_)
  refine jw_if_ne (tgt := 15) zM_X7_out dX7_out_10 rfl rv7 (fun q => ?_) (fun q => ?_)
  · replace h := h.1 q
    refine zw_go (pc1 := 16) (L1 := [some (.ref 49), some (.int (jI x1)), some (.int (jI x2))]) (st1 := [.int (jI x2)]) (σ1 := js E A4) zM_X7_out dX7_out_15 rfl rfl rfl rfl ?_
    refine jw_iconst (v := 0) zM_X7_out dX7_out_16 rfl ?_
    refine zw_go (pc1 := 18) (L1 := [some (.ref 49), some (.int (jI x1)), some (.int (jI x2))]) (st1 := [.ref 49, .int (jI 0), .int (jI x2)]) (σ1 := js E A4) zM_X7_out dX7_out_17 rfl rfl rfl rfl ?_
    refine jw_getR (a := 59) zM_X7_out dX7_out_18 zF_7_37 rfl rfl rfl ?_
    refine zw_go (pc1 := 22) (L1 := [some (.ref 49), some (.int (jI x1)), some (.int (jI x2))]) (st1 := [.int (jI x1), .ref 59, .int (jI 0), .int (jI x2)]) (σ1 := js E A4) zM_X7_out dX7_out_21 rfl rfl rfl rfl ?_
    obtain ⟨hi8, h⟩ := h
    refine jw_iald zM_X7_out dX7_out_22 rfl rfl hi8 ?_
    refine jw_iconst (v := 1) zM_X7_out dX7_out_23 rfl ?_
    refine jw_sub zM_X7_out dX7_out_24 ?_
    refine jw_callI (as := [.int (jI x2), .int (jI 0), .int (jI ((A4 59 x1) - 1))]) (rest := []) zM_X7_out dX7_out_25 (zx_calS zC_7_101) zM_X7_in rfl rfl rfl rfl rfl rfl rfl hA5 h (fun v11 A9 rv12 hA10 h => ?_)
    refine jw_if_ne (tgt := 38) zM_X7_out dX7_out_28 rfl rv12 (fun q => ?_) (fun q => ?_)
    · replace h := h.1 q
      refine zw_go (pc1 := 39) (L1 := [some (.ref 49), some (.int (jI x1)), some (.int (jI x2))]) (st1 := [.ref 49]) (σ1 := js E A9) zM_X7_out dX7_out_38 rfl rfl rfl rfl ?_
      refine zw_go (pc1 := 40) (L1 := [some (.ref 49), some (.int (jI x1)), some (.int (jI x2))]) (st1 := [.int (jI x1), .ref 49]) (σ1 := js E A9) zM_X7_out dX7_out_39 rfl rfl rfl rfl ?_
      refine zw_go (pc1 := 41) (L1 := [some (.ref 49), some (.int (jI x1)), some (.int (jI x2))]) (st1 := [.int (jI x2), .int (jI x1), .ref 49]) (σ1 := js E A9) zM_X7_out dX7_out_40 rfl rfl rfl rfl ?_
      refine jw_callI (as := [.ref 49, .int (jI x1), .int (jI x2)]) (rest := []) zM_X7_out dX7_out_41 (zx_calV zC_7_198) zM_X7_byteAt rfl rfl rfl rfl rfl (j_args0 rfl rfl) rfl hA10 h (fun v15 A13 rv16 hA14 h => ?_)
      exact jw_reti zM_X7_out dX7_out_44 rfl rv16 hA14 h
    · replace h := h.2 q
      refine zw_go (pc1 := 32) (L1 := [some (.ref 49), some (.int (jI x1)), some (.int (jI x2))]) (st1 := [.ref 49]) (σ1 := js E A9) zM_X7_out dX7_out_31 rfl rfl rfl rfl ?_
      refine jw_iconst (v := 1) zM_X7_out dX7_out_32 rfl ?_
      obtain ⟨A17, e18⟩ : ∃ z9 : jA, z9 = jup A9 49 0 1 := ⟨_, rfl⟩
      replace h := h A17 e18
      have hA19 : jOK A17 := jOK.up hA10 (show jW 1 from ⟨by decide, by decide⟩) e18
      refine jw_putI zM_X7_out dX7_out_33 zF_7_98 rfl rfl rfl rfl e18 ?_
      refine jw_iconst (v := 0) zM_X7_out dX7_out_36 rfl ?_
      exact jw_reti zM_X7_out dX7_out_37 rfl (show jW 0 from ⟨by decide, by decide⟩) hA19 h
  · replace h := h.2 q
    refine jw_iconst (v := (-1)) zM_X7_out dX7_out_13 rfl ?_
    exact jw_reti zM_X7_out dX7_out_14 rfl (show jW (-1) from ⟨by decide, by decide⟩) hA5 h
set_option maxHeartbeats 4000000 in
set_option maxRecDepth 100000 in
theorem vd_X7_over_0 (x1 : Int) (r_x1 : jW x1) (E : jE) (A : jA) (K : Int → jA → Prop) (h : ∀ A1 : jA, A1 = jup A 49 0 0 → jrI 165 0 [some (.ref 49), some (.int (jI x1))] [] E A1 (fun v6 A4 => ((¬ v6 = (0 : Int) → jrI 166 0 [some (.ref 49), some (.int (jI x1)), none, none] [] E A4 (fun v10 A8 => ((v10 = (0 : Int) → (0 ≤ (A8 49 35) ∧ (A8 49 35) < 3) ∧ ∀ A13 : jA, A13 = jup A8 74 (A8 49 35) x1 → jW ((A13 49 35) + 1) ∧ ∀ A17 : jA, A17 = jup A13 49 35 ((A13 49 35) + 1) → jrV 154 0 [some (.ref 49), none] [] E A17 (fun A20 => K (A20 49 35) A20)) ∧ (¬ v10 = (0 : Int) → K (-3) A8)))) ∧ (v6 = (0 : Int) → K (-1) A4)))) : jrI 194 0 [some (.ref 49), some (.int (jI x1))] [] E A K := by
  intro hA
  refine zw_go (pc1 := 1) (L1 := [some (.ref 49), some (.int (jI x1))]) (st1 := [.ref 49]) (σ1 := js E A) zM_X7_over dX7_over_0 rfl rfl rfl rfl ?_
  refine jw_iconst (v := 0) zM_X7_over dX7_over_1 rfl ?_
  obtain ⟨A1, e2⟩ : ∃ z9 : jA, z9 = jup A 49 0 0 := ⟨_, rfl⟩
  replace h := h A1 e2
  have hA3 : jOK A1 := jOK.up hA (show jW 0 from ⟨by decide, by decide⟩) e2
  refine jw_putI zM_X7_over dX7_over_2 zF_7_98 rfl rfl rfl rfl e2 ?_
  refine zw_go (pc1 := 6) (L1 := [some (.ref 49), some (.int (jI x1))]) (st1 := [.ref 49]) (σ1 := js E A1) zM_X7_over dX7_over_5 rfl rfl rfl rfl ?_
  refine zw_go (pc1 := 7) (L1 := [some (.ref 49), some (.int (jI x1))]) (st1 := [.int (jI x1), .ref 49]) (σ1 := js E A1) zM_X7_over dX7_over_6 rfl rfl rfl rfl ?_
  refine jw_callI (as := [.ref 49, .int (jI x1)]) (rest := []) zM_X7_over dX7_over_7 (zx_calV zC_7_263) zM_X7_isImage rfl rfl rfl rfl rfl (j_args0 rfl rfl) rfl hA3 h (fun v6 A4 rv7 hA5 h => ?_)
  refine jw_if_ne (tgt := 15) zM_X7_over dX7_over_10 rfl rv7 (fun q => ?_) (fun q => ?_)
  · replace h := h.1 q
    refine zw_go (pc1 := 16) (L1 := [some (.ref 49), some (.int (jI x1))]) (st1 := [.ref 49]) (σ1 := js E A4) zM_X7_over dX7_over_15 rfl rfl rfl rfl ?_
    refine zw_go (pc1 := 17) (L1 := [some (.ref 49), some (.int (jI x1))]) (st1 := [.int (jI x1), .ref 49]) (σ1 := js E A4) zM_X7_over dX7_over_16 rfl rfl rfl rfl ?_
    refine jw_callI (as := [.ref 49, .int (jI x1)]) (rest := []) zM_X7_over dX7_over_17 (zx_calV zC_7_260) zM_X7_isLaid rfl rfl rfl rfl rfl (j_args0 rfl rfl) rfl hA5 h (fun v10 A8 rv11 hA9 h => ?_)
    refine jw_if_eq (tgt := 26) zM_X7_over dX7_over_20 rfl rv11 (fun q => ?_) (fun q => ?_)
    · replace h := h.1 q
      refine zw_go (pc1 := 27) (L1 := [some (.ref 49), some (.int (jI x1))]) (st1 := [.ref 49]) (σ1 := js E A8) zM_X7_over dX7_over_26 rfl rfl rfl rfl ?_
      refine jw_getR (a := 74) zM_X7_over dX7_over_27 zF_7_82 rfl rfl rfl ?_
      refine zw_go (pc1 := 31) (L1 := [some (.ref 49), some (.int (jI x1))]) (st1 := [.ref 49, .ref 74]) (σ1 := js E A8) zM_X7_over dX7_over_30 rfl rfl rfl rfl ?_
      refine jw_getI zM_X7_over dX7_over_31 zF_7_257 rfl rfl rfl ?_
      refine zw_go (pc1 := 35) (L1 := [some (.ref 49), some (.int (jI x1))]) (st1 := [.int (jI x1), .int (jI (A8 49 35)), .ref 74]) (σ1 := js E A8) zM_X7_over dX7_over_34 rfl rfl rfl rfl ?_
      obtain ⟨hi12, h⟩ := h
      obtain ⟨A13, e14⟩ : ∃ z9 : jA, z9 = jup A8 74 (A8 49 35) x1 := ⟨_, rfl⟩
      replace h := h A13 e14
      have hA15 : jOK A13 := jOK.up hA9 r_x1 e14
      refine jw_iast zM_X7_over dX7_over_35 rfl rfl hi12 e14 ?_
      refine zw_go (pc1 := 37) (L1 := [some (.ref 49), some (.int (jI x1))]) (st1 := [.ref 49]) (σ1 := js E A13) zM_X7_over dX7_over_36 rfl rfl rfl rfl ?_
      refine zw_go (pc1 := 38) (L1 := [some (.ref 49), some (.int (jI x1))]) (st1 := [.ref 49, .ref 49]) (σ1 := js E A13) zM_X7_over dX7_over_37 rfl rfl rfl rfl ?_
      refine jw_getI zM_X7_over dX7_over_38 zF_7_257 rfl rfl rfl ?_
      refine jw_iconst (v := 1) zM_X7_over dX7_over_41 rfl ?_
      refine jw_add zM_X7_over dX7_over_42 ?_
      obtain ⟨hw16, h⟩ := h
      obtain ⟨A17, e18⟩ : ∃ z9 : jA, z9 = jup A13 49 35 ((A13 49 35) + 1) := ⟨_, rfl⟩
      replace h := h A17 e18
      have hA19 : jOK A17 := jOK.up hA15 hw16 e18
      refine jw_putI zM_X7_over dX7_over_43 zF_7_257 rfl rfl rfl rfl e18 ?_
      refine zw_go (pc1 := 47) (L1 := [some (.ref 49), some (.int (jI x1))]) (st1 := [.ref 49]) (σ1 := js E A17) zM_X7_over dX7_over_46 rfl rfl rfl rfl ?_
      refine jw_callV (as := [.ref 49]) (rest := []) zM_X7_over dX7_over_47 (zx_calV zC_7_272) zM_X7_first rfl rfl rfl rfl rfl (j_args0 rfl rfl) rfl hA19 h (fun A20 hA21 h => ?_)
      refine zw_go (pc1 := 51) (L1 := [some (.ref 49), some (.int (jI x1))]) (st1 := [.ref 49]) (σ1 := js E A20) zM_X7_over dX7_over_50 rfl rfl rfl rfl ?_
      refine jw_getI zM_X7_over dX7_over_51 zF_7_257 rfl rfl rfl ?_
      exact jw_reti zM_X7_over dX7_over_54 rfl (hA21 49 35) hA21 h
    · replace h := h.2 q
      refine jw_bipush (v := (-3)) zM_X7_over dX7_over_23 (by decide) ?_
      exact jw_reti zM_X7_over dX7_over_25 rfl (show jW (-3) from ⟨by decide, by decide⟩) hA9 h
  · replace h := h.2 q
    refine jw_iconst (v := (-1)) zM_X7_over dX7_over_13 rfl ?_
    exact jw_reti zM_X7_over dX7_over_14 rfl (show jW (-1) from ⟨by decide, by decide⟩) hA5 h
set_option maxHeartbeats 4000000 in
set_option maxRecDepth 100000 in
theorem vd_X7_owner_0 (x1 : Int) (r_x1 : jW x1) (x2 : Int) (r_x2 : jW x2) (x3 : Int) (r_x3 : jW x3) (E : jE) (A : jA) (K : Int → jA → Prop) (h : ∀ A1 : jA, A1 = jup A 49 0 0 → jrI 167 0 [some (.ref 49), some (.int (jI x1))] [] E A1 (fun v6 A4 => ((¬ v6 = (0 : Int) → jrI 160 0 [some (.int (jI x2)), some (.int (jI 0)), some (.int (jI 65535))] [] E A4 (fun v10 A8 => ((v10 = (0 : Int) → K (-2) A8) ∧ (¬ v10 = (0 : Int) → jrI 160 0 [some (.int (jI x3)), some (.int (jI 0)), some (.int (jI 65535))] [] E A8 (fun v14 A12 => ((¬ v14 = (0 : Int) → (0 ≤ x1 ∧ x1 < 32) ∧ ∀ A17 : jA, A17 = jup A12 52 x1 x2 → (0 ≤ x1 ∧ x1 < 32) ∧ ∀ A21 : jA, A21 = jup A17 51 x1 x3 → K 1 A21) ∧ (v14 = (0 : Int) → K (-2) A12))))))) ∧ (v6 = (0 : Int) → K (-1) A4)))) : jrI 195 0 [some (.ref 49), some (.int (jI x1)), some (.int (jI x2)), some (.int (jI x3))] [] E A K := by
  intro hA
  refine zw_go (pc1 := 1) (L1 := [some (.ref 49), some (.int (jI x1)), some (.int (jI x2)), some (.int (jI x3))]) (st1 := [.ref 49]) (σ1 := js E A) zM_X7_owner dX7_owner_0 rfl rfl rfl rfl ?_
  refine jw_iconst (v := 0) zM_X7_owner dX7_owner_1 rfl ?_
  obtain ⟨A1, e2⟩ : ∃ z9 : jA, z9 = jup A 49 0 0 := ⟨_, rfl⟩
  replace h := h A1 e2
  have hA3 : jOK A1 := jOK.up hA (show jW 0 from ⟨by decide, by decide⟩) e2
  refine jw_putI zM_X7_owner dX7_owner_2 zF_7_98 rfl rfl rfl rfl e2 ?_
  refine zw_go (pc1 := 6) (L1 := [some (.ref 49), some (.int (jI x1)), some (.int (jI x2)), some (.int (jI x3))]) (st1 := [.ref 49]) (σ1 := js E A1) zM_X7_owner dX7_owner_5 rfl rfl rfl rfl ?_
  refine zw_go (pc1 := 7) (L1 := [some (.ref 49), some (.int (jI x1)), some (.int (jI x2)), some (.int (jI x3))]) (st1 := [.int (jI x1), .ref 49]) (σ1 := js E A1) zM_X7_owner dX7_owner_6 rfl rfl rfl rfl ?_
  refine jw_callI (as := [.ref 49, .int (jI x1)]) (rest := []) zM_X7_owner dX7_owner_7 (zx_calV zC_7_108) zM_X7_isNode rfl rfl rfl rfl rfl (j_args0 rfl rfl) rfl hA3 h (fun v6 A4 rv7 hA5 h => ?_)
  refine jw_if_ne (tgt := 15) zM_X7_owner dX7_owner_10 rfl rv7 (fun q => ?_) (fun q => ?_)
  · replace h := h.1 q
    refine zw_go (pc1 := 16) (L1 := [some (.ref 49), some (.int (jI x1)), some (.int (jI x2)), some (.int (jI x3))]) (st1 := [.int (jI x2)]) (σ1 := js E A4) zM_X7_owner dX7_owner_15 rfl rfl rfl rfl ?_
    refine jw_iconst (v := 0) zM_X7_owner dX7_owner_16 rfl ?_
    refine jw_ldc (w := 65535) zM_X7_owner dX7_owner_17 zK_7_128 (by decide) ?_
    refine jw_callI (as := [.int (jI x2), .int (jI 0), .int (jI 65535)]) (rest := []) zM_X7_owner dX7_owner_19 (zx_calS zC_7_101) zM_X7_in rfl rfl rfl rfl rfl rfl rfl hA5 h (fun v10 A8 rv11 hA9 h => ?_)
    refine jw_if_eq (tgt := 35) zM_X7_owner dX7_owner_22 rfl rv11 (fun q => ?_) (fun q => ?_)
    · replace h := h.1 q
      refine jw_bipush (v := (-2)) zM_X7_owner dX7_owner_35 (by decide) ?_
      exact jw_reti zM_X7_owner dX7_owner_37 rfl (show jW (-2) from ⟨by decide, by decide⟩) hA9 h
    · replace h := h.2 q
      refine zw_go (pc1 := 26) (L1 := [some (.ref 49), some (.int (jI x1)), some (.int (jI x2)), some (.int (jI x3))]) (st1 := [.int (jI x3)]) (σ1 := js E A8) zM_X7_owner dX7_owner_25 rfl rfl rfl rfl ?_
      refine jw_iconst (v := 0) zM_X7_owner dX7_owner_26 rfl ?_
      refine jw_ldc (w := 65535) zM_X7_owner dX7_owner_27 zK_7_128 (by decide) ?_
      refine jw_callI (as := [.int (jI x3), .int (jI 0), .int (jI 65535)]) (rest := []) zM_X7_owner dX7_owner_29 (zx_calS zC_7_101) zM_X7_in rfl rfl rfl rfl rfl rfl rfl hA9 h (fun v14 A12 rv15 hA13 h => ?_)
      refine jw_if_ne (tgt := 38) zM_X7_owner dX7_owner_32 rfl rv15 (fun q => ?_) (fun q => ?_)
      · replace h := h.1 q
        refine zw_go (pc1 := 39) (L1 := [some (.ref 49), some (.int (jI x1)), some (.int (jI x2)), some (.int (jI x3))]) (st1 := [.ref 49]) (σ1 := js E A12) zM_X7_owner dX7_owner_38 rfl rfl rfl rfl ?_
        refine jw_getR (a := 52) zM_X7_owner dX7_owner_39 zF_7_16 rfl rfl rfl ?_
        refine zw_go (pc1 := 43) (L1 := [some (.ref 49), some (.int (jI x1)), some (.int (jI x2)), some (.int (jI x3))]) (st1 := [.int (jI x1), .ref 52]) (σ1 := js E A12) zM_X7_owner dX7_owner_42 rfl rfl rfl rfl ?_
        refine zw_go (pc1 := 44) (L1 := [some (.ref 49), some (.int (jI x1)), some (.int (jI x2)), some (.int (jI x3))]) (st1 := [.int (jI x2), .int (jI x1), .ref 52]) (σ1 := js E A12) zM_X7_owner dX7_owner_43 rfl rfl rfl rfl ?_
        obtain ⟨hi16, h⟩ := h
        obtain ⟨A17, e18⟩ : ∃ z9 : jA, z9 = jup A12 52 x1 x2 := ⟨_, rfl⟩
        replace h := h A17 e18
        have hA19 : jOK A17 := jOK.up hA13 r_x2 e18
        refine jw_iast zM_X7_owner dX7_owner_44 rfl rfl hi16 e18 ?_
        refine zw_go (pc1 := 46) (L1 := [some (.ref 49), some (.int (jI x1)), some (.int (jI x2)), some (.int (jI x3))]) (st1 := [.ref 49]) (σ1 := js E A17) zM_X7_owner dX7_owner_45 rfl rfl rfl rfl ?_
        refine jw_getR (a := 51) zM_X7_owner dX7_owner_46 zF_7_13 rfl rfl rfl ?_
        refine zw_go (pc1 := 50) (L1 := [some (.ref 49), some (.int (jI x1)), some (.int (jI x2)), some (.int (jI x3))]) (st1 := [.int (jI x1), .ref 51]) (σ1 := js E A17) zM_X7_owner dX7_owner_49 rfl rfl rfl rfl ?_
        refine zw_go (pc1 := 51) (L1 := [some (.ref 49), some (.int (jI x1)), some (.int (jI x2)), some (.int (jI x3))]) (st1 := [.int (jI x3), .int (jI x1), .ref 51]) (σ1 := js E A17) zM_X7_owner dX7_owner_50 rfl rfl rfl rfl ?_
        obtain ⟨hi20, h⟩ := h
        obtain ⟨A21, e22⟩ : ∃ z9 : jA, z9 = jup A17 51 x1 x3 := ⟨_, rfl⟩
        replace h := h A21 e22
        have hA23 : jOK A21 := jOK.up hA19 r_x3 e22
        refine jw_iast zM_X7_owner dX7_owner_51 rfl rfl hi20 e22 ?_
        refine jw_iconst (v := 1) zM_X7_owner dX7_owner_52 rfl ?_
        exact jw_reti zM_X7_owner dX7_owner_53 rfl (show jW 1 from ⟨by decide, by decide⟩) hA23 h
      · replace h := h.2 q
        refine jw_bipush (v := (-2)) zM_X7_owner dX7_owner_35 (by decide) ?_
        exact jw_reti zM_X7_owner dX7_owner_37 rfl (show jW (-2) from ⟨by decide, by decide⟩) hA13 h
  · replace h := h.2 q
    refine jw_iconst (v := (-1)) zM_X7_owner dX7_owner_13 rfl ?_
    exact jw_reti zM_X7_owner dX7_owner_14 rfl (show jW (-1) from ⟨by decide, by decide⟩) hA5 h
set_option maxHeartbeats 4000000 in
set_option maxRecDepth 100000 in
theorem vd_X7_pack_0 (x1 : Int) (r_x1 : jW x1) (E : jE) (A : jA) (K : jA → Prop) (h : ∀ A1 : jA, A1 = jup A 49 22 0 → jrV 196 7 [some (.ref 49), some (.int (jI x1)), some (.int (jI 0)), none, none, none] [] E A1 K) : jrV 196 0 [some (.ref 49), some (.int (jI x1)), none, none, none, none] [] E A K := by
  intro hA
  refine zw_go (pc1 := 1) (L1 := [some (.ref 49), some (.int (jI x1)), none, none, none, none]) (st1 := [.ref 49]) (σ1 := js E A) zM_X7_pack dX7_pack_0 rfl rfl rfl rfl ?_
  refine jw_iconst (v := 0) zM_X7_pack dX7_pack_1 rfl ?_
  obtain ⟨A1, e2⟩ : ∃ z9 : jA, z9 = jup A 49 22 0 := ⟨_, rfl⟩
  replace h := h A1 e2
  have hA3 : jOK A1 := jOK.up hA (show jW 0 from ⟨by decide, by decide⟩) e2
  refine jw_putI zM_X7_pack dX7_pack_2 zF_7_149 rfl rfl rfl rfl e2 ?_
  refine jw_iconst (v := 0) zM_X7_pack dX7_pack_5 rfl ?_
  refine zw_go (pc1 := 7) (L1 := [some (.ref 49), some (.int (jI x1)), some (.int (jI 0)), none, none, none]) (st1 := []) (σ1 := js E A1) zM_X7_pack dX7_pack_6 rfl rfl rfl rfl ?_
  exact zw_weak2 (h hA3) ⟨rfl, rfl, rfl, trivial⟩
set_option maxHeartbeats 4000000 in
set_option maxRecDepth 100000 in
theorem vd_X7_pack_7 (x1 : Int) (r_x1 : jW x1) (x2 : Int) (r_x2 : jW x2) (E : jE) (A : jA) (K : jA → Prop) (h : ((x1 ≤ x2 → K A) ∧ (x2 < x1 → jrI 137 0 [some (.ref 49), some (.int (jI x2)), some (.int (jI x1)), none] [] E A (fun v3 A1 => ((v3 < (3 : Int) → jrV 196 75 [some (.ref 49), some (.int (jI x1)), some (.int (jI x2)), none, some (.int (jI x2)), none] [] E A1 K) ∧ ((3 : Int) ≤ v3 → jW (257 - v3) ∧ (0 ≤ (A1 49 22) ∧ (A1 49 22) < 80) ∧ ∀ A7 : jA, A7 = jup A1 63 (A1 49 22) (257 - v3) → (0 ≤ x2 ∧ x2 < 32) ∧ (0 ≤ ((A7 49 22) + 1) ∧ ((A7 49 22) + 1) < 80) ∧ ∀ A12 : jA, A12 = jup A7 63 ((A7 49 22) + 1) (A7 62 x2) → jW ((A12 49 22) + 2) ∧ ∀ A16 : jA, A16 = jup A12 49 22 ((A12 49 22) + 2) → jrV 196 168 [some (.ref 49), some (.int (jI x1)), some (.int (jI (x2 + v3))), none, none, none] [] E A16 K)))))) : jrV 196 7 [some (.ref 49), some (.int (jI x1)), some (.int (jI x2)), none, none, none] [] E A K := by
  intro hA
  refine zw_go (pc1 := 8) (L1 := [some (.ref 49), some (.int (jI x1)), some (.int (jI x2)), none, none, none]) (st1 := [.int (jI x2)]) (σ1 := js E A) zM_X7_pack dX7_pack_7 rfl rfl rfl rfl ?_
  refine zw_go (pc1 := 9) (L1 := [some (.ref 49), some (.int (jI x1)), some (.int (jI x2)), none, none, none]) (st1 := [.int (jI x1), .int (jI x2)]) (σ1 := js E A) zM_X7_pack dX7_pack_8 rfl rfl rfl rfl ?_
  refine jw_icmp_ge (tgt := 171) zM_X7_pack dX7_pack_9 rfl r_x2 r_x1 (fun q => ?_) (fun q => ?_)
  · replace h := h.1 q
    exact jw_retv zM_X7_pack dX7_pack_171 rfl hA h
  · replace h := h.2 q
    refine zw_go (pc1 := 13) (L1 := [some (.ref 49), some (.int (jI x1)), some (.int (jI x2)), none, none, none]) (st1 := [.ref 49]) (σ1 := js E A) zM_X7_pack dX7_pack_12 rfl rfl rfl rfl ?_
    refine zw_go (pc1 := 14) (L1 := [some (.ref 49), some (.int (jI x1)), some (.int (jI x2)), none, none, none]) (st1 := [.int (jI x2), .ref 49]) (σ1 := js E A) zM_X7_pack dX7_pack_13 rfl rfl rfl rfl ?_
    refine zw_go (pc1 := 15) (L1 := [some (.ref 49), some (.int (jI x1)), some (.int (jI x2)), none, none, none]) (st1 := [.int (jI x1), .int (jI x2), .ref 49]) (σ1 := js E A) zM_X7_pack dX7_pack_14 rfl rfl rfl rfl ?_
    refine jw_callI (as := [.ref 49, .int (jI x2), .int (jI x1)]) (rest := []) zM_X7_pack dX7_pack_15 (zx_calV zC_7_152) zM_X7_alike rfl rfl rfl rfl rfl (j_args0 rfl rfl) rfl hA h (fun v3 A1 rv4 hA2 h => ?_)
    refine zw_go (pc1 := 19) (L1 := [some (.ref 49), some (.int (jI x1)), some (.int (jI x2)), some (.int (jI v3)), none, none]) (st1 := []) (σ1 := js E A1) zM_X7_pack dX7_pack_18 rfl rfl rfl rfl ?_
    refine zw_go (pc1 := 20) (L1 := [some (.ref 49), some (.int (jI x1)), some (.int (jI x2)), some (.int (jI v3)), none, none]) (st1 := [.int (jI v3)]) (σ1 := js E A1) zM_X7_pack dX7_pack_19 rfl rfl rfl rfl ?_
    refine jw_iconst (v := 3) zM_X7_pack dX7_pack_20 rfl ?_
    refine jw_icmp_lt (tgt := 72) zM_X7_pack dX7_pack_21 rfl rv4 (show jW 3 from ⟨by decide, by decide⟩) (fun q => ?_) (fun q => ?_)
    · replace h := h.1 q
      refine zw_go (pc1 := 73) (L1 := [some (.ref 49), some (.int (jI x1)), some (.int (jI x2)), some (.int (jI v3)), none, none]) (st1 := [.int (jI x2)]) (σ1 := js E A1) zM_X7_pack dX7_pack_72 rfl rfl rfl rfl ?_
      refine zw_go (pc1 := 75) (L1 := [some (.ref 49), some (.int (jI x1)), some (.int (jI x2)), some (.int (jI v3)), some (.int (jI x2)), none]) (st1 := []) (σ1 := js E A1) zM_X7_pack dX7_pack_73 rfl rfl rfl rfl ?_
      exact zw_weak2 (h hA2) ⟨rfl, rfl, rfl, rfl, trivial⟩
    · replace h := h.2 q
      refine zw_go (pc1 := 25) (L1 := [some (.ref 49), some (.int (jI x1)), some (.int (jI x2)), some (.int (jI v3)), none, none]) (st1 := [.ref 49]) (σ1 := js E A1) zM_X7_pack dX7_pack_24 rfl rfl rfl rfl ?_
      refine jw_getR (a := 63) zM_X7_pack dX7_pack_25 zF_7_49 rfl rfl rfl ?_
      refine zw_go (pc1 := 29) (L1 := [some (.ref 49), some (.int (jI x1)), some (.int (jI x2)), some (.int (jI v3)), none, none]) (st1 := [.ref 49, .ref 63]) (σ1 := js E A1) zM_X7_pack dX7_pack_28 rfl rfl rfl rfl ?_
      refine jw_getI zM_X7_pack dX7_pack_29 zF_7_149 rfl rfl rfl ?_
      refine jw_sipush (v := 257) zM_X7_pack dX7_pack_32 (by decide) ?_
      refine zw_go (pc1 := 36) (L1 := [some (.ref 49), some (.int (jI x1)), some (.int (jI x2)), some (.int (jI v3)), none, none]) (st1 := [.int (jI v3), .int (jI 257), .int (jI (A1 49 22)), .ref 63]) (σ1 := js E A1) zM_X7_pack dX7_pack_35 rfl rfl rfl rfl ?_
      refine jw_sub zM_X7_pack dX7_pack_36 ?_
      obtain ⟨hw5, h⟩ := h
      obtain ⟨hi6, h⟩ := h
      obtain ⟨A7, e8⟩ : ∃ z9 : jA, z9 = jup A1 63 (A1 49 22) (257 - v3) := ⟨_, rfl⟩
      replace h := h A7 e8
      have hA9 : jOK A7 := jOK.up hA2 hw5 e8
      refine jw_iast zM_X7_pack dX7_pack_37 rfl rfl hi6 e8 ?_
      refine zw_go (pc1 := 39) (L1 := [some (.ref 49), some (.int (jI x1)), some (.int (jI x2)), some (.int (jI v3)), none, none]) (st1 := [.ref 49]) (σ1 := js E A7) zM_X7_pack dX7_pack_38 rfl rfl rfl rfl ?_
      refine jw_getR (a := 63) zM_X7_pack dX7_pack_39 zF_7_49 rfl rfl rfl ?_
      refine zw_go (pc1 := 43) (L1 := [some (.ref 49), some (.int (jI x1)), some (.int (jI x2)), some (.int (jI v3)), none, none]) (st1 := [.ref 49, .ref 63]) (σ1 := js E A7) zM_X7_pack dX7_pack_42 rfl rfl rfl rfl ?_
      refine jw_getI zM_X7_pack dX7_pack_43 zF_7_149 rfl rfl rfl ?_
      refine jw_iconst (v := 1) zM_X7_pack dX7_pack_46 rfl ?_
      refine jw_add zM_X7_pack dX7_pack_47 ?_
      refine zw_go (pc1 := 49) (L1 := [some (.ref 49), some (.int (jI x1)), some (.int (jI x2)), some (.int (jI v3)), none, none]) (st1 := [.ref 49, .int (jI ((A7 49 22) + 1)), .ref 63]) (σ1 := js E A7) zM_X7_pack dX7_pack_48 rfl rfl rfl rfl ?_
      refine jw_getR (a := 62) zM_X7_pack dX7_pack_49 zF_7_46 rfl rfl rfl ?_
      refine zw_go (pc1 := 53) (L1 := [some (.ref 49), some (.int (jI x1)), some (.int (jI x2)), some (.int (jI v3)), none, none]) (st1 := [.int (jI x2), .ref 62, .int (jI ((A7 49 22) + 1)), .ref 63]) (σ1 := js E A7) zM_X7_pack dX7_pack_52 rfl rfl rfl rfl ?_
      obtain ⟨hi10, h⟩ := h
      refine jw_iald zM_X7_pack dX7_pack_53 rfl rfl hi10 ?_
      obtain ⟨hi11, h⟩ := h
      obtain ⟨A12, e13⟩ : ∃ z9 : jA, z9 = jup A7 63 ((A7 49 22) + 1) (A7 62 x2) := ⟨_, rfl⟩
      replace h := h A12 e13
      have hA14 : jOK A12 := jOK.up hA9 (hA9 62 x2) e13
      refine jw_iast zM_X7_pack dX7_pack_54 rfl rfl hi11 e13 ?_
      refine zw_go (pc1 := 56) (L1 := [some (.ref 49), some (.int (jI x1)), some (.int (jI x2)), some (.int (jI v3)), none, none]) (st1 := [.ref 49]) (σ1 := js E A12) zM_X7_pack dX7_pack_55 rfl rfl rfl rfl ?_
      refine zw_go (pc1 := 57) (L1 := [some (.ref 49), some (.int (jI x1)), some (.int (jI x2)), some (.int (jI v3)), none, none]) (st1 := [.ref 49, .ref 49]) (σ1 := js E A12) zM_X7_pack dX7_pack_56 rfl rfl rfl rfl ?_
      refine jw_getI zM_X7_pack dX7_pack_57 zF_7_149 rfl rfl rfl ?_
      refine jw_iconst (v := 2) zM_X7_pack dX7_pack_60 rfl ?_
      refine jw_add zM_X7_pack dX7_pack_61 ?_
      obtain ⟨hw15, h⟩ := h
      obtain ⟨A16, e17⟩ : ∃ z9 : jA, z9 = jup A12 49 22 ((A12 49 22) + 2) := ⟨_, rfl⟩
      replace h := h A16 e17
      have hA18 : jOK A16 := jOK.up hA14 hw15 e17
      refine jw_putI zM_X7_pack dX7_pack_62 zF_7_149 rfl rfl rfl rfl e17 ?_
      refine zw_go (pc1 := 66) (L1 := [some (.ref 49), some (.int (jI x1)), some (.int (jI x2)), some (.int (jI v3)), none, none]) (st1 := [.int (jI x2)]) (σ1 := js E A16) zM_X7_pack dX7_pack_65 rfl rfl rfl rfl ?_
      refine zw_go (pc1 := 67) (L1 := [some (.ref 49), some (.int (jI x1)), some (.int (jI x2)), some (.int (jI v3)), none, none]) (st1 := [.int (jI v3), .int (jI x2)]) (σ1 := js E A16) zM_X7_pack dX7_pack_66 rfl rfl rfl rfl ?_
      refine jw_add zM_X7_pack dX7_pack_67 ?_
      refine zw_go (pc1 := 69) (L1 := [some (.ref 49), some (.int (jI x1)), some (.int (jI (x2 + v3))), some (.int (jI v3)), none, none]) (st1 := []) (σ1 := js E A16) zM_X7_pack dX7_pack_68 rfl rfl rfl rfl ?_
      refine zw_goto (tgt := 168) zM_X7_pack dX7_pack_69 rfl ?_
      exact zw_weak2 (h hA18) ⟨rfl, rfl, rfl, trivial⟩
set_option maxHeartbeats 4000000 in
set_option maxRecDepth 100000 in
theorem vd_X7_pack_75 (x1 : Int) (r_x1 : jW x1) (x2 : Int) (r_x2 : jW x2) (x4 : Int) (r_x4 : jW x4) (E : jE) (A : jA) (K : jA → Prop) (h : ((x1 ≤ x4 → jrV 196 98 [some (.ref 49), some (.int (jI x1)), some (.int (jI x2)), none, some (.int (jI x4)), none] [] E A K) ∧ (x4 < x1 → jrI 137 0 [some (.ref 49), some (.int (jI x4)), some (.int (jI x1)), none] [] E A (fun v3 A1 => (((3 : Int) ≤ v3 → jrV 196 98 [some (.ref 49), some (.int (jI x1)), some (.int (jI x2)), none, some (.int (jI x4)), none] [] E A1 K) ∧ (v3 < (3 : Int) → jrV 196 75 [some (.ref 49), some (.int (jI x1)), some (.int (jI x2)), none, some (.int (jI (x4 + 1))), none] [] E A1 K)))))) : jrV 196 75 [some (.ref 49), some (.int (jI x1)), some (.int (jI x2)), none, some (.int (jI x4)), none] [] E A K := by
  intro hA
  refine zw_go (pc1 := 77) (L1 := [some (.ref 49), some (.int (jI x1)), some (.int (jI x2)), none, some (.int (jI x4)), none]) (st1 := [.int (jI x4)]) (σ1 := js E A) zM_X7_pack dX7_pack_75 rfl rfl rfl rfl ?_
  refine zw_go (pc1 := 78) (L1 := [some (.ref 49), some (.int (jI x1)), some (.int (jI x2)), none, some (.int (jI x4)), none]) (st1 := [.int (jI x1), .int (jI x4)]) (σ1 := js E A) zM_X7_pack dX7_pack_77 rfl rfl rfl rfl ?_
  refine jw_icmp_ge (tgt := 98) zM_X7_pack dX7_pack_78 rfl r_x4 r_x1 (fun q => ?_) (fun q => ?_)
  · replace h := h.1 q
    exact zw_weak2 (h hA) ⟨rfl, rfl, rfl, rfl, trivial⟩
  · replace h := h.2 q
    refine zw_go (pc1 := 82) (L1 := [some (.ref 49), some (.int (jI x1)), some (.int (jI x2)), none, some (.int (jI x4)), none]) (st1 := [.ref 49]) (σ1 := js E A) zM_X7_pack dX7_pack_81 rfl rfl rfl rfl ?_
    refine zw_go (pc1 := 84) (L1 := [some (.ref 49), some (.int (jI x1)), some (.int (jI x2)), none, some (.int (jI x4)), none]) (st1 := [.int (jI x4), .ref 49]) (σ1 := js E A) zM_X7_pack dX7_pack_82 rfl rfl rfl rfl ?_
    refine zw_go (pc1 := 85) (L1 := [some (.ref 49), some (.int (jI x1)), some (.int (jI x2)), none, some (.int (jI x4)), none]) (st1 := [.int (jI x1), .int (jI x4), .ref 49]) (σ1 := js E A) zM_X7_pack dX7_pack_84 rfl rfl rfl rfl ?_
    refine jw_callI (as := [.ref 49, .int (jI x4), .int (jI x1)]) (rest := []) zM_X7_pack dX7_pack_85 (zx_calV zC_7_152) zM_X7_alike rfl rfl rfl rfl rfl (j_args0 rfl rfl) rfl hA h (fun v3 A1 rv4 hA2 h => ?_)
    refine jw_iconst (v := 3) zM_X7_pack dX7_pack_88 rfl ?_
    refine jw_icmp_ge (tgt := 98) zM_X7_pack dX7_pack_89 rfl rv4 (show jW 3 from ⟨by decide, by decide⟩) (fun q => ?_) (fun q => ?_)
    · replace h := h.1 q
      exact zw_weak2 (h hA2) ⟨rfl, rfl, rfl, rfl, trivial⟩
    · replace h := h.2 q
      refine jw_iinc (x := x4) (L1 := [some (.ref 49), some (.int (jI x1)), some (.int (jI x2)), none, some (.int (jI (x4 + 1))), none]) zM_X7_pack dX7_pack_92 rfl (show 4 < 6 by decide) rfl ?_
      refine zw_goto (tgt := 75) zM_X7_pack dX7_pack_95 rfl ?_
      exact zw_weak2 (h hA2) ⟨rfl, rfl, rfl, rfl, trivial⟩
set_option maxHeartbeats 4000000 in
set_option maxRecDepth 100000 in
theorem vd_X7_pack_98 (x1 : Int) (r_x1 : jW x1) (x2 : Int) (r_x2 : jW x2) (x4 : Int) (r_x4 : jW x4) (E : jE) (A : jA) (K : jA → Prop) (h : jW ((x4 - x2) - 1) ∧ (0 ≤ (A 49 22) ∧ (A 49 22) < 80) ∧ ∀ A3 : jA, A3 = jup A 63 (A 49 22) ((x4 - x2) - 1) → jW ((A3 49 22) + 1) ∧ ∀ A7 : jA, A7 = jup A3 49 22 ((A3 49 22) + 1) → jrV 196 126 [some (.ref 49), some (.int (jI x1)), none, none, some (.int (jI x4)), some (.int (jI x2))] [] E A7 K) : jrV 196 98 [some (.ref 49), some (.int (jI x1)), some (.int (jI x2)), none, some (.int (jI x4)), none] [] E A K := by
  intro hA
  refine zw_go (pc1 := 99) (L1 := [some (.ref 49), some (.int (jI x1)), some (.int (jI x2)), none, some (.int (jI x4)), none]) (st1 := [.ref 49]) (σ1 := js E A) zM_X7_pack dX7_pack_98 rfl rfl rfl rfl ?_
  refine jw_getR (a := 63) zM_X7_pack dX7_pack_99 zF_7_49 rfl rfl rfl ?_
  refine zw_go (pc1 := 103) (L1 := [some (.ref 49), some (.int (jI x1)), some (.int (jI x2)), none, some (.int (jI x4)), none]) (st1 := [.ref 49, .ref 63]) (σ1 := js E A) zM_X7_pack dX7_pack_102 rfl rfl rfl rfl ?_
  refine jw_getI zM_X7_pack dX7_pack_103 zF_7_149 rfl rfl rfl ?_
  refine zw_go (pc1 := 108) (L1 := [some (.ref 49), some (.int (jI x1)), some (.int (jI x2)), none, some (.int (jI x4)), none]) (st1 := [.int (jI x4), .int (jI (A 49 22)), .ref 63]) (σ1 := js E A) zM_X7_pack dX7_pack_106 rfl rfl rfl rfl ?_
  refine zw_go (pc1 := 109) (L1 := [some (.ref 49), some (.int (jI x1)), some (.int (jI x2)), none, some (.int (jI x4)), none]) (st1 := [.int (jI x2), .int (jI x4), .int (jI (A 49 22)), .ref 63]) (σ1 := js E A) zM_X7_pack dX7_pack_108 rfl rfl rfl rfl ?_
  refine jw_sub zM_X7_pack dX7_pack_109 ?_
  refine jw_iconst (v := 1) zM_X7_pack dX7_pack_110 rfl ?_
  refine jw_sub zM_X7_pack dX7_pack_111 ?_
  obtain ⟨hw1, h⟩ := h
  obtain ⟨hi2, h⟩ := h
  obtain ⟨A3, e4⟩ : ∃ z9 : jA, z9 = jup A 63 (A 49 22) ((x4 - x2) - 1) := ⟨_, rfl⟩
  replace h := h A3 e4
  have hA5 : jOK A3 := jOK.up hA hw1 e4
  refine jw_iast zM_X7_pack dX7_pack_112 rfl rfl hi2 e4 ?_
  refine zw_go (pc1 := 114) (L1 := [some (.ref 49), some (.int (jI x1)), some (.int (jI x2)), none, some (.int (jI x4)), none]) (st1 := [.ref 49]) (σ1 := js E A3) zM_X7_pack dX7_pack_113 rfl rfl rfl rfl ?_
  refine zw_go (pc1 := 115) (L1 := [some (.ref 49), some (.int (jI x1)), some (.int (jI x2)), none, some (.int (jI x4)), none]) (st1 := [.ref 49, .ref 49]) (σ1 := js E A3) zM_X7_pack dX7_pack_114 rfl rfl rfl rfl ?_
  refine jw_getI zM_X7_pack dX7_pack_115 zF_7_149 rfl rfl rfl ?_
  refine jw_iconst (v := 1) zM_X7_pack dX7_pack_118 rfl ?_
  refine jw_add zM_X7_pack dX7_pack_119 ?_
  obtain ⟨hw6, h⟩ := h
  obtain ⟨A7, e8⟩ : ∃ z9 : jA, z9 = jup A3 49 22 ((A3 49 22) + 1) := ⟨_, rfl⟩
  replace h := h A7 e8
  have hA9 : jOK A7 := jOK.up hA5 hw6 e8
  refine jw_putI zM_X7_pack dX7_pack_120 zF_7_149 rfl rfl rfl rfl e8 ?_
  refine zw_go (pc1 := 124) (L1 := [some (.ref 49), some (.int (jI x1)), some (.int (jI x2)), none, some (.int (jI x4)), none]) (st1 := [.int (jI x2)]) (σ1 := js E A7) zM_X7_pack dX7_pack_123 rfl rfl rfl rfl ?_
  refine zw_go (pc1 := 126) (L1 := [some (.ref 49), some (.int (jI x1)), some (.int (jI x2)), none, some (.int (jI x4)), some (.int (jI x2))]) (st1 := []) (σ1 := js E A7) zM_X7_pack dX7_pack_124 rfl rfl rfl rfl ?_
  exact zw_weak2 (h hA9) ⟨rfl, rfl, rfl, rfl, trivial⟩
set_option maxHeartbeats 4000000 in
set_option maxRecDepth 100000 in
theorem vd_X7_pack_126 (x1 : Int) (r_x1 : jW x1) (x4 : Int) (r_x4 : jW x4) (x5 : Int) (r_x5 : jW x5) (E : jE) (A : jA) (K : jA → Prop) (h : ((x4 ≤ x5 → jrV 196 168 [some (.ref 49), some (.int (jI x1)), some (.int (jI x4)), none, none, none] [] E A K) ∧ (x5 < x4 → (0 ≤ x5 ∧ x5 < 32) ∧ (0 ≤ (A 49 22) ∧ (A 49 22) < 80) ∧ ∀ A3 : jA, A3 = jup A 63 (A 49 22) (A 62 x5) → jW ((A3 49 22) + 1) ∧ ∀ A7 : jA, A7 = jup A3 49 22 ((A3 49 22) + 1) → jrV 196 126 [some (.ref 49), some (.int (jI x1)), none, none, some (.int (jI x4)), some (.int (jI (x5 + 1)))] [] E A7 K))) : jrV 196 126 [some (.ref 49), some (.int (jI x1)), none, none, some (.int (jI x4)), some (.int (jI x5))] [] E A K := by
  intro hA
  refine zw_go (pc1 := 128) (L1 := [some (.ref 49), some (.int (jI x1)), none, none, some (.int (jI x4)), some (.int (jI x5))]) (st1 := [.int (jI x5)]) (σ1 := js E A) zM_X7_pack dX7_pack_126 rfl rfl rfl rfl ?_
  refine zw_go (pc1 := 130) (L1 := [some (.ref 49), some (.int (jI x1)), none, none, some (.int (jI x4)), some (.int (jI x5))]) (st1 := [.int (jI x4), .int (jI x5)]) (σ1 := js E A) zM_X7_pack dX7_pack_128 rfl rfl rfl rfl ?_
  refine jw_icmp_ge (tgt := 165) zM_X7_pack dX7_pack_130 rfl r_x5 r_x4 (fun q => ?_) (fun q => ?_)
  · replace h := h.1 q
    refine zw_go (pc1 := 167) (L1 := [some (.ref 49), some (.int (jI x1)), none, none, some (.int (jI x4)), some (.int (jI x5))]) (st1 := [.int (jI x4)]) (σ1 := js E A) zM_X7_pack dX7_pack_165 rfl rfl rfl rfl ?_
    refine zw_go (pc1 := 168) (L1 := [some (.ref 49), some (.int (jI x1)), some (.int (jI x4)), none, some (.int (jI x4)), some (.int (jI x5))]) (st1 := []) (σ1 := js E A) zM_X7_pack dX7_pack_167 rfl rfl rfl rfl ?_
    exact zw_weak2 (h hA) ⟨rfl, rfl, rfl, trivial⟩
  · replace h := h.2 q
    refine zw_go (pc1 := 134) (L1 := [some (.ref 49), some (.int (jI x1)), none, none, some (.int (jI x4)), some (.int (jI x5))]) (st1 := [.ref 49]) (σ1 := js E A) zM_X7_pack dX7_pack_133 rfl rfl rfl rfl ?_
    refine jw_getR (a := 63) zM_X7_pack dX7_pack_134 zF_7_49 rfl rfl rfl ?_
    refine zw_go (pc1 := 138) (L1 := [some (.ref 49), some (.int (jI x1)), none, none, some (.int (jI x4)), some (.int (jI x5))]) (st1 := [.ref 49, .ref 63]) (σ1 := js E A) zM_X7_pack dX7_pack_137 rfl rfl rfl rfl ?_
    refine jw_getI zM_X7_pack dX7_pack_138 zF_7_149 rfl rfl rfl ?_
    refine zw_go (pc1 := 142) (L1 := [some (.ref 49), some (.int (jI x1)), none, none, some (.int (jI x4)), some (.int (jI x5))]) (st1 := [.ref 49, .int (jI (A 49 22)), .ref 63]) (σ1 := js E A) zM_X7_pack dX7_pack_141 rfl rfl rfl rfl ?_
    refine jw_getR (a := 62) zM_X7_pack dX7_pack_142 zF_7_46 rfl rfl rfl ?_
    refine zw_go (pc1 := 147) (L1 := [some (.ref 49), some (.int (jI x1)), none, none, some (.int (jI x4)), some (.int (jI x5))]) (st1 := [.int (jI x5), .ref 62, .int (jI (A 49 22)), .ref 63]) (σ1 := js E A) zM_X7_pack dX7_pack_145 rfl rfl rfl rfl ?_
    obtain ⟨hi1, h⟩ := h
    refine jw_iald zM_X7_pack dX7_pack_147 rfl rfl hi1 ?_
    obtain ⟨hi2, h⟩ := h
    obtain ⟨A3, e4⟩ : ∃ z9 : jA, z9 = jup A 63 (A 49 22) (A 62 x5) := ⟨_, rfl⟩
    replace h := h A3 e4
    have hA5 : jOK A3 := jOK.up hA (hA 62 x5) e4
    refine jw_iast zM_X7_pack dX7_pack_148 rfl rfl hi2 e4 ?_
    refine zw_go (pc1 := 150) (L1 := [some (.ref 49), some (.int (jI x1)), none, none, some (.int (jI x4)), some (.int (jI x5))]) (st1 := [.ref 49]) (σ1 := js E A3) zM_X7_pack dX7_pack_149 rfl rfl rfl rfl ?_
    refine zw_go (pc1 := 151) (L1 := [some (.ref 49), some (.int (jI x1)), none, none, some (.int (jI x4)), some (.int (jI x5))]) (st1 := [.ref 49, .ref 49]) (σ1 := js E A3) zM_X7_pack dX7_pack_150 rfl rfl rfl rfl ?_
    refine jw_getI zM_X7_pack dX7_pack_151 zF_7_149 rfl rfl rfl ?_
    refine jw_iconst (v := 1) zM_X7_pack dX7_pack_154 rfl ?_
    refine jw_add zM_X7_pack dX7_pack_155 ?_
    obtain ⟨hw6, h⟩ := h
    obtain ⟨A7, e8⟩ : ∃ z9 : jA, z9 = jup A3 49 22 ((A3 49 22) + 1) := ⟨_, rfl⟩
    replace h := h A7 e8
    have hA9 : jOK A7 := jOK.up hA5 hw6 e8
    refine jw_putI zM_X7_pack dX7_pack_156 zF_7_149 rfl rfl rfl rfl e8 ?_
    refine jw_iinc (x := x5) (L1 := [some (.ref 49), some (.int (jI x1)), none, none, some (.int (jI x4)), some (.int (jI (x5 + 1)))]) zM_X7_pack dX7_pack_159 rfl (show 5 < 6 by decide) rfl ?_
    refine zw_goto (tgt := 126) zM_X7_pack dX7_pack_162 rfl ?_
    exact zw_weak2 (h hA9) ⟨rfl, rfl, rfl, rfl, trivial⟩
set_option maxHeartbeats 4000000 in
set_option maxRecDepth 100000 in
theorem vd_X7_pack_168 (x1 : Int) (r_x1 : jW x1) (x2 : Int) (r_x2 : jW x2) (E : jE) (A : jA) (K : jA → Prop) (h : jrV 196 7 [some (.ref 49), some (.int (jI x1)), some (.int (jI x2)), none, none, none] [] E A K) : jrV 196 168 [some (.ref 49), some (.int (jI x1)), some (.int (jI x2)), none, none, none] [] E A K := by
  intro hA
  refine zw_goto (tgt := 7) zM_X7_pack dX7_pack_168 rfl ?_
  exact zw_weak2 (h hA) ⟨rfl, rfl, rfl, trivial⟩
set_option maxHeartbeats 4000000 in
set_option maxRecDepth 100000 in
theorem vd_X7_putWord_0 (x1 : Int) (r_x1 : jW x1) (x2 : Int) (r_x2 : jW x2) (E : jE) (A : jA) (K : jA → Prop) (h : (0 ≤ ((6000 * (A 49 14)) + x1) ∧ ((6000 * (A 49 14)) + x1) < 18000) ∧ ∀ A2 : jA, A2 = jup A 58 ((6000 * (A 49 14)) + x1) ((x2 / 256) % 256) → (0 ≤ (((6000 * (A2 49 14)) + x1) + 1) ∧ (((6000 * (A2 49 14)) + x1) + 1) < 18000) ∧ ∀ A6 : jA, A6 = jup A2 58 (((6000 * (A2 49 14)) + x1) + 1) (x2 % 256) → K A6) : jrV 197 0 [some (.ref 49), some (.int (jI x1)), some (.int (jI x2))] [] E A K := by
  intro hA
  refine zw_go (pc1 := 1) (L1 := [some (.ref 49), some (.int (jI x1)), some (.int (jI x2))]) (st1 := [.ref 49]) (σ1 := js E A) zM_X7_putWord dX7_putWord_0 rfl rfl rfl rfl ?_
  refine jw_getR (a := 58) zM_X7_putWord dX7_putWord_1 zF_7_34 rfl rfl rfl ?_
  refine jw_sipush (v := 6000) zM_X7_putWord dX7_putWord_4 (by decide) ?_
  refine zw_go (pc1 := 8) (L1 := [some (.ref 49), some (.int (jI x1)), some (.int (jI x2))]) (st1 := [.ref 49, .int (jI 6000), .ref 58]) (σ1 := js E A) zM_X7_putWord dX7_putWord_7 rfl rfl rfl rfl ?_
  refine jw_getI zM_X7_putWord dX7_putWord_8 zF_7_129 rfl rfl rfl ?_
  refine jw_mul zM_X7_putWord dX7_putWord_11 ?_
  refine zw_go (pc1 := 13) (L1 := [some (.ref 49), some (.int (jI x1)), some (.int (jI x2))]) (st1 := [.int (jI x1), .int (jI (6000 * (A 49 14))), .ref 58]) (σ1 := js E A) zM_X7_putWord dX7_putWord_12 rfl rfl rfl rfl ?_
  refine jw_add zM_X7_putWord dX7_putWord_13 ?_
  refine zw_go (pc1 := 15) (L1 := [some (.ref 49), some (.int (jI x1)), some (.int (jI x2))]) (st1 := [.int (jI x2), .int (jI ((6000 * (A 49 14)) + x1)), .ref 58]) (σ1 := js E A) zM_X7_putWord dX7_putWord_14 rfl rfl rfl rfl ?_
  refine jw_bipush (v := 8) zM_X7_putWord dX7_putWord_15 (by decide) ?_
  refine jw_shrC (p := 256) zM_X7_putWord dX7_putWord_17 r_x2 ⟨by decide, by decide⟩ (by decide) ?_
  refine jw_sipush (v := 255) zM_X7_putWord dX7_putWord_18 (by decide) ?_
  refine jw_and zM_X7_putWord dX7_putWord_21 rfl ?_
  obtain ⟨hi1, h⟩ := h
  obtain ⟨A2, e3⟩ : ∃ z9 : jA, z9 = jup A 58 ((6000 * (A 49 14)) + x1) ((x2 / 256) % 256) := ⟨_, rfl⟩
  replace h := h A2 e3
  have hA4 : jOK A2 := jOK.up hA (show jW ((x2 / 256) % 256) from ⟨by omega, by omega⟩) e3
  refine jw_iast zM_X7_putWord dX7_putWord_22 rfl rfl hi1 e3 ?_
  refine zw_go (pc1 := 24) (L1 := [some (.ref 49), some (.int (jI x1)), some (.int (jI x2))]) (st1 := [.ref 49]) (σ1 := js E A2) zM_X7_putWord dX7_putWord_23 rfl rfl rfl rfl ?_
  refine jw_getR (a := 58) zM_X7_putWord dX7_putWord_24 zF_7_34 rfl rfl rfl ?_
  refine jw_sipush (v := 6000) zM_X7_putWord dX7_putWord_27 (by decide) ?_
  refine zw_go (pc1 := 31) (L1 := [some (.ref 49), some (.int (jI x1)), some (.int (jI x2))]) (st1 := [.ref 49, .int (jI 6000), .ref 58]) (σ1 := js E A2) zM_X7_putWord dX7_putWord_30 rfl rfl rfl rfl ?_
  refine jw_getI zM_X7_putWord dX7_putWord_31 zF_7_129 rfl rfl rfl ?_
  refine jw_mul zM_X7_putWord dX7_putWord_34 ?_
  refine zw_go (pc1 := 36) (L1 := [some (.ref 49), some (.int (jI x1)), some (.int (jI x2))]) (st1 := [.int (jI x1), .int (jI (6000 * (A2 49 14))), .ref 58]) (σ1 := js E A2) zM_X7_putWord dX7_putWord_35 rfl rfl rfl rfl ?_
  refine jw_add zM_X7_putWord dX7_putWord_36 ?_
  refine jw_iconst (v := 1) zM_X7_putWord dX7_putWord_37 rfl ?_
  refine jw_add zM_X7_putWord dX7_putWord_38 ?_
  refine zw_go (pc1 := 40) (L1 := [some (.ref 49), some (.int (jI x1)), some (.int (jI x2))]) (st1 := [.int (jI x2), .int (jI (((6000 * (A2 49 14)) + x1) + 1)), .ref 58]) (σ1 := js E A2) zM_X7_putWord dX7_putWord_39 rfl rfl rfl rfl ?_
  refine jw_sipush (v := 255) zM_X7_putWord dX7_putWord_40 (by decide) ?_
  refine jw_and zM_X7_putWord dX7_putWord_43 rfl ?_
  obtain ⟨hi5, h⟩ := h
  obtain ⟨A6, e7⟩ : ∃ z9 : jA, z9 = jup A2 58 (((6000 * (A2 49 14)) + x1) + 1) (x2 % 256) := ⟨_, rfl⟩
  replace h := h A6 e7
  have hA8 : jOK A6 := jOK.up hA4 (show jW (x2 % 256) from ⟨by omega, by omega⟩) e7
  refine jw_iast zM_X7_putWord dX7_putWord_44 rfl rfl hi5 e7 ?_
  exact jw_retv zM_X7_putWord dX7_putWord_45 rfl hA8 h
set_option maxHeartbeats 4000000 in
set_option maxRecDepth 100000 in
theorem vd_X7_read_0 (x1 : Int) (r_x1 : jW x1) (x2 : Int) (r_x2 : jW x2) (E : jE) (A : jA) (K : Int → jA → Prop) (h : ∀ A1 : jA, A1 = jup A 49 0 0 → jrI 171 0 [some (.ref 49), some (.int (jI x1))] [] E A1 (fun v6 A4 => ((¬ v6 = (0 : Int) → (0 ≤ (3 * x1) ∧ (3 * x1) < 183) ∧ (0 ≤ (3 * x1) ∧ (3 * x1) < 183) ∧ jrI 162 0 [some (.ref 49), some (.int (jI (A4 76 (3 * x1)))), some (.int (jI (A4 77 (3 * x1))))] [] E A4 (fun v12 A10 => jrI 173 0 [some (.ref 49), some (.int (jI x1))] [] E A10 (fun v16 A14 => ((¬ v16 = (2 : Int) → jrI 198 53 [some (.ref 49), none, some (.int (jI x2)), some (.int (jI (A4 76 (3 * x1)))), some (.int (jI v12)), none, none, none, none, none] [.int (jI 0)] E A14 K) ∧ (v16 = (2 : Int) → jrI 198 53 [some (.ref 49), none, some (.int (jI x2)), some (.int (jI (A4 76 (3 * x1)))), some (.int (jI v12)), none, none, none, none, none] [.int (jI 1)] E A14 K))))) ∧ (v6 = (0 : Int) → K (-1) A4)))) : jrI 198 0 [some (.ref 49), some (.int (jI x1)), some (.int (jI x2)), none, none, none, none, none, none, none] [] E A K := by
  intro hA
  refine zw_go (pc1 := 1) (L1 := [some (.ref 49), some (.int (jI x1)), some (.int (jI x2)), none, none, none, none, none, none, none]) (st1 := [.ref 49]) (σ1 := js E A) zM_X7_read dX7_read_0 rfl rfl rfl rfl ?_
  refine jw_iconst (v := 0) zM_X7_read dX7_read_1 rfl ?_
  obtain ⟨A1, e2⟩ : ∃ z9 : jA, z9 = jup A 49 0 0 := ⟨_, rfl⟩
  replace h := h A1 e2
  have hA3 : jOK A1 := jOK.up hA (show jW 0 from ⟨by decide, by decide⟩) e2
  refine jw_putI zM_X7_read dX7_read_2 zF_7_98 rfl rfl rfl rfl e2 ?_
  refine zw_go (pc1 := 6) (L1 := [some (.ref 49), some (.int (jI x1)), some (.int (jI x2)), none, none, none, none, none, none, none]) (st1 := [.ref 49]) (σ1 := js E A1) zM_X7_read dX7_read_5 rfl rfl rfl rfl ?_
  refine zw_go (pc1 := 7) (L1 := [some (.ref 49), some (.int (jI x1)), some (.int (jI x2)), none, none, none, none, none, none, none]) (st1 := [.int (jI x1), .ref 49]) (σ1 := js E A1) zM_X7_read dX7_read_6 rfl rfl rfl rfl ?_
  refine jw_callI (as := [.ref 49, .int (jI x1)]) (rest := []) zM_X7_read dX7_read_7 (zx_calV zC_7_278) zM_X7_isView rfl rfl rfl rfl rfl (j_args0 rfl rfl) rfl hA3 h (fun v6 A4 rv7 hA5 h => ?_)
  refine jw_if_ne (tgt := 15) zM_X7_read dX7_read_10 rfl rv7 (fun q => ?_) (fun q => ?_)
  · replace h := h.1 q
    refine zw_go (pc1 := 16) (L1 := [some (.ref 49), some (.int (jI x1)), some (.int (jI x2)), none, none, none, none, none, none, none]) (st1 := [.ref 49]) (σ1 := js E A4) zM_X7_read dX7_read_15 rfl rfl rfl rfl ?_
    refine jw_getR (a := 76) zM_X7_read dX7_read_16 zF_7_88 rfl rfl rfl ?_
    refine jw_iconst (v := 3) zM_X7_read dX7_read_19 rfl ?_
    refine zw_go (pc1 := 21) (L1 := [some (.ref 49), some (.int (jI x1)), some (.int (jI x2)), none, none, none, none, none, none, none]) (st1 := [.int (jI x1), .int (jI 3), .ref 76]) (σ1 := js E A4) zM_X7_read dX7_read_20 rfl rfl rfl rfl ?_
    refine jw_mul zM_X7_read dX7_read_21 ?_
    obtain ⟨hi8, h⟩ := h
    refine jw_iald zM_X7_read dX7_read_22 rfl rfl hi8 ?_
    refine zw_go (pc1 := 24) (L1 := [some (.ref 49), some (.int (jI x1)), some (.int (jI x2)), some (.int (jI (A4 76 (3 * x1)))), none, none, none, none, none, none]) (st1 := []) (σ1 := js E A4) zM_X7_read dX7_read_23 rfl rfl rfl rfl ?_
    refine zw_go (pc1 := 25) (L1 := [some (.ref 49), some (.int (jI x1)), some (.int (jI x2)), some (.int (jI (A4 76 (3 * x1)))), none, none, none, none, none, none]) (st1 := [.ref 49]) (σ1 := js E A4) zM_X7_read dX7_read_24 rfl rfl rfl rfl ?_
    refine zw_go (pc1 := 26) (L1 := [some (.ref 49), some (.int (jI x1)), some (.int (jI x2)), some (.int (jI (A4 76 (3 * x1)))), none, none, none, none, none, none]) (st1 := [.int (jI (A4 76 (3 * x1))), .ref 49]) (σ1 := js E A4) zM_X7_read dX7_read_25 rfl rfl rfl rfl ?_
    refine zw_go (pc1 := 27) (L1 := [some (.ref 49), some (.int (jI x1)), some (.int (jI x2)), some (.int (jI (A4 76 (3 * x1)))), none, none, none, none, none, none]) (st1 := [.ref 49, .int (jI (A4 76 (3 * x1))), .ref 49]) (σ1 := js E A4) zM_X7_read dX7_read_26 rfl rfl rfl rfl ?_
    refine jw_getR (a := 77) zM_X7_read dX7_read_27 zF_7_91 rfl rfl rfl ?_
    refine jw_iconst (v := 3) zM_X7_read dX7_read_30 rfl ?_
    refine zw_go (pc1 := 32) (L1 := [some (.ref 49), some (.int (jI x1)), some (.int (jI x2)), some (.int (jI (A4 76 (3 * x1)))), none, none, none, none, none, none]) (st1 := [.int (jI x1), .int (jI 3), .ref 77, .int (jI (A4 76 (3 * x1))), .ref 49]) (σ1 := js E A4) zM_X7_read dX7_read_31 rfl rfl rfl rfl ?_
    refine jw_mul zM_X7_read dX7_read_32 ?_
    obtain ⟨hi9, h⟩ := h
    refine jw_iald zM_X7_read dX7_read_33 rfl rfl hi9 ?_
    refine jw_callI (as := [.ref 49, .int (jI (A4 76 (3 * x1))), .int (jI (A4 77 (3 * x1)))]) (rest := []) zM_X7_read dX7_read_34 (zx_calV zC_7_226) zM_X7_inode rfl rfl rfl rfl rfl (j_args0 rfl rfl) rfl hA5 h (fun v12 A10 rv13 hA11 h => ?_)
    refine zw_go (pc1 := 39) (L1 := [some (.ref 49), some (.int (jI x1)), some (.int (jI x2)), some (.int (jI (A4 76 (3 * x1)))), some (.int (jI v12)), none, none, none, none, none]) (st1 := []) (σ1 := js E A10) zM_X7_read dX7_read_37 rfl rfl rfl rfl ?_
    refine zw_go (pc1 := 40) (L1 := [some (.ref 49), some (.int (jI x1)), some (.int (jI x2)), some (.int (jI (A4 76 (3 * x1)))), some (.int (jI v12)), none, none, none, none, none]) (st1 := [.ref 49]) (σ1 := js E A10) zM_X7_read dX7_read_39 rfl rfl rfl rfl ?_
    refine zw_go (pc1 := 41) (L1 := [some (.ref 49), some (.int (jI x1)), some (.int (jI x2)), some (.int (jI (A4 76 (3 * x1)))), some (.int (jI v12)), none, none, none, none, none]) (st1 := [.int (jI x1), .ref 49]) (σ1 := js E A10) zM_X7_read dX7_read_40 rfl rfl rfl rfl ?_
    refine jw_callI (as := [.ref 49, .int (jI x1)]) (rest := []) zM_X7_read dX7_read_41 (zx_calV zC_7_281) zM_X7_kindOf rfl rfl rfl rfl rfl (j_args0 rfl rfl) rfl hA11 h (fun v16 A14 rv17 hA15 h => ?_)
    refine jw_iconst (v := 2) zM_X7_read dX7_read_44 rfl ?_
    refine jw_icmp_ne (tgt := 52) zM_X7_read dX7_read_45 rfl rv17 (show jW 2 from ⟨by decide, by decide⟩) (fun q => ?_) (fun q => ?_)
    · replace h := h.1 q
      refine jw_iconst (v := 0) zM_X7_read dX7_read_52 rfl ?_
      exact zw_weak2 (h hA15) ⟨rfl, rfl, rfl, rfl, trivial⟩
    · replace h := h.2 q
      refine jw_iconst (v := 1) zM_X7_read dX7_read_48 rfl ?_
      refine zw_goto (tgt := 53) zM_X7_read dX7_read_49 rfl ?_
      exact zw_weak2 (h hA15) ⟨rfl, rfl, rfl, rfl, trivial⟩
  · replace h := h.2 q
    refine jw_iconst (v := (-1)) zM_X7_read dX7_read_13 rfl ?_
    exact jw_reti zM_X7_read dX7_read_14 rfl (show jW (-1) from ⟨by decide, by decide⟩) hA5 h
set_option maxHeartbeats 4000000 in
set_option maxRecDepth 100000 in
theorem vd_X7_read_53 (x2 : Int) (r_x2 : jW x2) (x3 : Int) (r_x3 : jW x3) (x4 : Int) (r_x4 : jW x4) (y0 : Int) (r_y0 : jW y0) (E : jE) (A : jA) (K : Int → jA → Prop) (h : ((y0 = (0 : Int) → jrI 198 83 [some (.ref 49), none, some (.int (jI x2)), some (.int (jI x3)), some (.int (jI x4)), some (.int (jI y0)), none, none, none, none] [] E A K) ∧ (¬ y0 = (0 : Int) → jrI 210 0 [some (.ref 49), some (.int (jI x3)), some (.int (jI (x4 + 6)))] [] E A (fun v3 A1 => jrI 160 0 [some (.int (jI x2)), some (.int (jI 0)), some (.int (jI (v3 - 1)))] [] E A1 (fun v7 A5 => ((¬ v7 = (0 : Int) → jrI 198 83 [some (.ref 49), none, some (.int (jI x2)), some (.int (jI x3)), some (.int (jI x4)), some (.int (jI y0)), none, none, none, none] [] E A5 K) ∧ (v7 = (0 : Int) → K (-2) A5))))))) : jrI 198 53 [some (.ref 49), none, some (.int (jI x2)), some (.int (jI x3)), some (.int (jI x4)), none, none, none, none, none] [.int (jI y0)] E A K := by
  intro hA
  refine zw_go (pc1 := 55) (L1 := [some (.ref 49), none, some (.int (jI x2)), some (.int (jI x3)), some (.int (jI x4)), some (.int (jI y0)), none, none, none, none]) (st1 := []) (σ1 := js E A) zM_X7_read dX7_read_53 rfl rfl rfl rfl ?_
  refine zw_go (pc1 := 57) (L1 := [some (.ref 49), none, some (.int (jI x2)), some (.int (jI x3)), some (.int (jI x4)), some (.int (jI y0)), none, none, none, none]) (st1 := [.int (jI y0)]) (σ1 := js E A) zM_X7_read dX7_read_55 rfl rfl rfl rfl ?_
  refine jw_if_eq (tgt := 83) zM_X7_read dX7_read_57 rfl r_y0 (fun q => ?_) (fun q => ?_)
  · replace h := h.1 q
    exact zw_weak2 (h hA) ⟨rfl, rfl, rfl, rfl, rfl, trivial⟩
  · replace h := h.2 q
    refine zw_go (pc1 := 61) (L1 := [some (.ref 49), none, some (.int (jI x2)), some (.int (jI x3)), some (.int (jI x4)), some (.int (jI y0)), none, none, none, none]) (st1 := [.int (jI x2)]) (σ1 := js E A) zM_X7_read dX7_read_60 rfl rfl rfl rfl ?_
    refine jw_iconst (v := 0) zM_X7_read dX7_read_61 rfl ?_
    refine zw_go (pc1 := 63) (L1 := [some (.ref 49), none, some (.int (jI x2)), some (.int (jI x3)), some (.int (jI x4)), some (.int (jI y0)), none, none, none, none]) (st1 := [.ref 49, .int (jI 0), .int (jI x2)]) (σ1 := js E A) zM_X7_read dX7_read_62 rfl rfl rfl rfl ?_
    refine zw_go (pc1 := 64) (L1 := [some (.ref 49), none, some (.int (jI x2)), some (.int (jI x3)), some (.int (jI x4)), some (.int (jI y0)), none, none, none, none]) (st1 := [.int (jI x3), .ref 49, .int (jI 0), .int (jI x2)]) (σ1 := js E A) zM_X7_read dX7_read_63 rfl rfl rfl rfl ?_
    refine zw_go (pc1 := 66) (L1 := [some (.ref 49), none, some (.int (jI x2)), some (.int (jI x3)), some (.int (jI x4)), some (.int (jI y0)), none, none, none, none]) (st1 := [.int (jI x4), .int (jI x3), .ref 49, .int (jI 0), .int (jI x2)]) (σ1 := js E A) zM_X7_read dX7_read_64 rfl rfl rfl rfl ?_
    refine jw_bipush (v := 6) zM_X7_read dX7_read_66 (by decide) ?_
    refine jw_add zM_X7_read dX7_read_68 ?_
    refine jw_callI (as := [.ref 49, .int (jI x3), .int (jI (x4 + 6))]) (rest := [.int (jI 0), .int (jI x2)]) zM_X7_read dX7_read_69 (zx_calV zC_7_201) zM_X7_word rfl rfl rfl rfl rfl (j_args0 rfl rfl) rfl hA h (fun v3 A1 rv4 hA2 h => ?_)
    refine jw_iconst (v := 1) zM_X7_read dX7_read_72 rfl ?_
    refine jw_sub zM_X7_read dX7_read_73 ?_
    refine jw_callI (as := [.int (jI x2), .int (jI 0), .int (jI (v3 - 1))]) (rest := []) zM_X7_read dX7_read_74 (zx_calS zC_7_101) zM_X7_in rfl rfl rfl rfl rfl rfl rfl hA2 h (fun v7 A5 rv8 hA6 h => ?_)
    refine jw_if_ne (tgt := 83) zM_X7_read dX7_read_77 rfl rv8 (fun q => ?_) (fun q => ?_)
    · replace h := h.1 q
      exact zw_weak2 (h hA6) ⟨rfl, rfl, rfl, rfl, rfl, trivial⟩
    · replace h := h.2 q
      refine jw_bipush (v := (-2)) zM_X7_read dX7_read_80 (by decide) ?_
      exact jw_reti zM_X7_read dX7_read_82 rfl (show jW (-2) from ⟨by decide, by decide⟩) hA6 h
set_option maxHeartbeats 4000000 in
set_option maxRecDepth 100000 in
theorem vd_X7_read_83 (x2 : Int) (r_x2 : jW x2) (x3 : Int) (r_x3 : jW x3) (x4 : Int) (r_x4 : jW x4) (x5 : Int) (r_x5 : jW x5) (E : jE) (A : jA) (K : Int → jA → Prop) (h : ((¬ x5 = (0 : Int) → jrI 143 0 [some (.ref 49), some (.int (jI x3)), some (.int (jI 2))] [] E A (fun v3 A1 => jrI 210 0 [some (.ref 49), some (.int (jI x3)), some (.int (jI (x4 + 6)))] [] E A1 (fun v7 A5 => 0 ≤ v7 ∧ 0 < v3 ∧ jW ((v7 / v3) * v3) ∧ ((((v7 / v3) * v3) ≤ x2 → jrI 210 0 [some (.ref 49), some (.int (jI x3)), some (.int (jI 10))] [] E A5 (fun v14 A12 => jrI 143 0 [some (.ref 49), some (.int (jI x3)), some (.int (jI (x4 + 10)))] [] E A12 (fun v18 A16 => jrI 210 0 [some (.ref 49), some (.int (jI x3)), some (.int (jI (v14 + (5 * (v18 - 1)))))] [] E A16 (fun v22 A20 => jrI 210 0 [some (.ref 49), some (.int (jI x3)), some (.int (jI ((v14 + (5 * (v18 - 1))) + 2)))] [] E A20 (fun v26 A24 => jrI 143 0 [some (.ref 49), some (.int (jI x3)), some (.int (jI (x4 + 11)))] [] E A24 (fun v30 A28 => 0 ≤ x2 ∧ 0 < v3 ∧ jrI 192 0 [some (.ref 49), some (.int (jI x3)), some (.int (jI v22)), some (.int (jI v26)), some (.int (jI (v30 + (x2 % v3)))), none, none, none] [] E A28 (fun v36 A34 => K v36 A34))))))) ∧ (x2 < ((v7 / v3) * v3) → jrI 210 0 [some (.ref 49), some (.int (jI x3)), some (.int (jI (x4 + 8)))] [] E A5 (fun v40 A38 => jrI 198 147 [some (.ref 49), none, some (.int (jI x2)), some (.int (jI x3)), some (.int (jI x4)), none, some (.int (jI v3)), none, some (.int (jI v40)), some (.int (jI 0))] [] E A38 K)))))) ∧ (x5 = (0 : Int) → (((0 : Int) ≤ x2 → K (-3) A) ∧ (x2 < (0 : Int) → K (-2) A))))) : jrI 198 83 [some (.ref 49), none, some (.int (jI x2)), some (.int (jI x3)), some (.int (jI x4)), some (.int (jI x5)), none, none, none, none] [] E A K := by
  intro hA
  refine zw_go (pc1 := 85) (L1 := [some (.ref 49), none, some (.int (jI x2)), some (.int (jI x3)), some (.int (jI x4)), some (.int (jI x5)), none, none, none, none]) (st1 := [.int (jI x5)]) (σ1 := js E A) zM_X7_read dX7_read_83 rfl rfl rfl rfl ?_
  refine jw_if_ne (tgt := 100) zM_X7_read dX7_read_85 rfl r_x5 (fun q => ?_) (fun q => ?_)
  · replace h := h.1 q
    refine zw_go (pc1 := 101) (L1 := [some (.ref 49), none, some (.int (jI x2)), some (.int (jI x3)), some (.int (jI x4)), some (.int (jI x5)), none, none, none, none]) (st1 := [.ref 49]) (σ1 := js E A) zM_X7_read dX7_read_100 rfl rfl rfl rfl ?_
    refine zw_go (pc1 := 102) (L1 := [some (.ref 49), none, some (.int (jI x2)), some (.int (jI x3)), some (.int (jI x4)), some (.int (jI x5)), none, none, none, none]) (st1 := [.int (jI x3), .ref 49]) (σ1 := js E A) zM_X7_read dX7_read_101 rfl rfl rfl rfl ?_
    refine jw_iconst (v := 2) zM_X7_read dX7_read_102 rfl ?_
    refine jw_callI (as := [.ref 49, .int (jI x3), .int (jI 2)]) (rest := []) zM_X7_read dX7_read_103 (zx_calV zC_7_198) zM_X7_byteAt rfl rfl rfl rfl rfl (j_args0 rfl rfl) rfl hA h (fun v3 A1 rv4 hA2 h => ?_)
    refine zw_go (pc1 := 108) (L1 := [some (.ref 49), none, some (.int (jI x2)), some (.int (jI x3)), some (.int (jI x4)), some (.int (jI x5)), some (.int (jI v3)), none, none, none]) (st1 := []) (σ1 := js E A1) zM_X7_read dX7_read_106 rfl rfl rfl rfl ?_
    refine zw_go (pc1 := 109) (L1 := [some (.ref 49), none, some (.int (jI x2)), some (.int (jI x3)), some (.int (jI x4)), some (.int (jI x5)), some (.int (jI v3)), none, none, none]) (st1 := [.ref 49]) (σ1 := js E A1) zM_X7_read dX7_read_108 rfl rfl rfl rfl ?_
    refine zw_go (pc1 := 110) (L1 := [some (.ref 49), none, some (.int (jI x2)), some (.int (jI x3)), some (.int (jI x4)), some (.int (jI x5)), some (.int (jI v3)), none, none, none]) (st1 := [.int (jI x3), .ref 49]) (σ1 := js E A1) zM_X7_read dX7_read_109 rfl rfl rfl rfl ?_
    refine zw_go (pc1 := 112) (L1 := [some (.ref 49), none, some (.int (jI x2)), some (.int (jI x3)), some (.int (jI x4)), some (.int (jI x5)), some (.int (jI v3)), none, none, none]) (st1 := [.int (jI x4), .int (jI x3), .ref 49]) (σ1 := js E A1) zM_X7_read dX7_read_110 rfl rfl rfl rfl ?_
    refine jw_bipush (v := 6) zM_X7_read dX7_read_112 (by decide) ?_
    refine jw_add zM_X7_read dX7_read_114 ?_
    refine jw_callI (as := [.ref 49, .int (jI x3), .int (jI (x4 + 6))]) (rest := []) zM_X7_read dX7_read_115 (zx_calV zC_7_201) zM_X7_word rfl rfl rfl rfl rfl (j_args0 rfl rfl) rfl hA2 h (fun v7 A5 rv8 hA6 h => ?_)
    refine zw_go (pc1 := 120) (L1 := [some (.ref 49), none, some (.int (jI x2)), some (.int (jI x3)), some (.int (jI x4)), some (.int (jI x5)), some (.int (jI v3)), some (.int (jI v7)), none, none]) (st1 := []) (σ1 := js E A5) zM_X7_read dX7_read_118 rfl rfl rfl rfl ?_
    refine zw_go (pc1 := 121) (L1 := [some (.ref 49), none, some (.int (jI x2)), some (.int (jI x3)), some (.int (jI x4)), some (.int (jI x5)), some (.int (jI v3)), some (.int (jI v7)), none, none]) (st1 := [.int (jI x2)]) (σ1 := js E A5) zM_X7_read dX7_read_120 rfl rfl rfl rfl ?_
    refine zw_go (pc1 := 123) (L1 := [some (.ref 49), none, some (.int (jI x2)), some (.int (jI x3)), some (.int (jI x4)), some (.int (jI x5)), some (.int (jI v3)), some (.int (jI v7)), none, none]) (st1 := [.int (jI v7), .int (jI x2)]) (σ1 := js E A5) zM_X7_read dX7_read_121 rfl rfl rfl rfl ?_
    refine zw_go (pc1 := 125) (L1 := [some (.ref 49), none, some (.int (jI x2)), some (.int (jI x3)), some (.int (jI x4)), some (.int (jI x5)), some (.int (jI v3)), some (.int (jI v7)), none, none]) (st1 := [.int (jI v3), .int (jI v7), .int (jI x2)]) (σ1 := js E A5) zM_X7_read dX7_read_123 rfl rfl rfl rfl ?_
    obtain ⟨hz9, h⟩ := h
    obtain ⟨hz10, h⟩ := h
    refine jw_div zM_X7_read dX7_read_125 rv8 rv4 hz9 hz10 ?_
    refine zw_go (pc1 := 128) (L1 := [some (.ref 49), none, some (.int (jI x2)), some (.int (jI x3)), some (.int (jI x4)), some (.int (jI x5)), some (.int (jI v3)), some (.int (jI v7)), none, none]) (st1 := [.int (jI v3), .int (jI (v7 / v3)), .int (jI x2)]) (σ1 := js E A5) zM_X7_read dX7_read_126 rfl rfl rfl rfl ?_
    refine jw_mul zM_X7_read dX7_read_128 ?_
    obtain ⟨hw11, h⟩ := h
    refine jw_icmp_ge (tgt := 214) zM_X7_read dX7_read_129 rfl r_x2 hw11 (fun q => ?_) (fun q => ?_)
    · replace h := h.1 q
      refine zw_go (pc1 := 215) (L1 := [some (.ref 49), none, some (.int (jI x2)), some (.int (jI x3)), some (.int (jI x4)), some (.int (jI x5)), some (.int (jI v3)), some (.int (jI v7)), none, none]) (st1 := [.ref 49]) (σ1 := js E A5) zM_X7_read dX7_read_214 rfl rfl rfl rfl ?_
      refine zw_go (pc1 := 216) (L1 := [some (.ref 49), none, some (.int (jI x2)), some (.int (jI x3)), some (.int (jI x4)), some (.int (jI x5)), some (.int (jI v3)), some (.int (jI v7)), none, none]) (st1 := [.int (jI x3), .ref 49]) (σ1 := js E A5) zM_X7_read dX7_read_215 rfl rfl rfl rfl ?_
      refine jw_bipush (v := 10) zM_X7_read dX7_read_216 (by decide) ?_
      refine jw_callI (as := [.ref 49, .int (jI x3), .int (jI 10)]) (rest := []) zM_X7_read dX7_read_218 (zx_calV zC_7_201) zM_X7_word rfl rfl rfl rfl rfl (j_args0 rfl rfl) rfl hA6 h (fun v14 A12 rv15 hA13 h => ?_)
      refine jw_iconst (v := 5) zM_X7_read dX7_read_221 rfl ?_
      refine zw_go (pc1 := 223) (L1 := [some (.ref 49), none, some (.int (jI x2)), some (.int (jI x3)), some (.int (jI x4)), some (.int (jI x5)), some (.int (jI v3)), some (.int (jI v7)), none, none]) (st1 := [.ref 49, .int (jI 5), .int (jI v14)]) (σ1 := js E A12) zM_X7_read dX7_read_222 rfl rfl rfl rfl ?_
      refine zw_go (pc1 := 224) (L1 := [some (.ref 49), none, some (.int (jI x2)), some (.int (jI x3)), some (.int (jI x4)), some (.int (jI x5)), some (.int (jI v3)), some (.int (jI v7)), none, none]) (st1 := [.int (jI x3), .ref 49, .int (jI 5), .int (jI v14)]) (σ1 := js E A12) zM_X7_read dX7_read_223 rfl rfl rfl rfl ?_
      refine zw_go (pc1 := 226) (L1 := [some (.ref 49), none, some (.int (jI x2)), some (.int (jI x3)), some (.int (jI x4)), some (.int (jI x5)), some (.int (jI v3)), some (.int (jI v7)), none, none]) (st1 := [.int (jI x4), .int (jI x3), .ref 49, .int (jI 5), .int (jI v14)]) (σ1 := js E A12) zM_X7_read dX7_read_224 rfl rfl rfl rfl ?_
      refine jw_bipush (v := 10) zM_X7_read dX7_read_226 (by decide) ?_
      refine jw_add zM_X7_read dX7_read_228 ?_
      refine jw_callI (as := [.ref 49, .int (jI x3), .int (jI (x4 + 10))]) (rest := [.int (jI 5), .int (jI v14)]) zM_X7_read dX7_read_229 (zx_calV zC_7_198) zM_X7_byteAt rfl rfl rfl rfl rfl (j_args0 rfl rfl) rfl hA13 h (fun v18 A16 rv19 hA17 h => ?_)
      refine jw_iconst (v := 1) zM_X7_read dX7_read_232 rfl ?_
      refine jw_sub zM_X7_read dX7_read_233 ?_
      refine jw_mul zM_X7_read dX7_read_234 ?_
      refine jw_add zM_X7_read dX7_read_235 ?_
      refine zw_go (pc1 := 238) (L1 := [some (.ref 49), none, some (.int (jI x2)), some (.int (jI x3)), some (.int (jI x4)), some (.int (jI x5)), some (.int (jI v3)), some (.int (jI v7)), some (.int (jI (v14 + (5 * (v18 - 1))))), none]) (st1 := []) (σ1 := js E A16) zM_X7_read dX7_read_236 rfl rfl rfl rfl ?_
      refine zw_go (pc1 := 239) (L1 := [some (.ref 49), none, some (.int (jI x2)), some (.int (jI x3)), some (.int (jI x4)), some (.int (jI x5)), some (.int (jI v3)), some (.int (jI v7)), some (.int (jI (v14 + (5 * (v18 - 1))))), none]) (st1 := [.ref 49]) (σ1 := js E A16) zM_X7_read dX7_read_238 rfl rfl rfl rfl ?_
      refine zw_go (pc1 := 240) (L1 := [some (.ref 49), none, some (.int (jI x2)), some (.int (jI x3)), some (.int (jI x4)), some (.int (jI x5)), some (.int (jI v3)), some (.int (jI v7)), some (.int (jI (v14 + (5 * (v18 - 1))))), none]) (st1 := [.int (jI x3), .ref 49]) (σ1 := js E A16) zM_X7_read dX7_read_239 rfl rfl rfl rfl ?_
      refine zw_go (pc1 := 241) (L1 := [some (.ref 49), none, some (.int (jI x2)), some (.int (jI x3)), some (.int (jI x4)), some (.int (jI x5)), some (.int (jI v3)), some (.int (jI v7)), some (.int (jI (v14 + (5 * (v18 - 1))))), none]) (st1 := [.ref 49, .int (jI x3), .ref 49]) (σ1 := js E A16) zM_X7_read dX7_read_240 rfl rfl rfl rfl ?_
      refine zw_go (pc1 := 242) (L1 := [some (.ref 49), none, some (.int (jI x2)), some (.int (jI x3)), some (.int (jI x4)), some (.int (jI x5)), some (.int (jI v3)), some (.int (jI v7)), some (.int (jI (v14 + (5 * (v18 - 1))))), none]) (st1 := [.int (jI x3), .ref 49, .int (jI x3), .ref 49]) (σ1 := js E A16) zM_X7_read dX7_read_241 rfl rfl rfl rfl ?_
      refine zw_go (pc1 := 244) (L1 := [some (.ref 49), none, some (.int (jI x2)), some (.int (jI x3)), some (.int (jI x4)), some (.int (jI x5)), some (.int (jI v3)), some (.int (jI v7)), some (.int (jI (v14 + (5 * (v18 - 1))))), none]) (st1 := [.int (jI (v14 + (5 * (v18 - 1)))), .int (jI x3), .ref 49, .int (jI x3), .ref 49]) (σ1 := js E A16) zM_X7_read dX7_read_242 rfl rfl rfl rfl ?_
      refine jw_callI (as := [.ref 49, .int (jI x3), .int (jI (v14 + (5 * (v18 - 1))))]) (rest := [.int (jI x3), .ref 49]) zM_X7_read dX7_read_244 (zx_calV zC_7_201) zM_X7_word rfl rfl rfl rfl rfl (j_args0 rfl rfl) rfl hA17 h (fun v22 A20 rv23 hA21 h => ?_)
      refine zw_go (pc1 := 248) (L1 := [some (.ref 49), none, some (.int (jI x2)), some (.int (jI x3)), some (.int (jI x4)), some (.int (jI x5)), some (.int (jI v3)), some (.int (jI v7)), some (.int (jI (v14 + (5 * (v18 - 1))))), none]) (st1 := [.ref 49, .int (jI v22), .int (jI x3), .ref 49]) (σ1 := js E A20) zM_X7_read dX7_read_247 rfl rfl rfl rfl ?_
      refine zw_go (pc1 := 249) (L1 := [some (.ref 49), none, some (.int (jI x2)), some (.int (jI x3)), some (.int (jI x4)), some (.int (jI x5)), some (.int (jI v3)), some (.int (jI v7)), some (.int (jI (v14 + (5 * (v18 - 1))))), none]) (st1 := [.int (jI x3), .ref 49, .int (jI v22), .int (jI x3), .ref 49]) (σ1 := js E A20) zM_X7_read dX7_read_248 rfl rfl rfl rfl ?_
      refine zw_go (pc1 := 251) (L1 := [some (.ref 49), none, some (.int (jI x2)), some (.int (jI x3)), some (.int (jI x4)), some (.int (jI x5)), some (.int (jI v3)), some (.int (jI v7)), some (.int (jI (v14 + (5 * (v18 - 1))))), none]) (st1 := [.int (jI (v14 + (5 * (v18 - 1)))), .int (jI x3), .ref 49, .int (jI v22), .int (jI x3), .ref 49]) (σ1 := js E A20) zM_X7_read dX7_read_249 rfl rfl rfl rfl ?_
      refine jw_iconst (v := 2) zM_X7_read dX7_read_251 rfl ?_
      refine jw_add zM_X7_read dX7_read_252 ?_
      refine jw_callI (as := [.ref 49, .int (jI x3), .int (jI ((v14 + (5 * (v18 - 1))) + 2))]) (rest := [.int (jI v22), .int (jI x3), .ref 49]) zM_X7_read dX7_read_253 (zx_calV zC_7_201) zM_X7_word rfl rfl rfl rfl rfl (j_args0 rfl rfl) rfl hA21 h (fun v26 A24 rv27 hA25 h => ?_)
      refine zw_go (pc1 := 257) (L1 := [some (.ref 49), none, some (.int (jI x2)), some (.int (jI x3)), some (.int (jI x4)), some (.int (jI x5)), some (.int (jI v3)), some (.int (jI v7)), some (.int (jI (v14 + (5 * (v18 - 1))))), none]) (st1 := [.ref 49, .int (jI v26), .int (jI v22), .int (jI x3), .ref 49]) (σ1 := js E A24) zM_X7_read dX7_read_256 rfl rfl rfl rfl ?_
      refine zw_go (pc1 := 258) (L1 := [some (.ref 49), none, some (.int (jI x2)), some (.int (jI x3)), some (.int (jI x4)), some (.int (jI x5)), some (.int (jI v3)), some (.int (jI v7)), some (.int (jI (v14 + (5 * (v18 - 1))))), none]) (st1 := [.int (jI x3), .ref 49, .int (jI v26), .int (jI v22), .int (jI x3), .ref 49]) (σ1 := js E A24) zM_X7_read dX7_read_257 rfl rfl rfl rfl ?_
      refine zw_go (pc1 := 260) (L1 := [some (.ref 49), none, some (.int (jI x2)), some (.int (jI x3)), some (.int (jI x4)), some (.int (jI x5)), some (.int (jI v3)), some (.int (jI v7)), some (.int (jI (v14 + (5 * (v18 - 1))))), none]) (st1 := [.int (jI x4), .int (jI x3), .ref 49, .int (jI v26), .int (jI v22), .int (jI x3), .ref 49]) (σ1 := js E A24) zM_X7_read dX7_read_258 rfl rfl rfl rfl ?_
      refine jw_bipush (v := 11) zM_X7_read dX7_read_260 (by decide) ?_
      refine jw_add zM_X7_read dX7_read_262 ?_
      refine jw_callI (as := [.ref 49, .int (jI x3), .int (jI (x4 + 11))]) (rest := [.int (jI v26), .int (jI v22), .int (jI x3), .ref 49]) zM_X7_read dX7_read_263 (zx_calV zC_7_198) zM_X7_byteAt rfl rfl rfl rfl rfl (j_args0 rfl rfl) rfl hA25 h (fun v30 A28 rv31 hA29 h => ?_)
      refine zw_go (pc1 := 267) (L1 := [some (.ref 49), none, some (.int (jI x2)), some (.int (jI x3)), some (.int (jI x4)), some (.int (jI x5)), some (.int (jI v3)), some (.int (jI v7)), some (.int (jI (v14 + (5 * (v18 - 1))))), none]) (st1 := [.int (jI x2), .int (jI v30), .int (jI v26), .int (jI v22), .int (jI x3), .ref 49]) (σ1 := js E A28) zM_X7_read dX7_read_266 rfl rfl rfl rfl ?_
      refine zw_go (pc1 := 269) (L1 := [some (.ref 49), none, some (.int (jI x2)), some (.int (jI x3)), some (.int (jI x4)), some (.int (jI x5)), some (.int (jI v3)), some (.int (jI v7)), some (.int (jI (v14 + (5 * (v18 - 1))))), none]) (st1 := [.int (jI v3), .int (jI x2), .int (jI v30), .int (jI v26), .int (jI v22), .int (jI x3), .ref 49]) (σ1 := js E A28) zM_X7_read dX7_read_267 rfl rfl rfl rfl ?_
      obtain ⟨hz32, h⟩ := h
      obtain ⟨hz33, h⟩ := h
      refine jw_rem zM_X7_read dX7_read_269 r_x2 rv4 hz32 hz33 ?_
      refine jw_add zM_X7_read dX7_read_270 ?_
      refine jw_callI (as := [.ref 49, .int (jI x3), .int (jI v22), .int (jI v26), .int (jI (v30 + (x2 % v3)))]) (rest := []) zM_X7_read dX7_read_271 (zx_calV zC_7_293) zM_X7_opened rfl rfl rfl rfl rfl (j_args0 rfl rfl) rfl hA29 h (fun v36 A34 rv37 hA35 h => ?_)
      exact jw_reti zM_X7_read dX7_read_274 rfl rv37 hA35 h
    · replace h := h.2 q
      refine zw_go (pc1 := 133) (L1 := [some (.ref 49), none, some (.int (jI x2)), some (.int (jI x3)), some (.int (jI x4)), some (.int (jI x5)), some (.int (jI v3)), some (.int (jI v7)), none, none]) (st1 := [.ref 49]) (σ1 := js E A5) zM_X7_read dX7_read_132 rfl rfl rfl rfl ?_
      refine zw_go (pc1 := 134) (L1 := [some (.ref 49), none, some (.int (jI x2)), some (.int (jI x3)), some (.int (jI x4)), some (.int (jI x5)), some (.int (jI v3)), some (.int (jI v7)), none, none]) (st1 := [.int (jI x3), .ref 49]) (σ1 := js E A5) zM_X7_read dX7_read_133 rfl rfl rfl rfl ?_
      refine zw_go (pc1 := 136) (L1 := [some (.ref 49), none, some (.int (jI x2)), some (.int (jI x3)), some (.int (jI x4)), some (.int (jI x5)), some (.int (jI v3)), some (.int (jI v7)), none, none]) (st1 := [.int (jI x4), .int (jI x3), .ref 49]) (σ1 := js E A5) zM_X7_read dX7_read_134 rfl rfl rfl rfl ?_
      refine jw_bipush (v := 8) zM_X7_read dX7_read_136 (by decide) ?_
      refine jw_add zM_X7_read dX7_read_138 ?_
      refine jw_callI (as := [.ref 49, .int (jI x3), .int (jI (x4 + 8))]) (rest := []) zM_X7_read dX7_read_139 (zx_calV zC_7_201) zM_X7_word rfl rfl rfl rfl rfl (j_args0 rfl rfl) rfl hA6 h (fun v40 A38 rv41 hA39 h => ?_)
      refine zw_go (pc1 := 144) (L1 := [some (.ref 49), none, some (.int (jI x2)), some (.int (jI x3)), some (.int (jI x4)), some (.int (jI x5)), some (.int (jI v3)), some (.int (jI v7)), some (.int (jI v40)), none]) (st1 := []) (σ1 := js E A38) zM_X7_read dX7_read_142 rfl rfl rfl rfl ?_
      refine jw_iconst (v := 0) zM_X7_read dX7_read_144 rfl ?_
      refine zw_go (pc1 := 147) (L1 := [some (.ref 49), none, some (.int (jI x2)), some (.int (jI x3)), some (.int (jI x4)), some (.int (jI x5)), some (.int (jI v3)), some (.int (jI v7)), some (.int (jI v40)), some (.int (jI 0))]) (st1 := []) (σ1 := js E A38) zM_X7_read dX7_read_145 rfl rfl rfl rfl ?_
      exact zw_weak2 (h hA39) ⟨rfl, rfl, rfl, rfl, rfl, rfl, rfl, trivial⟩
  · replace h := h.2 q
    refine zw_go (pc1 := 89) (L1 := [some (.ref 49), none, some (.int (jI x2)), some (.int (jI x3)), some (.int (jI x4)), some (.int (jI x5)), none, none, none, none]) (st1 := [.int (jI x2)]) (σ1 := js E A) zM_X7_read dX7_read_88 rfl rfl rfl rfl ?_
    refine jw_if_ge (tgt := 97) zM_X7_read dX7_read_89 rfl r_x2 (fun q => ?_) (fun q => ?_)
    · replace h := h.1 q
      refine jw_bipush (v := (-3)) zM_X7_read dX7_read_97 (by decide) ?_
      exact jw_reti zM_X7_read dX7_read_99 rfl (show jW (-3) from ⟨by decide, by decide⟩) hA h
    · replace h := h.2 q
      refine jw_bipush (v := (-2)) zM_X7_read dX7_read_92 (by decide) ?_
      refine zw_goto (tgt := 99) zM_X7_read dX7_read_94 rfl ?_
      exact jw_reti zM_X7_read dX7_read_99 rfl (show jW (-2) from ⟨by decide, by decide⟩) hA h
set_option maxHeartbeats 4000000 in
set_option maxRecDepth 100000 in
theorem vd_X7_read_147 (x2 : Int) (r_x2 : jW x2) (x3 : Int) (r_x3 : jW x3) (x4 : Int) (r_x4 : jW x4) (x6 : Int) (r_x6 : jW x6) (x8 : Int) (r_x8 : jW x8) (x9 : Int) (r_x9 : jW x9) (E : jE) (A : jA) (K : Int → jA → Prop) (h : 0 ≤ x2 ∧ 0 < x6 ∧ jW (x2 / x6) ∧ (((x2 / x6) ≤ x9 → 0 ≤ x2 ∧ 0 < x6 ∧ jrI 210 0 [some (.ref 49), some (.int (jI x3)), some (.int (jI ((x4 + 12) + (2 * (x2 / x6)))))] [] E A (fun v8 A6 => 0 ≤ x2 ∧ 0 < x6 ∧ jrI 192 0 [some (.ref 49), some (.int (jI x3)), some (.int (jI x8)), some (.int (jI v8)), some (.int (jI (x2 % x6))), none, none, none] [] E A6 (fun v14 A12 => K v14 A12))) ∧ (x9 < (x2 / x6) → jrI 210 0 [some (.ref 49), some (.int (jI x3)), some (.int (jI ((x4 + 12) + (2 * x9))))] [] E A (fun v18 A16 => jrI 175 0 [some (.int (jI v18))] [] E A16 (fun v22 A20 => jrI 198 147 [some (.ref 49), none, some (.int (jI x2)), some (.int (jI x3)), some (.int (jI x4)), none, some (.int (jI x6)), none, some (.int (jI (x8 + v22))), some (.int (jI (x9 + 1)))] [] E A20 K))))) : jrI 198 147 [some (.ref 49), none, some (.int (jI x2)), some (.int (jI x3)), some (.int (jI x4)), none, some (.int (jI x6)), none, some (.int (jI x8)), some (.int (jI x9))] [] E A K := by
  intro hA
  refine zw_go (pc1 := 149) (L1 := [some (.ref 49), none, some (.int (jI x2)), some (.int (jI x3)), some (.int (jI x4)), none, some (.int (jI x6)), none, some (.int (jI x8)), some (.int (jI x9))]) (st1 := [.int (jI x9)]) (σ1 := js E A) zM_X7_read dX7_read_147 rfl rfl rfl rfl ?_
  refine zw_go (pc1 := 150) (L1 := [some (.ref 49), none, some (.int (jI x2)), some (.int (jI x3)), some (.int (jI x4)), none, some (.int (jI x6)), none, some (.int (jI x8)), some (.int (jI x9))]) (st1 := [.int (jI x2), .int (jI x9)]) (σ1 := js E A) zM_X7_read dX7_read_149 rfl rfl rfl rfl ?_
  refine zw_go (pc1 := 152) (L1 := [some (.ref 49), none, some (.int (jI x2)), some (.int (jI x3)), some (.int (jI x4)), none, some (.int (jI x6)), none, some (.int (jI x8)), some (.int (jI x9))]) (st1 := [.int (jI x6), .int (jI x2), .int (jI x9)]) (σ1 := js E A) zM_X7_read dX7_read_150 rfl rfl rfl rfl ?_
  obtain ⟨hz1, h⟩ := h
  obtain ⟨hz2, h⟩ := h
  refine jw_div zM_X7_read dX7_read_152 r_x2 r_x6 hz1 hz2 ?_
  obtain ⟨hw3, h⟩ := h
  refine jw_icmp_ge (tgt := 185) zM_X7_read dX7_read_153 rfl r_x9 hw3 (fun q => ?_) (fun q => ?_)
  · replace h := h.1 q
    refine zw_go (pc1 := 186) (L1 := [some (.ref 49), none, some (.int (jI x2)), some (.int (jI x3)), some (.int (jI x4)), none, some (.int (jI x6)), none, some (.int (jI x8)), some (.int (jI x9))]) (st1 := [.ref 49]) (σ1 := js E A) zM_X7_read dX7_read_185 rfl rfl rfl rfl ?_
    refine zw_go (pc1 := 187) (L1 := [some (.ref 49), none, some (.int (jI x2)), some (.int (jI x3)), some (.int (jI x4)), none, some (.int (jI x6)), none, some (.int (jI x8)), some (.int (jI x9))]) (st1 := [.int (jI x3), .ref 49]) (σ1 := js E A) zM_X7_read dX7_read_186 rfl rfl rfl rfl ?_
    refine zw_go (pc1 := 189) (L1 := [some (.ref 49), none, some (.int (jI x2)), some (.int (jI x3)), some (.int (jI x4)), none, some (.int (jI x6)), none, some (.int (jI x8)), some (.int (jI x9))]) (st1 := [.int (jI x8), .int (jI x3), .ref 49]) (σ1 := js E A) zM_X7_read dX7_read_187 rfl rfl rfl rfl ?_
    refine zw_go (pc1 := 190) (L1 := [some (.ref 49), none, some (.int (jI x2)), some (.int (jI x3)), some (.int (jI x4)), none, some (.int (jI x6)), none, some (.int (jI x8)), some (.int (jI x9))]) (st1 := [.ref 49, .int (jI x8), .int (jI x3), .ref 49]) (σ1 := js E A) zM_X7_read dX7_read_189 rfl rfl rfl rfl ?_
    refine zw_go (pc1 := 191) (L1 := [some (.ref 49), none, some (.int (jI x2)), some (.int (jI x3)), some (.int (jI x4)), none, some (.int (jI x6)), none, some (.int (jI x8)), some (.int (jI x9))]) (st1 := [.int (jI x3), .ref 49, .int (jI x8), .int (jI x3), .ref 49]) (σ1 := js E A) zM_X7_read dX7_read_190 rfl rfl rfl rfl ?_
    refine zw_go (pc1 := 193) (L1 := [some (.ref 49), none, some (.int (jI x2)), some (.int (jI x3)), some (.int (jI x4)), none, some (.int (jI x6)), none, some (.int (jI x8)), some (.int (jI x9))]) (st1 := [.int (jI x4), .int (jI x3), .ref 49, .int (jI x8), .int (jI x3), .ref 49]) (σ1 := js E A) zM_X7_read dX7_read_191 rfl rfl rfl rfl ?_
    refine jw_bipush (v := 12) zM_X7_read dX7_read_193 (by decide) ?_
    refine jw_add zM_X7_read dX7_read_195 ?_
    refine jw_iconst (v := 2) zM_X7_read dX7_read_196 rfl ?_
    refine zw_go (pc1 := 198) (L1 := [some (.ref 49), none, some (.int (jI x2)), some (.int (jI x3)), some (.int (jI x4)), none, some (.int (jI x6)), none, some (.int (jI x8)), some (.int (jI x9))]) (st1 := [.int (jI x2), .int (jI 2), .int (jI (x4 + 12)), .int (jI x3), .ref 49, .int (jI x8), .int (jI x3), .ref 49]) (σ1 := js E A) zM_X7_read dX7_read_197 rfl rfl rfl rfl ?_
    refine zw_go (pc1 := 200) (L1 := [some (.ref 49), none, some (.int (jI x2)), some (.int (jI x3)), some (.int (jI x4)), none, some (.int (jI x6)), none, some (.int (jI x8)), some (.int (jI x9))]) (st1 := [.int (jI x6), .int (jI x2), .int (jI 2), .int (jI (x4 + 12)), .int (jI x3), .ref 49, .int (jI x8), .int (jI x3), .ref 49]) (σ1 := js E A) zM_X7_read dX7_read_198 rfl rfl rfl rfl ?_
    obtain ⟨hz4, h⟩ := h
    obtain ⟨hz5, h⟩ := h
    refine jw_div zM_X7_read dX7_read_200 r_x2 r_x6 hz4 hz5 ?_
    refine jw_mul zM_X7_read dX7_read_201 ?_
    refine jw_add zM_X7_read dX7_read_202 ?_
    refine jw_callI (as := [.ref 49, .int (jI x3), .int (jI ((x4 + 12) + (2 * (x2 / x6))))]) (rest := [.int (jI x8), .int (jI x3), .ref 49]) zM_X7_read dX7_read_203 (zx_calV zC_7_201) zM_X7_word rfl rfl rfl rfl rfl (j_args0 rfl rfl) rfl hA h (fun v8 A6 rv9 hA7 h => ?_)
    refine zw_go (pc1 := 207) (L1 := [some (.ref 49), none, some (.int (jI x2)), some (.int (jI x3)), some (.int (jI x4)), none, some (.int (jI x6)), none, some (.int (jI x8)), some (.int (jI x9))]) (st1 := [.int (jI x2), .int (jI v8), .int (jI x8), .int (jI x3), .ref 49]) (σ1 := js E A6) zM_X7_read dX7_read_206 rfl rfl rfl rfl ?_
    refine zw_go (pc1 := 209) (L1 := [some (.ref 49), none, some (.int (jI x2)), some (.int (jI x3)), some (.int (jI x4)), none, some (.int (jI x6)), none, some (.int (jI x8)), some (.int (jI x9))]) (st1 := [.int (jI x6), .int (jI x2), .int (jI v8), .int (jI x8), .int (jI x3), .ref 49]) (σ1 := js E A6) zM_X7_read dX7_read_207 rfl rfl rfl rfl ?_
    obtain ⟨hz10, h⟩ := h
    obtain ⟨hz11, h⟩ := h
    refine jw_rem zM_X7_read dX7_read_209 r_x2 r_x6 hz10 hz11 ?_
    refine jw_callI (as := [.ref 49, .int (jI x3), .int (jI x8), .int (jI v8), .int (jI (x2 % x6))]) (rest := []) zM_X7_read dX7_read_210 (zx_calV zC_7_293) zM_X7_opened rfl rfl rfl rfl rfl (j_args0 rfl rfl) rfl hA7 h (fun v14 A12 rv15 hA13 h => ?_)
    exact jw_reti zM_X7_read dX7_read_213 rfl rv15 hA13 h
  · replace h := h.2 q
    refine zw_go (pc1 := 158) (L1 := [some (.ref 49), none, some (.int (jI x2)), some (.int (jI x3)), some (.int (jI x4)), none, some (.int (jI x6)), none, some (.int (jI x8)), some (.int (jI x9))]) (st1 := [.int (jI x8)]) (σ1 := js E A) zM_X7_read dX7_read_156 rfl rfl rfl rfl ?_
    refine zw_go (pc1 := 159) (L1 := [some (.ref 49), none, some (.int (jI x2)), some (.int (jI x3)), some (.int (jI x4)), none, some (.int (jI x6)), none, some (.int (jI x8)), some (.int (jI x9))]) (st1 := [.ref 49, .int (jI x8)]) (σ1 := js E A) zM_X7_read dX7_read_158 rfl rfl rfl rfl ?_
    refine zw_go (pc1 := 160) (L1 := [some (.ref 49), none, some (.int (jI x2)), some (.int (jI x3)), some (.int (jI x4)), none, some (.int (jI x6)), none, some (.int (jI x8)), some (.int (jI x9))]) (st1 := [.int (jI x3), .ref 49, .int (jI x8)]) (σ1 := js E A) zM_X7_read dX7_read_159 rfl rfl rfl rfl ?_
    refine zw_go (pc1 := 162) (L1 := [some (.ref 49), none, some (.int (jI x2)), some (.int (jI x3)), some (.int (jI x4)), none, some (.int (jI x6)), none, some (.int (jI x8)), some (.int (jI x9))]) (st1 := [.int (jI x4), .int (jI x3), .ref 49, .int (jI x8)]) (σ1 := js E A) zM_X7_read dX7_read_160 rfl rfl rfl rfl ?_
    refine jw_bipush (v := 12) zM_X7_read dX7_read_162 (by decide) ?_
    refine jw_add zM_X7_read dX7_read_164 ?_
    refine jw_iconst (v := 2) zM_X7_read dX7_read_165 rfl ?_
    refine zw_go (pc1 := 168) (L1 := [some (.ref 49), none, some (.int (jI x2)), some (.int (jI x3)), some (.int (jI x4)), none, some (.int (jI x6)), none, some (.int (jI x8)), some (.int (jI x9))]) (st1 := [.int (jI x9), .int (jI 2), .int (jI (x4 + 12)), .int (jI x3), .ref 49, .int (jI x8)]) (σ1 := js E A) zM_X7_read dX7_read_166 rfl rfl rfl rfl ?_
    refine jw_mul zM_X7_read dX7_read_168 ?_
    refine jw_add zM_X7_read dX7_read_169 ?_
    refine jw_callI (as := [.ref 49, .int (jI x3), .int (jI ((x4 + 12) + (2 * x9)))]) (rest := [.int (jI x8)]) zM_X7_read dX7_read_170 (zx_calV zC_7_201) zM_X7_word rfl rfl rfl rfl rfl (j_args0 rfl rfl) rfl hA h (fun v18 A16 rv19 hA17 h => ?_)
    refine jw_callI (as := [.int (jI v18)]) (rest := [.int (jI x8)]) zM_X7_read dX7_read_173 (zx_calS zC_7_204) zM_X7_lies rfl rfl rfl rfl rfl rfl rfl hA17 h (fun v22 A20 rv23 hA21 h => ?_)
    refine jw_add zM_X7_read dX7_read_176 ?_
    refine zw_go (pc1 := 179) (L1 := [some (.ref 49), none, some (.int (jI x2)), some (.int (jI x3)), some (.int (jI x4)), none, some (.int (jI x6)), none, some (.int (jI (x8 + v22))), some (.int (jI x9))]) (st1 := []) (σ1 := js E A20) zM_X7_read dX7_read_177 rfl rfl rfl rfl ?_
    refine jw_iinc (x := x9) (L1 := [some (.ref 49), none, some (.int (jI x2)), some (.int (jI x3)), some (.int (jI x4)), none, some (.int (jI x6)), none, some (.int (jI (x8 + v22))), some (.int (jI (x9 + 1)))]) zM_X7_read dX7_read_179 rfl (show 9 < 10 by decide) rfl ?_
    refine zw_goto (tgt := 147) zM_X7_read dX7_read_182 rfl ?_
    exact zw_weak2 (h hA21) ⟨rfl, rfl, rfl, rfl, rfl, rfl, rfl, trivial⟩
set_option maxHeartbeats 4000000 in
set_option maxRecDepth 100000 in
theorem vd_X7_same_0 (x1 : Int) (r_x1 : jW x1) (x2 : Int) (r_x2 : jW x2) (E : jE) (A : jA) (K : Int → jA → Prop) (h : ∀ A1 : jA, A1 = jup A 49 0 0 → jrI 165 0 [some (.ref 49), some (.int (jI x1))] [] E A1 (fun v6 A4 => ((v6 = (0 : Int) → K (-1) A4) ∧ (¬ v6 = (0 : Int) → jrI 165 0 [some (.ref 49), some (.int (jI x2))] [] E A4 (fun v10 A8 => ((¬ v10 = (0 : Int) → (0 ≤ x1 ∧ x1 < 3) ∧ (0 ≤ x2 ∧ x2 < 3) ∧ ((¬ (A8 59 x1) = (A8 59 x2) → jrI 199 43 [some (.ref 49), some (.int (jI x1)), some (.int (jI x2)), none, none] [.int (jI 0)] E A8 K) ∧ ((A8 59 x1) = (A8 59 x2) → jrI 199 43 [some (.ref 49), some (.int (jI x1)), some (.int (jI x2)), none, none] [.int (jI 1)] E A8 K))) ∧ (v10 = (0 : Int) → K (-1) A8))))))) : jrI 199 0 [some (.ref 49), some (.int (jI x1)), some (.int (jI x2)), none, none] [] E A K := by
  intro hA
  refine zw_go (pc1 := 1) (L1 := [some (.ref 49), some (.int (jI x1)), some (.int (jI x2)), none, none]) (st1 := [.ref 49]) (σ1 := js E A) zM_X7_same dX7_same_0 rfl rfl rfl rfl ?_
  refine jw_iconst (v := 0) zM_X7_same dX7_same_1 rfl ?_
  obtain ⟨A1, e2⟩ : ∃ z9 : jA, z9 = jup A 49 0 0 := ⟨_, rfl⟩
  replace h := h A1 e2
  have hA3 : jOK A1 := jOK.up hA (show jW 0 from ⟨by decide, by decide⟩) e2
  refine jw_putI zM_X7_same dX7_same_2 zF_7_98 rfl rfl rfl rfl e2 ?_
  refine zw_go (pc1 := 6) (L1 := [some (.ref 49), some (.int (jI x1)), some (.int (jI x2)), none, none]) (st1 := [.ref 49]) (σ1 := js E A1) zM_X7_same dX7_same_5 rfl rfl rfl rfl ?_
  refine zw_go (pc1 := 7) (L1 := [some (.ref 49), some (.int (jI x1)), some (.int (jI x2)), none, none]) (st1 := [.int (jI x1), .ref 49]) (σ1 := js E A1) zM_X7_same dX7_same_6 rfl rfl rfl rfl ?_
  refine jw_callI (as := [.ref 49, .int (jI x1)]) (rest := []) zM_X7_same dX7_same_7 (zx_calV zC_7_263) zM_X7_isImage rfl rfl rfl rfl rfl (j_args0 rfl rfl) rfl hA3 h (fun v6 A4 rv7 hA5 h => ?_)
  refine jw_if_eq (tgt := 21) zM_X7_same dX7_same_10 rfl rv7 (fun q => ?_) (fun q => ?_)
  · replace h := h.1 q
    refine jw_iconst (v := (-1)) zM_X7_same dX7_same_21 rfl ?_
    exact jw_reti zM_X7_same dX7_same_22 rfl (show jW (-1) from ⟨by decide, by decide⟩) hA5 h
  · replace h := h.2 q
    refine zw_go (pc1 := 14) (L1 := [some (.ref 49), some (.int (jI x1)), some (.int (jI x2)), none, none]) (st1 := [.ref 49]) (σ1 := js E A4) zM_X7_same dX7_same_13 rfl rfl rfl rfl ?_
    refine zw_go (pc1 := 15) (L1 := [some (.ref 49), some (.int (jI x1)), some (.int (jI x2)), none, none]) (st1 := [.int (jI x2), .ref 49]) (σ1 := js E A4) zM_X7_same dX7_same_14 rfl rfl rfl rfl ?_
    refine jw_callI (as := [.ref 49, .int (jI x2)]) (rest := []) zM_X7_same dX7_same_15 (zx_calV zC_7_263) zM_X7_isImage rfl rfl rfl rfl rfl (j_args0 rfl rfl) rfl hA5 h (fun v10 A8 rv11 hA9 h => ?_)
    refine jw_if_ne (tgt := 23) zM_X7_same dX7_same_18 rfl rv11 (fun q => ?_) (fun q => ?_)
    · replace h := h.1 q
      refine zw_go (pc1 := 24) (L1 := [some (.ref 49), some (.int (jI x1)), some (.int (jI x2)), none, none]) (st1 := [.ref 49]) (σ1 := js E A8) zM_X7_same dX7_same_23 rfl rfl rfl rfl ?_
      refine jw_getR (a := 59) zM_X7_same dX7_same_24 zF_7_37 rfl rfl rfl ?_
      refine zw_go (pc1 := 28) (L1 := [some (.ref 49), some (.int (jI x1)), some (.int (jI x2)), none, none]) (st1 := [.int (jI x1), .ref 59]) (σ1 := js E A8) zM_X7_same dX7_same_27 rfl rfl rfl rfl ?_
      obtain ⟨hi12, h⟩ := h
      refine jw_iald zM_X7_same dX7_same_28 rfl rfl hi12 ?_
      refine zw_go (pc1 := 30) (L1 := [some (.ref 49), some (.int (jI x1)), some (.int (jI x2)), none, none]) (st1 := [.ref 49, .int (jI (A8 59 x1))]) (σ1 := js E A8) zM_X7_same dX7_same_29 rfl rfl rfl rfl ?_
      refine jw_getR (a := 59) zM_X7_same dX7_same_30 zF_7_37 rfl rfl rfl ?_
      refine zw_go (pc1 := 34) (L1 := [some (.ref 49), some (.int (jI x1)), some (.int (jI x2)), none, none]) (st1 := [.int (jI x2), .ref 59, .int (jI (A8 59 x1))]) (σ1 := js E A8) zM_X7_same dX7_same_33 rfl rfl rfl rfl ?_
      obtain ⟨hi13, h⟩ := h
      refine jw_iald zM_X7_same dX7_same_34 rfl rfl hi13 ?_
      refine jw_icmp_ne (tgt := 42) zM_X7_same dX7_same_35 rfl (hA9 59 x1) (hA9 59 x2) (fun q => ?_) (fun q => ?_)
      · replace h := h.1 q
        refine jw_iconst (v := 0) zM_X7_same dX7_same_42 rfl ?_
        exact zw_weak2 (h hA9) ⟨rfl, rfl, rfl, trivial⟩
      · replace h := h.2 q
        refine jw_iconst (v := 1) zM_X7_same dX7_same_38 rfl ?_
        refine zw_goto (tgt := 43) zM_X7_same dX7_same_39 rfl ?_
        exact zw_weak2 (h hA9) ⟨rfl, rfl, rfl, trivial⟩
    · replace h := h.2 q
      refine jw_iconst (v := (-1)) zM_X7_same dX7_same_21 rfl ?_
      exact jw_reti zM_X7_same dX7_same_22 rfl (show jW (-1) from ⟨by decide, by decide⟩) hA9 h
set_option maxHeartbeats 4000000 in
set_option maxRecDepth 100000 in
theorem vd_X7_same_43 (x1 : Int) (r_x1 : jW x1) (x2 : Int) (r_x2 : jW x2) (y0 : Int) (r_y0 : jW y0) (E : jE) (A : jA) (K : Int → jA → Prop) (h : jrI 199 47 [some (.ref 49), some (.int (jI x1)), some (.int (jI x2)), some (.int (jI y0)), some (.int (jI 0))] [] E A K) : jrI 199 43 [some (.ref 49), some (.int (jI x1)), some (.int (jI x2)), none, none] [.int (jI y0)] E A K := by
  intro hA
  refine zw_go (pc1 := 44) (L1 := [some (.ref 49), some (.int (jI x1)), some (.int (jI x2)), some (.int (jI y0)), none]) (st1 := []) (σ1 := js E A) zM_X7_same dX7_same_43 rfl rfl rfl rfl ?_
  refine jw_iconst (v := 0) zM_X7_same dX7_same_44 rfl ?_
  refine zw_go (pc1 := 47) (L1 := [some (.ref 49), some (.int (jI x1)), some (.int (jI x2)), some (.int (jI y0)), some (.int (jI 0))]) (st1 := []) (σ1 := js E A) zM_X7_same dX7_same_45 rfl rfl rfl rfl ?_
  exact zw_weak2 (h hA) ⟨rfl, rfl, rfl, rfl, rfl, trivial⟩
set_option maxHeartbeats 4000000 in
set_option maxRecDepth 100000 in
theorem vd_X7_same_47 (x1 : Int) (r_x1 : jW x1) (x2 : Int) (r_x2 : jW x2) (x3 : Int) (r_x3 : jW x3) (x4 : Int) (r_x4 : jW x4) (E : jE) (A : jA) (K : Int → jA → Prop) (h : (0 ≤ x1 ∧ x1 < 3) ∧ (((A 59 x1) ≤ x4 → jrI 199 91 [none, none, none, some (.int (jI x3)), none] [] E A K) ∧ (x4 < (A 59 x1) → ((x3 = (0 : Int) → jrI 199 91 [none, none, none, some (.int (jI x3)), none] [] E A K) ∧ (¬ x3 = (0 : Int) → jrI 143 0 [some (.ref 49), some (.int (jI x1)), some (.int (jI x4))] [] E A (fun v4 A2 => jrI 143 0 [some (.ref 49), some (.int (jI x2)), some (.int (jI x4))] [] E A2 (fun v8 A6 => ((¬ v4 = v8 → jrI 199 84 [some (.ref 49), some (.int (jI x1)), some (.int (jI x2)), none, some (.int (jI x4))] [.int (jI 0)] E A6 K) ∧ (v4 = v8 → jrI 199 84 [some (.ref 49), some (.int (jI x1)), some (.int (jI x2)), none, some (.int (jI x4))] [.int (jI 1)] E A6 K))))))))) : jrI 199 47 [some (.ref 49), some (.int (jI x1)), some (.int (jI x2)), some (.int (jI x3)), some (.int (jI x4))] [] E A K := by
  intro hA
  refine zw_go (pc1 := 49) (L1 := [some (.ref 49), some (.int (jI x1)), some (.int (jI x2)), some (.int (jI x3)), some (.int (jI x4))]) (st1 := [.int (jI x4)]) (σ1 := js E A) zM_X7_same dX7_same_47 rfl rfl rfl rfl ?_
  refine zw_go (pc1 := 50) (L1 := [some (.ref 49), some (.int (jI x1)), some (.int (jI x2)), some (.int (jI x3)), some (.int (jI x4))]) (st1 := [.ref 49, .int (jI x4)]) (σ1 := js E A) zM_X7_same dX7_same_49 rfl rfl rfl rfl ?_
  refine jw_getR (a := 59) zM_X7_same dX7_same_50 zF_7_37 rfl rfl rfl ?_
  refine zw_go (pc1 := 54) (L1 := [some (.ref 49), some (.int (jI x1)), some (.int (jI x2)), some (.int (jI x3)), some (.int (jI x4))]) (st1 := [.int (jI x1), .ref 59, .int (jI x4)]) (σ1 := js E A) zM_X7_same dX7_same_53 rfl rfl rfl rfl ?_
  obtain ⟨hi1, h⟩ := h
  refine jw_iald zM_X7_same dX7_same_54 rfl rfl hi1 ?_
  refine jw_icmp_ge (tgt := 91) zM_X7_same dX7_same_55 rfl r_x4 (hA 59 x1) (fun q => ?_) (fun q => ?_)
  · replace h := h.1 q
    exact zw_weak2 (h hA) ⟨rfl, trivial⟩
  · replace h := h.2 q
    refine zw_go (pc1 := 59) (L1 := [some (.ref 49), some (.int (jI x1)), some (.int (jI x2)), some (.int (jI x3)), some (.int (jI x4))]) (st1 := [.int (jI x3)]) (σ1 := js E A) zM_X7_same dX7_same_58 rfl rfl rfl rfl ?_
    refine jw_if_eq (tgt := 91) zM_X7_same dX7_same_59 rfl r_x3 (fun q => ?_) (fun q => ?_)
    · replace h := h.1 q
      exact zw_weak2 (h hA) ⟨rfl, trivial⟩
    · replace h := h.2 q
      refine zw_go (pc1 := 63) (L1 := [some (.ref 49), some (.int (jI x1)), some (.int (jI x2)), some (.int (jI x3)), some (.int (jI x4))]) (st1 := [.ref 49]) (σ1 := js E A) zM_X7_same dX7_same_62 rfl rfl rfl rfl ?_
      refine zw_go (pc1 := 64) (L1 := [some (.ref 49), some (.int (jI x1)), some (.int (jI x2)), some (.int (jI x3)), some (.int (jI x4))]) (st1 := [.int (jI x1), .ref 49]) (σ1 := js E A) zM_X7_same dX7_same_63 rfl rfl rfl rfl ?_
      refine zw_go (pc1 := 66) (L1 := [some (.ref 49), some (.int (jI x1)), some (.int (jI x2)), some (.int (jI x3)), some (.int (jI x4))]) (st1 := [.int (jI x4), .int (jI x1), .ref 49]) (σ1 := js E A) zM_X7_same dX7_same_64 rfl rfl rfl rfl ?_
      refine jw_callI (as := [.ref 49, .int (jI x1), .int (jI x4)]) (rest := []) zM_X7_same dX7_same_66 (zx_calV zC_7_198) zM_X7_byteAt rfl rfl rfl rfl rfl (j_args0 rfl rfl) rfl hA h (fun v4 A2 rv5 hA3 h => ?_)
      refine zw_go (pc1 := 70) (L1 := [some (.ref 49), some (.int (jI x1)), some (.int (jI x2)), some (.int (jI x3)), some (.int (jI x4))]) (st1 := [.ref 49, .int (jI v4)]) (σ1 := js E A2) zM_X7_same dX7_same_69 rfl rfl rfl rfl ?_
      refine zw_go (pc1 := 71) (L1 := [some (.ref 49), some (.int (jI x1)), some (.int (jI x2)), some (.int (jI x3)), some (.int (jI x4))]) (st1 := [.int (jI x2), .ref 49, .int (jI v4)]) (σ1 := js E A2) zM_X7_same dX7_same_70 rfl rfl rfl rfl ?_
      refine zw_go (pc1 := 73) (L1 := [some (.ref 49), some (.int (jI x1)), some (.int (jI x2)), some (.int (jI x3)), some (.int (jI x4))]) (st1 := [.int (jI x4), .int (jI x2), .ref 49, .int (jI v4)]) (σ1 := js E A2) zM_X7_same dX7_same_71 rfl rfl rfl rfl ?_
      refine jw_callI (as := [.ref 49, .int (jI x2), .int (jI x4)]) (rest := [.int (jI v4)]) zM_X7_same dX7_same_73 (zx_calV zC_7_198) zM_X7_byteAt rfl rfl rfl rfl rfl (j_args0 rfl rfl) rfl hA3 h (fun v8 A6 rv9 hA7 h => ?_)
      refine jw_icmp_ne (tgt := 83) zM_X7_same dX7_same_76 rfl rv5 rv9 (fun q => ?_) (fun q => ?_)
      · replace h := h.1 q
        refine jw_iconst (v := 0) zM_X7_same dX7_same_83 rfl ?_
        exact zw_weak2 (h hA7) ⟨rfl, rfl, rfl, rfl, trivial⟩
      · replace h := h.2 q
        refine jw_iconst (v := 1) zM_X7_same dX7_same_79 rfl ?_
        refine zw_goto (tgt := 84) zM_X7_same dX7_same_80 rfl ?_
        exact zw_weak2 (h hA7) ⟨rfl, rfl, rfl, rfl, trivial⟩
set_option maxHeartbeats 4000000 in
set_option maxRecDepth 100000 in
theorem vd_X7_same_84 (x1 : Int) (r_x1 : jW x1) (x2 : Int) (r_x2 : jW x2) (x4 : Int) (r_x4 : jW x4) (y0 : Int) (r_y0 : jW y0) (E : jE) (A : jA) (K : Int → jA → Prop) (h : jrI 199 47 [some (.ref 49), some (.int (jI x1)), some (.int (jI x2)), some (.int (jI y0)), some (.int (jI (x4 + 1)))] [] E A K) : jrI 199 84 [some (.ref 49), some (.int (jI x1)), some (.int (jI x2)), none, some (.int (jI x4))] [.int (jI y0)] E A K := by
  intro hA
  refine zw_go (pc1 := 85) (L1 := [some (.ref 49), some (.int (jI x1)), some (.int (jI x2)), some (.int (jI y0)), some (.int (jI x4))]) (st1 := []) (σ1 := js E A) zM_X7_same dX7_same_84 rfl rfl rfl rfl ?_
  refine jw_iinc (x := x4) (L1 := [some (.ref 49), some (.int (jI x1)), some (.int (jI x2)), some (.int (jI y0)), some (.int (jI (x4 + 1)))]) zM_X7_same dX7_same_85 rfl (show 4 < 5 by decide) rfl ?_
  refine zw_goto (tgt := 47) zM_X7_same dX7_same_88 rfl ?_
  exact zw_weak2 (h hA) ⟨rfl, rfl, rfl, rfl, rfl, trivial⟩
set_option maxHeartbeats 4000000 in
set_option maxRecDepth 100000 in
theorem vd_X7_same_91 (x3 : Int) (r_x3 : jW x3) (E : jE) (A : jA) (K : Int → jA → Prop) (h : ((x3 = (0 : Int) → K 0 A) ∧ (¬ x3 = (0 : Int) → K 1 A))) : jrI 199 91 [none, none, none, some (.int (jI x3)), none] [] E A K := by
  intro hA
  refine zw_go (pc1 := 92) (L1 := [none, none, none, some (.int (jI x3)), none]) (st1 := [.int (jI x3)]) (σ1 := js E A) zM_X7_same dX7_same_91 rfl rfl rfl rfl ?_
  refine jw_if_eq (tgt := 99) zM_X7_same dX7_same_92 rfl r_x3 (fun q => ?_) (fun q => ?_)
  · replace h := h.1 q
    refine jw_iconst (v := 0) zM_X7_same dX7_same_99 rfl ?_
    exact jw_reti zM_X7_same dX7_same_100 rfl (show jW 0 from ⟨by decide, by decide⟩) hA h
  · replace h := h.2 q
    refine jw_iconst (v := 1) zM_X7_same dX7_same_95 rfl ?_
    refine zw_goto (tgt := 100) zM_X7_same dX7_same_96 rfl ?_
    exact jw_reti zM_X7_same dX7_same_100 rfl (show jW 1 from ⟨by decide, by decide⟩) hA h
