set_option maxHeartbeats 4000000 in
set_option maxRecDepth 100000 in
theorem vd_X7_judge_0 (x1 : Int) (r_x1 : jW x1) (E : jE) (A : jA) (K : Int → jA → Prop) (h : (0 ≤ x1 ∧ x1 < 3) ∧ (((A 59 x1) < (18 : Int) → K 1 A) ∧ ((18 : Int) ≤ (A 59 x1) → jrI 143 0 [some (.ref 49), some (.int (jI x1)), some (.int (jI 0))] [] E A (fun v4 A2 => ((¬ v4 = (84 : Int) → K 1 A2) ∧ (v4 = (84 : Int) → jrI 143 0 [some (.ref 49), some (.int (jI x1)), some (.int (jI 1))] [] E A2 (fun v8 A6 => ((¬ v8 = (73 : Int) → K 1 A6) ∧ (v8 = (73 : Int) → jrI 143 0 [some (.ref 49), some (.int (jI x1)), some (.int (jI 3))] [] E A6 (fun v12 A10 => ((v12 = (0 : Int) → jrI 143 0 [some (.ref 49), some (.int (jI x1)), some (.int (jI 2))] [] E A10 (fun v16 A14 => ((v16 = (8 : Int) → jrI 172 71 [some (.ref 49), some (.int (jI x1)), some (.int (jI v16)), none, none] [] E A14 K) ∧ (¬ v16 = (8 : Int) → ((v16 = (16 : Int) → jrI 172 71 [some (.ref 49), some (.int (jI x1)), some (.int (jI v16)), none, none] [] E A14 K) ∧ (¬ v16 = (16 : Int) → ((v16 = (32 : Int) → jrI 172 71 [some (.ref 49), some (.int (jI x1)), some (.int (jI v16)), none, none] [] E A14 K) ∧ (¬ v16 = (32 : Int) → K 1 A14)))))))) ∧ (¬ v12 = (0 : Int) → K 1 A10)))))))))))) : jrI 172 0 [some (.ref 49), some (.int (jI x1)), none, none, none] [] E A K := by
  intro hA
  refine zw_go (pc1 := 1) (L1 := [some (.ref 49), some (.int (jI x1)), none, none, none]) (st1 := [.ref 49]) (σ1 := js E A) zM_X7_judge dX7_judge_0 rfl rfl rfl rfl ?_
  refine jw_getR (a := 59) zM_X7_judge dX7_judge_1 zF_7_37 rfl rfl rfl ?_
  refine zw_go (pc1 := 5) (L1 := [some (.ref 49), some (.int (jI x1)), none, none, none]) (st1 := [.int (jI x1), .ref 59]) (σ1 := js E A) zM_X7_judge dX7_judge_4 rfl rfl rfl rfl ?_
  obtain ⟨hi1, h⟩ := h
  refine jw_iald zM_X7_judge dX7_judge_5 rfl rfl hi1 ?_
  refine jw_bipush (v := 18) zM_X7_judge dX7_judge_6 (by decide) ?_
  refine jw_icmp_lt (tgt := 42) zM_X7_judge dX7_judge_8 rfl (hA 59 x1) (show jW 18 from ⟨by decide, by decide⟩) (fun q => ?_) (fun q => ?_)
  · replace h := h.1 q
    refine jw_iconst (v := 1) zM_X7_judge dX7_judge_42 rfl ?_
    exact jw_reti zM_X7_judge dX7_judge_43 rfl (show jW 1 from ⟨by decide, by decide⟩) hA h
  · replace h := h.2 q
    refine zw_go (pc1 := 12) (L1 := [some (.ref 49), some (.int (jI x1)), none, none, none]) (st1 := [.ref 49]) (σ1 := js E A) zM_X7_judge dX7_judge_11 rfl rfl rfl rfl ?_
    refine zw_go (pc1 := 13) (L1 := [some (.ref 49), some (.int (jI x1)), none, none, none]) (st1 := [.int (jI x1), .ref 49]) (σ1 := js E A) zM_X7_judge dX7_judge_12 rfl rfl rfl rfl ?_
    refine jw_iconst (v := 0) zM_X7_judge dX7_judge_13 rfl ?_
    refine jw_callI (as := [.ref 49, .int (jI x1), .int (jI 0)]) (rest := []) zM_X7_judge dX7_judge_14 (zx_calV zC_7_198) zM_X7_byteAt rfl rfl rfl rfl rfl (j_args0 rfl rfl) rfl hA h (fun v4 A2 rv5 hA3 h => ?_)
    refine jw_bipush (v := 84) zM_X7_judge dX7_judge_17 (by decide) ?_
    refine jw_icmp_ne (tgt := 42) zM_X7_judge dX7_judge_19 rfl rv5 (show jW 84 from ⟨by decide, by decide⟩) (fun q => ?_) (fun q => ?_)
    · replace h := h.1 q
      refine jw_iconst (v := 1) zM_X7_judge dX7_judge_42 rfl ?_
      exact jw_reti zM_X7_judge dX7_judge_43 rfl (show jW 1 from ⟨by decide, by decide⟩) hA3 h
    · replace h := h.2 q
      refine zw_go (pc1 := 23) (L1 := [some (.ref 49), some (.int (jI x1)), none, none, none]) (st1 := [.ref 49]) (σ1 := js E A2) zM_X7_judge dX7_judge_22 rfl rfl rfl rfl ?_
      refine zw_go (pc1 := 24) (L1 := [some (.ref 49), some (.int (jI x1)), none, none, none]) (st1 := [.int (jI x1), .ref 49]) (σ1 := js E A2) zM_X7_judge dX7_judge_23 rfl rfl rfl rfl ?_
      refine jw_iconst (v := 1) zM_X7_judge dX7_judge_24 rfl ?_
      refine jw_callI (as := [.ref 49, .int (jI x1), .int (jI 1)]) (rest := []) zM_X7_judge dX7_judge_25 (zx_calV zC_7_198) zM_X7_byteAt rfl rfl rfl rfl rfl (j_args0 rfl rfl) rfl hA3 h (fun v8 A6 rv9 hA7 h => ?_)
      refine jw_bipush (v := 73) zM_X7_judge dX7_judge_28 (by decide) ?_
      refine jw_icmp_ne (tgt := 42) zM_X7_judge dX7_judge_30 rfl rv9 (show jW 73 from ⟨by decide, by decide⟩) (fun q => ?_) (fun q => ?_)
      · replace h := h.1 q
        refine jw_iconst (v := 1) zM_X7_judge dX7_judge_42 rfl ?_
        exact jw_reti zM_X7_judge dX7_judge_43 rfl (show jW 1 from ⟨by decide, by decide⟩) hA7 h
      · replace h := h.2 q
        refine zw_go (pc1 := 34) (L1 := [some (.ref 49), some (.int (jI x1)), none, none, none]) (st1 := [.ref 49]) (σ1 := js E A6) zM_X7_judge dX7_judge_33 rfl rfl rfl rfl ?_
        refine zw_go (pc1 := 35) (L1 := [some (.ref 49), some (.int (jI x1)), none, none, none]) (st1 := [.int (jI x1), .ref 49]) (σ1 := js E A6) zM_X7_judge dX7_judge_34 rfl rfl rfl rfl ?_
        refine jw_iconst (v := 3) zM_X7_judge dX7_judge_35 rfl ?_
        refine jw_callI (as := [.ref 49, .int (jI x1), .int (jI 3)]) (rest := []) zM_X7_judge dX7_judge_36 (zx_calV zC_7_198) zM_X7_byteAt rfl rfl rfl rfl rfl (j_args0 rfl rfl) rfl hA7 h (fun v12 A10 rv13 hA11 h => ?_)
        refine jw_if_eq (tgt := 44) zM_X7_judge dX7_judge_39 rfl rv13 (fun q => ?_) (fun q => ?_)
        · replace h := h.1 q
          refine zw_go (pc1 := 45) (L1 := [some (.ref 49), some (.int (jI x1)), none, none, none]) (st1 := [.ref 49]) (σ1 := js E A10) zM_X7_judge dX7_judge_44 rfl rfl rfl rfl ?_
          refine zw_go (pc1 := 46) (L1 := [some (.ref 49), some (.int (jI x1)), none, none, none]) (st1 := [.int (jI x1), .ref 49]) (σ1 := js E A10) zM_X7_judge dX7_judge_45 rfl rfl rfl rfl ?_
          refine jw_iconst (v := 2) zM_X7_judge dX7_judge_46 rfl ?_
          refine jw_callI (as := [.ref 49, .int (jI x1), .int (jI 2)]) (rest := []) zM_X7_judge dX7_judge_47 (zx_calV zC_7_198) zM_X7_byteAt rfl rfl rfl rfl rfl (j_args0 rfl rfl) rfl hA11 h (fun v16 A14 rv17 hA15 h => ?_)
          refine zw_go (pc1 := 51) (L1 := [some (.ref 49), some (.int (jI x1)), some (.int (jI v16)), none, none]) (st1 := []) (σ1 := js E A14) zM_X7_judge dX7_judge_50 rfl rfl rfl rfl ?_
          refine zw_go (pc1 := 52) (L1 := [some (.ref 49), some (.int (jI x1)), some (.int (jI v16)), none, none]) (st1 := [.int (jI v16)]) (σ1 := js E A14) zM_X7_judge dX7_judge_51 rfl rfl rfl rfl ?_
          refine jw_bipush (v := 8) zM_X7_judge dX7_judge_52 (by decide) ?_
          refine jw_icmp_eq (tgt := 71) zM_X7_judge dX7_judge_54 rfl rv17 (show jW 8 from ⟨by decide, by decide⟩) (fun q => ?_) (fun q => ?_)
          · replace h := h.1 q
            exact zw_weak2 (h hA15) ⟨rfl, rfl, rfl, trivial⟩
          · replace h := h.2 q
            refine zw_go (pc1 := 58) (L1 := [some (.ref 49), some (.int (jI x1)), some (.int (jI v16)), none, none]) (st1 := [.int (jI v16)]) (σ1 := js E A14) zM_X7_judge dX7_judge_57 rfl rfl rfl rfl ?_
            refine jw_bipush (v := 16) zM_X7_judge dX7_judge_58 (by decide) ?_
            refine jw_icmp_eq (tgt := 71) zM_X7_judge dX7_judge_60 rfl rv17 (show jW 16 from ⟨by decide, by decide⟩) (fun q => ?_) (fun q => ?_)
            · replace h := h.1 q
              exact zw_weak2 (h hA15) ⟨rfl, rfl, rfl, trivial⟩
            · replace h := h.2 q
              refine zw_go (pc1 := 64) (L1 := [some (.ref 49), some (.int (jI x1)), some (.int (jI v16)), none, none]) (st1 := [.int (jI v16)]) (σ1 := js E A14) zM_X7_judge dX7_judge_63 rfl rfl rfl rfl ?_
              refine jw_bipush (v := 32) zM_X7_judge dX7_judge_64 (by decide) ?_
              refine jw_icmp_eq (tgt := 71) zM_X7_judge dX7_judge_66 rfl rv17 (show jW 32 from ⟨by decide, by decide⟩) (fun q => ?_) (fun q => ?_)
              · replace h := h.1 q
                exact zw_weak2 (h hA15) ⟨rfl, rfl, rfl, trivial⟩
              · replace h := h.2 q
                refine jw_iconst (v := 1) zM_X7_judge dX7_judge_69 rfl ?_
                exact jw_reti zM_X7_judge dX7_judge_70 rfl (show jW 1 from ⟨by decide, by decide⟩) hA15 h
        · replace h := h.2 q
          refine jw_iconst (v := 1) zM_X7_judge dX7_judge_42 rfl ?_
          exact jw_reti zM_X7_judge dX7_judge_43 rfl (show jW 1 from ⟨by decide, by decide⟩) hA11 h
set_option maxHeartbeats 4000000 in
set_option maxRecDepth 100000 in
theorem vd_X7_judge_71 (x1 : Int) (r_x1 : jW x1) (x2 : Int) (r_x2 : jW x2) (E : jE) (A : jA) (K : Int → jA → Prop) (h : jrI 191 0 [some (.ref 49), some (.int (jI x1))] [] E A (fun v3 A1 => jrI 210 0 [some (.ref 49), some (.int (jI x1)), some (.int (jI 6))] [] E A1 (fun v7 A5 => ((v7 < (18 : Int) → jrI 172 160 [some (.ref 49), some (.int (jI x1)), some (.int (jI x2)), some (.int (jI v3)), none] [] E A5 K) ∧ ((18 : Int) ≤ v7 → jrI 210 0 [some (.ref 49), some (.int (jI x1)), some (.int (jI 8))] [] E A5 (fun v11 A9 => jrI 210 0 [some (.ref 49), some (.int (jI x1)), some (.int (jI 6))] [] E A9 (fun v15 A13 => ((v11 < v15 → jrI 172 160 [some (.ref 49), some (.int (jI x1)), some (.int (jI x2)), some (.int (jI v3)), none] [] E A13 K) ∧ (v15 ≤ v11 → jrI 210 0 [some (.ref 49), some (.int (jI x1)), some (.int (jI 10))] [] E A13 (fun v19 A17 => jrI 210 0 [some (.ref 49), some (.int (jI x1)), some (.int (jI 8))] [] E A17 (fun v23 A21 => ((v19 < v23 → jrI 172 160 [some (.ref 49), some (.int (jI x1)), some (.int (jI x2)), some (.int (jI v3)), none] [] E A21 K) ∧ (v23 ≤ v19 → jrI 210 0 [some (.ref 49), some (.int (jI x1)), some (.int (jI 12))] [] E A21 (fun v27 A25 => jrI 210 0 [some (.ref 49), some (.int (jI x1)), some (.int (jI 10))] [] E A25 (fun v31 A29 => ((v27 < v31 → jrI 172 160 [some (.ref 49), some (.int (jI x1)), some (.int (jI x2)), some (.int (jI v3)), none] [] E A29 K) ∧ (v31 ≤ v27 → (0 ≤ x1 ∧ x1 < 3) ∧ jrI 210 0 [some (.ref 49), some (.int (jI x1)), some (.int (jI 12))] [] E A29 (fun v36 A34 => (((A29 59 x1) < v36 → jrI 172 160 [some (.ref 49), some (.int (jI x1)), some (.int (jI x2)), some (.int (jI v3)), none] [] E A34 K) ∧ (v36 ≤ (A29 59 x1) → jrI 172 161 [some (.ref 49), some (.int (jI x1)), some (.int (jI x2)), some (.int (jI v3)), none] [.int (jI 1)] E A34 K)))))))))))))))))))) : jrI 172 71 [some (.ref 49), some (.int (jI x1)), some (.int (jI x2)), none, none] [] E A K := by
  intro hA
  refine zw_go (pc1 := 72) (L1 := [some (.ref 49), some (.int (jI x1)), some (.int (jI x2)), none, none]) (st1 := [.ref 49]) (σ1 := js E A) zM_X7_judge dX7_judge_71 rfl rfl rfl rfl ?_
  refine zw_go (pc1 := 73) (L1 := [some (.ref 49), some (.int (jI x1)), some (.int (jI x2)), none, none]) (st1 := [.int (jI x1), .ref 49]) (σ1 := js E A) zM_X7_judge dX7_judge_72 rfl rfl rfl rfl ?_
  refine jw_callI (as := [.ref 49, .int (jI x1)]) (rest := []) zM_X7_judge dX7_judge_73 (zx_calV zC_7_207) zM_X7_numbersIn rfl rfl rfl rfl rfl (j_args0 rfl rfl) rfl hA h (fun v3 A1 rv4 hA2 h => ?_)
  refine zw_go (pc1 := 77) (L1 := [some (.ref 49), some (.int (jI x1)), some (.int (jI x2)), some (.int (jI v3)), none]) (st1 := []) (σ1 := js E A1) zM_X7_judge dX7_judge_76 rfl rfl rfl rfl ?_
  refine zw_go (pc1 := 78) (L1 := [some (.ref 49), some (.int (jI x1)), some (.int (jI x2)), some (.int (jI v3)), none]) (st1 := [.ref 49]) (σ1 := js E A1) zM_X7_judge dX7_judge_77 rfl rfl rfl rfl ?_
  refine zw_go (pc1 := 79) (L1 := [some (.ref 49), some (.int (jI x1)), some (.int (jI x2)), some (.int (jI v3)), none]) (st1 := [.int (jI x1), .ref 49]) (σ1 := js E A1) zM_X7_judge dX7_judge_78 rfl rfl rfl rfl ?_
  refine jw_bipush (v := 6) zM_X7_judge dX7_judge_79 (by decide) ?_
  refine jw_callI (as := [.ref 49, .int (jI x1), .int (jI 6)]) (rest := []) zM_X7_judge dX7_judge_81 (zx_calV zC_7_201) zM_X7_word rfl rfl rfl rfl rfl (j_args0 rfl rfl) rfl hA2 h (fun v7 A5 rv8 hA6 h => ?_)
  refine jw_bipush (v := 18) zM_X7_judge dX7_judge_84 (by decide) ?_
  refine jw_icmp_lt (tgt := 160) zM_X7_judge dX7_judge_86 rfl rv8 (show jW 18 from ⟨by decide, by decide⟩) (fun q => ?_) (fun q => ?_)
  · replace h := h.1 q
    exact zw_weak2 (h hA6) ⟨rfl, rfl, rfl, rfl, trivial⟩
  · replace h := h.2 q
    refine zw_go (pc1 := 90) (L1 := [some (.ref 49), some (.int (jI x1)), some (.int (jI x2)), some (.int (jI v3)), none]) (st1 := [.ref 49]) (σ1 := js E A5) zM_X7_judge dX7_judge_89 rfl rfl rfl rfl ?_
    refine zw_go (pc1 := 91) (L1 := [some (.ref 49), some (.int (jI x1)), some (.int (jI x2)), some (.int (jI v3)), none]) (st1 := [.int (jI x1), .ref 49]) (σ1 := js E A5) zM_X7_judge dX7_judge_90 rfl rfl rfl rfl ?_
    refine jw_bipush (v := 8) zM_X7_judge dX7_judge_91 (by decide) ?_
    refine jw_callI (as := [.ref 49, .int (jI x1), .int (jI 8)]) (rest := []) zM_X7_judge dX7_judge_93 (zx_calV zC_7_201) zM_X7_word rfl rfl rfl rfl rfl (j_args0 rfl rfl) rfl hA6 h (fun v11 A9 rv12 hA10 h => ?_)
    refine zw_go (pc1 := 97) (L1 := [some (.ref 49), some (.int (jI x1)), some (.int (jI x2)), some (.int (jI v3)), none]) (st1 := [.ref 49, .int (jI v11)]) (σ1 := js E A9) zM_X7_judge dX7_judge_96 rfl rfl rfl rfl ?_
    refine zw_go (pc1 := 98) (L1 := [some (.ref 49), some (.int (jI x1)), some (.int (jI x2)), some (.int (jI v3)), none]) (st1 := [.int (jI x1), .ref 49, .int (jI v11)]) (σ1 := js E A9) zM_X7_judge dX7_judge_97 rfl rfl rfl rfl ?_
    refine jw_bipush (v := 6) zM_X7_judge dX7_judge_98 (by decide) ?_
    refine jw_callI (as := [.ref 49, .int (jI x1), .int (jI 6)]) (rest := [.int (jI v11)]) zM_X7_judge dX7_judge_100 (zx_calV zC_7_201) zM_X7_word rfl rfl rfl rfl rfl (j_args0 rfl rfl) rfl hA10 h (fun v15 A13 rv16 hA14 h => ?_)
    refine jw_icmp_lt (tgt := 160) zM_X7_judge dX7_judge_103 rfl rv12 rv16 (fun q => ?_) (fun q => ?_)
    · replace h := h.1 q
      exact zw_weak2 (h hA14) ⟨rfl, rfl, rfl, rfl, trivial⟩
    · replace h := h.2 q
      refine zw_go (pc1 := 107) (L1 := [some (.ref 49), some (.int (jI x1)), some (.int (jI x2)), some (.int (jI v3)), none]) (st1 := [.ref 49]) (σ1 := js E A13) zM_X7_judge dX7_judge_106 rfl rfl rfl rfl ?_
      refine zw_go (pc1 := 108) (L1 := [some (.ref 49), some (.int (jI x1)), some (.int (jI x2)), some (.int (jI v3)), none]) (st1 := [.int (jI x1), .ref 49]) (σ1 := js E A13) zM_X7_judge dX7_judge_107 rfl rfl rfl rfl ?_
      refine jw_bipush (v := 10) zM_X7_judge dX7_judge_108 (by decide) ?_
      refine jw_callI (as := [.ref 49, .int (jI x1), .int (jI 10)]) (rest := []) zM_X7_judge dX7_judge_110 (zx_calV zC_7_201) zM_X7_word rfl rfl rfl rfl rfl (j_args0 rfl rfl) rfl hA14 h (fun v19 A17 rv20 hA18 h => ?_)
      refine zw_go (pc1 := 114) (L1 := [some (.ref 49), some (.int (jI x1)), some (.int (jI x2)), some (.int (jI v3)), none]) (st1 := [.ref 49, .int (jI v19)]) (σ1 := js E A17) zM_X7_judge dX7_judge_113 rfl rfl rfl rfl ?_
      refine zw_go (pc1 := 115) (L1 := [some (.ref 49), some (.int (jI x1)), some (.int (jI x2)), some (.int (jI v3)), none]) (st1 := [.int (jI x1), .ref 49, .int (jI v19)]) (σ1 := js E A17) zM_X7_judge dX7_judge_114 rfl rfl rfl rfl ?_
      refine jw_bipush (v := 8) zM_X7_judge dX7_judge_115 (by decide) ?_
      refine jw_callI (as := [.ref 49, .int (jI x1), .int (jI 8)]) (rest := [.int (jI v19)]) zM_X7_judge dX7_judge_117 (zx_calV zC_7_201) zM_X7_word rfl rfl rfl rfl rfl (j_args0 rfl rfl) rfl hA18 h (fun v23 A21 rv24 hA22 h => ?_)
      refine jw_icmp_lt (tgt := 160) zM_X7_judge dX7_judge_120 rfl rv20 rv24 (fun q => ?_) (fun q => ?_)
      · replace h := h.1 q
        exact zw_weak2 (h hA22) ⟨rfl, rfl, rfl, rfl, trivial⟩
      · replace h := h.2 q
        refine zw_go (pc1 := 124) (L1 := [some (.ref 49), some (.int (jI x1)), some (.int (jI x2)), some (.int (jI v3)), none]) (st1 := [.ref 49]) (σ1 := js E A21) zM_X7_judge dX7_judge_123 rfl rfl rfl rfl ?_
        refine zw_go (pc1 := 125) (L1 := [some (.ref 49), some (.int (jI x1)), some (.int (jI x2)), some (.int (jI v3)), none]) (st1 := [.int (jI x1), .ref 49]) (σ1 := js E A21) zM_X7_judge dX7_judge_124 rfl rfl rfl rfl ?_
        refine jw_bipush (v := 12) zM_X7_judge dX7_judge_125 (by decide) ?_
        refine jw_callI (as := [.ref 49, .int (jI x1), .int (jI 12)]) (rest := []) zM_X7_judge dX7_judge_127 (zx_calV zC_7_201) zM_X7_word rfl rfl rfl rfl rfl (j_args0 rfl rfl) rfl hA22 h (fun v27 A25 rv28 hA26 h => ?_)
        refine zw_go (pc1 := 131) (L1 := [some (.ref 49), some (.int (jI x1)), some (.int (jI x2)), some (.int (jI v3)), none]) (st1 := [.ref 49, .int (jI v27)]) (σ1 := js E A25) zM_X7_judge dX7_judge_130 rfl rfl rfl rfl ?_
        refine zw_go (pc1 := 132) (L1 := [some (.ref 49), some (.int (jI x1)), some (.int (jI x2)), some (.int (jI v3)), none]) (st1 := [.int (jI x1), .ref 49, .int (jI v27)]) (σ1 := js E A25) zM_X7_judge dX7_judge_131 rfl rfl rfl rfl ?_
        refine jw_bipush (v := 10) zM_X7_judge dX7_judge_132 (by decide) ?_
        refine jw_callI (as := [.ref 49, .int (jI x1), .int (jI 10)]) (rest := [.int (jI v27)]) zM_X7_judge dX7_judge_134 (zx_calV zC_7_201) zM_X7_word rfl rfl rfl rfl rfl (j_args0 rfl rfl) rfl hA26 h (fun v31 A29 rv32 hA30 h => ?_)
        refine jw_icmp_lt (tgt := 160) zM_X7_judge dX7_judge_137 rfl rv28 rv32 (fun q => ?_) (fun q => ?_)
        · replace h := h.1 q
          exact zw_weak2 (h hA30) ⟨rfl, rfl, rfl, rfl, trivial⟩
        · replace h := h.2 q
          refine zw_go (pc1 := 141) (L1 := [some (.ref 49), some (.int (jI x1)), some (.int (jI x2)), some (.int (jI v3)), none]) (st1 := [.ref 49]) (σ1 := js E A29) zM_X7_judge dX7_judge_140 rfl rfl rfl rfl ?_
          refine jw_getR (a := 59) zM_X7_judge dX7_judge_141 zF_7_37 rfl rfl rfl ?_
          refine zw_go (pc1 := 145) (L1 := [some (.ref 49), some (.int (jI x1)), some (.int (jI x2)), some (.int (jI v3)), none]) (st1 := [.int (jI x1), .ref 59]) (σ1 := js E A29) zM_X7_judge dX7_judge_144 rfl rfl rfl rfl ?_
          obtain ⟨hi33, h⟩ := h
          refine jw_iald zM_X7_judge dX7_judge_145 rfl rfl hi33 ?_
          refine zw_go (pc1 := 147) (L1 := [some (.ref 49), some (.int (jI x1)), some (.int (jI x2)), some (.int (jI v3)), none]) (st1 := [.ref 49, .int (jI (A29 59 x1))]) (σ1 := js E A29) zM_X7_judge dX7_judge_146 rfl rfl rfl rfl ?_
          refine zw_go (pc1 := 148) (L1 := [some (.ref 49), some (.int (jI x1)), some (.int (jI x2)), some (.int (jI v3)), none]) (st1 := [.int (jI x1), .ref 49, .int (jI (A29 59 x1))]) (σ1 := js E A29) zM_X7_judge dX7_judge_147 rfl rfl rfl rfl ?_
          refine jw_bipush (v := 12) zM_X7_judge dX7_judge_148 (by decide) ?_
          refine jw_callI (as := [.ref 49, .int (jI x1), .int (jI 12)]) (rest := [.int (jI (A29 59 x1))]) zM_X7_judge dX7_judge_150 (zx_calV zC_7_201) zM_X7_word rfl rfl rfl rfl rfl (j_args0 rfl rfl) rfl hA30 h (fun v36 A34 rv37 hA35 h => ?_)
          refine jw_icmp_lt (tgt := 160) zM_X7_judge dX7_judge_153 rfl (hA30 59 x1) rv37 (fun q => ?_) (fun q => ?_)
          · replace h := h.1 q
            exact zw_weak2 (h hA35) ⟨rfl, rfl, rfl, rfl, trivial⟩
          · replace h := h.2 q
            refine jw_iconst (v := 1) zM_X7_judge dX7_judge_156 rfl ?_
            refine zw_goto (tgt := 161) zM_X7_judge dX7_judge_157 rfl ?_
            exact zw_weak2 (h hA35) ⟨rfl, rfl, rfl, rfl, trivial⟩
set_option maxHeartbeats 4000000 in
set_option maxRecDepth 100000 in
theorem vd_X7_judge_160 (x1 : Int) (r_x1 : jW x1) (x2 : Int) (r_x2 : jW x2) (x3 : Int) (r_x3 : jW x3) (E : jE) (A : jA) (K : Int → jA → Prop) (h : jrI 172 161 [some (.ref 49), some (.int (jI x1)), some (.int (jI x2)), some (.int (jI x3)), none] [.int (jI 0)] E A K) : jrI 172 160 [some (.ref 49), some (.int (jI x1)), some (.int (jI x2)), some (.int (jI x3)), none] [] E A K := by
  intro hA
  refine jw_iconst (v := 0) zM_X7_judge dX7_judge_160 rfl ?_
  exact zw_weak2 (h hA) ⟨rfl, rfl, rfl, rfl, trivial⟩
set_option maxHeartbeats 4000000 in
set_option maxRecDepth 100000 in
theorem vd_X7_judge_161 (x1 : Int) (r_x1 : jW x1) (x2 : Int) (r_x2 : jW x2) (x3 : Int) (r_x3 : jW x3) (y0 : Int) (r_y0 : jW y0) (E : jE) (A : jA) (K : Int → jA → Prop) (h : jrI 210 0 [some (.ref 49), some (.int (jI x1)), some (.int (jI 14))] [] E A (fun v3 A1 => (0 ≤ x1 ∧ x1 < 3) ∧ ((¬ v3 = (A1 59 x1) → K 2 A1) ∧ (v3 = (A1 59 x1) → ((y0 = (0 : Int) → K 2 A1) ∧ (¬ y0 = (0 : Int) → ((x3 = (0 : Int) → K 2 A1) ∧ (¬ x3 = (0 : Int) → (0 ≤ x1 ∧ x1 < 3) ∧ jrI 210 0 [some (.ref 49), some (.int (jI x1)), some (.int (jI 12))] [] E A1 (fun v9 A7 => jW ((A1 59 x1) - v9) ∧ jW (2 * x3) ∧ ((((A1 59 x1) - v9) = (2 * x3) → jrI 210 0 [some (.ref 49), some (.int (jI x1)), some (.int (jI 16))] [] E A7 (fun v15 A13 => jrI 201 0 [some (.ref 49), some (.int (jI x1)), none, none, none] [] E A13 (fun v19 A17 => ((v15 = v19 → jrI 140 0 [some (.ref 49), some (.int (jI x1)), some (.int (jI x2)), none, none, none, none, none] [] E A17 (fun v23 A21 => ((¬ v23 = (0 : Int) → jrI 139 0 [some (.ref 49), some (.int (jI x1)), some (.int (jI x3)), some (.int (jI x2)), none, none, none, none, none, none] [] E A21 (fun v27 A25 => ((¬ v27 = (0 : Int) → jrI 138 0 [some (.ref 49), some (.int (jI x1)), some (.int (jI x3)), none, none, none, none, none, none] [] E A25 (fun v31 A29 => ((¬ v31 = (0 : Int) → jrI 170 0 [some (.ref 49), some (.int (jI x1)), some (.int (jI x3)), none, none, none, none] [] E A29 (fun v35 A33 => ((v35 = (0 : Int) → K 7 A33) ∧ (¬ v35 = (0 : Int) → K 0 A33)))) ∧ (v31 = (0 : Int) → K 6 A29)))) ∧ (v27 = (0 : Int) → K 5 A25)))) ∧ (v23 = (0 : Int) → K 4 A21)))) ∧ (¬ v15 = v19 → K 3 A17))))) ∧ (¬ ((A1 59 x1) - v9) = (2 * x3) → K 2 A7))))))))))) : jrI 172 161 [some (.ref 49), some (.int (jI x1)), some (.int (jI x2)), some (.int (jI x3)), none] [.int (jI y0)] E A K := by
  intro hA
  refine zw_go (pc1 := 163) (L1 := [some (.ref 49), some (.int (jI x1)), some (.int (jI x2)), some (.int (jI x3)), some (.int (jI y0))]) (st1 := []) (σ1 := js E A) zM_X7_judge dX7_judge_161 rfl rfl rfl rfl ?_
  refine zw_go (pc1 := 164) (L1 := [some (.ref 49), some (.int (jI x1)), some (.int (jI x2)), some (.int (jI x3)), some (.int (jI y0))]) (st1 := [.ref 49]) (σ1 := js E A) zM_X7_judge dX7_judge_163 rfl rfl rfl rfl ?_
  refine zw_go (pc1 := 165) (L1 := [some (.ref 49), some (.int (jI x1)), some (.int (jI x2)), some (.int (jI x3)), some (.int (jI y0))]) (st1 := [.int (jI x1), .ref 49]) (σ1 := js E A) zM_X7_judge dX7_judge_164 rfl rfl rfl rfl ?_
  refine jw_bipush (v := 14) zM_X7_judge dX7_judge_165 (by decide) ?_
  refine jw_callI (as := [.ref 49, .int (jI x1), .int (jI 14)]) (rest := []) zM_X7_judge dX7_judge_167 (zx_calV zC_7_201) zM_X7_word rfl rfl rfl rfl rfl (j_args0 rfl rfl) rfl hA h (fun v3 A1 rv4 hA2 h => ?_)
  refine zw_go (pc1 := 171) (L1 := [some (.ref 49), some (.int (jI x1)), some (.int (jI x2)), some (.int (jI x3)), some (.int (jI y0))]) (st1 := [.ref 49, .int (jI v3)]) (σ1 := js E A1) zM_X7_judge dX7_judge_170 rfl rfl rfl rfl ?_
  refine jw_getR (a := 59) zM_X7_judge dX7_judge_171 zF_7_37 rfl rfl rfl ?_
  refine zw_go (pc1 := 175) (L1 := [some (.ref 49), some (.int (jI x1)), some (.int (jI x2)), some (.int (jI x3)), some (.int (jI y0))]) (st1 := [.int (jI x1), .ref 59, .int (jI v3)]) (σ1 := js E A1) zM_X7_judge dX7_judge_174 rfl rfl rfl rfl ?_
  obtain ⟨hi5, h⟩ := h
  refine jw_iald zM_X7_judge dX7_judge_175 rfl rfl hi5 ?_
  refine jw_icmp_ne (tgt := 208) zM_X7_judge dX7_judge_176 rfl rv4 (hA2 59 x1) (fun q => ?_) (fun q => ?_)
  · replace h := h.1 q
    refine jw_iconst (v := 2) zM_X7_judge dX7_judge_208 rfl ?_
    exact jw_reti zM_X7_judge dX7_judge_209 rfl (show jW 2 from ⟨by decide, by decide⟩) hA2 h
  · replace h := h.2 q
    refine zw_go (pc1 := 181) (L1 := [some (.ref 49), some (.int (jI x1)), some (.int (jI x2)), some (.int (jI x3)), some (.int (jI y0))]) (st1 := [.int (jI y0)]) (σ1 := js E A1) zM_X7_judge dX7_judge_179 rfl rfl rfl rfl ?_
    refine jw_if_eq (tgt := 208) zM_X7_judge dX7_judge_181 rfl r_y0 (fun q => ?_) (fun q => ?_)
    · replace h := h.1 q
      refine jw_iconst (v := 2) zM_X7_judge dX7_judge_208 rfl ?_
      exact jw_reti zM_X7_judge dX7_judge_209 rfl (show jW 2 from ⟨by decide, by decide⟩) hA2 h
    · replace h := h.2 q
      refine zw_go (pc1 := 185) (L1 := [some (.ref 49), some (.int (jI x1)), some (.int (jI x2)), some (.int (jI x3)), some (.int (jI y0))]) (st1 := [.int (jI x3)]) (σ1 := js E A1) zM_X7_judge dX7_judge_184 rfl rfl rfl rfl ?_
      refine jw_if_eq (tgt := 208) zM_X7_judge dX7_judge_185 rfl r_x3 (fun q => ?_) (fun q => ?_)
      · replace h := h.1 q
        refine jw_iconst (v := 2) zM_X7_judge dX7_judge_208 rfl ?_
        exact jw_reti zM_X7_judge dX7_judge_209 rfl (show jW 2 from ⟨by decide, by decide⟩) hA2 h
      · replace h := h.2 q
        refine zw_go (pc1 := 189) (L1 := [some (.ref 49), some (.int (jI x1)), some (.int (jI x2)), some (.int (jI x3)), some (.int (jI y0))]) (st1 := [.ref 49]) (σ1 := js E A1) zM_X7_judge dX7_judge_188 rfl rfl rfl rfl ?_
        refine jw_getR (a := 59) zM_X7_judge dX7_judge_189 zF_7_37 rfl rfl rfl ?_
        refine zw_go (pc1 := 193) (L1 := [some (.ref 49), some (.int (jI x1)), some (.int (jI x2)), some (.int (jI x3)), some (.int (jI y0))]) (st1 := [.int (jI x1), .ref 59]) (σ1 := js E A1) zM_X7_judge dX7_judge_192 rfl rfl rfl rfl ?_
        obtain ⟨hi6, h⟩ := h
        refine jw_iald zM_X7_judge dX7_judge_193 rfl rfl hi6 ?_
        refine zw_go (pc1 := 195) (L1 := [some (.ref 49), some (.int (jI x1)), some (.int (jI x2)), some (.int (jI x3)), some (.int (jI y0))]) (st1 := [.ref 49, .int (jI (A1 59 x1))]) (σ1 := js E A1) zM_X7_judge dX7_judge_194 rfl rfl rfl rfl ?_
        refine zw_go (pc1 := 196) (L1 := [some (.ref 49), some (.int (jI x1)), some (.int (jI x2)), some (.int (jI x3)), some (.int (jI y0))]) (st1 := [.int (jI x1), .ref 49, .int (jI (A1 59 x1))]) (σ1 := js E A1) zM_X7_judge dX7_judge_195 rfl rfl rfl rfl ?_
        refine jw_bipush (v := 12) zM_X7_judge dX7_judge_196 (by decide) ?_
        refine jw_callI (as := [.ref 49, .int (jI x1), .int (jI 12)]) (rest := [.int (jI (A1 59 x1))]) zM_X7_judge dX7_judge_198 (zx_calV zC_7_201) zM_X7_word rfl rfl rfl rfl rfl (j_args0 rfl rfl) rfl hA2 h (fun v9 A7 rv10 hA8 h => ?_)
        refine jw_sub zM_X7_judge dX7_judge_201 ?_
        refine jw_iconst (v := 2) zM_X7_judge dX7_judge_202 rfl ?_
        refine zw_go (pc1 := 204) (L1 := [some (.ref 49), some (.int (jI x1)), some (.int (jI x2)), some (.int (jI x3)), some (.int (jI y0))]) (st1 := [.int (jI x3), .int (jI 2), .int (jI ((A1 59 x1) - v9))]) (σ1 := js E A7) zM_X7_judge dX7_judge_203 rfl rfl rfl rfl ?_
        refine jw_mul zM_X7_judge dX7_judge_204 ?_
        obtain ⟨hw11, h⟩ := h
        obtain ⟨hw12, h⟩ := h
        refine jw_icmp_eq (tgt := 210) zM_X7_judge dX7_judge_205 rfl hw11 hw12 (fun q => ?_) (fun q => ?_)
        · replace h := h.1 q
          refine zw_go (pc1 := 211) (L1 := [some (.ref 49), some (.int (jI x1)), some (.int (jI x2)), some (.int (jI x3)), some (.int (jI y0))]) (st1 := [.ref 49]) (σ1 := js E A7) zM_X7_judge dX7_judge_210 rfl rfl rfl rfl ?_
          refine zw_go (pc1 := 212) (L1 := [some (.ref 49), some (.int (jI x1)), some (.int (jI x2)), some (.int (jI x3)), some (.int (jI y0))]) (st1 := [.int (jI x1), .ref 49]) (σ1 := js E A7) zM_X7_judge dX7_judge_211 rfl rfl rfl rfl ?_
          refine jw_bipush (v := 16) zM_X7_judge dX7_judge_212 (by decide) ?_
          refine jw_callI (as := [.ref 49, .int (jI x1), .int (jI 16)]) (rest := []) zM_X7_judge dX7_judge_214 (zx_calV zC_7_201) zM_X7_word rfl rfl rfl rfl rfl (j_args0 rfl rfl) rfl hA8 h (fun v15 A13 rv16 hA14 h => ?_)
          refine zw_go (pc1 := 218) (L1 := [some (.ref 49), some (.int (jI x1)), some (.int (jI x2)), some (.int (jI x3)), some (.int (jI y0))]) (st1 := [.ref 49, .int (jI v15)]) (σ1 := js E A13) zM_X7_judge dX7_judge_217 rfl rfl rfl rfl ?_
          refine zw_go (pc1 := 219) (L1 := [some (.ref 49), some (.int (jI x1)), some (.int (jI x2)), some (.int (jI x3)), some (.int (jI y0))]) (st1 := [.int (jI x1), .ref 49, .int (jI v15)]) (σ1 := js E A13) zM_X7_judge dX7_judge_218 rfl rfl rfl rfl ?_
          refine jw_callI (as := [.ref 49, .int (jI x1)]) (rest := [.int (jI v15)]) zM_X7_judge dX7_judge_219 (zx_calV zC_7_187) zM_X7_sumOf rfl rfl rfl rfl rfl (j_args0 rfl rfl) rfl hA14 h (fun v19 A17 rv20 hA18 h => ?_)
          refine jw_icmp_eq (tgt := 227) zM_X7_judge dX7_judge_222 rfl rv16 rv20 (fun q => ?_) (fun q => ?_)
          · replace h := h.1 q
            refine zw_go (pc1 := 228) (L1 := [some (.ref 49), some (.int (jI x1)), some (.int (jI x2)), some (.int (jI x3)), some (.int (jI y0))]) (st1 := [.ref 49]) (σ1 := js E A17) zM_X7_judge dX7_judge_227 rfl rfl rfl rfl ?_
            refine zw_go (pc1 := 229) (L1 := [some (.ref 49), some (.int (jI x1)), some (.int (jI x2)), some (.int (jI x3)), some (.int (jI y0))]) (st1 := [.int (jI x1), .ref 49]) (σ1 := js E A17) zM_X7_judge dX7_judge_228 rfl rfl rfl rfl ?_
            refine zw_go (pc1 := 230) (L1 := [some (.ref 49), some (.int (jI x1)), some (.int (jI x2)), some (.int (jI x3)), some (.int (jI y0))]) (st1 := [.int (jI x2), .int (jI x1), .ref 49]) (σ1 := js E A17) zM_X7_judge dX7_judge_229 rfl rfl rfl rfl ?_
            refine jw_callI (as := [.ref 49, .int (jI x1), .int (jI x2)]) (rest := []) zM_X7_judge dX7_judge_230 (zx_calV zC_7_210) zM_X7_areTails rfl rfl rfl rfl rfl (j_args0 rfl rfl) rfl hA18 h (fun v23 A21 rv24 hA22 h => ?_)
            refine jw_if_ne (tgt := 238) zM_X7_judge dX7_judge_233 rfl rv24 (fun q => ?_) (fun q => ?_)
            · replace h := h.1 q
              refine zw_go (pc1 := 239) (L1 := [some (.ref 49), some (.int (jI x1)), some (.int (jI x2)), some (.int (jI x3)), some (.int (jI y0))]) (st1 := [.ref 49]) (σ1 := js E A21) zM_X7_judge dX7_judge_238 rfl rfl rfl rfl ?_
              refine zw_go (pc1 := 240) (L1 := [some (.ref 49), some (.int (jI x1)), some (.int (jI x2)), some (.int (jI x3)), some (.int (jI y0))]) (st1 := [.int (jI x1), .ref 49]) (σ1 := js E A21) zM_X7_judge dX7_judge_239 rfl rfl rfl rfl ?_
              refine zw_go (pc1 := 241) (L1 := [some (.ref 49), some (.int (jI x1)), some (.int (jI x2)), some (.int (jI x3)), some (.int (jI y0))]) (st1 := [.int (jI x3), .int (jI x1), .ref 49]) (σ1 := js E A21) zM_X7_judge dX7_judge_240 rfl rfl rfl rfl ?_
              refine zw_go (pc1 := 242) (L1 := [some (.ref 49), some (.int (jI x1)), some (.int (jI x2)), some (.int (jI x3)), some (.int (jI y0))]) (st1 := [.int (jI x2), .int (jI x3), .int (jI x1), .ref 49]) (σ1 := js E A21) zM_X7_judge dX7_judge_241 rfl rfl rfl rfl ?_
              refine jw_callI (as := [.ref 49, .int (jI x1), .int (jI x3), .int (jI x2)]) (rest := []) zM_X7_judge dX7_judge_242 (zx_calV zC_7_213) zM_X7_areInodes rfl rfl rfl rfl rfl (j_args0 rfl rfl) rfl hA22 h (fun v27 A25 rv28 hA26 h => ?_)
              refine jw_if_ne (tgt := 250) zM_X7_judge dX7_judge_245 rfl rv28 (fun q => ?_) (fun q => ?_)
              · replace h := h.1 q
                refine zw_go (pc1 := 251) (L1 := [some (.ref 49), some (.int (jI x1)), some (.int (jI x2)), some (.int (jI x3)), some (.int (jI y0))]) (st1 := [.ref 49]) (σ1 := js E A25) zM_X7_judge dX7_judge_250 rfl rfl rfl rfl ?_
                refine zw_go (pc1 := 252) (L1 := [some (.ref 49), some (.int (jI x1)), some (.int (jI x2)), some (.int (jI x3)), some (.int (jI y0))]) (st1 := [.int (jI x1), .ref 49]) (σ1 := js E A25) zM_X7_judge dX7_judge_251 rfl rfl rfl rfl ?_
                refine zw_go (pc1 := 253) (L1 := [some (.ref 49), some (.int (jI x1)), some (.int (jI x2)), some (.int (jI x3)), some (.int (jI y0))]) (st1 := [.int (jI x3), .int (jI x1), .ref 49]) (σ1 := js E A25) zM_X7_judge dX7_judge_252 rfl rfl rfl rfl ?_
                refine jw_callI (as := [.ref 49, .int (jI x1), .int (jI x3)]) (rest := []) zM_X7_judge dX7_judge_253 (zx_calV zC_7_216) zM_X7_areFolders rfl rfl rfl rfl rfl (j_args0 rfl rfl) rfl hA26 h (fun v31 A29 rv32 hA30 h => ?_)
                refine jw_if_ne (tgt := 262) zM_X7_judge dX7_judge_256 rfl rv32 (fun q => ?_) (fun q => ?_)
                · replace h := h.1 q
                  refine zw_go (pc1 := 263) (L1 := [some (.ref 49), some (.int (jI x1)), some (.int (jI x2)), some (.int (jI x3)), some (.int (jI y0))]) (st1 := [.ref 49]) (σ1 := js E A29) zM_X7_judge dX7_judge_262 rfl rfl rfl rfl ?_
                  refine zw_go (pc1 := 264) (L1 := [some (.ref 49), some (.int (jI x1)), some (.int (jI x2)), some (.int (jI x3)), some (.int (jI y0))]) (st1 := [.int (jI x1), .ref 49]) (σ1 := js E A29) zM_X7_judge dX7_judge_263 rfl rfl rfl rfl ?_
                  refine zw_go (pc1 := 265) (L1 := [some (.ref 49), some (.int (jI x1)), some (.int (jI x2)), some (.int (jI x3)), some (.int (jI y0))]) (st1 := [.int (jI x3), .int (jI x1), .ref 49]) (σ1 := js E A29) zM_X7_judge dX7_judge_264 rfl rfl rfl rfl ?_
                  refine jw_callI (as := [.ref 49, .int (jI x1), .int (jI x3)]) (rest := []) zM_X7_judge dX7_judge_265 (zx_calV zC_7_219) zM_X7_isTree rfl rfl rfl rfl rfl (j_args0 rfl rfl) rfl hA30 h (fun v35 A33 rv36 hA34 h => ?_)
                  refine jw_if_eq (tgt := 275) zM_X7_judge dX7_judge_268 rfl rv36 (fun q => ?_) (fun q => ?_)
                  · replace h := h.1 q
                    refine jw_bipush (v := 7) zM_X7_judge dX7_judge_275 (by decide) ?_
                    exact jw_reti zM_X7_judge dX7_judge_277 rfl (show jW 7 from ⟨by decide, by decide⟩) hA34 h
                  · replace h := h.2 q
                    refine jw_iconst (v := 0) zM_X7_judge dX7_judge_271 rfl ?_
                    refine zw_goto (tgt := 277) zM_X7_judge dX7_judge_272 rfl ?_
                    exact jw_reti zM_X7_judge dX7_judge_277 rfl (show jW 0 from ⟨by decide, by decide⟩) hA34 h
                · replace h := h.2 q
                  refine jw_bipush (v := 6) zM_X7_judge dX7_judge_259 (by decide) ?_
                  exact jw_reti zM_X7_judge dX7_judge_261 rfl (show jW 6 from ⟨by decide, by decide⟩) hA30 h
              · replace h := h.2 q
                refine jw_iconst (v := 5) zM_X7_judge dX7_judge_248 rfl ?_
                exact jw_reti zM_X7_judge dX7_judge_249 rfl (show jW 5 from ⟨by decide, by decide⟩) hA26 h
            · replace h := h.2 q
              refine jw_iconst (v := 4) zM_X7_judge dX7_judge_236 rfl ?_
              exact jw_reti zM_X7_judge dX7_judge_237 rfl (show jW 4 from ⟨by decide, by decide⟩) hA22 h
          · replace h := h.2 q
            refine jw_iconst (v := 3) zM_X7_judge dX7_judge_225 rfl ?_
            exact jw_reti zM_X7_judge dX7_judge_226 rfl (show jW 3 from ⟨by decide, by decide⟩) hA18 h
        · replace h := h.2 q
          refine jw_iconst (v := 2) zM_X7_judge dX7_judge_208 rfl ?_
          exact jw_reti zM_X7_judge dX7_judge_209 rfl (show jW 2 from ⟨by decide, by decide⟩) hA8 h
set_option maxHeartbeats 4000000 in
set_option maxRecDepth 100000 in
theorem vd_X7_kindOf_0 (x1 : Int) (r_x1 : jW x1) (E : jE) (A : jA) (K : Int → jA → Prop) (h : (0 ≤ (3 * x1) ∧ (3 * x1) < 183) ∧ (0 ≤ (3 * x1) ∧ (3 * x1) < 183) ∧ jrI 208 0 [some (.ref 49), some (.int (jI (A 76 (3 * x1)))), some (.int (jI (A 77 (3 * x1)))), some (.int (jI 0)), none, none] [] E A (fun v5 A3 => K v5 A3)) : jrI 173 0 [some (.ref 49), some (.int (jI x1))] [] E A K := by
  intro hA
  refine zw_go (pc1 := 1) (L1 := [some (.ref 49), some (.int (jI x1))]) (st1 := [.ref 49]) (σ1 := js E A) zM_X7_kindOf dX7_kindOf_0 rfl rfl rfl rfl ?_
  refine zw_go (pc1 := 2) (L1 := [some (.ref 49), some (.int (jI x1))]) (st1 := [.ref 49, .ref 49]) (σ1 := js E A) zM_X7_kindOf dX7_kindOf_1 rfl rfl rfl rfl ?_
  refine jw_getR (a := 76) zM_X7_kindOf dX7_kindOf_2 zF_7_88 rfl rfl rfl ?_
  refine jw_iconst (v := 3) zM_X7_kindOf dX7_kindOf_5 rfl ?_
  refine zw_go (pc1 := 7) (L1 := [some (.ref 49), some (.int (jI x1))]) (st1 := [.int (jI x1), .int (jI 3), .ref 76, .ref 49]) (σ1 := js E A) zM_X7_kindOf dX7_kindOf_6 rfl rfl rfl rfl ?_
  refine jw_mul zM_X7_kindOf dX7_kindOf_7 ?_
  obtain ⟨hi1, h⟩ := h
  refine jw_iald zM_X7_kindOf dX7_kindOf_8 rfl rfl hi1 ?_
  refine zw_go (pc1 := 10) (L1 := [some (.ref 49), some (.int (jI x1))]) (st1 := [.ref 49, .int (jI (A 76 (3 * x1))), .ref 49]) (σ1 := js E A) zM_X7_kindOf dX7_kindOf_9 rfl rfl rfl rfl ?_
  refine jw_getR (a := 77) zM_X7_kindOf dX7_kindOf_10 zF_7_91 rfl rfl rfl ?_
  refine jw_iconst (v := 3) zM_X7_kindOf dX7_kindOf_13 rfl ?_
  refine zw_go (pc1 := 15) (L1 := [some (.ref 49), some (.int (jI x1))]) (st1 := [.int (jI x1), .int (jI 3), .ref 77, .int (jI (A 76 (3 * x1))), .ref 49]) (σ1 := js E A) zM_X7_kindOf dX7_kindOf_14 rfl rfl rfl rfl ?_
  refine jw_mul zM_X7_kindOf dX7_kindOf_15 ?_
  obtain ⟨hi2, h⟩ := h
  refine jw_iald zM_X7_kindOf dX7_kindOf_16 rfl rfl hi2 ?_
  refine jw_iconst (v := 0) zM_X7_kindOf dX7_kindOf_17 rfl ?_
  refine jw_callI (as := [.ref 49, .int (jI (A 76 (3 * x1))), .int (jI (A 77 (3 * x1))), .int (jI 0)]) (rest := []) zM_X7_kindOf dX7_kindOf_18 (zx_calV zC_7_266) zM_X7_told rfl rfl rfl rfl rfl (j_args0 rfl rfl) rfl hA h (fun v5 A3 rv6 hA4 h => ?_)
  exact jw_reti zM_X7_kindOf dX7_kindOf_21 rfl rv6 hA4 h
set_option maxHeartbeats 4000000 in
set_option maxRecDepth 100000 in
theorem vd_X7_leads_0 (x1 : Int) (r_x1 : jW x1) (x2 : Int) (r_x2 : jW x2) (E : jE) (A : jA) (K : Int → jA → Prop) (h : jrI 174 8 [some (.ref 49), some (.int (jI x1)), some (.int (jI x2)), some (.int (jI 0)), some (.int (jI 1)), some (.int (jI 0)), none, none, none] [] E A K) : jrI 174 0 [some (.ref 49), some (.int (jI x1)), some (.int (jI x2)), none, none, none, none, none, none] [] E A K := by
  intro hA
  refine jw_iconst (v := 0) zM_X7_leads dX7_leads_0 rfl ?_
  refine zw_go (pc1 := 2) (L1 := [some (.ref 49), some (.int (jI x1)), some (.int (jI x2)), some (.int (jI 0)), none, none, none, none, none]) (st1 := []) (σ1 := js E A) zM_X7_leads dX7_leads_1 rfl rfl rfl rfl ?_
  refine jw_iconst (v := 1) zM_X7_leads dX7_leads_2 rfl ?_
  refine zw_go (pc1 := 5) (L1 := [some (.ref 49), some (.int (jI x1)), some (.int (jI x2)), some (.int (jI 0)), some (.int (jI 1)), none, none, none, none]) (st1 := []) (σ1 := js E A) zM_X7_leads dX7_leads_3 rfl rfl rfl rfl ?_
  refine jw_iconst (v := 0) zM_X7_leads dX7_leads_5 rfl ?_
  refine zw_go (pc1 := 8) (L1 := [some (.ref 49), some (.int (jI x1)), some (.int (jI x2)), some (.int (jI 0)), some (.int (jI 1)), some (.int (jI 0)), none, none, none]) (st1 := []) (σ1 := js E A) zM_X7_leads dX7_leads_6 rfl rfl rfl rfl ?_
  exact zw_weak2 (h hA) ⟨rfl, rfl, rfl, rfl, rfl, rfl, trivial⟩
set_option maxHeartbeats 4000000 in
set_option maxRecDepth 100000 in
theorem vd_X7_leads_8 (x1 : Int) (r_x1 : jW x1) (x2 : Int) (r_x2 : jW x2) (x3 : Int) (r_x3 : jW x3) (x4 : Int) (r_x4 : jW x4) (x5 : Int) (r_x5 : jW x5) (E : jE) (A : jA) (K : Int → jA → Prop) (h : (0 ≤ x1 ∧ x1 < 61) ∧ (((A 75 x1) ≤ x5 → (0 ≤ (A 49 37) ∧ (A 49 37) < 61) ∧ ∀ A3 : jA, A3 = jup A 75 (A 49 37) x3 → K x3 A3) ∧ (x5 < (A 75 x1) → ((x4 = (0 : Int) → (0 ≤ (A 49 37) ∧ (A 49 37) < 61) ∧ ∀ A7 : jA, A7 = jup A 75 (A 49 37) x3 → K x3 A7) ∧ (¬ x4 = (0 : Int) → (0 ≤ ((3 * x1) + x5) ∧ ((3 * x1) + x5) < 183) ∧ (0 ≤ ((3 * x1) + x5) ∧ ((3 * x1) + x5) < 183) ∧ jrI 145 0 [some (.ref 49), some (.int (jI (A 76 ((3 * x1) + x5)))), some (.int (jI (A 77 ((3 * x1) + x5)))), some (.int (jI x2)), none, none] [] E A (fun v14 A12 => ((v14 ≤ (0 : Int) → jrI 174 135 [some (.ref 49), some (.int (jI x1)), some (.int (jI x2)), some (.int (jI x3)), some (.int (jI x4)), some (.int (jI x5)), none, none, none] [] E A12 K) ∧ ((0 : Int) < v14 → jrI 208 0 [some (.ref 49), some (.int (jI (A 76 ((3 * x1) + x5)))), some (.int (jI v14)), some (.int (jI 0)), none, none] [] E A12 (fun v18 A16 => ((v18 = (1 : Int) → jrI 174 89 [some (.ref 49), some (.int (jI x1)), some (.int (jI x2)), some (.int (jI x3)), none, some (.int (jI x5)), some (.int (jI (A 76 ((3 * x1) + x5)))), some (.int (jI v14)), some (.int (jI v18))] [] E A16 K) ∧ (¬ v18 = (1 : Int) → ((¬ v18 = (2 : Int) → jrI 174 122 [some (.ref 49), some (.int (jI x1)), some (.int (jI x2)), some (.int (jI x3)), none, some (.int (jI x5)), none, none, some (.int (jI v18))] [] E A16 K) ∧ (v18 = (2 : Int) → ((¬ x3 = (0 : Int) → jrI 174 122 [some (.ref 49), some (.int (jI x1)), some (.int (jI x2)), some (.int (jI x3)), none, some (.int (jI x5)), none, none, some (.int (jI v18))] [] E A16 K) ∧ (x3 = (0 : Int) → jrI 174 89 [some (.ref 49), some (.int (jI x1)), some (.int (jI x2)), some (.int (jI x3)), none, some (.int (jI x5)), some (.int (jI (A 76 ((3 * x1) + x5)))), some (.int (jI v14)), some (.int (jI v18))] [] E A16 K))))))))))))))) : jrI 174 8 [some (.ref 49), some (.int (jI x1)), some (.int (jI x2)), some (.int (jI x3)), some (.int (jI x4)), some (.int (jI x5)), none, none, none] [] E A K := by
  intro hA
  refine zw_go (pc1 := 10) (L1 := [some (.ref 49), some (.int (jI x1)), some (.int (jI x2)), some (.int (jI x3)), some (.int (jI x4)), some (.int (jI x5)), none, none, none]) (st1 := [.int (jI x5)]) (σ1 := js E A) zM_X7_leads dX7_leads_8 rfl rfl rfl rfl ?_
  refine zw_go (pc1 := 11) (L1 := [some (.ref 49), some (.int (jI x1)), some (.int (jI x2)), some (.int (jI x3)), some (.int (jI x4)), some (.int (jI x5)), none, none, none]) (st1 := [.ref 49, .int (jI x5)]) (σ1 := js E A) zM_X7_leads dX7_leads_10 rfl rfl rfl rfl ?_
  refine jw_getR (a := 75) zM_X7_leads dX7_leads_11 zF_7_85 rfl rfl rfl ?_
  refine zw_go (pc1 := 15) (L1 := [some (.ref 49), some (.int (jI x1)), some (.int (jI x2)), some (.int (jI x3)), some (.int (jI x4)), some (.int (jI x5)), none, none, none]) (st1 := [.int (jI x1), .ref 75, .int (jI x5)]) (σ1 := js E A) zM_X7_leads dX7_leads_14 rfl rfl rfl rfl ?_
  obtain ⟨hi1, h⟩ := h
  refine jw_iald zM_X7_leads dX7_leads_15 rfl rfl hi1 ?_
  refine jw_icmp_ge (tgt := 141) zM_X7_leads dX7_leads_16 rfl r_x5 (hA 75 x1) (fun q => ?_) (fun q => ?_)
  · replace h := h.1 q
    refine zw_go (pc1 := 142) (L1 := [some (.ref 49), some (.int (jI x1)), some (.int (jI x2)), some (.int (jI x3)), some (.int (jI x4)), some (.int (jI x5)), none, none, none]) (st1 := [.ref 49]) (σ1 := js E A) zM_X7_leads dX7_leads_141 rfl rfl rfl rfl ?_
    refine jw_getR (a := 75) zM_X7_leads dX7_leads_142 zF_7_85 rfl rfl rfl ?_
    refine zw_go (pc1 := 146) (L1 := [some (.ref 49), some (.int (jI x1)), some (.int (jI x2)), some (.int (jI x3)), some (.int (jI x4)), some (.int (jI x5)), none, none, none]) (st1 := [.ref 49, .ref 75]) (σ1 := js E A) zM_X7_leads dX7_leads_145 rfl rfl rfl rfl ?_
    refine jw_getI zM_X7_leads dX7_leads_146 zF_7_269 rfl rfl rfl ?_
    refine zw_go (pc1 := 150) (L1 := [some (.ref 49), some (.int (jI x1)), some (.int (jI x2)), some (.int (jI x3)), some (.int (jI x4)), some (.int (jI x5)), none, none, none]) (st1 := [.int (jI x3), .int (jI (A 49 37)), .ref 75]) (σ1 := js E A) zM_X7_leads dX7_leads_149 rfl rfl rfl rfl ?_
    obtain ⟨hi2, h⟩ := h
    obtain ⟨A3, e4⟩ : ∃ z9 : jA, z9 = jup A 75 (A 49 37) x3 := ⟨_, rfl⟩
    replace h := h A3 e4
    have hA5 : jOK A3 := jOK.up hA r_x3 e4
    refine jw_iast zM_X7_leads dX7_leads_150 rfl rfl hi2 e4 ?_
    refine zw_go (pc1 := 152) (L1 := [some (.ref 49), some (.int (jI x1)), some (.int (jI x2)), some (.int (jI x3)), some (.int (jI x4)), some (.int (jI x5)), none, none, none]) (st1 := [.int (jI x3)]) (σ1 := js E A3) zM_X7_leads dX7_leads_151 rfl rfl rfl rfl ?_
    exact jw_reti zM_X7_leads dX7_leads_152 rfl r_x3 hA5 h
  · replace h := h.2 q
    refine zw_go (pc1 := 21) (L1 := [some (.ref 49), some (.int (jI x1)), some (.int (jI x2)), some (.int (jI x3)), some (.int (jI x4)), some (.int (jI x5)), none, none, none]) (st1 := [.int (jI x4)]) (σ1 := js E A) zM_X7_leads dX7_leads_19 rfl rfl rfl rfl ?_
    refine jw_if_eq (tgt := 141) zM_X7_leads dX7_leads_21 rfl r_x4 (fun q => ?_) (fun q => ?_)
    · replace h := h.1 q
      refine zw_go (pc1 := 142) (L1 := [some (.ref 49), some (.int (jI x1)), some (.int (jI x2)), some (.int (jI x3)), some (.int (jI x4)), some (.int (jI x5)), none, none, none]) (st1 := [.ref 49]) (σ1 := js E A) zM_X7_leads dX7_leads_141 rfl rfl rfl rfl ?_
      refine jw_getR (a := 75) zM_X7_leads dX7_leads_142 zF_7_85 rfl rfl rfl ?_
      refine zw_go (pc1 := 146) (L1 := [some (.ref 49), some (.int (jI x1)), some (.int (jI x2)), some (.int (jI x3)), some (.int (jI x4)), some (.int (jI x5)), none, none, none]) (st1 := [.ref 49, .ref 75]) (σ1 := js E A) zM_X7_leads dX7_leads_145 rfl rfl rfl rfl ?_
      refine jw_getI zM_X7_leads dX7_leads_146 zF_7_269 rfl rfl rfl ?_
      refine zw_go (pc1 := 150) (L1 := [some (.ref 49), some (.int (jI x1)), some (.int (jI x2)), some (.int (jI x3)), some (.int (jI x4)), some (.int (jI x5)), none, none, none]) (st1 := [.int (jI x3), .int (jI (A 49 37)), .ref 75]) (σ1 := js E A) zM_X7_leads dX7_leads_149 rfl rfl rfl rfl ?_
      obtain ⟨hi6, h⟩ := h
      obtain ⟨A7, e8⟩ : ∃ z9 : jA, z9 = jup A 75 (A 49 37) x3 := ⟨_, rfl⟩
      replace h := h A7 e8
      have hA9 : jOK A7 := jOK.up hA r_x3 e8
      refine jw_iast zM_X7_leads dX7_leads_150 rfl rfl hi6 e8 ?_
      refine zw_go (pc1 := 152) (L1 := [some (.ref 49), some (.int (jI x1)), some (.int (jI x2)), some (.int (jI x3)), some (.int (jI x4)), some (.int (jI x5)), none, none, none]) (st1 := [.int (jI x3)]) (σ1 := js E A7) zM_X7_leads dX7_leads_151 rfl rfl rfl rfl ?_
      exact jw_reti zM_X7_leads dX7_leads_152 rfl r_x3 hA9 h
    · replace h := h.2 q
      refine zw_go (pc1 := 25) (L1 := [some (.ref 49), some (.int (jI x1)), some (.int (jI x2)), some (.int (jI x3)), some (.int (jI x4)), some (.int (jI x5)), none, none, none]) (st1 := [.ref 49]) (σ1 := js E A) zM_X7_leads dX7_leads_24 rfl rfl rfl rfl ?_
      refine jw_getR (a := 76) zM_X7_leads dX7_leads_25 zF_7_88 rfl rfl rfl ?_
      refine jw_iconst (v := 3) zM_X7_leads dX7_leads_28 rfl ?_
      refine zw_go (pc1 := 30) (L1 := [some (.ref 49), some (.int (jI x1)), some (.int (jI x2)), some (.int (jI x3)), some (.int (jI x4)), some (.int (jI x5)), none, none, none]) (st1 := [.int (jI x1), .int (jI 3), .ref 76]) (σ1 := js E A) zM_X7_leads dX7_leads_29 rfl rfl rfl rfl ?_
      refine jw_mul zM_X7_leads dX7_leads_30 ?_
      refine zw_go (pc1 := 33) (L1 := [some (.ref 49), some (.int (jI x1)), some (.int (jI x2)), some (.int (jI x3)), some (.int (jI x4)), some (.int (jI x5)), none, none, none]) (st1 := [.int (jI x5), .int (jI (3 * x1)), .ref 76]) (σ1 := js E A) zM_X7_leads dX7_leads_31 rfl rfl rfl rfl ?_
      refine jw_add zM_X7_leads dX7_leads_33 ?_
      obtain ⟨hi10, h⟩ := h
      refine jw_iald zM_X7_leads dX7_leads_34 rfl rfl hi10 ?_
      refine zw_go (pc1 := 37) (L1 := [some (.ref 49), some (.int (jI x1)), some (.int (jI x2)), some (.int (jI x3)), some (.int (jI x4)), some (.int (jI x5)), some (.int (jI (A 76 ((3 * x1) + x5)))), none, none]) (st1 := []) (σ1 := js E A) zM_X7_leads dX7_leads_35 rfl rfl rfl rfl ?_
      refine zw_go (pc1 := 38) (L1 := [some (.ref 49), some (.int (jI x1)), some (.int (jI x2)), some (.int (jI x3)), some (.int (jI x4)), some (.int (jI x5)), some (.int (jI (A 76 ((3 * x1) + x5)))), none, none]) (st1 := [.ref 49]) (σ1 := js E A) zM_X7_leads dX7_leads_37 rfl rfl rfl rfl ?_
      refine zw_go (pc1 := 40) (L1 := [some (.ref 49), some (.int (jI x1)), some (.int (jI x2)), some (.int (jI x3)), some (.int (jI x4)), some (.int (jI x5)), some (.int (jI (A 76 ((3 * x1) + x5)))), none, none]) (st1 := [.int (jI (A 76 ((3 * x1) + x5))), .ref 49]) (σ1 := js E A) zM_X7_leads dX7_leads_38 rfl rfl rfl rfl ?_
      refine zw_go (pc1 := 41) (L1 := [some (.ref 49), some (.int (jI x1)), some (.int (jI x2)), some (.int (jI x3)), some (.int (jI x4)), some (.int (jI x5)), some (.int (jI (A 76 ((3 * x1) + x5)))), none, none]) (st1 := [.ref 49, .int (jI (A 76 ((3 * x1) + x5))), .ref 49]) (σ1 := js E A) zM_X7_leads dX7_leads_40 rfl rfl rfl rfl ?_
      refine jw_getR (a := 77) zM_X7_leads dX7_leads_41 zF_7_91 rfl rfl rfl ?_
      refine jw_iconst (v := 3) zM_X7_leads dX7_leads_44 rfl ?_
      refine zw_go (pc1 := 46) (L1 := [some (.ref 49), some (.int (jI x1)), some (.int (jI x2)), some (.int (jI x3)), some (.int (jI x4)), some (.int (jI x5)), some (.int (jI (A 76 ((3 * x1) + x5)))), none, none]) (st1 := [.int (jI x1), .int (jI 3), .ref 77, .int (jI (A 76 ((3 * x1) + x5))), .ref 49]) (σ1 := js E A) zM_X7_leads dX7_leads_45 rfl rfl rfl rfl ?_
      refine jw_mul zM_X7_leads dX7_leads_46 ?_
      refine zw_go (pc1 := 49) (L1 := [some (.ref 49), some (.int (jI x1)), some (.int (jI x2)), some (.int (jI x3)), some (.int (jI x4)), some (.int (jI x5)), some (.int (jI (A 76 ((3 * x1) + x5)))), none, none]) (st1 := [.int (jI x5), .int (jI (3 * x1)), .ref 77, .int (jI (A 76 ((3 * x1) + x5))), .ref 49]) (σ1 := js E A) zM_X7_leads dX7_leads_47 rfl rfl rfl rfl ?_
      refine jw_add zM_X7_leads dX7_leads_49 ?_
      obtain ⟨hi11, h⟩ := h
      refine jw_iald zM_X7_leads dX7_leads_50 rfl rfl hi11 ?_
      refine zw_go (pc1 := 52) (L1 := [some (.ref 49), some (.int (jI x1)), some (.int (jI x2)), some (.int (jI x3)), some (.int (jI x4)), some (.int (jI x5)), some (.int (jI (A 76 ((3 * x1) + x5)))), none, none]) (st1 := [.int (jI x2), .int (jI (A 77 ((3 * x1) + x5))), .int (jI (A 76 ((3 * x1) + x5))), .ref 49]) (σ1 := js E A) zM_X7_leads dX7_leads_51 rfl rfl rfl rfl ?_
      refine jw_callI (as := [.ref 49, .int (jI (A 76 ((3 * x1) + x5))), .int (jI (A 77 ((3 * x1) + x5))), .int (jI x2)]) (rest := []) zM_X7_leads dX7_leads_52 (zx_calV zC_7_275) zM_X7_child rfl rfl rfl rfl rfl (j_args0 rfl rfl) rfl hA h (fun v14 A12 rv15 hA13 h => ?_)
      refine zw_go (pc1 := 57) (L1 := [some (.ref 49), some (.int (jI x1)), some (.int (jI x2)), some (.int (jI x3)), some (.int (jI x4)), some (.int (jI x5)), some (.int (jI (A 76 ((3 * x1) + x5)))), some (.int (jI v14)), none]) (st1 := []) (σ1 := js E A12) zM_X7_leads dX7_leads_55 rfl rfl rfl rfl ?_
      refine zw_go (pc1 := 59) (L1 := [some (.ref 49), some (.int (jI x1)), some (.int (jI x2)), some (.int (jI x3)), some (.int (jI x4)), some (.int (jI x5)), some (.int (jI (A 76 ((3 * x1) + x5)))), some (.int (jI v14)), none]) (st1 := [.int (jI v14)]) (σ1 := js E A12) zM_X7_leads dX7_leads_57 rfl rfl rfl rfl ?_
      refine jw_if_le (tgt := 135) zM_X7_leads dX7_leads_59 rfl rv15 (fun q => ?_) (fun q => ?_)
      · replace h := h.1 q
        exact zw_weak2 (h hA13) ⟨rfl, rfl, rfl, rfl, rfl, rfl, trivial⟩
      · replace h := h.2 q
        refine zw_go (pc1 := 63) (L1 := [some (.ref 49), some (.int (jI x1)), some (.int (jI x2)), some (.int (jI x3)), some (.int (jI x4)), some (.int (jI x5)), some (.int (jI (A 76 ((3 * x1) + x5)))), some (.int (jI v14)), none]) (st1 := [.ref 49]) (σ1 := js E A12) zM_X7_leads dX7_leads_62 rfl rfl rfl rfl ?_
        refine zw_go (pc1 := 65) (L1 := [some (.ref 49), some (.int (jI x1)), some (.int (jI x2)), some (.int (jI x3)), some (.int (jI x4)), some (.int (jI x5)), some (.int (jI (A 76 ((3 * x1) + x5)))), some (.int (jI v14)), none]) (st1 := [.int (jI (A 76 ((3 * x1) + x5))), .ref 49]) (σ1 := js E A12) zM_X7_leads dX7_leads_63 rfl rfl rfl rfl ?_
        refine zw_go (pc1 := 67) (L1 := [some (.ref 49), some (.int (jI x1)), some (.int (jI x2)), some (.int (jI x3)), some (.int (jI x4)), some (.int (jI x5)), some (.int (jI (A 76 ((3 * x1) + x5)))), some (.int (jI v14)), none]) (st1 := [.int (jI v14), .int (jI (A 76 ((3 * x1) + x5))), .ref 49]) (σ1 := js E A12) zM_X7_leads dX7_leads_65 rfl rfl rfl rfl ?_
        refine jw_iconst (v := 0) zM_X7_leads dX7_leads_67 rfl ?_
        refine jw_callI (as := [.ref 49, .int (jI (A 76 ((3 * x1) + x5))), .int (jI v14), .int (jI 0)]) (rest := []) zM_X7_leads dX7_leads_68 (zx_calV zC_7_266) zM_X7_told rfl rfl rfl rfl rfl (j_args0 rfl rfl) rfl hA13 h (fun v18 A16 rv19 hA17 h => ?_)
        refine zw_go (pc1 := 73) (L1 := [some (.ref 49), some (.int (jI x1)), some (.int (jI x2)), some (.int (jI x3)), some (.int (jI x4)), some (.int (jI x5)), some (.int (jI (A 76 ((3 * x1) + x5)))), some (.int (jI v14)), some (.int (jI v18))]) (st1 := []) (σ1 := js E A16) zM_X7_leads dX7_leads_71 rfl rfl rfl rfl ?_
        refine zw_go (pc1 := 75) (L1 := [some (.ref 49), some (.int (jI x1)), some (.int (jI x2)), some (.int (jI x3)), some (.int (jI x4)), some (.int (jI x5)), some (.int (jI (A 76 ((3 * x1) + x5)))), some (.int (jI v14)), some (.int (jI v18))]) (st1 := [.int (jI v18)]) (σ1 := js E A16) zM_X7_leads dX7_leads_73 rfl rfl rfl rfl ?_
        refine jw_iconst (v := 1) zM_X7_leads dX7_leads_75 rfl ?_
        refine jw_icmp_eq (tgt := 89) zM_X7_leads dX7_leads_76 rfl rv19 (show jW 1 from ⟨by decide, by decide⟩) (fun q => ?_) (fun q => ?_)
        · replace h := h.1 q
          exact zw_weak2 (h hA17) ⟨rfl, rfl, rfl, rfl, rfl, rfl, rfl, rfl, trivial⟩
        · replace h := h.2 q
          refine zw_go (pc1 := 81) (L1 := [some (.ref 49), some (.int (jI x1)), some (.int (jI x2)), some (.int (jI x3)), some (.int (jI x4)), some (.int (jI x5)), some (.int (jI (A 76 ((3 * x1) + x5)))), some (.int (jI v14)), some (.int (jI v18))]) (st1 := [.int (jI v18)]) (σ1 := js E A16) zM_X7_leads dX7_leads_79 rfl rfl rfl rfl ?_
          refine jw_iconst (v := 2) zM_X7_leads dX7_leads_81 rfl ?_
          refine jw_icmp_ne (tgt := 122) zM_X7_leads dX7_leads_82 rfl rv19 (show jW 2 from ⟨by decide, by decide⟩) (fun q => ?_) (fun q => ?_)
          · replace h := h.1 q
            exact zw_weak2 (h hA17) ⟨rfl, rfl, rfl, rfl, rfl, rfl, trivial⟩
          · replace h := h.2 q
            refine zw_go (pc1 := 86) (L1 := [some (.ref 49), some (.int (jI x1)), some (.int (jI x2)), some (.int (jI x3)), some (.int (jI x4)), some (.int (jI x5)), some (.int (jI (A 76 ((3 * x1) + x5)))), some (.int (jI v14)), some (.int (jI v18))]) (st1 := [.int (jI x3)]) (σ1 := js E A16) zM_X7_leads dX7_leads_85 rfl rfl rfl rfl ?_
            refine jw_if_ne (tgt := 122) zM_X7_leads dX7_leads_86 rfl r_x3 (fun q => ?_) (fun q => ?_)
            · replace h := h.1 q
              exact zw_weak2 (h hA17) ⟨rfl, rfl, rfl, rfl, rfl, rfl, trivial⟩
            · replace h := h.2 q
              exact zw_weak2 (h hA17) ⟨rfl, rfl, rfl, rfl, rfl, rfl, rfl, rfl, trivial⟩
set_option maxHeartbeats 4000000 in
set_option maxRecDepth 100000 in
theorem vd_X7_leads_89 (x1 : Int) (r_x1 : jW x1) (x2 : Int) (r_x2 : jW x2) (x3 : Int) (r_x3 : jW x3) (x5 : Int) (r_x5 : jW x5) (x6 : Int) (r_x6 : jW x6) (x7 : Int) (r_x7 : jW x7) (x8 : Int) (r_x8 : jW x8) (E : jE) (A : jA) (K : Int → jA → Prop) (h : (0 ≤ ((3 * (A 49 37)) + x3) ∧ ((3 * (A 49 37)) + x3) < 183) ∧ ∀ A2 : jA, A2 = jup A 76 ((3 * (A 49 37)) + x3) x6 → (0 ≤ ((3 * (A2 49 37)) + x3) ∧ ((3 * (A2 49 37)) + x3) < 183) ∧ ∀ A6 : jA, A6 = jup A2 77 ((3 * (A2 49 37)) + x3) x7 → jrI 174 122 [some (.ref 49), some (.int (jI x1)), some (.int (jI x2)), some (.int (jI (x3 + 1))), none, some (.int (jI x5)), none, none, some (.int (jI x8))] [] E A6 K) : jrI 174 89 [some (.ref 49), some (.int (jI x1)), some (.int (jI x2)), some (.int (jI x3)), none, some (.int (jI x5)), some (.int (jI x6)), some (.int (jI x7)), some (.int (jI x8))] [] E A K := by
  intro hA
  refine zw_go (pc1 := 90) (L1 := [some (.ref 49), some (.int (jI x1)), some (.int (jI x2)), some (.int (jI x3)), none, some (.int (jI x5)), some (.int (jI x6)), some (.int (jI x7)), some (.int (jI x8))]) (st1 := [.ref 49]) (σ1 := js E A) zM_X7_leads dX7_leads_89 rfl rfl rfl rfl ?_
  refine jw_getR (a := 76) zM_X7_leads dX7_leads_90 zF_7_88 rfl rfl rfl ?_
  refine jw_iconst (v := 3) zM_X7_leads dX7_leads_93 rfl ?_
  refine zw_go (pc1 := 95) (L1 := [some (.ref 49), some (.int (jI x1)), some (.int (jI x2)), some (.int (jI x3)), none, some (.int (jI x5)), some (.int (jI x6)), some (.int (jI x7)), some (.int (jI x8))]) (st1 := [.ref 49, .int (jI 3), .ref 76]) (σ1 := js E A) zM_X7_leads dX7_leads_94 rfl rfl rfl rfl ?_
  refine jw_getI zM_X7_leads dX7_leads_95 zF_7_269 rfl rfl rfl ?_
  refine jw_mul zM_X7_leads dX7_leads_98 ?_
  refine zw_go (pc1 := 100) (L1 := [some (.ref 49), some (.int (jI x1)), some (.int (jI x2)), some (.int (jI x3)), none, some (.int (jI x5)), some (.int (jI x6)), some (.int (jI x7)), some (.int (jI x8))]) (st1 := [.int (jI x3), .int (jI (3 * (A 49 37))), .ref 76]) (σ1 := js E A) zM_X7_leads dX7_leads_99 rfl rfl rfl rfl ?_
  refine jw_add zM_X7_leads dX7_leads_100 ?_
  refine zw_go (pc1 := 103) (L1 := [some (.ref 49), some (.int (jI x1)), some (.int (jI x2)), some (.int (jI x3)), none, some (.int (jI x5)), some (.int (jI x6)), some (.int (jI x7)), some (.int (jI x8))]) (st1 := [.int (jI x6), .int (jI ((3 * (A 49 37)) + x3)), .ref 76]) (σ1 := js E A) zM_X7_leads dX7_leads_101 rfl rfl rfl rfl ?_
  obtain ⟨hi1, h⟩ := h
  obtain ⟨A2, e3⟩ : ∃ z9 : jA, z9 = jup A 76 ((3 * (A 49 37)) + x3) x6 := ⟨_, rfl⟩
  replace h := h A2 e3
  have hA4 : jOK A2 := jOK.up hA r_x6 e3
  refine jw_iast zM_X7_leads dX7_leads_103 rfl rfl hi1 e3 ?_
  refine zw_go (pc1 := 105) (L1 := [some (.ref 49), some (.int (jI x1)), some (.int (jI x2)), some (.int (jI x3)), none, some (.int (jI x5)), some (.int (jI x6)), some (.int (jI x7)), some (.int (jI x8))]) (st1 := [.ref 49]) (σ1 := js E A2) zM_X7_leads dX7_leads_104 rfl rfl rfl rfl ?_
  refine jw_getR (a := 77) zM_X7_leads dX7_leads_105 zF_7_91 rfl rfl rfl ?_
  refine jw_iconst (v := 3) zM_X7_leads dX7_leads_108 rfl ?_
  refine zw_go (pc1 := 110) (L1 := [some (.ref 49), some (.int (jI x1)), some (.int (jI x2)), some (.int (jI x3)), none, some (.int (jI x5)), some (.int (jI x6)), some (.int (jI x7)), some (.int (jI x8))]) (st1 := [.ref 49, .int (jI 3), .ref 77]) (σ1 := js E A2) zM_X7_leads dX7_leads_109 rfl rfl rfl rfl ?_
  refine jw_getI zM_X7_leads dX7_leads_110 zF_7_269 rfl rfl rfl ?_
  refine jw_mul zM_X7_leads dX7_leads_113 ?_
  refine zw_go (pc1 := 115) (L1 := [some (.ref 49), some (.int (jI x1)), some (.int (jI x2)), some (.int (jI x3)), none, some (.int (jI x5)), some (.int (jI x6)), some (.int (jI x7)), some (.int (jI x8))]) (st1 := [.int (jI x3), .int (jI (3 * (A2 49 37))), .ref 77]) (σ1 := js E A2) zM_X7_leads dX7_leads_114 rfl rfl rfl rfl ?_
  refine jw_add zM_X7_leads dX7_leads_115 ?_
  refine zw_go (pc1 := 118) (L1 := [some (.ref 49), some (.int (jI x1)), some (.int (jI x2)), some (.int (jI x3)), none, some (.int (jI x5)), some (.int (jI x6)), some (.int (jI x7)), some (.int (jI x8))]) (st1 := [.int (jI x7), .int (jI ((3 * (A2 49 37)) + x3)), .ref 77]) (σ1 := js E A2) zM_X7_leads dX7_leads_116 rfl rfl rfl rfl ?_
  obtain ⟨hi5, h⟩ := h
  obtain ⟨A6, e7⟩ : ∃ z9 : jA, z9 = jup A2 77 ((3 * (A2 49 37)) + x3) x7 := ⟨_, rfl⟩
  replace h := h A6 e7
  have hA8 : jOK A6 := jOK.up hA4 r_x7 e7
  refine jw_iast zM_X7_leads dX7_leads_118 rfl rfl hi5 e7 ?_
  refine jw_iinc (x := x3) (L1 := [some (.ref 49), some (.int (jI x1)), some (.int (jI x2)), some (.int (jI (x3 + 1))), none, some (.int (jI x5)), some (.int (jI x6)), some (.int (jI x7)), some (.int (jI x8))]) zM_X7_leads dX7_leads_119 rfl (show 3 < 9 by decide) rfl ?_
  exact zw_weak2 (h hA8) ⟨rfl, rfl, rfl, rfl, rfl, rfl, trivial⟩
set_option maxHeartbeats 4000000 in
set_option maxRecDepth 100000 in
theorem vd_X7_leads_122 (x1 : Int) (r_x1 : jW x1) (x2 : Int) (r_x2 : jW x2) (x3 : Int) (r_x3 : jW x3) (x5 : Int) (r_x5 : jW x5) (x8 : Int) (r_x8 : jW x8) (E : jE) (A : jA) (K : Int → jA → Prop) (h : ((¬ x8 = (1 : Int) → jrI 174 133 [some (.ref 49), some (.int (jI x1)), some (.int (jI x2)), some (.int (jI x3)), none, some (.int (jI x5)), none, none, none] [.int (jI 0)] E A K) ∧ (x8 = (1 : Int) → jrI 174 133 [some (.ref 49), some (.int (jI x1)), some (.int (jI x2)), some (.int (jI x3)), none, some (.int (jI x5)), none, none, none] [.int (jI 1)] E A K))) : jrI 174 122 [some (.ref 49), some (.int (jI x1)), some (.int (jI x2)), some (.int (jI x3)), none, some (.int (jI x5)), none, none, some (.int (jI x8))] [] E A K := by
  intro hA
  refine zw_go (pc1 := 124) (L1 := [some (.ref 49), some (.int (jI x1)), some (.int (jI x2)), some (.int (jI x3)), none, some (.int (jI x5)), none, none, some (.int (jI x8))]) (st1 := [.int (jI x8)]) (σ1 := js E A) zM_X7_leads dX7_leads_122 rfl rfl rfl rfl ?_
  refine jw_iconst (v := 1) zM_X7_leads dX7_leads_124 rfl ?_
  refine jw_icmp_ne (tgt := 132) zM_X7_leads dX7_leads_125 rfl r_x8 (show jW 1 from ⟨by decide, by decide⟩) (fun q => ?_) (fun q => ?_)
  · replace h := h.1 q
    refine jw_iconst (v := 0) zM_X7_leads dX7_leads_132 rfl ?_
    exact zw_weak2 (h hA) ⟨rfl, rfl, rfl, rfl, rfl, trivial⟩
  · replace h := h.2 q
    refine jw_iconst (v := 1) zM_X7_leads dX7_leads_128 rfl ?_
    refine zw_goto (tgt := 133) zM_X7_leads dX7_leads_129 rfl ?_
    exact zw_weak2 (h hA) ⟨rfl, rfl, rfl, rfl, rfl, trivial⟩
set_option maxHeartbeats 4000000 in
set_option maxRecDepth 100000 in
theorem vd_X7_leads_133 (x1 : Int) (r_x1 : jW x1) (x2 : Int) (r_x2 : jW x2) (x3 : Int) (r_x3 : jW x3) (x5 : Int) (r_x5 : jW x5) (y0 : Int) (r_y0 : jW y0) (E : jE) (A : jA) (K : Int → jA → Prop) (h : jrI 174 135 [some (.ref 49), some (.int (jI x1)), some (.int (jI x2)), some (.int (jI x3)), some (.int (jI y0)), some (.int (jI x5)), none, none, none] [] E A K) : jrI 174 133 [some (.ref 49), some (.int (jI x1)), some (.int (jI x2)), some (.int (jI x3)), none, some (.int (jI x5)), none, none, none] [.int (jI y0)] E A K := by
  intro hA
  refine zw_go (pc1 := 135) (L1 := [some (.ref 49), some (.int (jI x1)), some (.int (jI x2)), some (.int (jI x3)), some (.int (jI y0)), some (.int (jI x5)), none, none, none]) (st1 := []) (σ1 := js E A) zM_X7_leads dX7_leads_133 rfl rfl rfl rfl ?_
  exact zw_weak2 (h hA) ⟨rfl, rfl, rfl, rfl, rfl, rfl, trivial⟩
set_option maxHeartbeats 4000000 in
set_option maxRecDepth 100000 in
theorem vd_X7_leads_135 (x1 : Int) (r_x1 : jW x1) (x2 : Int) (r_x2 : jW x2) (x3 : Int) (r_x3 : jW x3) (x4 : Int) (r_x4 : jW x4) (x5 : Int) (r_x5 : jW x5) (E : jE) (A : jA) (K : Int → jA → Prop) (h : jrI 174 8 [some (.ref 49), some (.int (jI x1)), some (.int (jI x2)), some (.int (jI x3)), some (.int (jI x4)), some (.int (jI (x5 + 1))), none, none, none] [] E A K) : jrI 174 135 [some (.ref 49), some (.int (jI x1)), some (.int (jI x2)), some (.int (jI x3)), some (.int (jI x4)), some (.int (jI x5)), none, none, none] [] E A K := by
  intro hA
  refine jw_iinc (x := x5) (L1 := [some (.ref 49), some (.int (jI x1)), some (.int (jI x2)), some (.int (jI x3)), some (.int (jI x4)), some (.int (jI (x5 + 1))), none, none, none]) zM_X7_leads dX7_leads_135 rfl (show 5 < 9 by decide) rfl ?_
  refine zw_goto (tgt := 8) zM_X7_leads dX7_leads_138 rfl ?_
  exact zw_weak2 (h hA) ⟨rfl, rfl, rfl, rfl, rfl, rfl, trivial⟩
set_option maxHeartbeats 4000000 in
set_option maxRecDepth 100000 in
theorem vd_X7_lies_0 (x0 : Int) (r_x0 : jW x0) (E : jE) (A : jA) (K : Int → jA → Prop) (h : ((x0 < (32768 : Int) → K x0 A) ∧ ((32768 : Int) ≤ x0 → jW (x0 - 32768) ∧ K (x0 - 32768) A))) : jrI 175 0 [some (.int (jI x0))] [] E A K := by
  intro hA
  refine zw_go (pc1 := 1) (L1 := [some (.int (jI x0))]) (st1 := [.int (jI x0)]) (σ1 := js E A) zM_X7_lies dX7_lies_0 rfl rfl rfl rfl ?_
  refine jw_ldc (w := 32768) zM_X7_lies dX7_lies_1 zK_7_158 (by decide) ?_
  refine jw_icmp_lt (tgt := 13) zM_X7_lies dX7_lies_3 rfl r_x0 (show jW 32768 from ⟨by decide, by decide⟩) (fun q => ?_) (fun q => ?_)
  · replace h := h.1 q
    refine zw_go (pc1 := 14) (L1 := [some (.int (jI x0))]) (st1 := [.int (jI x0)]) (σ1 := js E A) zM_X7_lies dX7_lies_13 rfl rfl rfl rfl ?_
    exact jw_reti zM_X7_lies dX7_lies_14 rfl r_x0 hA h
  · replace h := h.2 q
    refine zw_go (pc1 := 7) (L1 := [some (.int (jI x0))]) (st1 := [.int (jI x0)]) (σ1 := js E A) zM_X7_lies dX7_lies_6 rfl rfl rfl rfl ?_
    refine jw_ldc (w := 32768) zM_X7_lies dX7_lies_7 zK_7_158 (by decide) ?_
    refine jw_sub zM_X7_lies dX7_lies_9 ?_
    refine zw_goto (tgt := 14) zM_X7_lies dX7_lies_10 rfl ?_
    obtain ⟨hw1, h⟩ := h
    exact jw_reti zM_X7_lies dX7_lies_14 rfl hw1 hA h
set_option maxHeartbeats 4000000 in
set_option maxRecDepth 100000 in
theorem vd_X7_link_0 (x1 : Int) (r_x1 : jW x1) (x2 : Int) (r_x2 : jW x2) (x3 : Int) (r_x3 : jW x3) (E : jE) (A : jA) (K : Int → jA → Prop) (h : ∀ A1 : jA, A1 = jup A 49 0 0 → jrI 167 0 [some (.ref 49), some (.int (jI x1))] [] E A1 (fun v6 A4 => ((v6 = (0 : Int) → K (-1) A4) ∧ (¬ v6 = (0 : Int) → jrI 167 0 [some (.ref 49), some (.int (jI x3))] [] E A4 (fun v10 A8 => ((¬ v10 = (0 : Int) → jrI 160 0 [some (.int (jI x2)), some (.int (jI 1)), some (.int (jI 999))] [] E A8 (fun v14 A12 => ((¬ v14 = (0 : Int) → (0 ≤ x1 ∧ x1 < 32) ∧ ((¬ (A12 50 x1) = (1 : Int) → K (-3) A12) ∧ ((A12 50 x1) = (1 : Int) → jrI 169 0 [some (.ref 49), some (.int (jI x1)), some (.int (jI x2)), none, none] [] E A12 (fun v19 A17 => ((¬ v19 = (0 : Int) → K (-3) A17) ∧ (v19 = (0 : Int) → (0 ≤ x3 ∧ x3 < 32) ∧ (((A17 50 x3) = (2 : Int) → jrI 185 0 [some (.ref 49), some (.int (jI x3)), none, none] [] E A17 (fun v24 A22 => ((¬ v24 = (9 : Int) → jrV 182 0 [some (.ref 49), some (.int (jI x1)), some (.int (jI x2)), some (.int (jI x3))] [] E A22 (fun A26 => jrI 185 0 [some (.ref 49), some (.int (jI x3)), none, none] [] E A26 (fun v30 A28 => K v30 A28))) ∧ (v24 = (9 : Int) → K (-4) A22)))) ∧ (¬ (A17 50 x3) = (2 : Int) → K (-3) A17)))))))) ∧ (v14 = (0 : Int) → K (-2) A12)))) ∧ (v10 = (0 : Int) → K (-1) A8))))))) : jrI 176 0 [some (.ref 49), some (.int (jI x1)), some (.int (jI x2)), some (.int (jI x3))] [] E A K := by
  intro hA
  refine zw_go (pc1 := 1) (L1 := [some (.ref 49), some (.int (jI x1)), some (.int (jI x2)), some (.int (jI x3))]) (st1 := [.ref 49]) (σ1 := js E A) zM_X7_link dX7_link_0 rfl rfl rfl rfl ?_
  refine jw_iconst (v := 0) zM_X7_link dX7_link_1 rfl ?_
  obtain ⟨A1, e2⟩ : ∃ z9 : jA, z9 = jup A 49 0 0 := ⟨_, rfl⟩
  replace h := h A1 e2
  have hA3 : jOK A1 := jOK.up hA (show jW 0 from ⟨by decide, by decide⟩) e2
  refine jw_putI zM_X7_link dX7_link_2 zF_7_98 rfl rfl rfl rfl e2 ?_
  refine zw_go (pc1 := 6) (L1 := [some (.ref 49), some (.int (jI x1)), some (.int (jI x2)), some (.int (jI x3))]) (st1 := [.ref 49]) (σ1 := js E A1) zM_X7_link dX7_link_5 rfl rfl rfl rfl ?_
  refine zw_go (pc1 := 7) (L1 := [some (.ref 49), some (.int (jI x1)), some (.int (jI x2)), some (.int (jI x3))]) (st1 := [.int (jI x1), .ref 49]) (σ1 := js E A1) zM_X7_link dX7_link_6 rfl rfl rfl rfl ?_
  refine jw_callI (as := [.ref 49, .int (jI x1)]) (rest := []) zM_X7_link dX7_link_7 (zx_calV zC_7_108) zM_X7_isNode rfl rfl rfl rfl rfl (j_args0 rfl rfl) rfl hA3 h (fun v6 A4 rv7 hA5 h => ?_)
  refine jw_if_eq (tgt := 21) zM_X7_link dX7_link_10 rfl rv7 (fun q => ?_) (fun q => ?_)
  · replace h := h.1 q
    refine jw_iconst (v := (-1)) zM_X7_link dX7_link_21 rfl ?_
    exact jw_reti zM_X7_link dX7_link_22 rfl (show jW (-1) from ⟨by decide, by decide⟩) hA5 h
  · replace h := h.2 q
    refine zw_go (pc1 := 14) (L1 := [some (.ref 49), some (.int (jI x1)), some (.int (jI x2)), some (.int (jI x3))]) (st1 := [.ref 49]) (σ1 := js E A4) zM_X7_link dX7_link_13 rfl rfl rfl rfl ?_
    refine zw_go (pc1 := 15) (L1 := [some (.ref 49), some (.int (jI x1)), some (.int (jI x2)), some (.int (jI x3))]) (st1 := [.int (jI x3), .ref 49]) (σ1 := js E A4) zM_X7_link dX7_link_14 rfl rfl rfl rfl ?_
    refine jw_callI (as := [.ref 49, .int (jI x3)]) (rest := []) zM_X7_link dX7_link_15 (zx_calV zC_7_108) zM_X7_isNode rfl rfl rfl rfl rfl (j_args0 rfl rfl) rfl hA5 h (fun v10 A8 rv11 hA9 h => ?_)
    refine jw_if_ne (tgt := 23) zM_X7_link dX7_link_18 rfl rv11 (fun q => ?_) (fun q => ?_)
    · replace h := h.1 q
      refine zw_go (pc1 := 24) (L1 := [some (.ref 49), some (.int (jI x1)), some (.int (jI x2)), some (.int (jI x3))]) (st1 := [.int (jI x2)]) (σ1 := js E A8) zM_X7_link dX7_link_23 rfl rfl rfl rfl ?_
      refine jw_iconst (v := 1) zM_X7_link dX7_link_24 rfl ?_
      refine jw_sipush (v := 999) zM_X7_link dX7_link_25 (by decide) ?_
      refine jw_callI (as := [.int (jI x2), .int (jI 1), .int (jI 999)]) (rest := []) zM_X7_link dX7_link_28 (zx_calS zC_7_101) zM_X7_in rfl rfl rfl rfl rfl rfl rfl hA9 h (fun v14 A12 rv15 hA13 h => ?_)
      refine jw_if_ne (tgt := 37) zM_X7_link dX7_link_31 rfl rv15 (fun q => ?_) (fun q => ?_)
      · replace h := h.1 q
        refine zw_go (pc1 := 38) (L1 := [some (.ref 49), some (.int (jI x1)), some (.int (jI x2)), some (.int (jI x3))]) (st1 := [.ref 49]) (σ1 := js E A12) zM_X7_link dX7_link_37 rfl rfl rfl rfl ?_
        refine jw_getR (a := 50) zM_X7_link dX7_link_38 zF_7_7 rfl rfl rfl ?_
        refine zw_go (pc1 := 42) (L1 := [some (.ref 49), some (.int (jI x1)), some (.int (jI x2)), some (.int (jI x3))]) (st1 := [.int (jI x1), .ref 50]) (σ1 := js E A12) zM_X7_link dX7_link_41 rfl rfl rfl rfl ?_
        obtain ⟨hi16, h⟩ := h
        refine jw_iald zM_X7_link dX7_link_42 rfl rfl hi16 ?_
        refine jw_iconst (v := 1) zM_X7_link dX7_link_43 rfl ?_
        refine jw_icmp_ne (tgt := 66) zM_X7_link dX7_link_44 rfl (hA13 50 x1) (show jW 1 from ⟨by decide, by decide⟩) (fun q => ?_) (fun q => ?_)
        · replace h := h.1 q
          refine jw_bipush (v := (-3)) zM_X7_link dX7_link_66 (by decide) ?_
          exact jw_reti zM_X7_link dX7_link_68 rfl (show jW (-3) from ⟨by decide, by decide⟩) hA13 h
        · replace h := h.2 q
          refine zw_go (pc1 := 48) (L1 := [some (.ref 49), some (.int (jI x1)), some (.int (jI x2)), some (.int (jI x3))]) (st1 := [.ref 49]) (σ1 := js E A12) zM_X7_link dX7_link_47 rfl rfl rfl rfl ?_
          refine zw_go (pc1 := 49) (L1 := [some (.ref 49), some (.int (jI x1)), some (.int (jI x2)), some (.int (jI x3))]) (st1 := [.int (jI x1), .ref 49]) (σ1 := js E A12) zM_X7_link dX7_link_48 rfl rfl rfl rfl ?_
          refine zw_go (pc1 := 50) (L1 := [some (.ref 49), some (.int (jI x1)), some (.int (jI x2)), some (.int (jI x3))]) (st1 := [.int (jI x2), .int (jI x1), .ref 49]) (σ1 := js E A12) zM_X7_link dX7_link_49 rfl rfl rfl rfl ?_
          refine jw_callI (as := [.ref 49, .int (jI x1), .int (jI x2)]) (rest := []) zM_X7_link dX7_link_50 (zx_calV zC_7_112) zM_X7_isThere rfl rfl rfl rfl rfl (j_args0 rfl rfl) rfl hA13 h (fun v19 A17 rv20 hA18 h => ?_)
          refine jw_if_ne (tgt := 66) zM_X7_link dX7_link_53 rfl rv20 (fun q => ?_) (fun q => ?_)
          · replace h := h.1 q
            refine jw_bipush (v := (-3)) zM_X7_link dX7_link_66 (by decide) ?_
            exact jw_reti zM_X7_link dX7_link_68 rfl (show jW (-3) from ⟨by decide, by decide⟩) hA18 h
          · replace h := h.2 q
            refine zw_go (pc1 := 57) (L1 := [some (.ref 49), some (.int (jI x1)), some (.int (jI x2)), some (.int (jI x3))]) (st1 := [.ref 49]) (σ1 := js E A17) zM_X7_link dX7_link_56 rfl rfl rfl rfl ?_
            refine jw_getR (a := 50) zM_X7_link dX7_link_57 zF_7_7 rfl rfl rfl ?_
            refine zw_go (pc1 := 61) (L1 := [some (.ref 49), some (.int (jI x1)), some (.int (jI x2)), some (.int (jI x3))]) (st1 := [.int (jI x3), .ref 50]) (σ1 := js E A17) zM_X7_link dX7_link_60 rfl rfl rfl rfl ?_
            obtain ⟨hi21, h⟩ := h
            refine jw_iald zM_X7_link dX7_link_61 rfl rfl hi21 ?_
            refine jw_iconst (v := 2) zM_X7_link dX7_link_62 rfl ?_
            refine jw_icmp_eq (tgt := 69) zM_X7_link dX7_link_63 rfl (hA18 50 x3) (show jW 2 from ⟨by decide, by decide⟩) (fun q => ?_) (fun q => ?_)
            · replace h := h.1 q
              refine zw_go (pc1 := 70) (L1 := [some (.ref 49), some (.int (jI x1)), some (.int (jI x2)), some (.int (jI x3))]) (st1 := [.ref 49]) (σ1 := js E A17) zM_X7_link dX7_link_69 rfl rfl rfl rfl ?_
              refine zw_go (pc1 := 71) (L1 := [some (.ref 49), some (.int (jI x1)), some (.int (jI x2)), some (.int (jI x3))]) (st1 := [.int (jI x3), .ref 49]) (σ1 := js E A17) zM_X7_link dX7_link_70 rfl rfl rfl rfl ?_
              refine jw_callI (as := [.ref 49, .int (jI x3)]) (rest := []) zM_X7_link dX7_link_71 (zx_calV zC_7_124) zM_X7_namesOf rfl rfl rfl rfl rfl (j_args0 rfl rfl) rfl hA18 h (fun v24 A22 rv25 hA23 h => ?_)
              refine jw_bipush (v := 9) zM_X7_link dX7_link_74 (by decide) ?_
              refine jw_icmp_ne (tgt := 82) zM_X7_link dX7_link_76 rfl rv25 (show jW 9 from ⟨by decide, by decide⟩) (fun q => ?_) (fun q => ?_)
              · replace h := h.1 q
                refine zw_go (pc1 := 83) (L1 := [some (.ref 49), some (.int (jI x1)), some (.int (jI x2)), some (.int (jI x3))]) (st1 := [.ref 49]) (σ1 := js E A22) zM_X7_link dX7_link_82 rfl rfl rfl rfl ?_
                refine zw_go (pc1 := 84) (L1 := [some (.ref 49), some (.int (jI x1)), some (.int (jI x2)), some (.int (jI x3))]) (st1 := [.int (jI x1), .ref 49]) (σ1 := js E A22) zM_X7_link dX7_link_83 rfl rfl rfl rfl ?_
                refine zw_go (pc1 := 85) (L1 := [some (.ref 49), some (.int (jI x1)), some (.int (jI x2)), some (.int (jI x3))]) (st1 := [.int (jI x2), .int (jI x1), .ref 49]) (σ1 := js E A22) zM_X7_link dX7_link_84 rfl rfl rfl rfl ?_
                refine zw_go (pc1 := 86) (L1 := [some (.ref 49), some (.int (jI x1)), some (.int (jI x2)), some (.int (jI x3))]) (st1 := [.int (jI x3), .int (jI x2), .int (jI x1), .ref 49]) (σ1 := js E A22) zM_X7_link dX7_link_85 rfl rfl rfl rfl ?_
                refine jw_callV (as := [.ref 49, .int (jI x1), .int (jI x2), .int (jI x3)]) (rest := []) zM_X7_link dX7_link_86 (zx_calV zC_7_116) zM_X7_nameIt rfl rfl rfl rfl rfl (j_args0 rfl rfl) rfl hA23 h (fun A26 hA27 h => ?_)
                refine zw_go (pc1 := 90) (L1 := [some (.ref 49), some (.int (jI x1)), some (.int (jI x2)), some (.int (jI x3))]) (st1 := [.ref 49]) (σ1 := js E A26) zM_X7_link dX7_link_89 rfl rfl rfl rfl ?_
                refine zw_go (pc1 := 91) (L1 := [some (.ref 49), some (.int (jI x1)), some (.int (jI x2)), some (.int (jI x3))]) (st1 := [.int (jI x3), .ref 49]) (σ1 := js E A26) zM_X7_link dX7_link_90 rfl rfl rfl rfl ?_
                refine jw_callI (as := [.ref 49, .int (jI x3)]) (rest := []) zM_X7_link dX7_link_91 (zx_calV zC_7_124) zM_X7_namesOf rfl rfl rfl rfl rfl (j_args0 rfl rfl) rfl hA27 h (fun v30 A28 rv31 hA29 h => ?_)
                exact jw_reti zM_X7_link dX7_link_94 rfl rv31 hA29 h
              · replace h := h.2 q
                refine jw_bipush (v := (-4)) zM_X7_link dX7_link_79 (by decide) ?_
                exact jw_reti zM_X7_link dX7_link_81 rfl (show jW (-4) from ⟨by decide, by decide⟩) hA23 h
            · replace h := h.2 q
              refine jw_bipush (v := (-3)) zM_X7_link dX7_link_66 (by decide) ?_
              exact jw_reti zM_X7_link dX7_link_68 rfl (show jW (-3) from ⟨by decide, by decide⟩) hA18 h
      · replace h := h.2 q
        refine jw_bipush (v := (-2)) zM_X7_link dX7_link_34 (by decide) ?_
        exact jw_reti zM_X7_link dX7_link_36 rfl (show jW (-2) from ⟨by decide, by decide⟩) hA13 h
    · replace h := h.2 q
      refine jw_iconst (v := (-1)) zM_X7_link dX7_link_21 rfl ?_
      exact jw_reti zM_X7_link dX7_link_22 rfl (show jW (-1) from ⟨by decide, by decide⟩) hA9 h
set_option maxHeartbeats 4000000 in
set_option maxRecDepth 100000 in
theorem vd_X7_list_0 (x1 : Int) (r_x1 : jW x1) (x2 : Int) (r_x2 : jW x2) (E : jE) (A : jA) (K : Int → jA → Prop) (h : ∀ A1 : jA, A1 = jup A 49 0 0 → jrI 171 0 [some (.ref 49), some (.int (jI x1))] [] E A1 (fun v6 A4 => ((¬ v6 = (0 : Int) → (((0 : Int) ≤ x2 → jrI 173 0 [some (.ref 49), some (.int (jI x1))] [] E A4 (fun v10 A8 => ((v10 = (1 : Int) → jrI 186 0 [some (.ref 49), some (.int (jI x1)), some (.int (jI 0)), none] [] E A8 (fun v14 A12 => jrI 177 44 [some (.ref 49), some (.int (jI x1)), some (.int (jI x2)), some (.int (jI v14)), some (.int (jI 0))] [] E A12 K)) ∧ (¬ v10 = (1 : Int) → K (-3) A8)))) ∧ (x2 < (0 : Int) → K (-2) A4))) ∧ (v6 = (0 : Int) → K (-1) A4)))) : jrI 177 0 [some (.ref 49), some (.int (jI x1)), some (.int (jI x2)), none, none] [] E A K := by
  intro hA
  refine zw_go (pc1 := 1) (L1 := [some (.ref 49), some (.int (jI x1)), some (.int (jI x2)), none, none]) (st1 := [.ref 49]) (σ1 := js E A) zM_X7_list dX7_list_0 rfl rfl rfl rfl ?_
  refine jw_iconst (v := 0) zM_X7_list dX7_list_1 rfl ?_
  obtain ⟨A1, e2⟩ : ∃ z9 : jA, z9 = jup A 49 0 0 := ⟨_, rfl⟩
  replace h := h A1 e2
  have hA3 : jOK A1 := jOK.up hA (show jW 0 from ⟨by decide, by decide⟩) e2
  refine jw_putI zM_X7_list dX7_list_2 zF_7_98 rfl rfl rfl rfl e2 ?_
  refine zw_go (pc1 := 6) (L1 := [some (.ref 49), some (.int (jI x1)), some (.int (jI x2)), none, none]) (st1 := [.ref 49]) (σ1 := js E A1) zM_X7_list dX7_list_5 rfl rfl rfl rfl ?_
  refine zw_go (pc1 := 7) (L1 := [some (.ref 49), some (.int (jI x1)), some (.int (jI x2)), none, none]) (st1 := [.int (jI x1), .ref 49]) (σ1 := js E A1) zM_X7_list dX7_list_6 rfl rfl rfl rfl ?_
  refine jw_callI (as := [.ref 49, .int (jI x1)]) (rest := []) zM_X7_list dX7_list_7 (zx_calV zC_7_278) zM_X7_isView rfl rfl rfl rfl rfl (j_args0 rfl rfl) rfl hA3 h (fun v6 A4 rv7 hA5 h => ?_)
  refine jw_if_ne (tgt := 15) zM_X7_list dX7_list_10 rfl rv7 (fun q => ?_) (fun q => ?_)
  · replace h := h.1 q
    refine zw_go (pc1 := 16) (L1 := [some (.ref 49), some (.int (jI x1)), some (.int (jI x2)), none, none]) (st1 := [.int (jI x2)]) (σ1 := js E A4) zM_X7_list dX7_list_15 rfl rfl rfl rfl ?_
    refine jw_if_ge (tgt := 22) zM_X7_list dX7_list_16 rfl r_x2 (fun q => ?_) (fun q => ?_)
    · replace h := h.1 q
      refine zw_go (pc1 := 23) (L1 := [some (.ref 49), some (.int (jI x1)), some (.int (jI x2)), none, none]) (st1 := [.ref 49]) (σ1 := js E A4) zM_X7_list dX7_list_22 rfl rfl rfl rfl ?_
      refine zw_go (pc1 := 24) (L1 := [some (.ref 49), some (.int (jI x1)), some (.int (jI x2)), none, none]) (st1 := [.int (jI x1), .ref 49]) (σ1 := js E A4) zM_X7_list dX7_list_23 rfl rfl rfl rfl ?_
      refine jw_callI (as := [.ref 49, .int (jI x1)]) (rest := []) zM_X7_list dX7_list_24 (zx_calV zC_7_281) zM_X7_kindOf rfl rfl rfl rfl rfl (j_args0 rfl rfl) rfl hA5 h (fun v10 A8 rv11 hA9 h => ?_)
      refine jw_iconst (v := 1) zM_X7_list dX7_list_27 rfl ?_
      refine jw_icmp_eq (tgt := 34) zM_X7_list dX7_list_28 rfl rv11 (show jW 1 from ⟨by decide, by decide⟩) (fun q => ?_) (fun q => ?_)
      · replace h := h.1 q
        refine zw_go (pc1 := 35) (L1 := [some (.ref 49), some (.int (jI x1)), some (.int (jI x2)), none, none]) (st1 := [.ref 49]) (σ1 := js E A8) zM_X7_list dX7_list_34 rfl rfl rfl rfl ?_
        refine zw_go (pc1 := 36) (L1 := [some (.ref 49), some (.int (jI x1)), some (.int (jI x2)), none, none]) (st1 := [.int (jI x1), .ref 49]) (σ1 := js E A8) zM_X7_list dX7_list_35 rfl rfl rfl rfl ?_
        refine jw_iconst (v := 0) zM_X7_list dX7_list_36 rfl ?_
        refine jw_callI (as := [.ref 49, .int (jI x1), .int (jI 0)]) (rest := []) zM_X7_list dX7_list_37 (zx_calV zC_7_287) zM_X7_nextIn rfl rfl rfl rfl rfl (j_args0 rfl rfl) rfl hA9 h (fun v14 A12 rv15 hA13 h => ?_)
        refine zw_go (pc1 := 41) (L1 := [some (.ref 49), some (.int (jI x1)), some (.int (jI x2)), some (.int (jI v14)), none]) (st1 := []) (σ1 := js E A12) zM_X7_list dX7_list_40 rfl rfl rfl rfl ?_
        refine jw_iconst (v := 0) zM_X7_list dX7_list_41 rfl ?_
        refine zw_go (pc1 := 44) (L1 := [some (.ref 49), some (.int (jI x1)), some (.int (jI x2)), some (.int (jI v14)), some (.int (jI 0))]) (st1 := []) (σ1 := js E A12) zM_X7_list dX7_list_42 rfl rfl rfl rfl ?_
        exact zw_weak2 (h hA13) ⟨rfl, rfl, rfl, rfl, rfl, trivial⟩
      · replace h := h.2 q
        refine jw_bipush (v := (-3)) zM_X7_list dX7_list_31 (by decide) ?_
        exact jw_reti zM_X7_list dX7_list_33 rfl (show jW (-3) from ⟨by decide, by decide⟩) hA9 h
    · replace h := h.2 q
      refine jw_bipush (v := (-2)) zM_X7_list dX7_list_19 (by decide) ?_
      exact jw_reti zM_X7_list dX7_list_21 rfl (show jW (-2) from ⟨by decide, by decide⟩) hA5 h
  · replace h := h.2 q
    refine jw_iconst (v := (-1)) zM_X7_list dX7_list_13 rfl ?_
    exact jw_reti zM_X7_list dX7_list_14 rfl (show jW (-1) from ⟨by decide, by decide⟩) hA5 h
set_option maxHeartbeats 4000000 in
set_option maxRecDepth 100000 in
theorem vd_X7_list_44 (x1 : Int) (r_x1 : jW x1) (x2 : Int) (r_x2 : jW x2) (x3 : Int) (r_x3 : jW x3) (x4 : Int) (r_x4 : jW x4) (E : jE) (A : jA) (K : Int → jA → Prop) (h : ((x2 ≤ x4 → jrI 177 70 [none, none, none, some (.int (jI x3)), none] [] E A K) ∧ (x4 < x2 → (((1000 : Int) ≤ x3 → jrI 177 70 [none, none, none, some (.int (jI x3)), none] [] E A K) ∧ (x3 < (1000 : Int) → jrI 186 0 [some (.ref 49), some (.int (jI x1)), some (.int (jI x3)), none] [] E A (fun v3 A1 => jrI 177 44 [some (.ref 49), some (.int (jI x1)), some (.int (jI x2)), some (.int (jI v3)), some (.int (jI (x4 + 1)))] [] E A1 K)))))) : jrI 177 44 [some (.ref 49), some (.int (jI x1)), some (.int (jI x2)), some (.int (jI x3)), some (.int (jI x4))] [] E A K := by
  intro hA
  refine zw_go (pc1 := 46) (L1 := [some (.ref 49), some (.int (jI x1)), some (.int (jI x2)), some (.int (jI x3)), some (.int (jI x4))]) (st1 := [.int (jI x4)]) (σ1 := js E A) zM_X7_list dX7_list_44 rfl rfl rfl rfl ?_
  refine zw_go (pc1 := 47) (L1 := [some (.ref 49), some (.int (jI x1)), some (.int (jI x2)), some (.int (jI x3)), some (.int (jI x4))]) (st1 := [.int (jI x2), .int (jI x4)]) (σ1 := js E A) zM_X7_list dX7_list_46 rfl rfl rfl rfl ?_
  refine jw_icmp_ge (tgt := 70) zM_X7_list dX7_list_47 rfl r_x4 r_x2 (fun q => ?_) (fun q => ?_)
  · replace h := h.1 q
    exact zw_weak2 (h hA) ⟨rfl, trivial⟩
  · replace h := h.2 q
    refine zw_go (pc1 := 51) (L1 := [some (.ref 49), some (.int (jI x1)), some (.int (jI x2)), some (.int (jI x3)), some (.int (jI x4))]) (st1 := [.int (jI x3)]) (σ1 := js E A) zM_X7_list dX7_list_50 rfl rfl rfl rfl ?_
    refine jw_sipush (v := 1000) zM_X7_list dX7_list_51 (by decide) ?_
    refine jw_icmp_ge (tgt := 70) zM_X7_list dX7_list_54 rfl r_x3 (show jW 1000 from ⟨by decide, by decide⟩) (fun q => ?_) (fun q => ?_)
    · replace h := h.1 q
      exact zw_weak2 (h hA) ⟨rfl, trivial⟩
    · replace h := h.2 q
      refine zw_go (pc1 := 58) (L1 := [some (.ref 49), some (.int (jI x1)), some (.int (jI x2)), some (.int (jI x3)), some (.int (jI x4))]) (st1 := [.ref 49]) (σ1 := js E A) zM_X7_list dX7_list_57 rfl rfl rfl rfl ?_
      refine zw_go (pc1 := 59) (L1 := [some (.ref 49), some (.int (jI x1)), some (.int (jI x2)), some (.int (jI x3)), some (.int (jI x4))]) (st1 := [.int (jI x1), .ref 49]) (σ1 := js E A) zM_X7_list dX7_list_58 rfl rfl rfl rfl ?_
      refine zw_go (pc1 := 60) (L1 := [some (.ref 49), some (.int (jI x1)), some (.int (jI x2)), some (.int (jI x3)), some (.int (jI x4))]) (st1 := [.int (jI x3), .int (jI x1), .ref 49]) (σ1 := js E A) zM_X7_list dX7_list_59 rfl rfl rfl rfl ?_
      refine jw_callI (as := [.ref 49, .int (jI x1), .int (jI x3)]) (rest := []) zM_X7_list dX7_list_60 (zx_calV zC_7_287) zM_X7_nextIn rfl rfl rfl rfl rfl (j_args0 rfl rfl) rfl hA h (fun v3 A1 rv4 hA2 h => ?_)
      refine zw_go (pc1 := 64) (L1 := [some (.ref 49), some (.int (jI x1)), some (.int (jI x2)), some (.int (jI v3)), some (.int (jI x4))]) (st1 := []) (σ1 := js E A1) zM_X7_list dX7_list_63 rfl rfl rfl rfl ?_
      refine jw_iinc (x := x4) (L1 := [some (.ref 49), some (.int (jI x1)), some (.int (jI x2)), some (.int (jI v3)), some (.int (jI (x4 + 1)))]) zM_X7_list dX7_list_64 rfl (show 4 < 5 by decide) rfl ?_
      refine zw_goto (tgt := 44) zM_X7_list dX7_list_67 rfl ?_
      exact zw_weak2 (h hA2) ⟨rfl, rfl, rfl, rfl, rfl, trivial⟩
set_option maxHeartbeats 4000000 in
set_option maxRecDepth 100000 in
theorem vd_X7_list_70 (x3 : Int) (r_x3 : jW x3) (E : jE) (A : jA) (K : Int → jA → Prop) (h : (((1000 : Int) ≤ x3 → K 0 A) ∧ (x3 < (1000 : Int) → K x3 A))) : jrI 177 70 [none, none, none, some (.int (jI x3)), none] [] E A K := by
  intro hA
  refine zw_go (pc1 := 71) (L1 := [none, none, none, some (.int (jI x3)), none]) (st1 := [.int (jI x3)]) (σ1 := js E A) zM_X7_list dX7_list_70 rfl rfl rfl rfl ?_
  refine jw_sipush (v := 1000) zM_X7_list dX7_list_71 (by decide) ?_
  refine jw_icmp_ge (tgt := 81) zM_X7_list dX7_list_74 rfl r_x3 (show jW 1000 from ⟨by decide, by decide⟩) (fun q => ?_) (fun q => ?_)
  · replace h := h.1 q
    refine jw_iconst (v := 0) zM_X7_list dX7_list_81 rfl ?_
    exact jw_reti zM_X7_list dX7_list_82 rfl (show jW 0 from ⟨by decide, by decide⟩) hA h
  · replace h := h.2 q
    refine zw_go (pc1 := 78) (L1 := [none, none, none, some (.int (jI x3)), none]) (st1 := [.int (jI x3)]) (σ1 := js E A) zM_X7_list dX7_list_77 rfl rfl rfl rfl ?_
    refine zw_goto (tgt := 82) zM_X7_list dX7_list_78 rfl ?_
    exact jw_reti zM_X7_list dX7_list_82 rfl r_x3 hA h
set_option maxHeartbeats 4000000 in
set_option maxRecDepth 100000 in
theorem vd_X7_load_0  (E : jE) (A : jA) (K : Int → jA → Prop) (h : ∀ A1 : jA, A1 = jup A 49 0 0 → ((¬ (A1 49 11) = (3 : Int) → jrI 178 18 [some (.ref 49), some (.int (jI 0))] [] E A1 K) ∧ ((A1 49 11) = (3 : Int) → K (-4) A1))) : jrI 178 0 [some (.ref 49), none] [] E A K := by
  intro hA
  refine zw_go (pc1 := 1) (L1 := [some (.ref 49), none]) (st1 := [.ref 49]) (σ1 := js E A) zM_X7_load dX7_load_0 rfl rfl rfl rfl ?_
  refine jw_iconst (v := 0) zM_X7_load dX7_load_1 rfl ?_
  obtain ⟨A1, e2⟩ : ∃ z9 : jA, z9 = jup A 49 0 0 := ⟨_, rfl⟩
  replace h := h A1 e2
  have hA3 : jOK A1 := jOK.up hA (show jW 0 from ⟨by decide, by decide⟩) e2
  refine jw_putI zM_X7_load dX7_load_2 zF_7_98 rfl rfl rfl rfl e2 ?_
  refine zw_go (pc1 := 6) (L1 := [some (.ref 49), none]) (st1 := [.ref 49]) (σ1 := js E A1) zM_X7_load dX7_load_5 rfl rfl rfl rfl ?_
  refine jw_getI zM_X7_load dX7_load_6 zF_7_168 rfl rfl rfl ?_
  refine jw_iconst (v := 3) zM_X7_load dX7_load_9 rfl ?_
  refine jw_icmp_ne (tgt := 16) zM_X7_load dX7_load_10 rfl (hA3 49 11) (show jW 3 from ⟨by decide, by decide⟩) (fun q => ?_) (fun q => ?_)
  · replace h := h.1 q
    refine jw_iconst (v := 0) zM_X7_load dX7_load_16 rfl ?_
    refine zw_go (pc1 := 18) (L1 := [some (.ref 49), some (.int (jI 0))]) (st1 := []) (σ1 := js E A1) zM_X7_load dX7_load_17 rfl rfl rfl rfl ?_
    exact zw_weak2 (h hA3) ⟨rfl, rfl, trivial⟩
  · replace h := h.2 q
    refine jw_bipush (v := (-4)) zM_X7_load dX7_load_13 (by decide) ?_
    exact jw_reti zM_X7_load dX7_load_15 rfl (show jW (-4) from ⟨by decide, by decide⟩) hA3 h
set_option maxHeartbeats 4000000 in
set_option maxRecDepth 100000 in
theorem vd_X7_load_18 (x1 : Int) (r_x1 : jW x1) (E : jE) (A : jA) (K : Int → jA → Prop) (h : (((A 49 34) ≤ x1 → (0 ≤ (A 49 11) ∧ (A 49 11) < 3) ∧ ∀ A2 : jA, A2 = jup A 59 (A 49 11) (A 49 34) → ∀ A5 : jA, A5 = jup A2 49 34 0 → jrI 172 0 [some (.ref 49), some (.int (jI (A5 49 11))), none, none, none] [] E A5 (fun v10 A8 => ((v10 ≤ (0 : Int) → jW ((A8 49 11) + 1) ∧ ∀ A13 : jA, A13 = jup A8 49 11 ((A8 49 11) + 1) → jW ((A13 49 11) - 1) ∧ K ((A13 49 11) - 1) A13) ∧ ((0 : Int) < v10 → jW ((-10) - v10) ∧ K ((-10) - v10) A8)))) ∧ (x1 < (A 49 34) → (0 ≤ x1 ∧ x1 < 4000) ∧ (0 ≤ ((6000 * (A 49 11)) + x1) ∧ ((6000 * (A 49 11)) + x1) < 18000) ∧ ∀ A20 : jA, A20 = jup A 58 ((6000 * (A 49 11)) + x1) (A 73 x1) → jrI 178 18 [some (.ref 49), some (.int (jI (x1 + 1)))] [] E A20 K))) : jrI 178 18 [some (.ref 49), some (.int (jI x1))] [] E A K := by
  intro hA
  refine zw_go (pc1 := 19) (L1 := [some (.ref 49), some (.int (jI x1))]) (st1 := [.int (jI x1)]) (σ1 := js E A) zM_X7_load dX7_load_18 rfl rfl rfl rfl ?_
  refine zw_go (pc1 := 20) (L1 := [some (.ref 49), some (.int (jI x1))]) (st1 := [.ref 49, .int (jI x1)]) (σ1 := js E A) zM_X7_load dX7_load_19 rfl rfl rfl rfl ?_
  refine jw_getI zM_X7_load dX7_load_20 zF_7_195 rfl rfl rfl ?_
  refine jw_icmp_ge (tgt := 53) zM_X7_load dX7_load_23 rfl r_x1 (hA 49 34) (fun q => ?_) (fun q => ?_)
  · replace h := h.1 q
    refine zw_go (pc1 := 54) (L1 := [some (.ref 49), some (.int (jI x1))]) (st1 := [.ref 49]) (σ1 := js E A) zM_X7_load dX7_load_53 rfl rfl rfl rfl ?_
    refine jw_getR (a := 59) zM_X7_load dX7_load_54 zF_7_37 rfl rfl rfl ?_
    refine zw_go (pc1 := 58) (L1 := [some (.ref 49), some (.int (jI x1))]) (st1 := [.ref 49, .ref 59]) (σ1 := js E A) zM_X7_load dX7_load_57 rfl rfl rfl rfl ?_
    refine jw_getI zM_X7_load dX7_load_58 zF_7_168 rfl rfl rfl ?_
    refine zw_go (pc1 := 62) (L1 := [some (.ref 49), some (.int (jI x1))]) (st1 := [.ref 49, .int (jI (A 49 11)), .ref 59]) (σ1 := js E A) zM_X7_load dX7_load_61 rfl rfl rfl rfl ?_
    refine jw_getI zM_X7_load dX7_load_62 zF_7_195 rfl rfl rfl ?_
    obtain ⟨hi1, h⟩ := h
    obtain ⟨A2, e3⟩ : ∃ z9 : jA, z9 = jup A 59 (A 49 11) (A 49 34) := ⟨_, rfl⟩
    replace h := h A2 e3
    have hA4 : jOK A2 := jOK.up hA (hA 49 34) e3
    refine jw_iast zM_X7_load dX7_load_65 rfl rfl hi1 e3 ?_
    refine zw_go (pc1 := 67) (L1 := [some (.ref 49), some (.int (jI x1))]) (st1 := [.ref 49]) (σ1 := js E A2) zM_X7_load dX7_load_66 rfl rfl rfl rfl ?_
    refine jw_iconst (v := 0) zM_X7_load dX7_load_67 rfl ?_
    obtain ⟨A5, e6⟩ : ∃ z9 : jA, z9 = jup A2 49 34 0 := ⟨_, rfl⟩
    replace h := h A5 e6
    have hA7 : jOK A5 := jOK.up hA4 (show jW 0 from ⟨by decide, by decide⟩) e6
    refine jw_putI zM_X7_load dX7_load_68 zF_7_195 rfl rfl rfl rfl e6 ?_
    refine zw_go (pc1 := 72) (L1 := [some (.ref 49), some (.int (jI x1))]) (st1 := [.ref 49]) (σ1 := js E A5) zM_X7_load dX7_load_71 rfl rfl rfl rfl ?_
    refine zw_go (pc1 := 73) (L1 := [some (.ref 49), some (.int (jI x1))]) (st1 := [.ref 49, .ref 49]) (σ1 := js E A5) zM_X7_load dX7_load_72 rfl rfl rfl rfl ?_
    refine jw_getI zM_X7_load dX7_load_73 zF_7_168 rfl rfl rfl ?_
    refine jw_callI (as := [.ref 49, .int (jI (A5 49 11))]) (rest := []) zM_X7_load dX7_load_76 (zx_calV zC_7_254) zM_X7_judge rfl rfl rfl rfl rfl (j_args0 rfl rfl) rfl hA7 h (fun v10 A8 rv11 hA9 h => ?_)
    refine zw_go (pc1 := 80) (L1 := [some (.ref 49), some (.int (jI v10))]) (st1 := []) (σ1 := js E A8) zM_X7_load dX7_load_79 rfl rfl rfl rfl ?_
    refine zw_go (pc1 := 81) (L1 := [some (.ref 49), some (.int (jI v10))]) (st1 := [.int (jI v10)]) (σ1 := js E A8) zM_X7_load dX7_load_80 rfl rfl rfl rfl ?_
    refine jw_if_le (tgt := 89) zM_X7_load dX7_load_81 rfl rv11 (fun q => ?_) (fun q => ?_)
    · replace h := h.1 q
      refine zw_go (pc1 := 90) (L1 := [some (.ref 49), some (.int (jI v10))]) (st1 := [.ref 49]) (σ1 := js E A8) zM_X7_load dX7_load_89 rfl rfl rfl rfl ?_
      refine zw_go (pc1 := 91) (L1 := [some (.ref 49), some (.int (jI v10))]) (st1 := [.ref 49, .ref 49]) (σ1 := js E A8) zM_X7_load dX7_load_90 rfl rfl rfl rfl ?_
      refine jw_getI zM_X7_load dX7_load_91 zF_7_168 rfl rfl rfl ?_
      refine jw_iconst (v := 1) zM_X7_load dX7_load_94 rfl ?_
      refine jw_add zM_X7_load dX7_load_95 ?_
      obtain ⟨hw12, h⟩ := h
      obtain ⟨A13, e14⟩ : ∃ z9 : jA, z9 = jup A8 49 11 ((A8 49 11) + 1) := ⟨_, rfl⟩
      replace h := h A13 e14
      have hA15 : jOK A13 := jOK.up hA9 hw12 e14
      refine jw_putI zM_X7_load dX7_load_96 zF_7_168 rfl rfl rfl rfl e14 ?_
      refine zw_go (pc1 := 100) (L1 := [some (.ref 49), some (.int (jI v10))]) (st1 := [.ref 49]) (σ1 := js E A13) zM_X7_load dX7_load_99 rfl rfl rfl rfl ?_
      refine jw_getI zM_X7_load dX7_load_100 zF_7_168 rfl rfl rfl ?_
      refine jw_iconst (v := 1) zM_X7_load dX7_load_103 rfl ?_
      refine jw_sub zM_X7_load dX7_load_104 ?_
      obtain ⟨hw16, h⟩ := h
      exact jw_reti zM_X7_load dX7_load_105 rfl hw16 hA15 h
    · replace h := h.2 q
      refine jw_bipush (v := (-10)) zM_X7_load dX7_load_84 (by decide) ?_
      refine zw_go (pc1 := 87) (L1 := [some (.ref 49), some (.int (jI v10))]) (st1 := [.int (jI v10), .int (jI (-10))]) (σ1 := js E A8) zM_X7_load dX7_load_86 rfl rfl rfl rfl ?_
      refine jw_sub zM_X7_load dX7_load_87 ?_
      obtain ⟨hw17, h⟩ := h
      exact jw_reti zM_X7_load dX7_load_88 rfl hw17 hA9 h
  · replace h := h.2 q
    refine zw_go (pc1 := 27) (L1 := [some (.ref 49), some (.int (jI x1))]) (st1 := [.ref 49]) (σ1 := js E A) zM_X7_load dX7_load_26 rfl rfl rfl rfl ?_
    refine jw_getR (a := 58) zM_X7_load dX7_load_27 zF_7_34 rfl rfl rfl ?_
    refine jw_sipush (v := 6000) zM_X7_load dX7_load_30 (by decide) ?_
    refine zw_go (pc1 := 34) (L1 := [some (.ref 49), some (.int (jI x1))]) (st1 := [.ref 49, .int (jI 6000), .ref 58]) (σ1 := js E A) zM_X7_load dX7_load_33 rfl rfl rfl rfl ?_
    refine jw_getI zM_X7_load dX7_load_34 zF_7_168 rfl rfl rfl ?_
    refine jw_mul zM_X7_load dX7_load_37 ?_
    refine zw_go (pc1 := 39) (L1 := [some (.ref 49), some (.int (jI x1))]) (st1 := [.int (jI x1), .int (jI (6000 * (A 49 11))), .ref 58]) (σ1 := js E A) zM_X7_load dX7_load_38 rfl rfl rfl rfl ?_
    refine jw_add zM_X7_load dX7_load_39 ?_
    refine zw_go (pc1 := 41) (L1 := [some (.ref 49), some (.int (jI x1))]) (st1 := [.ref 49, .int (jI ((6000 * (A 49 11)) + x1)), .ref 58]) (σ1 := js E A) zM_X7_load dX7_load_40 rfl rfl rfl rfl ?_
    refine jw_getR (a := 73) zM_X7_load dX7_load_41 zF_7_79 rfl rfl rfl ?_
    refine zw_go (pc1 := 45) (L1 := [some (.ref 49), some (.int (jI x1))]) (st1 := [.int (jI x1), .ref 73, .int (jI ((6000 * (A 49 11)) + x1)), .ref 58]) (σ1 := js E A) zM_X7_load dX7_load_44 rfl rfl rfl rfl ?_
    obtain ⟨hi18, h⟩ := h
    refine jw_iald zM_X7_load dX7_load_45 rfl rfl hi18 ?_
    obtain ⟨hi19, h⟩ := h
    obtain ⟨A20, e21⟩ : ∃ z9 : jA, z9 = jup A 58 ((6000 * (A 49 11)) + x1) (A 73 x1) := ⟨_, rfl⟩
    replace h := h A20 e21
    have hA22 : jOK A20 := jOK.up hA (hA 73 x1) e21
    refine jw_iast zM_X7_load dX7_load_46 rfl rfl hi19 e21 ?_
    refine jw_iinc (x := x1) (L1 := [some (.ref 49), some (.int (jI (x1 + 1)))]) zM_X7_load dX7_load_47 rfl (show 1 < 2 by decide) rfl ?_
    refine zw_goto (tgt := 18) zM_X7_load dX7_load_50 rfl ?_
    exact zw_weak2 (h hA22) ⟨rfl, rfl, trivial⟩
