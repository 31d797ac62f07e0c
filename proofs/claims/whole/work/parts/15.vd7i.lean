set_option maxHeartbeats 4000000 in
set_option maxRecDepth 100000 in
theorem vd_X7_thrown_0  (E : jE) (A : jA) (K : Int → jA → Prop) (h : K (A 49 0) A) : jrI 207 0 [some (.ref 49)] [] E A K := by
  intro hA
  refine zw_go (pc1 := 1) (L1 := [some (.ref 49)]) (st1 := [.ref 49]) (σ1 := js E A) zM_X7_thrown dX7_thrown_0 rfl rfl rfl rfl ?_
  refine jw_getI zM_X7_thrown dX7_thrown_1 zF_7_98 rfl rfl rfl ?_
  exact jw_reti zM_X7_thrown dX7_thrown_4 rfl (hA 49 0) hA h
set_option maxHeartbeats 4000000 in
set_option maxRecDepth 100000 in
theorem vd_X7_told_0 (x1 : Int) (r_x1 : jW x1) (x2 : Int) (r_x2 : jW x2) (x3 : Int) (r_x3 : jW x3) (E : jE) (A : jA) (K : Int → jA → Prop) (h : jrI 162 0 [some (.ref 49), some (.int (jI x1)), some (.int (jI x2))] [] E A (fun v3 A1 => jrI 143 0 [some (.ref 49), some (.int (jI x1)), some (.int (jI v3))] [] E A1 (fun v7 A5 => ((x3 = 0 → K v7 A5) ∧ (¬ x3 = 0 → ((x3 = 1 → jrI 210 0 [some (.ref 49), some (.int (jI x1)), some (.int (jI (v3 + 1)))] [] E A5 (fun v12 A10 => K v12 A10)) ∧ (¬ x3 = 1 → ((x3 = 2 → jrI 210 0 [some (.ref 49), some (.int (jI x1)), some (.int (jI (v3 + 3)))] [] E A5 (fun v17 A15 => K v17 A15)) ∧ (¬ x3 = 2 → ((x3 = 3 → jrI 143 0 [some (.ref 49), some (.int (jI x1)), some (.int (jI (v3 + 5)))] [] E A5 (fun v22 A20 => K v22 A20)) ∧ (¬ x3 = 3 → ((¬ v7 = (1 : Int) → ((¬ v7 = (2 : Int) → K 0 A5) ∧ (v7 = (2 : Int) → jrI 210 0 [some (.ref 49), some (.int (jI x1)), some (.int (jI (v3 + 6)))] [] E A5 (fun v27 A25 => K v27 A25)))) ∧ (v7 = (1 : Int) → jrI 210 0 [some (.ref 49), some (.int (jI x1)), some (.int (jI (v3 + 8)))] [] E A5 (fun v31 A29 => K v31 A29)))))))))))))) : jrI 208 0 [some (.ref 49), some (.int (jI x1)), some (.int (jI x2)), some (.int (jI x3)), none, none] [] E A K := by
  intro hA
  refine zw_go (pc1 := 1) (L1 := [some (.ref 49), some (.int (jI x1)), some (.int (jI x2)), some (.int (jI x3)), none, none]) (st1 := [.ref 49]) (σ1 := js E A) zM_X7_told dX7_told_0 rfl rfl rfl rfl ?_
  refine zw_go (pc1 := 2) (L1 := [some (.ref 49), some (.int (jI x1)), some (.int (jI x2)), some (.int (jI x3)), none, none]) (st1 := [.int (jI x1), .ref 49]) (σ1 := js E A) zM_X7_told dX7_told_1 rfl rfl rfl rfl ?_
  refine zw_go (pc1 := 3) (L1 := [some (.ref 49), some (.int (jI x1)), some (.int (jI x2)), some (.int (jI x3)), none, none]) (st1 := [.int (jI x2), .int (jI x1), .ref 49]) (σ1 := js E A) zM_X7_told dX7_told_2 rfl rfl rfl rfl ?_
  refine jw_callI (as := [.ref 49, .int (jI x1), .int (jI x2)]) (rest := []) zM_X7_told dX7_told_3 (zx_calV zC_7_226) zM_X7_inode rfl rfl rfl rfl rfl (j_args0 rfl rfl) rfl hA h (fun v3 A1 rv4 hA2 h => ?_)
  refine zw_go (pc1 := 8) (L1 := [some (.ref 49), some (.int (jI x1)), some (.int (jI x2)), some (.int (jI x3)), some (.int (jI v3)), none]) (st1 := []) (σ1 := js E A1) zM_X7_told dX7_told_6 rfl rfl rfl rfl ?_
  refine zw_go (pc1 := 9) (L1 := [some (.ref 49), some (.int (jI x1)), some (.int (jI x2)), some (.int (jI x3)), some (.int (jI v3)), none]) (st1 := [.ref 49]) (σ1 := js E A1) zM_X7_told dX7_told_8 rfl rfl rfl rfl ?_
  refine zw_go (pc1 := 10) (L1 := [some (.ref 49), some (.int (jI x1)), some (.int (jI x2)), some (.int (jI x3)), some (.int (jI v3)), none]) (st1 := [.int (jI x1), .ref 49]) (σ1 := js E A1) zM_X7_told dX7_told_9 rfl rfl rfl rfl ?_
  refine zw_go (pc1 := 12) (L1 := [some (.ref 49), some (.int (jI x1)), some (.int (jI x2)), some (.int (jI x3)), some (.int (jI v3)), none]) (st1 := [.int (jI v3), .int (jI x1), .ref 49]) (σ1 := js E A1) zM_X7_told dX7_told_10 rfl rfl rfl rfl ?_
  refine jw_callI (as := [.ref 49, .int (jI x1), .int (jI v3)]) (rest := []) zM_X7_told dX7_told_12 (zx_calV zC_7_198) zM_X7_byteAt rfl rfl rfl rfl rfl (j_args0 rfl rfl) rfl hA2 h (fun v7 A5 rv8 hA6 h => ?_)
  refine zw_go (pc1 := 17) (L1 := [some (.ref 49), some (.int (jI x1)), some (.int (jI x2)), some (.int (jI x3)), some (.int (jI v3)), some (.int (jI v7))]) (st1 := []) (σ1 := js E A5) zM_X7_told dX7_told_15 rfl rfl rfl rfl ?_
  refine zw_go (pc1 := 18) (L1 := [some (.ref 49), some (.int (jI x1)), some (.int (jI x2)), some (.int (jI x3)), some (.int (jI v3)), some (.int (jI v7))]) (st1 := [.int (jI x3)]) (σ1 := js E A5) zM_X7_told dX7_told_17 rfl rfl rfl rfl ?_
  by_cases hs9 : x3 = 0
  · replace h := h.1 hs9
    refine zw_sw (tgt := 48) zM_X7_told dX7_told_18 (j_sw_in hs9 rfl) rfl ?_
    refine zw_go (pc1 := 50) (L1 := [some (.ref 49), some (.int (jI x1)), some (.int (jI x2)), some (.int (jI x3)), some (.int (jI v3)), some (.int (jI v7))]) (st1 := [.int (jI v7)]) (σ1 := js E A5) zM_X7_told dX7_told_48 rfl rfl rfl rfl ?_
    exact jw_reti zM_X7_told dX7_told_50 rfl rv8 hA6 h
  · replace h := h.2 hs9
    by_cases hs14 : x3 = 1
    · replace h := h.1 hs14
      refine zw_sw (tgt := 51) zM_X7_told dX7_told_18 (j_sw_in hs14 rfl) rfl ?_
      refine zw_go (pc1 := 52) (L1 := [some (.ref 49), some (.int (jI x1)), some (.int (jI x2)), some (.int (jI x3)), some (.int (jI v3)), some (.int (jI v7))]) (st1 := [.ref 49]) (σ1 := js E A5) zM_X7_told dX7_told_51 rfl rfl rfl rfl ?_
      refine zw_go (pc1 := 53) (L1 := [some (.ref 49), some (.int (jI x1)), some (.int (jI x2)), some (.int (jI x3)), some (.int (jI v3)), some (.int (jI v7))]) (st1 := [.int (jI x1), .ref 49]) (σ1 := js E A5) zM_X7_told dX7_told_52 rfl rfl rfl rfl ?_
      refine zw_go (pc1 := 55) (L1 := [some (.ref 49), some (.int (jI x1)), some (.int (jI x2)), some (.int (jI x3)), some (.int (jI v3)), some (.int (jI v7))]) (st1 := [.int (jI v3), .int (jI x1), .ref 49]) (σ1 := js E A5) zM_X7_told dX7_told_53 rfl rfl rfl rfl ?_
      refine jw_iconst (v := 1) zM_X7_told dX7_told_55 rfl ?_
      refine jw_add zM_X7_told dX7_told_56 ?_
      refine jw_callI (as := [.ref 49, .int (jI x1), .int (jI (v3 + 1))]) (rest := []) zM_X7_told dX7_told_57 (zx_calV zC_7_201) zM_X7_word rfl rfl rfl rfl rfl (j_args0 rfl rfl) rfl hA6 h (fun v12 A10 rv13 hA11 h => ?_)
      exact jw_reti zM_X7_told dX7_told_60 rfl rv13 hA11 h
    · replace h := h.2 hs14
      by_cases hs19 : x3 = 2
      · replace h := h.1 hs19
        refine zw_sw (tgt := 61) zM_X7_told dX7_told_18 (j_sw_in hs19 rfl) rfl ?_
        refine zw_go (pc1 := 62) (L1 := [some (.ref 49), some (.int (jI x1)), some (.int (jI x2)), some (.int (jI x3)), some (.int (jI v3)), some (.int (jI v7))]) (st1 := [.ref 49]) (σ1 := js E A5) zM_X7_told dX7_told_61 rfl rfl rfl rfl ?_
        refine zw_go (pc1 := 63) (L1 := [some (.ref 49), some (.int (jI x1)), some (.int (jI x2)), some (.int (jI x3)), some (.int (jI v3)), some (.int (jI v7))]) (st1 := [.int (jI x1), .ref 49]) (σ1 := js E A5) zM_X7_told dX7_told_62 rfl rfl rfl rfl ?_
        refine zw_go (pc1 := 65) (L1 := [some (.ref 49), some (.int (jI x1)), some (.int (jI x2)), some (.int (jI x3)), some (.int (jI v3)), some (.int (jI v7))]) (st1 := [.int (jI v3), .int (jI x1), .ref 49]) (σ1 := js E A5) zM_X7_told dX7_told_63 rfl rfl rfl rfl ?_
        refine jw_iconst (v := 3) zM_X7_told dX7_told_65 rfl ?_
        refine jw_add zM_X7_told dX7_told_66 ?_
        refine jw_callI (as := [.ref 49, .int (jI x1), .int (jI (v3 + 3))]) (rest := []) zM_X7_told dX7_told_67 (zx_calV zC_7_201) zM_X7_word rfl rfl rfl rfl rfl (j_args0 rfl rfl) rfl hA6 h (fun v17 A15 rv18 hA16 h => ?_)
        exact jw_reti zM_X7_told dX7_told_70 rfl rv18 hA16 h
      · replace h := h.2 hs19
        by_cases hs24 : x3 = 3
        · replace h := h.1 hs24
          refine zw_sw (tgt := 71) zM_X7_told dX7_told_18 (j_sw_in hs24 rfl) rfl ?_
          refine zw_go (pc1 := 72) (L1 := [some (.ref 49), some (.int (jI x1)), some (.int (jI x2)), some (.int (jI x3)), some (.int (jI v3)), some (.int (jI v7))]) (st1 := [.ref 49]) (σ1 := js E A5) zM_X7_told dX7_told_71 rfl rfl rfl rfl ?_
          refine zw_go (pc1 := 73) (L1 := [some (.ref 49), some (.int (jI x1)), some (.int (jI x2)), some (.int (jI x3)), some (.int (jI v3)), some (.int (jI v7))]) (st1 := [.int (jI x1), .ref 49]) (σ1 := js E A5) zM_X7_told dX7_told_72 rfl rfl rfl rfl ?_
          refine zw_go (pc1 := 75) (L1 := [some (.ref 49), some (.int (jI x1)), some (.int (jI x2)), some (.int (jI x3)), some (.int (jI v3)), some (.int (jI v7))]) (st1 := [.int (jI v3), .int (jI x1), .ref 49]) (σ1 := js E A5) zM_X7_told dX7_told_73 rfl rfl rfl rfl ?_
          refine jw_iconst (v := 5) zM_X7_told dX7_told_75 rfl ?_
          refine jw_add zM_X7_told dX7_told_76 ?_
          refine jw_callI (as := [.ref 49, .int (jI x1), .int (jI (v3 + 5))]) (rest := []) zM_X7_told dX7_told_77 (zx_calV zC_7_198) zM_X7_byteAt rfl rfl rfl rfl rfl (j_args0 rfl rfl) rfl hA6 h (fun v22 A20 rv23 hA21 h => ?_)
          exact jw_reti zM_X7_told dX7_told_80 rfl rv23 hA21 h
        · replace h := h.2 hs24
          refine zw_sw (tgt := 81) zM_X7_told dX7_told_18 (j_sw_out r_x3 (by omega)) rfl ?_
          refine zw_go (pc1 := 83) (L1 := [some (.ref 49), some (.int (jI x1)), some (.int (jI x2)), some (.int (jI x3)), some (.int (jI v3)), some (.int (jI v7))]) (st1 := [.int (jI v7)]) (σ1 := js E A5) zM_X7_told dX7_told_81 rfl rfl rfl rfl ?_
          refine jw_iconst (v := 1) zM_X7_told dX7_told_83 rfl ?_
          refine jw_icmp_ne (tgt := 100) zM_X7_told dX7_told_84 rfl rv8 (show jW 1 from ⟨by decide, by decide⟩) (fun q => ?_) (fun q => ?_)
          · replace h := h.1 q
            refine zw_go (pc1 := 102) (L1 := [some (.ref 49), some (.int (jI x1)), some (.int (jI x2)), some (.int (jI x3)), some (.int (jI v3)), some (.int (jI v7))]) (st1 := [.int (jI v7)]) (σ1 := js E A5) zM_X7_told dX7_told_100 rfl rfl rfl rfl ?_
            refine jw_iconst (v := 2) zM_X7_told dX7_told_102 rfl ?_
            refine jw_icmp_ne (tgt := 119) zM_X7_told dX7_told_103 rfl rv8 (show jW 2 from ⟨by decide, by decide⟩) (fun q => ?_) (fun q => ?_)
            · replace h := h.1 q
              refine jw_iconst (v := 0) zM_X7_told dX7_told_119 rfl ?_
              exact jw_reti zM_X7_told dX7_told_120 rfl (show jW 0 from ⟨by decide, by decide⟩) hA6 h
            · replace h := h.2 q
              refine zw_go (pc1 := 107) (L1 := [some (.ref 49), some (.int (jI x1)), some (.int (jI x2)), some (.int (jI x3)), some (.int (jI v3)), some (.int (jI v7))]) (st1 := [.ref 49]) (σ1 := js E A5) zM_X7_told dX7_told_106 rfl rfl rfl rfl ?_
              refine zw_go (pc1 := 108) (L1 := [some (.ref 49), some (.int (jI x1)), some (.int (jI x2)), some (.int (jI x3)), some (.int (jI v3)), some (.int (jI v7))]) (st1 := [.int (jI x1), .ref 49]) (σ1 := js E A5) zM_X7_told dX7_told_107 rfl rfl rfl rfl ?_
              refine zw_go (pc1 := 110) (L1 := [some (.ref 49), some (.int (jI x1)), some (.int (jI x2)), some (.int (jI x3)), some (.int (jI v3)), some (.int (jI v7))]) (st1 := [.int (jI v3), .int (jI x1), .ref 49]) (σ1 := js E A5) zM_X7_told dX7_told_108 rfl rfl rfl rfl ?_
              refine jw_bipush (v := 6) zM_X7_told dX7_told_110 (by decide) ?_
              refine jw_add zM_X7_told dX7_told_112 ?_
              refine jw_callI (as := [.ref 49, .int (jI x1), .int (jI (v3 + 6))]) (rest := []) zM_X7_told dX7_told_113 (zx_calV zC_7_201) zM_X7_word rfl rfl rfl rfl rfl (j_args0 rfl rfl) rfl hA6 h (fun v27 A25 rv28 hA26 h => ?_)
              refine zw_goto (tgt := 120) zM_X7_told dX7_told_116 rfl ?_
              exact jw_reti zM_X7_told dX7_told_120 rfl rv28 hA26 h
          · replace h := h.2 q
            refine zw_go (pc1 := 88) (L1 := [some (.ref 49), some (.int (jI x1)), some (.int (jI x2)), some (.int (jI x3)), some (.int (jI v3)), some (.int (jI v7))]) (st1 := [.ref 49]) (σ1 := js E A5) zM_X7_told dX7_told_87 rfl rfl rfl rfl ?_
            refine zw_go (pc1 := 89) (L1 := [some (.ref 49), some (.int (jI x1)), some (.int (jI x2)), some (.int (jI x3)), some (.int (jI v3)), some (.int (jI v7))]) (st1 := [.int (jI x1), .ref 49]) (σ1 := js E A5) zM_X7_told dX7_told_88 rfl rfl rfl rfl ?_
            refine zw_go (pc1 := 91) (L1 := [some (.ref 49), some (.int (jI x1)), some (.int (jI x2)), some (.int (jI x3)), some (.int (jI v3)), some (.int (jI v7))]) (st1 := [.int (jI v3), .int (jI x1), .ref 49]) (σ1 := js E A5) zM_X7_told dX7_told_89 rfl rfl rfl rfl ?_
            refine jw_bipush (v := 8) zM_X7_told dX7_told_91 (by decide) ?_
            refine jw_add zM_X7_told dX7_told_93 ?_
            refine jw_callI (as := [.ref 49, .int (jI x1), .int (jI (v3 + 8))]) (rest := []) zM_X7_told dX7_told_94 (zx_calV zC_7_201) zM_X7_word rfl rfl rfl rfl rfl (j_args0 rfl rfl) rfl hA6 h (fun v31 A29 rv32 hA30 h => ?_)
            refine zw_goto (tgt := 120) zM_X7_told dX7_told_97 rfl ?_
            exact jw_reti zM_X7_told dX7_told_120 rfl rv32 hA30 h
set_option maxHeartbeats 4000000 in
set_option maxRecDepth 100000 in
theorem vd_X7_view_0 (x1 : Int) (r_x1 : jW x1) (x2 : Int) (r_x2 : jW x2) (E : jE) (A : jA) (K : Int → jA → Prop) (h : ∀ A1 : jA, A1 = jup A 49 0 0 → jrI 171 0 [some (.ref 49), some (.int (jI x1))] [] E A1 (fun v6 A4 => ((¬ v6 = (0 : Int) → (0 ≤ (3 * x1) ∧ (3 * x1) < 183) ∧ (0 ≤ (3 * x1) ∧ (3 * x1) < 183) ∧ ((x2 = 0 → jrI 173 0 [some (.ref 49), some (.int (jI x1))] [] E A4 (fun v12 A10 => K v12 A10)) ∧ (¬ x2 = 0 → ((x2 = 1 → K (A4 76 (3 * x1)) A4) ∧ (¬ x2 = 1 → ((x2 = 2 → K (A4 77 (3 * x1)) A4) ∧ (¬ x2 = 2 → ((x2 = 3 → jrI 173 0 [some (.ref 49), some (.int (jI x1))] [] E A4 (fun v19 A17 => ((¬ v19 = (1 : Int) → jrI 208 0 [some (.ref 49), some (.int (jI (A4 76 (3 * x1)))), some (.int (jI (A4 77 (3 * x1)))), some (.int (jI 4)), none, none] [] E A17 (fun v23 A21 => K v23 A21)) ∧ (v19 = (1 : Int) → jrI 184 0 [some (.ref 49), some (.int (jI x1)), none, none] [] E A17 (fun v27 A25 => K v27 A25))))) ∧ (¬ x2 = 3 → ((x2 = 4 → jrI 208 0 [some (.ref 49), some (.int (jI (A4 76 (3 * x1)))), some (.int (jI (A4 77 (3 * x1)))), some (.int (jI 1)), none, none] [] E A4 (fun v32 A30 => K v32 A30)) ∧ (¬ x2 = 4 → ((x2 = 5 → jrI 208 0 [some (.ref 49), some (.int (jI (A4 76 (3 * x1)))), some (.int (jI (A4 77 (3 * x1)))), some (.int (jI 2)), none, none] [] E A4 (fun v37 A35 => K v37 A35)) ∧ (¬ x2 = 5 → ((x2 = 6 → (0 ≤ x1 ∧ x1 < 61) ∧ K (A4 75 x1) A4) ∧ (¬ x2 = 6 → K (-2) A4))))))))))))))) ∧ (v6 = (0 : Int) → K (-1) A4)))) : jrI 209 0 [some (.ref 49), some (.int (jI x1)), some (.int (jI x2)), none, none] [] E A K := by
  intro hA
  refine zw_go (pc1 := 1) (L1 := [some (.ref 49), some (.int (jI x1)), some (.int (jI x2)), none, none]) (st1 := [.ref 49]) (σ1 := js E A) zM_X7_view dX7_view_0 rfl rfl rfl rfl ?_
  refine jw_iconst (v := 0) zM_X7_view dX7_view_1 rfl ?_
  obtain ⟨A1, e2⟩ : ∃ z9 : jA, z9 = jup A 49 0 0 := ⟨_, rfl⟩
  replace h := h A1 e2
  have hA3 : jOK A1 := jOK.up hA (show jW 0 from ⟨by decide, by decide⟩) e2
  refine jw_putI zM_X7_view dX7_view_2 zF_7_98 rfl rfl rfl rfl e2 ?_
  refine zw_go (pc1 := 6) (L1 := [some (.ref 49), some (.int (jI x1)), some (.int (jI x2)), none, none]) (st1 := [.ref 49]) (σ1 := js E A1) zM_X7_view dX7_view_5 rfl rfl rfl rfl ?_
  refine zw_go (pc1 := 7) (L1 := [some (.ref 49), some (.int (jI x1)), some (.int (jI x2)), none, none]) (st1 := [.int (jI x1), .ref 49]) (σ1 := js E A1) zM_X7_view dX7_view_6 rfl rfl rfl rfl ?_
  refine jw_callI (as := [.ref 49, .int (jI x1)]) (rest := []) zM_X7_view dX7_view_7 (zx_calV zC_7_278) zM_X7_isView rfl rfl rfl rfl rfl (j_args0 rfl rfl) rfl hA3 h (fun v6 A4 rv7 hA5 h => ?_)
  refine jw_if_ne (tgt := 15) zM_X7_view dX7_view_10 rfl rv7 (fun q => ?_) (fun q => ?_)
  · replace h := h.1 q
    refine zw_go (pc1 := 16) (L1 := [some (.ref 49), some (.int (jI x1)), some (.int (jI x2)), none, none]) (st1 := [.ref 49]) (σ1 := js E A4) zM_X7_view dX7_view_15 rfl rfl rfl rfl ?_
    refine jw_getR (a := 76) zM_X7_view dX7_view_16 zF_7_88 rfl rfl rfl ?_
    refine jw_iconst (v := 3) zM_X7_view dX7_view_19 rfl ?_
    refine zw_go (pc1 := 21) (L1 := [some (.ref 49), some (.int (jI x1)), some (.int (jI x2)), none, none]) (st1 := [.int (jI x1), .int (jI 3), .ref 76]) (σ1 := js E A4) zM_X7_view dX7_view_20 rfl rfl rfl rfl ?_
    refine jw_mul zM_X7_view dX7_view_21 ?_
    obtain ⟨hi8, h⟩ := h
    refine jw_iald zM_X7_view dX7_view_22 rfl rfl hi8 ?_
    refine zw_go (pc1 := 24) (L1 := [some (.ref 49), some (.int (jI x1)), some (.int (jI x2)), some (.int (jI (A4 76 (3 * x1)))), none]) (st1 := []) (σ1 := js E A4) zM_X7_view dX7_view_23 rfl rfl rfl rfl ?_
    refine zw_go (pc1 := 25) (L1 := [some (.ref 49), some (.int (jI x1)), some (.int (jI x2)), some (.int (jI (A4 76 (3 * x1)))), none]) (st1 := [.ref 49]) (σ1 := js E A4) zM_X7_view dX7_view_24 rfl rfl rfl rfl ?_
    refine jw_getR (a := 77) zM_X7_view dX7_view_25 zF_7_91 rfl rfl rfl ?_
    refine jw_iconst (v := 3) zM_X7_view dX7_view_28 rfl ?_
    refine zw_go (pc1 := 30) (L1 := [some (.ref 49), some (.int (jI x1)), some (.int (jI x2)), some (.int (jI (A4 76 (3 * x1)))), none]) (st1 := [.int (jI x1), .int (jI 3), .ref 77]) (σ1 := js E A4) zM_X7_view dX7_view_29 rfl rfl rfl rfl ?_
    refine jw_mul zM_X7_view dX7_view_30 ?_
    obtain ⟨hi9, h⟩ := h
    refine jw_iald zM_X7_view dX7_view_31 rfl rfl hi9 ?_
    refine zw_go (pc1 := 34) (L1 := [some (.ref 49), some (.int (jI x1)), some (.int (jI x2)), some (.int (jI (A4 76 (3 * x1)))), some (.int (jI (A4 77 (3 * x1))))]) (st1 := []) (σ1 := js E A4) zM_X7_view dX7_view_32 rfl rfl rfl rfl ?_
    refine zw_go (pc1 := 35) (L1 := [some (.ref 49), some (.int (jI x1)), some (.int (jI x2)), some (.int (jI (A4 76 (3 * x1)))), some (.int (jI (A4 77 (3 * x1))))]) (st1 := [.int (jI x2)]) (σ1 := js E A4) zM_X7_view dX7_view_34 rfl rfl rfl rfl ?_
    by_cases hs14 : x2 = 0
    · replace h := h.1 hs14
      refine zw_sw (tgt := 76) zM_X7_view dX7_view_35 (j_sw_in hs14 rfl) rfl ?_
      refine zw_go (pc1 := 77) (L1 := [some (.ref 49), some (.int (jI x1)), some (.int (jI x2)), some (.int (jI (A4 76 (3 * x1)))), some (.int (jI (A4 77 (3 * x1))))]) (st1 := [.ref 49]) (σ1 := js E A4) zM_X7_view dX7_view_76 rfl rfl rfl rfl ?_
      refine zw_go (pc1 := 78) (L1 := [some (.ref 49), some (.int (jI x1)), some (.int (jI x2)), some (.int (jI (A4 76 (3 * x1)))), some (.int (jI (A4 77 (3 * x1))))]) (st1 := [.int (jI x1), .ref 49]) (σ1 := js E A4) zM_X7_view dX7_view_77 rfl rfl rfl rfl ?_
      refine jw_callI (as := [.ref 49, .int (jI x1)]) (rest := []) zM_X7_view dX7_view_78 (zx_calV zC_7_281) zM_X7_kindOf rfl rfl rfl rfl rfl (j_args0 rfl rfl) rfl hA5 h (fun v12 A10 rv13 hA11 h => ?_)
      exact jw_reti zM_X7_view dX7_view_81 rfl rv13 hA11 h
    · replace h := h.2 hs14
      by_cases hs15 : x2 = 1
      · replace h := h.1 hs15
        refine zw_sw (tgt := 82) zM_X7_view dX7_view_35 (j_sw_in hs15 rfl) rfl ?_
        refine zw_go (pc1 := 83) (L1 := [some (.ref 49), some (.int (jI x1)), some (.int (jI x2)), some (.int (jI (A4 76 (3 * x1)))), some (.int (jI (A4 77 (3 * x1))))]) (st1 := [.int (jI (A4 76 (3 * x1)))]) (σ1 := js E A4) zM_X7_view dX7_view_82 rfl rfl rfl rfl ?_
        exact jw_reti zM_X7_view dX7_view_83 rfl (hA5 76 (3 * x1)) hA5 h
      · replace h := h.2 hs15
        by_cases hs16 : x2 = 2
        · replace h := h.1 hs16
          refine zw_sw (tgt := 84) zM_X7_view dX7_view_35 (j_sw_in hs16 rfl) rfl ?_
          refine zw_go (pc1 := 86) (L1 := [some (.ref 49), some (.int (jI x1)), some (.int (jI x2)), some (.int (jI (A4 76 (3 * x1)))), some (.int (jI (A4 77 (3 * x1))))]) (st1 := [.int (jI (A4 77 (3 * x1)))]) (σ1 := js E A4) zM_X7_view dX7_view_84 rfl rfl rfl rfl ?_
          exact jw_reti zM_X7_view dX7_view_86 rfl (hA5 77 (3 * x1)) hA5 h
        · replace h := h.2 hs16
          by_cases hs29 : x2 = 3
          · replace h := h.1 hs29
            refine zw_sw (tgt := 87) zM_X7_view dX7_view_35 (j_sw_in hs29 rfl) rfl ?_
            refine zw_go (pc1 := 88) (L1 := [some (.ref 49), some (.int (jI x1)), some (.int (jI x2)), some (.int (jI (A4 76 (3 * x1)))), some (.int (jI (A4 77 (3 * x1))))]) (st1 := [.ref 49]) (σ1 := js E A4) zM_X7_view dX7_view_87 rfl rfl rfl rfl ?_
            refine zw_go (pc1 := 89) (L1 := [some (.ref 49), some (.int (jI x1)), some (.int (jI x2)), some (.int (jI (A4 76 (3 * x1)))), some (.int (jI (A4 77 (3 * x1))))]) (st1 := [.int (jI x1), .ref 49]) (σ1 := js E A4) zM_X7_view dX7_view_88 rfl rfl rfl rfl ?_
            refine jw_callI (as := [.ref 49, .int (jI x1)]) (rest := []) zM_X7_view dX7_view_89 (zx_calV zC_7_281) zM_X7_kindOf rfl rfl rfl rfl rfl (j_args0 rfl rfl) rfl hA5 h (fun v19 A17 rv20 hA18 h => ?_)
            refine jw_iconst (v := 1) zM_X7_view dX7_view_92 rfl ?_
            refine jw_icmp_ne (tgt := 104) zM_X7_view dX7_view_93 rfl rv20 (show jW 1 from ⟨by decide, by decide⟩) (fun q => ?_) (fun q => ?_)
            · replace h := h.1 q
              refine zw_go (pc1 := 105) (L1 := [some (.ref 49), some (.int (jI x1)), some (.int (jI x2)), some (.int (jI (A4 76 (3 * x1)))), some (.int (jI (A4 77 (3 * x1))))]) (st1 := [.ref 49]) (σ1 := js E A17) zM_X7_view dX7_view_104 rfl rfl rfl rfl ?_
              refine zw_go (pc1 := 106) (L1 := [some (.ref 49), some (.int (jI x1)), some (.int (jI x2)), some (.int (jI (A4 76 (3 * x1)))), some (.int (jI (A4 77 (3 * x1))))]) (st1 := [.int (jI (A4 76 (3 * x1))), .ref 49]) (σ1 := js E A17) zM_X7_view dX7_view_105 rfl rfl rfl rfl ?_
              refine zw_go (pc1 := 108) (L1 := [some (.ref 49), some (.int (jI x1)), some (.int (jI x2)), some (.int (jI (A4 76 (3 * x1)))), some (.int (jI (A4 77 (3 * x1))))]) (st1 := [.int (jI (A4 77 (3 * x1))), .int (jI (A4 76 (3 * x1))), .ref 49]) (σ1 := js E A17) zM_X7_view dX7_view_106 rfl rfl rfl rfl ?_
              refine jw_iconst (v := 4) zM_X7_view dX7_view_108 rfl ?_
              refine jw_callI (as := [.ref 49, .int (jI (A4 76 (3 * x1))), .int (jI (A4 77 (3 * x1))), .int (jI 4)]) (rest := []) zM_X7_view dX7_view_109 (zx_calV zC_7_266) zM_X7_told rfl rfl rfl rfl rfl (j_args0 rfl rfl) rfl hA18 h (fun v23 A21 rv24 hA22 h => ?_)
              exact jw_reti zM_X7_view dX7_view_112 rfl rv24 hA22 h
            · replace h := h.2 q
              refine zw_go (pc1 := 97) (L1 := [some (.ref 49), some (.int (jI x1)), some (.int (jI x2)), some (.int (jI (A4 76 (3 * x1)))), some (.int (jI (A4 77 (3 * x1))))]) (st1 := [.ref 49]) (σ1 := js E A17) zM_X7_view dX7_view_96 rfl rfl rfl rfl ?_
              refine zw_go (pc1 := 98) (L1 := [some (.ref 49), some (.int (jI x1)), some (.int (jI x2)), some (.int (jI (A4 76 (3 * x1)))), some (.int (jI (A4 77 (3 * x1))))]) (st1 := [.int (jI x1), .ref 49]) (σ1 := js E A17) zM_X7_view dX7_view_97 rfl rfl rfl rfl ?_
              refine jw_callI (as := [.ref 49, .int (jI x1)]) (rest := []) zM_X7_view dX7_view_98 (zx_calV zC_7_290) zM_X7_namesIn rfl rfl rfl rfl rfl (j_args0 rfl rfl) rfl hA18 h (fun v27 A25 rv28 hA26 h => ?_)
              refine zw_goto (tgt := 112) zM_X7_view dX7_view_101 rfl ?_
              exact jw_reti zM_X7_view dX7_view_112 rfl rv28 hA26 h
          · replace h := h.2 hs29
            by_cases hs34 : x2 = 4
            · replace h := h.1 hs34
              refine zw_sw (tgt := 113) zM_X7_view dX7_view_35 (j_sw_in hs34 rfl) rfl ?_
              refine zw_go (pc1 := 114) (L1 := [some (.ref 49), some (.int (jI x1)), some (.int (jI x2)), some (.int (jI (A4 76 (3 * x1)))), some (.int (jI (A4 77 (3 * x1))))]) (st1 := [.ref 49]) (σ1 := js E A4) zM_X7_view dX7_view_113 rfl rfl rfl rfl ?_
              refine zw_go (pc1 := 115) (L1 := [some (.ref 49), some (.int (jI x1)), some (.int (jI x2)), some (.int (jI (A4 76 (3 * x1)))), some (.int (jI (A4 77 (3 * x1))))]) (st1 := [.int (jI (A4 76 (3 * x1))), .ref 49]) (σ1 := js E A4) zM_X7_view dX7_view_114 rfl rfl rfl rfl ?_
              refine zw_go (pc1 := 117) (L1 := [some (.ref 49), some (.int (jI x1)), some (.int (jI x2)), some (.int (jI (A4 76 (3 * x1)))), some (.int (jI (A4 77 (3 * x1))))]) (st1 := [.int (jI (A4 77 (3 * x1))), .int (jI (A4 76 (3 * x1))), .ref 49]) (σ1 := js E A4) zM_X7_view dX7_view_115 rfl rfl rfl rfl ?_
              refine jw_iconst (v := 1) zM_X7_view dX7_view_117 rfl ?_
              refine jw_callI (as := [.ref 49, .int (jI (A4 76 (3 * x1))), .int (jI (A4 77 (3 * x1))), .int (jI 1)]) (rest := []) zM_X7_view dX7_view_118 (zx_calV zC_7_266) zM_X7_told rfl rfl rfl rfl rfl (j_args0 rfl rfl) rfl hA5 h (fun v32 A30 rv33 hA31 h => ?_)
              exact jw_reti zM_X7_view dX7_view_121 rfl rv33 hA31 h
            · replace h := h.2 hs34
              by_cases hs39 : x2 = 5
              · replace h := h.1 hs39
                refine zw_sw (tgt := 122) zM_X7_view dX7_view_35 (j_sw_in hs39 rfl) rfl ?_
                refine zw_go (pc1 := 123) (L1 := [some (.ref 49), some (.int (jI x1)), some (.int (jI x2)), some (.int (jI (A4 76 (3 * x1)))), some (.int (jI (A4 77 (3 * x1))))]) (st1 := [.ref 49]) (σ1 := js E A4) zM_X7_view dX7_view_122 rfl rfl rfl rfl ?_
                refine zw_go (pc1 := 124) (L1 := [some (.ref 49), some (.int (jI x1)), some (.int (jI x2)), some (.int (jI (A4 76 (3 * x1)))), some (.int (jI (A4 77 (3 * x1))))]) (st1 := [.int (jI (A4 76 (3 * x1))), .ref 49]) (σ1 := js E A4) zM_X7_view dX7_view_123 rfl rfl rfl rfl ?_
                refine zw_go (pc1 := 126) (L1 := [some (.ref 49), some (.int (jI x1)), some (.int (jI x2)), some (.int (jI (A4 76 (3 * x1)))), some (.int (jI (A4 77 (3 * x1))))]) (st1 := [.int (jI (A4 77 (3 * x1))), .int (jI (A4 76 (3 * x1))), .ref 49]) (σ1 := js E A4) zM_X7_view dX7_view_124 rfl rfl rfl rfl ?_
                refine jw_iconst (v := 2) zM_X7_view dX7_view_126 rfl ?_
                refine jw_callI (as := [.ref 49, .int (jI (A4 76 (3 * x1))), .int (jI (A4 77 (3 * x1))), .int (jI 2)]) (rest := []) zM_X7_view dX7_view_127 (zx_calV zC_7_266) zM_X7_told rfl rfl rfl rfl rfl (j_args0 rfl rfl) rfl hA5 h (fun v37 A35 rv38 hA36 h => ?_)
                exact jw_reti zM_X7_view dX7_view_130 rfl rv38 hA36 h
              · replace h := h.2 hs39
                by_cases hs41 : x2 = 6
                · replace h := h.1 hs41
                  refine zw_sw (tgt := 131) zM_X7_view dX7_view_35 (j_sw_in hs41 rfl) rfl ?_
                  refine zw_go (pc1 := 132) (L1 := [some (.ref 49), some (.int (jI x1)), some (.int (jI x2)), some (.int (jI (A4 76 (3 * x1)))), some (.int (jI (A4 77 (3 * x1))))]) (st1 := [.ref 49]) (σ1 := js E A4) zM_X7_view dX7_view_131 rfl rfl rfl rfl ?_
                  refine jw_getR (a := 75) zM_X7_view dX7_view_132 zF_7_85 rfl rfl rfl ?_
                  refine zw_go (pc1 := 136) (L1 := [some (.ref 49), some (.int (jI x1)), some (.int (jI x2)), some (.int (jI (A4 76 (3 * x1)))), some (.int (jI (A4 77 (3 * x1))))]) (st1 := [.int (jI x1), .ref 75]) (σ1 := js E A4) zM_X7_view dX7_view_135 rfl rfl rfl rfl ?_
                  obtain ⟨hi40, h⟩ := h
                  refine jw_iald zM_X7_view dX7_view_136 rfl rfl hi40 ?_
                  exact jw_reti zM_X7_view dX7_view_137 rfl (hA5 75 x1) hA5 h
                · replace h := h.2 hs41
                  refine zw_sw (tgt := 138) zM_X7_view dX7_view_35 (j_sw_out r_x2 (by omega)) rfl ?_
                  refine jw_bipush (v := (-2)) zM_X7_view dX7_view_138 (by decide) ?_
                  exact jw_reti zM_X7_view dX7_view_140 rfl (show jW (-2) from ⟨by decide, by decide⟩) hA5 h
  · replace h := h.2 q
    refine jw_iconst (v := (-1)) zM_X7_view dX7_view_13 rfl ?_
    exact jw_reti zM_X7_view dX7_view_14 rfl (show jW (-1) from ⟨by decide, by decide⟩) hA5 h
set_option maxHeartbeats 4000000 in
set_option maxRecDepth 100000 in
theorem vd_X7_word_0 (x1 : Int) (r_x1 : jW x1) (x2 : Int) (r_x2 : jW x2) (E : jE) (A : jA) (K : Int → jA → Prop) (h : jrI 143 0 [some (.ref 49), some (.int (jI x1)), some (.int (jI x2))] [] E A (fun v3 A1 => jrI 143 0 [some (.ref 49), some (.int (jI x1)), some (.int (jI (x2 + 1)))] [] E A1 (fun v7 A5 => jW ((256 * v3) + v7) ∧ K ((256 * v3) + v7) A5))) : jrI 210 0 [some (.ref 49), some (.int (jI x1)), some (.int (jI x2))] [] E A K := by
  intro hA
  refine jw_sipush (v := 256) zM_X7_word dX7_word_0 (by decide) ?_
  refine zw_go (pc1 := 4) (L1 := [some (.ref 49), some (.int (jI x1)), some (.int (jI x2))]) (st1 := [.ref 49, .int (jI 256)]) (σ1 := js E A) zM_X7_word dX7_word_3 rfl rfl rfl rfl ?_
  refine zw_go (pc1 := 5) (L1 := [some (.ref 49), some (.int (jI x1)), some (.int (jI x2))]) (st1 := [.int (jI x1), .ref 49, .int (jI 256)]) (σ1 := js E A) zM_X7_word dX7_word_4 rfl rfl rfl rfl ?_
  refine zw_go (pc1 := 6) (L1 := [some (.ref 49), some (.int (jI x1)), some (.int (jI x2))]) (st1 := [.int (jI x2), .int (jI x1), .ref 49, .int (jI 256)]) (σ1 := js E A) zM_X7_word dX7_word_5 rfl rfl rfl rfl ?_
  refine jw_callI (as := [.ref 49, .int (jI x1), .int (jI x2)]) (rest := [.int (jI 256)]) zM_X7_word dX7_word_6 (zx_calV zC_7_198) zM_X7_byteAt rfl rfl rfl rfl rfl (j_args0 rfl rfl) rfl hA h (fun v3 A1 rv4 hA2 h => ?_)
  refine jw_mul zM_X7_word dX7_word_9 ?_
  refine zw_go (pc1 := 11) (L1 := [some (.ref 49), some (.int (jI x1)), some (.int (jI x2))]) (st1 := [.ref 49, .int (jI (256 * v3))]) (σ1 := js E A1) zM_X7_word dX7_word_10 rfl rfl rfl rfl ?_
  refine zw_go (pc1 := 12) (L1 := [some (.ref 49), some (.int (jI x1)), some (.int (jI x2))]) (st1 := [.int (jI x1), .ref 49, .int (jI (256 * v3))]) (σ1 := js E A1) zM_X7_word dX7_word_11 rfl rfl rfl rfl ?_
  refine zw_go (pc1 := 13) (L1 := [some (.ref 49), some (.int (jI x1)), some (.int (jI x2))]) (st1 := [.int (jI x2), .int (jI x1), .ref 49, .int (jI (256 * v3))]) (σ1 := js E A1) zM_X7_word dX7_word_12 rfl rfl rfl rfl ?_
  refine jw_iconst (v := 1) zM_X7_word dX7_word_13 rfl ?_
  refine jw_add zM_X7_word dX7_word_14 ?_
  refine jw_callI (as := [.ref 49, .int (jI x1), .int (jI (x2 + 1))]) (rest := [.int (jI (256 * v3))]) zM_X7_word dX7_word_15 (zx_calV zC_7_198) zM_X7_byteAt rfl rfl rfl rfl rfl (j_args0 rfl rfl) rfl hA2 h (fun v7 A5 rv8 hA6 h => ?_)
  refine jw_add zM_X7_word dX7_word_18 ?_
  obtain ⟨hw9, h⟩ := h
  exact jw_reti zM_X7_word dX7_word_19 rfl hw9 hA6 h
