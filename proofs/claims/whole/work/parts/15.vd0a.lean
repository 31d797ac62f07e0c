set_option maxHeartbeats 4000000 in
set_option maxRecDepth 100000 in
theorem vd_X0_become_0 (x2 : Int) (r_x2 : jW x2) (a3 : Nat) (i_a3 : jim a3) (E : jE) (A : jA) (K : jA → Prop) (h : jrV 6 0 [some (.ref 21), some (.ref 2), none, none] [] E A (fun A1 => jrV 15 0 [some (.ref 21), some (.int (jI x2)), some (.ref a3), none] [] E A1 (fun A3 => jrV 10 0 [some (.ref 21), some (.ref 2), some (.int (jI x2)), some (.ref a3), none] [] E A3 (fun A5 => jrV 17 0 [some (.ref 21), some (.ref 2), some (.int (jI x2)), some (.ref a3), none, none, none] [] E A5 (fun A7 => jrV 43 0 [some (.ref a3), some (.int (jI 6)), some (.int (jI (A7 a3 1)))] [] E A7 (fun A9 => jrV 16 0 [some (.ref 21), some (.ref 2), some (.int (jI x2)), some (.ref a3), none, none, none, none, none] [] E A9 (fun A11 => jrV 43 0 [some (.ref a3), some (.int (jI 8)), some (.int (jI (A11 a3 1)))] [] E A11 (fun A13 => jrV 14 0 [some (.ref 21), some (.ref 2), some (.ref a3), none, none, none, none] [] E A13 (fun A15 => jrV 43 0 [some (.ref a3), some (.int (jI 10)), some (.int (jI (A15 a3 1)))] [] E A15 (fun A17 => jrV 18 0 [some (.ref 21), some (.ref a3), none] [] E A17 (fun A19 => jrV 43 0 [some (.ref a3), some (.int (jI 12)), some (.int (jI (A19 a3 1)))] [] E A19 (fun A21 => jrV 12 0 [some (.ref 21), some (.ref a3), none] [] E A21 (fun A23 => jrV 43 0 [some (.ref a3), some (.int (jI 14)), some (.int (jI (A23 a3 1)))] [] E A23 (fun A25 => jrI 46 0 [some (.ref a3), none, none, none] [] E A25 (fun v29 A27 => jrV 43 0 [some (.ref a3), some (.int (jI 16)), some (.int (jI v29))] [] E A27 (fun A31 => jrV 41 0 [some (.ref a3)] [] E A31 (fun A33 => K A33))))))))))))))))) : jrV 3 0 [some (.ref 21), some (.ref 2), some (.int (jI x2)), some (.ref a3)] [] E A K := by
  intro hA
  refine zw_go (pc1 := 1) (L1 := [some (.ref 21), some (.ref 2), some (.int (jI x2)), some (.ref a3)]) (st1 := [.ref 21]) (σ1 := js E A) zM_X0_become dX0_become_0 rfl rfl rfl rfl ?_
  refine zw_go (pc1 := 2) (L1 := [some (.ref 21), some (.ref 2), some (.int (jI x2)), some (.ref a3)]) (st1 := [.ref 2, .ref 21]) (σ1 := js E A) zM_X0_become dX0_become_1 rfl rfl rfl rfl ?_
  refine jw_callV (as := [.ref 21, .ref 2]) (rest := []) zM_X0_become dX0_become_2 (zx_calV zC_0_55) zM_X0_giveNumbers rfl rfl rfl rfl rfl (j_args0 rfl rfl) rfl hA h (fun A1 hA2 h => ?_)
  refine zw_go (pc1 := 6) (L1 := [some (.ref 21), some (.ref 2), some (.int (jI x2)), some (.ref a3)]) (st1 := [.ref 21]) (σ1 := js E A1) zM_X0_become dX0_become_5 rfl rfl rfl rfl ?_
  refine zw_go (pc1 := 7) (L1 := [some (.ref 21), some (.ref 2), some (.int (jI x2)), some (.ref a3)]) (st1 := [.int (jI x2), .ref 21]) (σ1 := js E A1) zM_X0_become dX0_become_6 rfl rfl rfl rfl ?_
  refine zw_go (pc1 := 8) (L1 := [some (.ref 21), some (.ref 2), some (.int (jI x2)), some (.ref a3)]) (st1 := [.ref a3, .int (jI x2), .ref 21]) (σ1 := js E A1) zM_X0_become dX0_become_7 rfl rfl rfl rfl ?_
  refine jw_callV (as := [.ref 21, .int (jI x2), .ref a3]) (rest := []) zM_X0_become dX0_become_8 (zx_calV zC_0_59) zM_X0_putHead rfl rfl rfl rfl rfl (j_args0 rfl rfl) rfl hA2 h (fun A3 hA4 h => ?_)
  refine zw_go (pc1 := 12) (L1 := [some (.ref 21), some (.ref 2), some (.int (jI x2)), some (.ref a3)]) (st1 := [.ref 21]) (σ1 := js E A3) zM_X0_become dX0_become_11 rfl rfl rfl rfl ?_
  refine zw_go (pc1 := 13) (L1 := [some (.ref 21), some (.ref 2), some (.int (jI x2)), some (.ref a3)]) (st1 := [.ref 2, .ref 21]) (σ1 := js E A3) zM_X0_become dX0_become_12 rfl rfl rfl rfl ?_
  refine zw_go (pc1 := 14) (L1 := [some (.ref 21), some (.ref 2), some (.int (jI x2)), some (.ref a3)]) (st1 := [.int (jI x2), .ref 2, .ref 21]) (σ1 := js E A3) zM_X0_become dX0_become_13 rfl rfl rfl rfl ?_
  refine zw_go (pc1 := 15) (L1 := [some (.ref 21), some (.ref 2), some (.int (jI x2)), some (.ref a3)]) (st1 := [.ref a3, .int (jI x2), .ref 2, .ref 21]) (σ1 := js E A3) zM_X0_become dX0_become_14 rfl rfl rfl rfl ?_
  refine jw_callV (as := [.ref 21, .ref 2, .int (jI x2), .ref a3]) (rest := []) zM_X0_become dX0_become_15 (zx_calV zC_0_63) zM_X0_putBlocks rfl rfl rfl rfl rfl (j_args0 rfl rfl) rfl hA4 h (fun A5 hA6 h => ?_)
  refine zw_go (pc1 := 19) (L1 := [some (.ref 21), some (.ref 2), some (.int (jI x2)), some (.ref a3)]) (st1 := [.ref 21]) (σ1 := js E A5) zM_X0_become dX0_become_18 rfl rfl rfl rfl ?_
  refine zw_go (pc1 := 20) (L1 := [some (.ref 21), some (.ref 2), some (.int (jI x2)), some (.ref a3)]) (st1 := [.ref 2, .ref 21]) (σ1 := js E A5) zM_X0_become dX0_become_19 rfl rfl rfl rfl ?_
  refine zw_go (pc1 := 21) (L1 := [some (.ref 21), some (.ref 2), some (.int (jI x2)), some (.ref a3)]) (st1 := [.int (jI x2), .ref 2, .ref 21]) (σ1 := js E A5) zM_X0_become dX0_become_20 rfl rfl rfl rfl ?_
  refine zw_go (pc1 := 22) (L1 := [some (.ref 21), some (.ref 2), some (.int (jI x2)), some (.ref a3)]) (st1 := [.ref a3, .int (jI x2), .ref 2, .ref 21]) (σ1 := js E A5) zM_X0_become dX0_become_21 rfl rfl rfl rfl ?_
  refine jw_callV (as := [.ref 21, .ref 2, .int (jI x2), .ref a3]) (rest := []) zM_X0_become dX0_become_22 (zx_calV zC_0_67) zM_X0_putTailBlocks rfl rfl rfl rfl rfl (j_args0 rfl rfl) rfl hA6 h (fun A7 hA8 h => ?_)
  refine zw_go (pc1 := 26) (L1 := [some (.ref 21), some (.ref 2), some (.int (jI x2)), some (.ref a3)]) (st1 := [.ref a3]) (σ1 := js E A7) zM_X0_become dX0_become_25 rfl rfl rfl rfl ?_
  refine jw_bipush (v := 6) zM_X0_become dX0_become_26 (by decide) ?_
  refine zw_go (pc1 := 29) (L1 := [some (.ref 21), some (.ref 2), some (.int (jI x2)), some (.ref a3)]) (st1 := [.ref a3, .int (jI 6), .ref a3]) (σ1 := js E A7) zM_X0_become dX0_become_28 rfl rfl rfl rfl ?_
  refine jw_getI zM_X0_become dX0_become_29 zF_0_70 rfl rfl (jim.K i_a3) ?_
  refine jw_callV (as := [.ref a3, .int (jI 6), .int (jI (A7 a3 1))]) (rest := []) zM_X0_become dX0_become_32 (zx_calV zC_0_76) zM_X1_setWord rfl rfl rfl rfl rfl (j_args0 (jim.K i_a3) rfl) rfl hA8 h (fun A9 hA10 h => ?_)
  refine zw_go (pc1 := 36) (L1 := [some (.ref 21), some (.ref 2), some (.int (jI x2)), some (.ref a3)]) (st1 := [.ref 21]) (σ1 := js E A9) zM_X0_become dX0_become_35 rfl rfl rfl rfl ?_
  refine zw_go (pc1 := 37) (L1 := [some (.ref 21), some (.ref 2), some (.int (jI x2)), some (.ref a3)]) (st1 := [.ref 2, .ref 21]) (σ1 := js E A9) zM_X0_become dX0_become_36 rfl rfl rfl rfl ?_
  refine zw_go (pc1 := 38) (L1 := [some (.ref 21), some (.ref 2), some (.int (jI x2)), some (.ref a3)]) (st1 := [.int (jI x2), .ref 2, .ref 21]) (σ1 := js E A9) zM_X0_become dX0_become_37 rfl rfl rfl rfl ?_
  refine zw_go (pc1 := 39) (L1 := [some (.ref 21), some (.ref 2), some (.int (jI x2)), some (.ref a3)]) (st1 := [.ref a3, .int (jI x2), .ref 2, .ref 21]) (σ1 := js E A9) zM_X0_become dX0_become_38 rfl rfl rfl rfl ?_
  refine jw_callV (as := [.ref 21, .ref 2, .int (jI x2), .ref a3]) (rest := []) zM_X0_become dX0_become_39 (zx_calV zC_0_80) zM_X0_putInodes rfl rfl rfl rfl rfl (j_args0 rfl rfl) rfl hA10 h (fun A11 hA12 h => ?_)
  refine zw_go (pc1 := 43) (L1 := [some (.ref 21), some (.ref 2), some (.int (jI x2)), some (.ref a3)]) (st1 := [.ref a3]) (σ1 := js E A11) zM_X0_become dX0_become_42 rfl rfl rfl rfl ?_
  refine jw_bipush (v := 8) zM_X0_become dX0_become_43 (by decide) ?_
  refine zw_go (pc1 := 46) (L1 := [some (.ref 21), some (.ref 2), some (.int (jI x2)), some (.ref a3)]) (st1 := [.ref a3, .int (jI 8), .ref a3]) (σ1 := js E A11) zM_X0_become dX0_become_45 rfl rfl rfl rfl ?_
  refine jw_getI zM_X0_become dX0_become_46 zF_0_70 rfl rfl (jim.K i_a3) ?_
  refine jw_callV (as := [.ref a3, .int (jI 8), .int (jI (A11 a3 1))]) (rest := []) zM_X0_become dX0_become_49 (zx_calV zC_0_76) zM_X1_setWord rfl rfl rfl rfl rfl (j_args0 (jim.K i_a3) rfl) rfl hA12 h (fun A13 hA14 h => ?_)
  refine zw_go (pc1 := 53) (L1 := [some (.ref 21), some (.ref 2), some (.int (jI x2)), some (.ref a3)]) (st1 := [.ref 21]) (σ1 := js E A13) zM_X0_become dX0_become_52 rfl rfl rfl rfl ?_
  refine zw_go (pc1 := 54) (L1 := [some (.ref 21), some (.ref 2), some (.int (jI x2)), some (.ref a3)]) (st1 := [.ref 2, .ref 21]) (σ1 := js E A13) zM_X0_become dX0_become_53 rfl rfl rfl rfl ?_
  refine zw_go (pc1 := 55) (L1 := [some (.ref 21), some (.ref 2), some (.int (jI x2)), some (.ref a3)]) (st1 := [.ref a3, .ref 2, .ref 21]) (σ1 := js E A13) zM_X0_become dX0_become_54 rfl rfl rfl rfl ?_
  refine jw_callV (as := [.ref 21, .ref 2, .ref a3]) (rest := []) zM_X0_become dX0_become_55 (zx_calV zC_0_83) zM_X0_putFolders rfl rfl rfl rfl rfl (j_args0 rfl rfl) rfl hA14 h (fun A15 hA16 h => ?_)
  refine zw_go (pc1 := 59) (L1 := [some (.ref 21), some (.ref 2), some (.int (jI x2)), some (.ref a3)]) (st1 := [.ref a3]) (σ1 := js E A15) zM_X0_become dX0_become_58 rfl rfl rfl rfl ?_
  refine jw_bipush (v := 10) zM_X0_become dX0_become_59 (by decide) ?_
  refine zw_go (pc1 := 62) (L1 := [some (.ref 21), some (.ref 2), some (.int (jI x2)), some (.ref a3)]) (st1 := [.ref a3, .int (jI 10), .ref a3]) (σ1 := js E A15) zM_X0_become dX0_become_61 rfl rfl rfl rfl ?_
  refine jw_getI zM_X0_become dX0_become_62 zF_0_70 rfl rfl (jim.K i_a3) ?_
  refine jw_callV (as := [.ref a3, .int (jI 10), .int (jI (A15 a3 1))]) (rest := []) zM_X0_become dX0_become_65 (zx_calV zC_0_76) zM_X1_setWord rfl rfl rfl rfl rfl (j_args0 (jim.K i_a3) rfl) rfl hA16 h (fun A17 hA18 h => ?_)
  refine zw_go (pc1 := 69) (L1 := [some (.ref 21), some (.ref 2), some (.int (jI x2)), some (.ref a3)]) (st1 := [.ref 21]) (σ1 := js E A17) zM_X0_become dX0_become_68 rfl rfl rfl rfl ?_
  refine zw_go (pc1 := 70) (L1 := [some (.ref 21), some (.ref 2), some (.int (jI x2)), some (.ref a3)]) (st1 := [.ref a3, .ref 21]) (σ1 := js E A17) zM_X0_become dX0_become_69 rfl rfl rfl rfl ?_
  refine jw_callV (as := [.ref 21, .ref a3]) (rest := []) zM_X0_become dX0_become_70 (zx_calV zC_0_87) zM_X0_putTails rfl rfl rfl rfl rfl (j_args0 rfl rfl) rfl hA18 h (fun A19 hA20 h => ?_)
  refine zw_go (pc1 := 74) (L1 := [some (.ref 21), some (.ref 2), some (.int (jI x2)), some (.ref a3)]) (st1 := [.ref a3]) (σ1 := js E A19) zM_X0_become dX0_become_73 rfl rfl rfl rfl ?_
  refine jw_bipush (v := 12) zM_X0_become dX0_become_74 (by decide) ?_
  refine zw_go (pc1 := 77) (L1 := [some (.ref 21), some (.ref 2), some (.int (jI x2)), some (.ref a3)]) (st1 := [.ref a3, .int (jI 12), .ref a3]) (σ1 := js E A19) zM_X0_become dX0_become_76 rfl rfl rfl rfl ?_
  refine jw_getI zM_X0_become dX0_become_77 zF_0_70 rfl rfl (jim.K i_a3) ?_
  refine jw_callV (as := [.ref a3, .int (jI 12), .int (jI (A19 a3 1))]) (rest := []) zM_X0_become dX0_become_80 (zx_calV zC_0_76) zM_X1_setWord rfl rfl rfl rfl rfl (j_args0 (jim.K i_a3) rfl) rfl hA20 h (fun A21 hA22 h => ?_)
  refine zw_go (pc1 := 84) (L1 := [some (.ref 21), some (.ref 2), some (.int (jI x2)), some (.ref a3)]) (st1 := [.ref 21]) (σ1 := js E A21) zM_X0_become dX0_become_83 rfl rfl rfl rfl ?_
  refine zw_go (pc1 := 85) (L1 := [some (.ref 21), some (.ref 2), some (.int (jI x2)), some (.ref a3)]) (st1 := [.ref a3, .ref 21]) (σ1 := js E A21) zM_X0_become dX0_become_84 rfl rfl rfl rfl ?_
  refine jw_callV (as := [.ref 21, .ref a3]) (rest := []) zM_X0_become dX0_become_85 (zx_calV zC_0_91) zM_X0_putExports rfl rfl rfl rfl rfl (j_args0 rfl rfl) rfl hA22 h (fun A23 hA24 h => ?_)
  refine zw_go (pc1 := 89) (L1 := [some (.ref 21), some (.ref 2), some (.int (jI x2)), some (.ref a3)]) (st1 := [.ref a3]) (σ1 := js E A23) zM_X0_become dX0_become_88 rfl rfl rfl rfl ?_
  refine jw_bipush (v := 14) zM_X0_become dX0_become_89 (by decide) ?_
  refine zw_go (pc1 := 92) (L1 := [some (.ref 21), some (.ref 2), some (.int (jI x2)), some (.ref a3)]) (st1 := [.ref a3, .int (jI 14), .ref a3]) (σ1 := js E A23) zM_X0_become dX0_become_91 rfl rfl rfl rfl ?_
  refine jw_getI zM_X0_become dX0_become_92 zF_0_70 rfl rfl (jim.K i_a3) ?_
  refine jw_callV (as := [.ref a3, .int (jI 14), .int (jI (A23 a3 1))]) (rest := []) zM_X0_become dX0_become_95 (zx_calV zC_0_76) zM_X1_setWord rfl rfl rfl rfl rfl (j_args0 (jim.K i_a3) rfl) rfl hA24 h (fun A25 hA26 h => ?_)
  refine zw_go (pc1 := 99) (L1 := [some (.ref 21), some (.ref 2), some (.int (jI x2)), some (.ref a3)]) (st1 := [.ref a3]) (σ1 := js E A25) zM_X0_become dX0_become_98 rfl rfl rfl rfl ?_
  refine jw_bipush (v := 16) zM_X0_become dX0_become_99 (by decide) ?_
  refine zw_go (pc1 := 102) (L1 := [some (.ref 21), some (.ref 2), some (.int (jI x2)), some (.ref a3)]) (st1 := [.ref a3, .int (jI 16), .ref a3]) (σ1 := js E A25) zM_X0_become dX0_become_101 rfl rfl rfl rfl ?_
  refine jw_callI (as := [.ref a3]) (rest := [.int (jI 16), .ref a3]) zM_X0_become dX0_become_102 (zx_calV zC_0_94) zM_X1_sum rfl rfl rfl rfl rfl (j_args0 (jim.K i_a3) rfl) rfl hA26 h (fun v29 A27 rv30 hA28 h => ?_)
  refine jw_callV (as := [.ref a3, .int (jI 16), .int (jI v29)]) (rest := []) zM_X0_become dX0_become_105 (zx_calV zC_0_76) zM_X1_setWord rfl rfl rfl rfl rfl (j_args0 (jim.K i_a3) rfl) rfl hA28 h (fun A31 hA32 h => ?_)
  refine zw_go (pc1 := 109) (L1 := [some (.ref 21), some (.ref 2), some (.int (jI x2)), some (.ref a3)]) (st1 := [.ref a3]) (σ1 := js E A31) zM_X0_become dX0_become_108 rfl rfl rfl rfl ?_
  refine jw_callV (as := [.ref a3]) (rest := []) zM_X0_become dX0_become_109 (zx_calV zC_0_98) zM_X1_readHead rfl rfl rfl rfl rfl (j_args0 (jim.K i_a3) rfl) rfl hA32 h (fun A33 hA34 h => ?_)
  exact jw_retv zM_X0_become dX0_become_112 rfl hA34 h
set_option maxHeartbeats 4000000 in
set_option maxRecDepth 100000 in
theorem vd_X0_closeTailBlock_0 (a1 : Nat) (i_a1 : jim a1) (E : jE) (A : jA) (K : jA → Prop) (h : (((32 : Int) ≤ (A 21 14) → ∀ A1 : jA, A1 = jup A 21 15 0 → K A1) ∧ ((A 21 14) < (32 : Int) → (0 ≤ (A 21 14) ∧ (A 21 14) < 32) ∧ ∀ A5 : jA, A5 = jup A 32 (A 21 14) (A a1 1) → jrI 95 0 [some (.ref 22), some (.ref 35), some (.int (jI 0)), some (.int (jI (A5 21 15))), some (.ref a1)] [] E A5 (fun v10 A8 => (0 ≤ (A5 21 14) ∧ (A5 21 14) < 32) ∧ ∀ A13 : jA, A13 = jup A8 33 (A5 21 14) v10 → (0 ≤ (A13 21 14) ∧ (A13 21 14) < 32) ∧ ∀ A17 : jA, A17 = jup A13 34 (A13 21 14) (A13 21 15) → jW ((A17 21 14) + 1) ∧ ∀ A21 : jA, A21 = jup A17 21 14 ((A17 21 14) + 1) → ∀ A24 : jA, A24 = jup A21 21 15 0 → K A24)))) : jrV 4 0 [some (.ref 21), some (.ref a1)] [] E A K := by
  intro hA
  refine zw_go (pc1 := 1) (L1 := [some (.ref 21), some (.ref a1)]) (st1 := [.ref 21]) (σ1 := js E A) zM_X0_closeTailBlock dX0_closeTailBlock_0 rfl rfl rfl rfl ?_
  refine jw_getI zM_X0_closeTailBlock dX0_closeTailBlock_1 zF_0_159 rfl rfl rfl ?_
  refine jw_bipush (v := 32) zM_X0_closeTailBlock dX0_closeTailBlock_4 (by decide) ?_
  refine jw_icmp_ge (tgt := 71) zM_X0_closeTailBlock dX0_closeTailBlock_6 rfl (hA 21 14) (show jW 32 from ⟨by decide, by decide⟩) (fun q => ?_) (fun q => ?_)
  · replace h := h.1 q
    refine zw_go (pc1 := 72) (L1 := [some (.ref 21), some (.ref a1)]) (st1 := [.ref 21]) (σ1 := js E A) zM_X0_closeTailBlock dX0_closeTailBlock_71 rfl rfl rfl rfl ?_
    refine jw_iconst (v := 0) zM_X0_closeTailBlock dX0_closeTailBlock_72 rfl ?_
    obtain ⟨A1, e2⟩ : ∃ z9 : jA, z9 = jup A 21 15 0 := ⟨_, rfl⟩
    replace h := h A1 e2
    have hA3 : jOK A1 := jOK.up hA (show jW 0 from ⟨by decide, by decide⟩) e2
    refine jw_putI zM_X0_closeTailBlock dX0_closeTailBlock_73 zF_0_162 rfl rfl rfl rfl e2 ?_
    exact jw_retv zM_X0_closeTailBlock dX0_closeTailBlock_76 rfl hA3 h
  · replace h := h.2 q
    refine zw_go (pc1 := 10) (L1 := [some (.ref 21), some (.ref a1)]) (st1 := [.ref 21]) (σ1 := js E A) zM_X0_closeTailBlock dX0_closeTailBlock_9 rfl rfl rfl rfl ?_
    refine jw_getR (a := 32) zM_X0_closeTailBlock dX0_closeTailBlock_10 zF_0_43 rfl rfl rfl ?_
    refine zw_go (pc1 := 14) (L1 := [some (.ref 21), some (.ref a1)]) (st1 := [.ref 21, .ref 32]) (σ1 := js E A) zM_X0_closeTailBlock dX0_closeTailBlock_13 rfl rfl rfl rfl ?_
    refine jw_getI zM_X0_closeTailBlock dX0_closeTailBlock_14 zF_0_159 rfl rfl rfl ?_
    refine zw_go (pc1 := 18) (L1 := [some (.ref 21), some (.ref a1)]) (st1 := [.ref a1, .int (jI (A 21 14)), .ref 32]) (σ1 := js E A) zM_X0_closeTailBlock dX0_closeTailBlock_17 rfl rfl rfl rfl ?_
    refine jw_getI zM_X0_closeTailBlock dX0_closeTailBlock_18 zF_0_70 rfl rfl (jim.K i_a1) ?_
    obtain ⟨hi4, h⟩ := h
    obtain ⟨A5, e6⟩ : ∃ z9 : jA, z9 = jup A 32 (A 21 14) (A a1 1) := ⟨_, rfl⟩
    replace h := h A5 e6
    have hA7 : jOK A5 := jOK.up hA (hA a1 1) e6
    refine jw_iast zM_X0_closeTailBlock dX0_closeTailBlock_21 rfl rfl hi4 e6 ?_
    refine zw_go (pc1 := 23) (L1 := [some (.ref 21), some (.ref a1)]) (st1 := [.ref 21]) (σ1 := js E A5) zM_X0_closeTailBlock dX0_closeTailBlock_22 rfl rfl rfl rfl ?_
    refine jw_getR (a := 33) zM_X0_closeTailBlock dX0_closeTailBlock_23 zF_0_46 rfl rfl rfl ?_
    refine zw_go (pc1 := 27) (L1 := [some (.ref 21), some (.ref a1)]) (st1 := [.ref 21, .ref 33]) (σ1 := js E A5) zM_X0_closeTailBlock dX0_closeTailBlock_26 rfl rfl rfl rfl ?_
    refine jw_getI zM_X0_closeTailBlock dX0_closeTailBlock_27 zF_0_159 rfl rfl rfl ?_
    refine zw_go (pc1 := 31) (L1 := [some (.ref 21), some (.ref a1)]) (st1 := [.ref 21, .int (jI (A5 21 14)), .ref 33]) (σ1 := js E A5) zM_X0_closeTailBlock dX0_closeTailBlock_30 rfl rfl rfl rfl ?_
    refine jw_getR (a := 22) zM_X0_closeTailBlock dX0_closeTailBlock_31 zF_0_12 rfl rfl rfl ?_
    refine zw_go (pc1 := 35) (L1 := [some (.ref 21), some (.ref a1)]) (st1 := [.ref 21, .ref 22, .int (jI (A5 21 14)), .ref 33]) (σ1 := js E A5) zM_X0_closeTailBlock dX0_closeTailBlock_34 rfl rfl rfl rfl ?_
    refine jw_getR (a := 35) zM_X0_closeTailBlock dX0_closeTailBlock_35 zF_0_52 rfl rfl rfl ?_
    refine jw_iconst (v := 0) zM_X0_closeTailBlock dX0_closeTailBlock_38 rfl ?_
    refine zw_go (pc1 := 40) (L1 := [some (.ref 21), some (.ref a1)]) (st1 := [.ref 21, .int (jI 0), .ref 35, .ref 22, .int (jI (A5 21 14)), .ref 33]) (σ1 := js E A5) zM_X0_closeTailBlock dX0_closeTailBlock_39 rfl rfl rfl rfl ?_
    refine jw_getI zM_X0_closeTailBlock dX0_closeTailBlock_40 zF_0_162 rfl rfl rfl ?_
    refine zw_go (pc1 := 44) (L1 := [some (.ref 21), some (.ref a1)]) (st1 := [.ref a1, .int (jI (A5 21 15)), .int (jI 0), .ref 35, .ref 22, .int (jI (A5 21 14)), .ref 33]) (σ1 := js E A5) zM_X0_closeTailBlock dX0_closeTailBlock_43 rfl rfl rfl rfl ?_
    refine jw_callI (as := [.ref 22, .ref 35, .int (jI 0), .int (jI (A5 21 15)), .ref a1]) (rest := [.int (jI (A5 21 14)), .ref 33]) zM_X0_closeTailBlock dX0_closeTailBlock_44 (zx_calV zC_0_155) zM_X4_store rfl rfl rfl rfl rfl (j_args0 rfl rfl) rfl hA7 h (fun v10 A8 rv11 hA9 h => ?_)
    obtain ⟨hi12, h⟩ := h
    obtain ⟨A13, e14⟩ : ∃ z9 : jA, z9 = jup A8 33 (A5 21 14) v10 := ⟨_, rfl⟩
    replace h := h A13 e14
    have hA15 : jOK A13 := jOK.up hA9 rv11 e14
    refine jw_iast zM_X0_closeTailBlock dX0_closeTailBlock_47 rfl rfl hi12 e14 ?_
    refine zw_go (pc1 := 49) (L1 := [some (.ref 21), some (.ref a1)]) (st1 := [.ref 21]) (σ1 := js E A13) zM_X0_closeTailBlock dX0_closeTailBlock_48 rfl rfl rfl rfl ?_
    refine jw_getR (a := 34) zM_X0_closeTailBlock dX0_closeTailBlock_49 zF_0_49 rfl rfl rfl ?_
    refine zw_go (pc1 := 53) (L1 := [some (.ref 21), some (.ref a1)]) (st1 := [.ref 21, .ref 34]) (σ1 := js E A13) zM_X0_closeTailBlock dX0_closeTailBlock_52 rfl rfl rfl rfl ?_
    refine jw_getI zM_X0_closeTailBlock dX0_closeTailBlock_53 zF_0_159 rfl rfl rfl ?_
    refine zw_go (pc1 := 57) (L1 := [some (.ref 21), some (.ref a1)]) (st1 := [.ref 21, .int (jI (A13 21 14)), .ref 34]) (σ1 := js E A13) zM_X0_closeTailBlock dX0_closeTailBlock_56 rfl rfl rfl rfl ?_
    refine jw_getI zM_X0_closeTailBlock dX0_closeTailBlock_57 zF_0_162 rfl rfl rfl ?_
    obtain ⟨hi16, h⟩ := h
    obtain ⟨A17, e18⟩ : ∃ z9 : jA, z9 = jup A13 34 (A13 21 14) (A13 21 15) := ⟨_, rfl⟩
    replace h := h A17 e18
    have hA19 : jOK A17 := jOK.up hA15 (hA15 21 15) e18
    refine jw_iast zM_X0_closeTailBlock dX0_closeTailBlock_60 rfl rfl hi16 e18 ?_
    refine zw_go (pc1 := 62) (L1 := [some (.ref 21), some (.ref a1)]) (st1 := [.ref 21]) (σ1 := js E A17) zM_X0_closeTailBlock dX0_closeTailBlock_61 rfl rfl rfl rfl ?_
    refine zw_go (pc1 := 63) (L1 := [some (.ref 21), some (.ref a1)]) (st1 := [.ref 21, .ref 21]) (σ1 := js E A17) zM_X0_closeTailBlock dX0_closeTailBlock_62 rfl rfl rfl rfl ?_
    refine jw_getI zM_X0_closeTailBlock dX0_closeTailBlock_63 zF_0_159 rfl rfl rfl ?_
    refine jw_iconst (v := 1) zM_X0_closeTailBlock dX0_closeTailBlock_66 rfl ?_
    refine jw_add zM_X0_closeTailBlock dX0_closeTailBlock_67 ?_
    obtain ⟨hw20, h⟩ := h
    obtain ⟨A21, e22⟩ : ∃ z9 : jA, z9 = jup A17 21 14 ((A17 21 14) + 1) := ⟨_, rfl⟩
    replace h := h A21 e22
    have hA23 : jOK A21 := jOK.up hA19 hw20 e22
    refine jw_putI zM_X0_closeTailBlock dX0_closeTailBlock_68 zF_0_159 rfl rfl rfl rfl e22 ?_
    refine zw_go (pc1 := 72) (L1 := [some (.ref 21), some (.ref a1)]) (st1 := [.ref 21]) (σ1 := js E A21) zM_X0_closeTailBlock dX0_closeTailBlock_71 rfl rfl rfl rfl ?_
    refine jw_iconst (v := 0) zM_X0_closeTailBlock dX0_closeTailBlock_72 rfl ?_
    obtain ⟨A24, e25⟩ : ∃ z9 : jA, z9 = jup A21 21 15 0 := ⟨_, rfl⟩
    replace h := h A24 e25
    have hA26 : jOK A24 := jOK.up hA23 (show jW 0 from ⟨by decide, by decide⟩) e25
    refine jw_putI zM_X0_closeTailBlock dX0_closeTailBlock_73 zF_0_162 rfl rfl rfl rfl e25 ?_
    exact jw_retv zM_X0_closeTailBlock dX0_closeTailBlock_76 rfl hA26 h
set_option maxHeartbeats 4000000 in
set_option maxRecDepth 100000 in
theorem vd_X0_findTwin_0 (x2 : Int) (r_x2 : jW x2) (E : jE) (A : jA) (K : Int → jA → Prop) (h : (0 ≤ x2 ∧ x2 < 33) ∧ (0 ≤ (A 25 x2) ∧ (A 25 x2) < 32) ∧ ((¬ (A 3 (A 25 x2)) = (2 : Int) → K 0 A) ∧ ((A 3 (A 25 x2)) = (2 : Int) → (0 ≤ (A 25 x2) ∧ (A 25 x2) < 32) ∧ ((¬ (A 8 (A 25 x2)) = (0 : Int) → jrI 5 31 [some (.ref 21), some (.ref 2), some (.int (jI x2)), some (.int (jI (A 25 x2))), some (.int (jI 1)), none] [] E A K) ∧ ((A 8 (A 25 x2)) = (0 : Int) → K 0 A))))) : jrI 5 0 [some (.ref 21), some (.ref 2), some (.int (jI x2)), none, none, none] [] E A K := by
  intro hA
  refine zw_go (pc1 := 1) (L1 := [some (.ref 21), some (.ref 2), some (.int (jI x2)), none, none, none]) (st1 := [.ref 21]) (σ1 := js E A) zM_X0_findTwin dX0_findTwin_0 rfl rfl rfl rfl ?_
  refine jw_getR (a := 25) zM_X0_findTwin dX0_findTwin_1 zF_0_22 rfl rfl rfl ?_
  refine zw_go (pc1 := 5) (L1 := [some (.ref 21), some (.ref 2), some (.int (jI x2)), none, none, none]) (st1 := [.int (jI x2), .ref 25]) (σ1 := js E A) zM_X0_findTwin dX0_findTwin_4 rfl rfl rfl rfl ?_
  obtain ⟨hi1, h⟩ := h
  refine jw_iald zM_X0_findTwin dX0_findTwin_5 rfl rfl hi1 ?_
  refine zw_go (pc1 := 7) (L1 := [some (.ref 21), some (.ref 2), some (.int (jI x2)), some (.int (jI (A 25 x2))), none, none]) (st1 := []) (σ1 := js E A) zM_X0_findTwin dX0_findTwin_6 rfl rfl rfl rfl ?_
  refine zw_go (pc1 := 8) (L1 := [some (.ref 21), some (.ref 2), some (.int (jI x2)), some (.int (jI (A 25 x2))), none, none]) (st1 := [.ref 2]) (σ1 := js E A) zM_X0_findTwin dX0_findTwin_7 rfl rfl rfl rfl ?_
  refine jw_getR (a := 3) zM_X0_findTwin dX0_findTwin_8 zF_0_110 rfl rfl rfl ?_
  refine zw_go (pc1 := 12) (L1 := [some (.ref 21), some (.ref 2), some (.int (jI x2)), some (.int (jI (A 25 x2))), none, none]) (st1 := [.int (jI (A 25 x2)), .ref 3]) (σ1 := js E A) zM_X0_findTwin dX0_findTwin_11 rfl rfl rfl rfl ?_
  obtain ⟨hi2, h⟩ := h
  refine jw_iald zM_X0_findTwin dX0_findTwin_12 rfl rfl hi2 ?_
  refine jw_iconst (v := 2) zM_X0_findTwin dX0_findTwin_13 rfl ?_
  refine jw_icmp_ne (tgt := 26) zM_X0_findTwin dX0_findTwin_14 rfl (hA 3 (A 25 x2)) (show jW 2 from ⟨by decide, by decide⟩) (fun q => ?_) (fun q => ?_)
  · replace h := h.1 q
    refine jw_iconst (v := 0) zM_X0_findTwin dX0_findTwin_26 rfl ?_
    exact jw_reti zM_X0_findTwin dX0_findTwin_27 rfl (show jW 0 from ⟨by decide, by decide⟩) hA h
  · replace h := h.2 q
    refine zw_go (pc1 := 18) (L1 := [some (.ref 21), some (.ref 2), some (.int (jI x2)), some (.int (jI (A 25 x2))), none, none]) (st1 := [.ref 2]) (σ1 := js E A) zM_X0_findTwin dX0_findTwin_17 rfl rfl rfl rfl ?_
    refine jw_getR (a := 8) zM_X0_findTwin dX0_findTwin_18 zF_0_141 rfl rfl rfl ?_
    refine zw_go (pc1 := 22) (L1 := [some (.ref 21), some (.ref 2), some (.int (jI x2)), some (.int (jI (A 25 x2))), none, none]) (st1 := [.int (jI (A 25 x2)), .ref 8]) (σ1 := js E A) zM_X0_findTwin dX0_findTwin_21 rfl rfl rfl rfl ?_
    obtain ⟨hi3, h⟩ := h
    refine jw_iald zM_X0_findTwin dX0_findTwin_22 rfl rfl hi3 ?_
    refine jw_if_ne (tgt := 28) zM_X0_findTwin dX0_findTwin_23 rfl (hA 8 (A 25 x2)) (fun q => ?_) (fun q => ?_)
    · replace h := h.1 q
      refine jw_iconst (v := 1) zM_X0_findTwin dX0_findTwin_28 rfl ?_
      refine zw_go (pc1 := 31) (L1 := [some (.ref 21), some (.ref 2), some (.int (jI x2)), some (.int (jI (A 25 x2))), some (.int (jI 1)), none]) (st1 := []) (σ1 := js E A) zM_X0_findTwin dX0_findTwin_29 rfl rfl rfl rfl ?_
      exact zw_weak2 (h hA) ⟨rfl, rfl, rfl, rfl, rfl, trivial⟩
    · replace h := h.2 q
      refine jw_iconst (v := 0) zM_X0_findTwin dX0_findTwin_26 rfl ?_
      exact jw_reti zM_X0_findTwin dX0_findTwin_27 rfl (show jW 0 from ⟨by decide, by decide⟩) hA h
set_option maxHeartbeats 4000000 in
set_option maxRecDepth 100000 in
theorem vd_X0_findTwin_31 (x2 : Int) (r_x2 : jW x2) (x3 : Int) (r_x3 : jW x3) (x4 : Int) (r_x4 : jW x4) (E : jE) (A : jA) (K : Int → jA → Prop) (h : ((x2 ≤ x4 → K 0 A) ∧ (x4 < x2 → (0 ≤ x4 ∧ x4 < 33) ∧ (0 ≤ (A 25 x4) ∧ (A 25 x4) < 32) ∧ ((¬ (A 3 (A 25 x4)) = (2 : Int) → jrI 5 70 [some (.ref 21), some (.ref 2), some (.int (jI x2)), some (.int (jI x3)), some (.int (jI x4)), none] [] E A K) ∧ ((A 3 (A 25 x4)) = (2 : Int) → jrI 102 0 [some (.ref 2), some (.int (jI x3)), some (.int (jI (A 25 x4))), none] [] E A (fun v5 A3 => ((v5 = (0 : Int) → jrI 5 70 [some (.ref 21), some (.ref 2), some (.int (jI x2)), some (.int (jI x3)), some (.int (jI x4)), none] [] E A3 K) ∧ (¬ v5 = (0 : Int) → K x4 A3)))))))) : jrI 5 31 [some (.ref 21), some (.ref 2), some (.int (jI x2)), some (.int (jI x3)), some (.int (jI x4)), none] [] E A K := by
  intro hA
  refine zw_go (pc1 := 33) (L1 := [some (.ref 21), some (.ref 2), some (.int (jI x2)), some (.int (jI x3)), some (.int (jI x4)), none]) (st1 := [.int (jI x4)]) (σ1 := js E A) zM_X0_findTwin dX0_findTwin_31 rfl rfl rfl rfl ?_
  refine zw_go (pc1 := 34) (L1 := [some (.ref 21), some (.ref 2), some (.int (jI x2)), some (.int (jI x3)), some (.int (jI x4)), none]) (st1 := [.int (jI x2), .int (jI x4)]) (σ1 := js E A) zM_X0_findTwin dX0_findTwin_33 rfl rfl rfl rfl ?_
  refine jw_icmp_ge (tgt := 76) zM_X0_findTwin dX0_findTwin_34 rfl r_x4 r_x2 (fun q => ?_) (fun q => ?_)
  · replace h := h.1 q
    refine jw_iconst (v := 0) zM_X0_findTwin dX0_findTwin_76 rfl ?_
    exact jw_reti zM_X0_findTwin dX0_findTwin_77 rfl (show jW 0 from ⟨by decide, by decide⟩) hA h
  · replace h := h.2 q
    refine zw_go (pc1 := 38) (L1 := [some (.ref 21), some (.ref 2), some (.int (jI x2)), some (.int (jI x3)), some (.int (jI x4)), none]) (st1 := [.ref 21]) (σ1 := js E A) zM_X0_findTwin dX0_findTwin_37 rfl rfl rfl rfl ?_
    refine jw_getR (a := 25) zM_X0_findTwin dX0_findTwin_38 zF_0_22 rfl rfl rfl ?_
    refine zw_go (pc1 := 43) (L1 := [some (.ref 21), some (.ref 2), some (.int (jI x2)), some (.int (jI x3)), some (.int (jI x4)), none]) (st1 := [.int (jI x4), .ref 25]) (σ1 := js E A) zM_X0_findTwin dX0_findTwin_41 rfl rfl rfl rfl ?_
    obtain ⟨hi1, h⟩ := h
    refine jw_iald zM_X0_findTwin dX0_findTwin_43 rfl rfl hi1 ?_
    refine zw_go (pc1 := 46) (L1 := [some (.ref 21), some (.ref 2), some (.int (jI x2)), some (.int (jI x3)), some (.int (jI x4)), some (.int (jI (A 25 x4)))]) (st1 := []) (σ1 := js E A) zM_X0_findTwin dX0_findTwin_44 rfl rfl rfl rfl ?_
    refine zw_go (pc1 := 47) (L1 := [some (.ref 21), some (.ref 2), some (.int (jI x2)), some (.int (jI x3)), some (.int (jI x4)), some (.int (jI (A 25 x4)))]) (st1 := [.ref 2]) (σ1 := js E A) zM_X0_findTwin dX0_findTwin_46 rfl rfl rfl rfl ?_
    refine jw_getR (a := 3) zM_X0_findTwin dX0_findTwin_47 zF_0_110 rfl rfl rfl ?_
    refine zw_go (pc1 := 52) (L1 := [some (.ref 21), some (.ref 2), some (.int (jI x2)), some (.int (jI x3)), some (.int (jI x4)), some (.int (jI (A 25 x4)))]) (st1 := [.int (jI (A 25 x4)), .ref 3]) (σ1 := js E A) zM_X0_findTwin dX0_findTwin_50 rfl rfl rfl rfl ?_
    obtain ⟨hi2, h⟩ := h
    refine jw_iald zM_X0_findTwin dX0_findTwin_52 rfl rfl hi2 ?_
    refine jw_iconst (v := 2) zM_X0_findTwin dX0_findTwin_53 rfl ?_
    refine jw_icmp_ne (tgt := 70) zM_X0_findTwin dX0_findTwin_54 rfl (hA 3 (A 25 x4)) (show jW 2 from ⟨by decide, by decide⟩) (fun q => ?_) (fun q => ?_)
    · replace h := h.1 q
      exact zw_weak2 (h hA) ⟨rfl, rfl, rfl, rfl, rfl, trivial⟩
    · replace h := h.2 q
      refine zw_go (pc1 := 58) (L1 := [some (.ref 21), some (.ref 2), some (.int (jI x2)), some (.int (jI x3)), some (.int (jI x4)), some (.int (jI (A 25 x4)))]) (st1 := [.ref 2]) (σ1 := js E A) zM_X0_findTwin dX0_findTwin_57 rfl rfl rfl rfl ?_
      refine zw_go (pc1 := 59) (L1 := [some (.ref 21), some (.ref 2), some (.int (jI x2)), some (.int (jI x3)), some (.int (jI x4)), some (.int (jI (A 25 x4)))]) (st1 := [.int (jI x3), .ref 2]) (σ1 := js E A) zM_X0_findTwin dX0_findTwin_58 rfl rfl rfl rfl ?_
      refine zw_go (pc1 := 61) (L1 := [some (.ref 21), some (.ref 2), some (.int (jI x2)), some (.int (jI x3)), some (.int (jI x4)), some (.int (jI (A 25 x4)))]) (st1 := [.int (jI (A 25 x4)), .int (jI x3), .ref 2]) (σ1 := js E A) zM_X0_findTwin dX0_findTwin_59 rfl rfl rfl rfl ?_
      refine jw_callI (as := [.ref 2, .int (jI x3), .int (jI (A 25 x4))]) (rest := []) zM_X0_findTwin dX0_findTwin_61 (zx_calV zC_0_144) zM_X5_haveSameBytes rfl rfl rfl rfl rfl (j_args0 rfl rfl) rfl hA h (fun v5 A3 rv6 hA4 h => ?_)
      refine jw_if_eq (tgt := 70) zM_X0_findTwin dX0_findTwin_64 rfl rv6 (fun q => ?_) (fun q => ?_)
      · replace h := h.1 q
        exact zw_weak2 (h hA4) ⟨rfl, rfl, rfl, rfl, rfl, trivial⟩
      · replace h := h.2 q
        refine zw_go (pc1 := 69) (L1 := [some (.ref 21), some (.ref 2), some (.int (jI x2)), some (.int (jI x3)), some (.int (jI x4)), some (.int (jI (A 25 x4)))]) (st1 := [.int (jI x4)]) (σ1 := js E A3) zM_X0_findTwin dX0_findTwin_67 rfl rfl rfl rfl ?_
        exact jw_reti zM_X0_findTwin dX0_findTwin_69 rfl r_x4 hA4 h
set_option maxHeartbeats 4000000 in
set_option maxRecDepth 100000 in
theorem vd_X0_findTwin_70 (x2 : Int) (r_x2 : jW x2) (x3 : Int) (r_x3 : jW x3) (x4 : Int) (r_x4 : jW x4) (E : jE) (A : jA) (K : Int → jA → Prop) (h : jrI 5 31 [some (.ref 21), some (.ref 2), some (.int (jI x2)), some (.int (jI x3)), some (.int (jI (x4 + 1))), none] [] E A K) : jrI 5 70 [some (.ref 21), some (.ref 2), some (.int (jI x2)), some (.int (jI x3)), some (.int (jI x4)), none] [] E A K := by
  intro hA
  refine jw_iinc (x := x4) (L1 := [some (.ref 21), some (.ref 2), some (.int (jI x2)), some (.int (jI x3)), some (.int (jI (x4 + 1))), none]) zM_X0_findTwin dX0_findTwin_70 rfl (show 4 < 6 by decide) rfl ?_
  refine zw_goto (tgt := 31) zM_X0_findTwin dX0_findTwin_73 rfl ?_
  exact zw_weak2 (h hA) ⟨rfl, rfl, rfl, rfl, rfl, trivial⟩
set_option maxHeartbeats 4000000 in
set_option maxRecDepth 100000 in
theorem vd_X0_giveNumbers_0  (E : jE) (A : jA) (K : jA → Prop) (h : jrV 0 0 [some (.ref 24), some (.int (jI 0)), none, none] [] E A (fun A1 => ∀ A4 : jA, A4 = jup A1 24 0 1 → ∀ A8 : jA, A8 = jup A4 25 1 0 → ∀ A11 : jA, A11 = jup A8 21 13 1 → jrV 6 29 [some (.ref 21), some (.ref 2), some (.int (jI 1)), none] [] E A11 K)) : jrV 6 0 [some (.ref 21), some (.ref 2), none, none] [] E A K := by
  intro hA
  refine zw_go (pc1 := 1) (L1 := [some (.ref 21), some (.ref 2), none, none]) (st1 := [.ref 21]) (σ1 := js E A) zM_X0_giveNumbers dX0_giveNumbers_0 rfl rfl rfl rfl ?_
  refine jw_getR (a := 24) zM_X0_giveNumbers dX0_giveNumbers_1 zF_0_18 rfl rfl rfl ?_
  refine jw_iconst (v := 0) zM_X0_giveNumbers dX0_giveNumbers_4 rfl ?_
  refine jw_callV (as := [.ref 24, .int (jI 0)]) (rest := []) zM_X0_giveNumbers dX0_giveNumbers_5 (zx_calS zC_0_101) zM_J7_fill_53178 rfl rfl rfl rfl rfl rfl rfl hA h (fun A1 hA2 h => ?_)
  refine zw_go (pc1 := 9) (L1 := [some (.ref 21), some (.ref 2), none, none]) (st1 := [.ref 21]) (σ1 := js E A1) zM_X0_giveNumbers dX0_giveNumbers_8 rfl rfl rfl rfl ?_
  refine jw_getR (a := 24) zM_X0_giveNumbers dX0_giveNumbers_9 zF_0_18 rfl rfl rfl ?_
  refine jw_iconst (v := 0) zM_X0_giveNumbers dX0_giveNumbers_12 rfl ?_
  refine jw_iconst (v := 1) zM_X0_giveNumbers dX0_giveNumbers_13 rfl ?_
  obtain ⟨A4, e5⟩ : ∃ z9 : jA, z9 = jup A1 24 0 1 := ⟨_, rfl⟩
  replace h := h A4 e5
  have hA6 : jOK A4 := jOK.up hA2 (show jW 1 from ⟨by decide, by decide⟩) e5
  refine jw_iast zM_X0_giveNumbers dX0_giveNumbers_14 rfl rfl ⟨by decide, by decide⟩ e5 ?_
  refine zw_go (pc1 := 16) (L1 := [some (.ref 21), some (.ref 2), none, none]) (st1 := [.ref 21]) (σ1 := js E A4) zM_X0_giveNumbers dX0_giveNumbers_15 rfl rfl rfl rfl ?_
  refine jw_getR (a := 25) zM_X0_giveNumbers dX0_giveNumbers_16 zF_0_22 rfl rfl rfl ?_
  refine jw_iconst (v := 1) zM_X0_giveNumbers dX0_giveNumbers_19 rfl ?_
  refine jw_iconst (v := 0) zM_X0_giveNumbers dX0_giveNumbers_20 rfl ?_
  obtain ⟨A8, e9⟩ : ∃ z9 : jA, z9 = jup A4 25 1 0 := ⟨_, rfl⟩
  replace h := h A8 e9
  have hA10 : jOK A8 := jOK.up hA6 (show jW 0 from ⟨by decide, by decide⟩) e9
  refine jw_iast zM_X0_giveNumbers dX0_giveNumbers_21 rfl rfl ⟨by decide, by decide⟩ e9 ?_
  refine zw_go (pc1 := 23) (L1 := [some (.ref 21), some (.ref 2), none, none]) (st1 := [.ref 21]) (σ1 := js E A8) zM_X0_giveNumbers dX0_giveNumbers_22 rfl rfl rfl rfl ?_
  refine jw_iconst (v := 1) zM_X0_giveNumbers dX0_giveNumbers_23 rfl ?_
  obtain ⟨A11, e12⟩ : ∃ z9 : jA, z9 = jup A8 21 13 1 := ⟨_, rfl⟩
  replace h := h A11 e12
  have hA13 : jOK A11 := jOK.up hA10 (show jW 1 from ⟨by decide, by decide⟩) e12
  refine jw_putI zM_X0_giveNumbers dX0_giveNumbers_24 zF_0_107 rfl rfl rfl rfl e12 ?_
  refine jw_iconst (v := 1) zM_X0_giveNumbers dX0_giveNumbers_27 rfl ?_
  refine zw_go (pc1 := 29) (L1 := [some (.ref 21), some (.ref 2), some (.int (jI 1)), none]) (st1 := []) (σ1 := js E A11) zM_X0_giveNumbers dX0_giveNumbers_28 rfl rfl rfl rfl ?_
  exact zw_weak2 (h hA13) ⟨rfl, rfl, rfl, trivial⟩
set_option maxHeartbeats 4000000 in
set_option maxRecDepth 100000 in
theorem vd_X0_giveNumbers_29 (x2 : Int) (r_x2 : jW x2) (E : jE) (A : jA) (K : jA → Prop) (h : (((A 21 13) < x2 → K A) ∧ (x2 ≤ (A 21 13) → (((32 : Int) < x2 → K A) ∧ (x2 ≤ (32 : Int) → (0 ≤ x2 ∧ x2 < 33) ∧ (0 ≤ (A 25 x2) ∧ (A 25 x2) < 32) ∧ ((¬ (A 3 (A 25 x2)) = (1 : Int) → jrV 6 66 [some (.ref 21), some (.ref 2), some (.int (jI x2)), none] [] E A K) ∧ ((A 3 (A 25 x2)) = (1 : Int) → jrV 7 0 [some (.ref 21), some (.ref 2), some (.int (jI (A 25 x2))), none, none, none] [] E A (fun A3 => jrV 6 66 [some (.ref 21), some (.ref 2), some (.int (jI x2)), none] [] E A3 K)))))))) : jrV 6 29 [some (.ref 21), some (.ref 2), some (.int (jI x2)), none] [] E A K := by
  intro hA
  refine zw_go (pc1 := 30) (L1 := [some (.ref 21), some (.ref 2), some (.int (jI x2)), none]) (st1 := [.int (jI x2)]) (σ1 := js E A) zM_X0_giveNumbers dX0_giveNumbers_29 rfl rfl rfl rfl ?_
  refine zw_go (pc1 := 31) (L1 := [some (.ref 21), some (.ref 2), some (.int (jI x2)), none]) (st1 := [.ref 21, .int (jI x2)]) (σ1 := js E A) zM_X0_giveNumbers dX0_giveNumbers_30 rfl rfl rfl rfl ?_
  refine jw_getI zM_X0_giveNumbers dX0_giveNumbers_31 zF_0_107 rfl rfl rfl ?_
  refine jw_icmp_gt (tgt := 72) zM_X0_giveNumbers dX0_giveNumbers_34 rfl r_x2 (hA 21 13) (fun q => ?_) (fun q => ?_)
  · replace h := h.1 q
    exact jw_retv zM_X0_giveNumbers dX0_giveNumbers_72 rfl hA h
  · replace h := h.2 q
    refine zw_go (pc1 := 38) (L1 := [some (.ref 21), some (.ref 2), some (.int (jI x2)), none]) (st1 := [.int (jI x2)]) (σ1 := js E A) zM_X0_giveNumbers dX0_giveNumbers_37 rfl rfl rfl rfl ?_
    refine jw_bipush (v := 32) zM_X0_giveNumbers dX0_giveNumbers_38 (by decide) ?_
    refine jw_icmp_gt (tgt := 72) zM_X0_giveNumbers dX0_giveNumbers_40 rfl r_x2 (show jW 32 from ⟨by decide, by decide⟩) (fun q => ?_) (fun q => ?_)
    · replace h := h.1 q
      exact jw_retv zM_X0_giveNumbers dX0_giveNumbers_72 rfl hA h
    · replace h := h.2 q
      refine zw_go (pc1 := 44) (L1 := [some (.ref 21), some (.ref 2), some (.int (jI x2)), none]) (st1 := [.ref 21]) (σ1 := js E A) zM_X0_giveNumbers dX0_giveNumbers_43 rfl rfl rfl rfl ?_
      refine jw_getR (a := 25) zM_X0_giveNumbers dX0_giveNumbers_44 zF_0_22 rfl rfl rfl ?_
      refine zw_go (pc1 := 48) (L1 := [some (.ref 21), some (.ref 2), some (.int (jI x2)), none]) (st1 := [.int (jI x2), .ref 25]) (σ1 := js E A) zM_X0_giveNumbers dX0_giveNumbers_47 rfl rfl rfl rfl ?_
      obtain ⟨hi1, h⟩ := h
      refine jw_iald zM_X0_giveNumbers dX0_giveNumbers_48 rfl rfl hi1 ?_
      refine zw_go (pc1 := 50) (L1 := [some (.ref 21), some (.ref 2), some (.int (jI x2)), some (.int (jI (A 25 x2)))]) (st1 := []) (σ1 := js E A) zM_X0_giveNumbers dX0_giveNumbers_49 rfl rfl rfl rfl ?_
      refine zw_go (pc1 := 51) (L1 := [some (.ref 21), some (.ref 2), some (.int (jI x2)), some (.int (jI (A 25 x2)))]) (st1 := [.ref 2]) (σ1 := js E A) zM_X0_giveNumbers dX0_giveNumbers_50 rfl rfl rfl rfl ?_
      refine jw_getR (a := 3) zM_X0_giveNumbers dX0_giveNumbers_51 zF_0_110 rfl rfl rfl ?_
      refine zw_go (pc1 := 55) (L1 := [some (.ref 21), some (.ref 2), some (.int (jI x2)), some (.int (jI (A 25 x2)))]) (st1 := [.int (jI (A 25 x2)), .ref 3]) (σ1 := js E A) zM_X0_giveNumbers dX0_giveNumbers_54 rfl rfl rfl rfl ?_
      obtain ⟨hi2, h⟩ := h
      refine jw_iald zM_X0_giveNumbers dX0_giveNumbers_55 rfl rfl hi2 ?_
      refine jw_iconst (v := 1) zM_X0_giveNumbers dX0_giveNumbers_56 rfl ?_
      refine jw_icmp_ne (tgt := 66) zM_X0_giveNumbers dX0_giveNumbers_57 rfl (hA 3 (A 25 x2)) (show jW 1 from ⟨by decide, by decide⟩) (fun q => ?_) (fun q => ?_)
      · replace h := h.1 q
        exact zw_weak2 (h hA) ⟨rfl, rfl, rfl, trivial⟩
      · replace h := h.2 q
        refine zw_go (pc1 := 61) (L1 := [some (.ref 21), some (.ref 2), some (.int (jI x2)), some (.int (jI (A 25 x2)))]) (st1 := [.ref 21]) (σ1 := js E A) zM_X0_giveNumbers dX0_giveNumbers_60 rfl rfl rfl rfl ?_
        refine zw_go (pc1 := 62) (L1 := [some (.ref 21), some (.ref 2), some (.int (jI x2)), some (.int (jI (A 25 x2)))]) (st1 := [.ref 2, .ref 21]) (σ1 := js E A) zM_X0_giveNumbers dX0_giveNumbers_61 rfl rfl rfl rfl ?_
        refine zw_go (pc1 := 63) (L1 := [some (.ref 21), some (.ref 2), some (.int (jI x2)), some (.int (jI (A 25 x2)))]) (st1 := [.int (jI (A 25 x2)), .ref 2, .ref 21]) (σ1 := js E A) zM_X0_giveNumbers dX0_giveNumbers_62 rfl rfl rfl rfl ?_
        refine jw_callV (as := [.ref 21, .ref 2, .int (jI (A 25 x2))]) (rest := []) zM_X0_giveNumbers dX0_giveNumbers_63 (zx_calV zC_0_115) zM_X0_giveNumbersBelow rfl rfl rfl rfl rfl (j_args0 rfl rfl) rfl hA h (fun A3 hA4 h => ?_)
        exact zw_weak2 (h hA4) ⟨rfl, rfl, rfl, trivial⟩
set_option maxHeartbeats 4000000 in
set_option maxRecDepth 100000 in
theorem vd_X0_giveNumbers_66 (x2 : Int) (r_x2 : jW x2) (E : jE) (A : jA) (K : jA → Prop) (h : jrV 6 29 [some (.ref 21), some (.ref 2), some (.int (jI (x2 + 1))), none] [] E A K) : jrV 6 66 [some (.ref 21), some (.ref 2), some (.int (jI x2)), none] [] E A K := by
  intro hA
  refine jw_iinc (x := x2) (L1 := [some (.ref 21), some (.ref 2), some (.int (jI (x2 + 1))), none]) zM_X0_giveNumbers dX0_giveNumbers_66 rfl (show 2 < 4 by decide) rfl ?_
  refine zw_goto (tgt := 29) zM_X0_giveNumbers dX0_giveNumbers_69 rfl ?_
  exact zw_weak2 (h hA) ⟨rfl, rfl, rfl, trivial⟩
set_option maxHeartbeats 4000000 in
set_option maxRecDepth 100000 in
theorem vd_X0_giveNumbersBelow_0 (x2 : Int) (r_x2 : jW x2) (E : jE) (A : jA) (K : jA → Prop) (h : jrI 100 0 [some (.ref 2), some (.int (jI (x2 + 1)))] [] E A (fun v3 A1 => jrI 100 0 [some (.ref 2), some (.int (jI x2))] [] E A1 (fun v7 A5 => jrV 7 15 [some (.ref 21), some (.ref 2), none, some (.int (jI v3)), some (.int (jI v7)), none] [] E A5 K))) : jrV 7 0 [some (.ref 21), some (.ref 2), some (.int (jI x2)), none, none, none] [] E A K := by
  intro hA
  refine zw_go (pc1 := 1) (L1 := [some (.ref 21), some (.ref 2), some (.int (jI x2)), none, none, none]) (st1 := [.ref 2]) (σ1 := js E A) zM_X0_giveNumbersBelow dX0_giveNumbersBelow_0 rfl rfl rfl rfl ?_
  refine zw_go (pc1 := 2) (L1 := [some (.ref 21), some (.ref 2), some (.int (jI x2)), none, none, none]) (st1 := [.int (jI x2), .ref 2]) (σ1 := js E A) zM_X0_giveNumbersBelow dX0_giveNumbersBelow_1 rfl rfl rfl rfl ?_
  refine jw_iconst (v := 1) zM_X0_giveNumbersBelow dX0_giveNumbersBelow_2 rfl ?_
  refine jw_add zM_X0_giveNumbersBelow dX0_giveNumbersBelow_3 ?_
  refine jw_callI (as := [.ref 2, .int (jI (x2 + 1))]) (rest := []) zM_X0_giveNumbersBelow dX0_giveNumbersBelow_4 (zx_calV zC_0_119) zM_X5_firstNameOf rfl rfl rfl rfl rfl (j_args0 rfl rfl) rfl hA h (fun v3 A1 rv4 hA2 h => ?_)
  refine zw_go (pc1 := 8) (L1 := [some (.ref 21), some (.ref 2), some (.int (jI x2)), some (.int (jI v3)), none, none]) (st1 := []) (σ1 := js E A1) zM_X0_giveNumbersBelow dX0_giveNumbersBelow_7 rfl rfl rfl rfl ?_
  refine zw_go (pc1 := 9) (L1 := [some (.ref 21), some (.ref 2), some (.int (jI x2)), some (.int (jI v3)), none, none]) (st1 := [.ref 2]) (σ1 := js E A1) zM_X0_giveNumbersBelow dX0_giveNumbersBelow_8 rfl rfl rfl rfl ?_
  refine zw_go (pc1 := 10) (L1 := [some (.ref 21), some (.ref 2), some (.int (jI x2)), some (.int (jI v3)), none, none]) (st1 := [.int (jI x2), .ref 2]) (σ1 := js E A1) zM_X0_giveNumbersBelow dX0_giveNumbersBelow_9 rfl rfl rfl rfl ?_
  refine jw_callI (as := [.ref 2, .int (jI x2)]) (rest := []) zM_X0_giveNumbersBelow dX0_giveNumbersBelow_10 (zx_calV zC_0_119) zM_X5_firstNameOf rfl rfl rfl rfl rfl (j_args0 rfl rfl) rfl hA2 h (fun v7 A5 rv8 hA6 h => ?_)
  refine zw_go (pc1 := 15) (L1 := [some (.ref 21), some (.ref 2), some (.int (jI x2)), some (.int (jI v3)), some (.int (jI v7)), none]) (st1 := []) (σ1 := js E A5) zM_X0_giveNumbersBelow dX0_giveNumbersBelow_13 rfl rfl rfl rfl ?_
  exact zw_weak2 (h hA6) ⟨rfl, rfl, rfl, rfl, trivial⟩
set_option maxHeartbeats 4000000 in
set_option maxRecDepth 100000 in
theorem vd_X0_giveNumbersBelow_15 (x3 : Int) (r_x3 : jW x3) (x4 : Int) (r_x4 : jW x4) (E : jE) (A : jA) (K : jA → Prop) (h : ((x3 ≤ x4 → K A) ∧ (x4 < x3 → (0 ≤ x4 ∧ x4 < 279) ∧ (0 ≤ (A 11 x4) ∧ (A 11 x4) < 32) ∧ ((¬ (A 24 (A 11 x4)) = (0 : Int) → jrV 7 81 [some (.ref 21), some (.ref 2), none, some (.int (jI x3)), some (.int (jI x4)), none] [] E A K) ∧ ((A 24 (A 11 x4)) = (0 : Int) → (((32 : Int) ≤ (A 21 13) → jrV 7 81 [some (.ref 21), some (.ref 2), none, some (.int (jI x3)), some (.int (jI x4)), none] [] E A K) ∧ ((A 21 13) < (32 : Int) → jW ((A 21 13) + 1) ∧ ∀ A4 : jA, A4 = jup A 21 13 ((A 21 13) + 1) → (0 ≤ (A 11 x4) ∧ (A 11 x4) < 32) ∧ ∀ A8 : jA, A8 = jup A4 24 (A 11 x4) (A4 21 13) → (0 ≤ (A8 21 13) ∧ (A8 21 13) < 33) ∧ ∀ A12 : jA, A12 = jup A8 25 (A8 21 13) (A 11 x4) → jrV 7 81 [some (.ref 21), some (.ref 2), none, some (.int (jI x3)), some (.int (jI x4)), none] [] E A12 K))))))) : jrV 7 15 [some (.ref 21), some (.ref 2), none, some (.int (jI x3)), some (.int (jI x4)), none] [] E A K := by
  intro hA
  refine zw_go (pc1 := 17) (L1 := [some (.ref 21), some (.ref 2), none, some (.int (jI x3)), some (.int (jI x4)), none]) (st1 := [.int (jI x4)]) (σ1 := js E A) zM_X0_giveNumbersBelow dX0_giveNumbersBelow_15 rfl rfl rfl rfl ?_
  refine zw_go (pc1 := 18) (L1 := [some (.ref 21), some (.ref 2), none, some (.int (jI x3)), some (.int (jI x4)), none]) (st1 := [.int (jI x3), .int (jI x4)]) (σ1 := js E A) zM_X0_giveNumbersBelow dX0_giveNumbersBelow_17 rfl rfl rfl rfl ?_
  refine jw_icmp_ge (tgt := 87) zM_X0_giveNumbersBelow dX0_giveNumbersBelow_18 rfl r_x4 r_x3 (fun q => ?_) (fun q => ?_)
  · replace h := h.1 q
    exact jw_retv zM_X0_giveNumbersBelow dX0_giveNumbersBelow_87 rfl hA h
  · replace h := h.2 q
    refine zw_go (pc1 := 22) (L1 := [some (.ref 21), some (.ref 2), none, some (.int (jI x3)), some (.int (jI x4)), none]) (st1 := [.ref 2]) (σ1 := js E A) zM_X0_giveNumbersBelow dX0_giveNumbersBelow_21 rfl rfl rfl rfl ?_
    refine jw_getR (a := 11) zM_X0_giveNumbersBelow dX0_giveNumbersBelow_22 zF_0_123 rfl rfl rfl ?_
    refine zw_go (pc1 := 27) (L1 := [some (.ref 21), some (.ref 2), none, some (.int (jI x3)), some (.int (jI x4)), none]) (st1 := [.int (jI x4), .ref 11]) (σ1 := js E A) zM_X0_giveNumbersBelow dX0_giveNumbersBelow_25 rfl rfl rfl rfl ?_
    obtain ⟨hi1, h⟩ := h
    refine jw_iald zM_X0_giveNumbersBelow dX0_giveNumbersBelow_27 rfl rfl hi1 ?_
    refine zw_go (pc1 := 30) (L1 := [some (.ref 21), some (.ref 2), none, some (.int (jI x3)), some (.int (jI x4)), some (.int (jI (A 11 x4)))]) (st1 := []) (σ1 := js E A) zM_X0_giveNumbersBelow dX0_giveNumbersBelow_28 rfl rfl rfl rfl ?_
    refine zw_go (pc1 := 31) (L1 := [some (.ref 21), some (.ref 2), none, some (.int (jI x3)), some (.int (jI x4)), some (.int (jI (A 11 x4)))]) (st1 := [.ref 21]) (σ1 := js E A) zM_X0_giveNumbersBelow dX0_giveNumbersBelow_30 rfl rfl rfl rfl ?_
    refine jw_getR (a := 24) zM_X0_giveNumbersBelow dX0_giveNumbersBelow_31 zF_0_18 rfl rfl rfl ?_
    refine zw_go (pc1 := 36) (L1 := [some (.ref 21), some (.ref 2), none, some (.int (jI x3)), some (.int (jI x4)), some (.int (jI (A 11 x4)))]) (st1 := [.int (jI (A 11 x4)), .ref 24]) (σ1 := js E A) zM_X0_giveNumbersBelow dX0_giveNumbersBelow_34 rfl rfl rfl rfl ?_
    obtain ⟨hi2, h⟩ := h
    refine jw_iald zM_X0_giveNumbersBelow dX0_giveNumbersBelow_36 rfl rfl hi2 ?_
    refine jw_if_ne (tgt := 81) zM_X0_giveNumbersBelow dX0_giveNumbersBelow_37 rfl (hA 24 (A 11 x4)) (fun q => ?_) (fun q => ?_)
    · replace h := h.1 q
      exact zw_weak2 (h hA) ⟨rfl, rfl, rfl, rfl, trivial⟩
    · replace h := h.2 q
      refine zw_go (pc1 := 41) (L1 := [some (.ref 21), some (.ref 2), none, some (.int (jI x3)), some (.int (jI x4)), some (.int (jI (A 11 x4)))]) (st1 := [.ref 21]) (σ1 := js E A) zM_X0_giveNumbersBelow dX0_giveNumbersBelow_40 rfl rfl rfl rfl ?_
      refine jw_getI zM_X0_giveNumbersBelow dX0_giveNumbersBelow_41 zF_0_107 rfl rfl rfl ?_
      refine jw_bipush (v := 32) zM_X0_giveNumbersBelow dX0_giveNumbersBelow_44 (by decide) ?_
      refine jw_icmp_ge (tgt := 81) zM_X0_giveNumbersBelow dX0_giveNumbersBelow_46 rfl (hA 21 13) (show jW 32 from ⟨by decide, by decide⟩) (fun q => ?_) (fun q => ?_)
      · replace h := h.1 q
        exact zw_weak2 (h hA) ⟨rfl, rfl, rfl, rfl, trivial⟩
      · replace h := h.2 q
        refine zw_go (pc1 := 50) (L1 := [some (.ref 21), some (.ref 2), none, some (.int (jI x3)), some (.int (jI x4)), some (.int (jI (A 11 x4)))]) (st1 := [.ref 21]) (σ1 := js E A) zM_X0_giveNumbersBelow dX0_giveNumbersBelow_49 rfl rfl rfl rfl ?_
        refine zw_go (pc1 := 51) (L1 := [some (.ref 21), some (.ref 2), none, some (.int (jI x3)), some (.int (jI x4)), some (.int (jI (A 11 x4)))]) (st1 := [.ref 21, .ref 21]) (σ1 := js E A) zM_X0_giveNumbersBelow dX0_giveNumbersBelow_50 rfl rfl rfl rfl ?_
        refine jw_getI zM_X0_giveNumbersBelow dX0_giveNumbersBelow_51 zF_0_107 rfl rfl rfl ?_
        refine jw_iconst (v := 1) zM_X0_giveNumbersBelow dX0_giveNumbersBelow_54 rfl ?_
        refine jw_add zM_X0_giveNumbersBelow dX0_giveNumbersBelow_55 ?_
        obtain ⟨hw3, h⟩ := h
        obtain ⟨A4, e5⟩ : ∃ z9 : jA, z9 = jup A 21 13 ((A 21 13) + 1) := ⟨_, rfl⟩
        replace h := h A4 e5
        have hA6 : jOK A4 := jOK.up hA hw3 e5
        refine jw_putI zM_X0_giveNumbersBelow dX0_giveNumbersBelow_56 zF_0_107 rfl rfl rfl rfl e5 ?_
        refine zw_go (pc1 := 60) (L1 := [some (.ref 21), some (.ref 2), none, some (.int (jI x3)), some (.int (jI x4)), some (.int (jI (A 11 x4)))]) (st1 := [.ref 21]) (σ1 := js E A4) zM_X0_giveNumbersBelow dX0_giveNumbersBelow_59 rfl rfl rfl rfl ?_
        refine jw_getR (a := 24) zM_X0_giveNumbersBelow dX0_giveNumbersBelow_60 zF_0_18 rfl rfl rfl ?_
        refine zw_go (pc1 := 65) (L1 := [some (.ref 21), some (.ref 2), none, some (.int (jI x3)), some (.int (jI x4)), some (.int (jI (A 11 x4)))]) (st1 := [.int (jI (A 11 x4)), .ref 24]) (σ1 := js E A4) zM_X0_giveNumbersBelow dX0_giveNumbersBelow_63 rfl rfl rfl rfl ?_
        refine zw_go (pc1 := 66) (L1 := [some (.ref 21), some (.ref 2), none, some (.int (jI x3)), some (.int (jI x4)), some (.int (jI (A 11 x4)))]) (st1 := [.ref 21, .int (jI (A 11 x4)), .ref 24]) (σ1 := js E A4) zM_X0_giveNumbersBelow dX0_giveNumbersBelow_65 rfl rfl rfl rfl ?_
        refine jw_getI zM_X0_giveNumbersBelow dX0_giveNumbersBelow_66 zF_0_107 rfl rfl rfl ?_
        obtain ⟨hi7, h⟩ := h
        obtain ⟨A8, e9⟩ : ∃ z9 : jA, z9 = jup A4 24 (A 11 x4) (A4 21 13) := ⟨_, rfl⟩
        replace h := h A8 e9
        have hA10 : jOK A8 := jOK.up hA6 (hA6 21 13) e9
        refine jw_iast zM_X0_giveNumbersBelow dX0_giveNumbersBelow_69 rfl rfl hi7 e9 ?_
        refine zw_go (pc1 := 71) (L1 := [some (.ref 21), some (.ref 2), none, some (.int (jI x3)), some (.int (jI x4)), some (.int (jI (A 11 x4)))]) (st1 := [.ref 21]) (σ1 := js E A8) zM_X0_giveNumbersBelow dX0_giveNumbersBelow_70 rfl rfl rfl rfl ?_
        refine jw_getR (a := 25) zM_X0_giveNumbersBelow dX0_giveNumbersBelow_71 zF_0_22 rfl rfl rfl ?_
        refine zw_go (pc1 := 75) (L1 := [some (.ref 21), some (.ref 2), none, some (.int (jI x3)), some (.int (jI x4)), some (.int (jI (A 11 x4)))]) (st1 := [.ref 21, .ref 25]) (σ1 := js E A8) zM_X0_giveNumbersBelow dX0_giveNumbersBelow_74 rfl rfl rfl rfl ?_
        refine jw_getI zM_X0_giveNumbersBelow dX0_giveNumbersBelow_75 zF_0_107 rfl rfl rfl ?_
        refine zw_go (pc1 := 80) (L1 := [some (.ref 21), some (.ref 2), none, some (.int (jI x3)), some (.int (jI x4)), some (.int (jI (A 11 x4)))]) (st1 := [.int (jI (A 11 x4)), .int (jI (A8 21 13)), .ref 25]) (σ1 := js E A8) zM_X0_giveNumbersBelow dX0_giveNumbersBelow_78 rfl rfl rfl rfl ?_
        obtain ⟨hi11, h⟩ := h
        obtain ⟨A12, e13⟩ : ∃ z9 : jA, z9 = jup A8 25 (A8 21 13) (A 11 x4) := ⟨_, rfl⟩
        replace h := h A12 e13
        have hA14 : jOK A12 := jOK.up hA10 (hA 11 x4) e13
        refine jw_iast zM_X0_giveNumbersBelow dX0_giveNumbersBelow_80 rfl rfl hi11 e13 ?_
        exact zw_weak2 (h hA14) ⟨rfl, rfl, rfl, rfl, trivial⟩
set_option maxHeartbeats 4000000 in
set_option maxRecDepth 100000 in
theorem vd_X0_giveNumbersBelow_81 (x3 : Int) (r_x3 : jW x3) (x4 : Int) (r_x4 : jW x4) (E : jE) (A : jA) (K : jA → Prop) (h : jrV 7 15 [some (.ref 21), some (.ref 2), none, some (.int (jI x3)), some (.int (jI (x4 + 1))), none] [] E A K) : jrV 7 81 [some (.ref 21), some (.ref 2), none, some (.int (jI x3)), some (.int (jI x4)), none] [] E A K := by
  intro hA
  refine jw_iinc (x := x4) (L1 := [some (.ref 21), some (.ref 2), none, some (.int (jI x3)), some (.int (jI (x4 + 1))), none]) zM_X0_giveNumbersBelow dX0_giveNumbersBelow_81 rfl (show 4 < 6 by decide) rfl ?_
  refine zw_goto (tgt := 15) zM_X0_giveNumbersBelow dX0_giveNumbersBelow_84 rfl ?_
  exact zw_weak2 (h hA) ⟨rfl, rfl, rfl, rfl, trivial⟩
set_option maxHeartbeats 4000000 in
set_option maxRecDepth 100000 in
theorem vd_X0_joinTail_0 (x2 : Int) (r_x2 : jW x2) (x3 : Int) (r_x3 : jW x3) (E : jE) (A : jA) (K : jA → Prop) (h : ((¬ x3 = (0 : Int) → (0 ≤ x2 ∧ x2 < 33) ∧ (0 ≤ (A 25 x2) ∧ (A 25 x2) < 32) ∧ jW ((A 21 14) + 1) ∧ (0 ≤ x2 ∧ x2 < 33) ∧ ∀ A5 : jA, A5 = jup A 29 x2 ((A 21 14) + 1) → (0 ≤ x2 ∧ x2 < 33) ∧ ∀ A9 : jA, A9 = jup A5 30 x2 (A5 21 15) → jrV 9 55 [some (.ref 21), some (.ref 2), none, some (.int (jI x3)), none, some (.int (jI ((((A 25 x2) * 100) + (A 8 (A 25 x2))) - x3))), some (.int (jI 0))] [] E A9 K) ∧ (x3 = (0 : Int) → K A))) : jrV 9 0 [some (.ref 21), some (.ref 2), some (.int (jI x2)), some (.int (jI x3)), none, none, none] [] E A K := by
  intro hA
  refine zw_go (pc1 := 1) (L1 := [some (.ref 21), some (.ref 2), some (.int (jI x2)), some (.int (jI x3)), none, none, none]) (st1 := [.int (jI x3)]) (σ1 := js E A) zM_X0_joinTail dX0_joinTail_0 rfl rfl rfl rfl ?_
  refine jw_if_ne (tgt := 5) zM_X0_joinTail dX0_joinTail_1 rfl r_x3 (fun q => ?_) (fun q => ?_)
  · replace h := h.1 q
    refine zw_go (pc1 := 6) (L1 := [some (.ref 21), some (.ref 2), some (.int (jI x2)), some (.int (jI x3)), none, none, none]) (st1 := [.ref 21]) (σ1 := js E A) zM_X0_joinTail dX0_joinTail_5 rfl rfl rfl rfl ?_
    refine jw_getR (a := 25) zM_X0_joinTail dX0_joinTail_6 zF_0_22 rfl rfl rfl ?_
    refine zw_go (pc1 := 10) (L1 := [some (.ref 21), some (.ref 2), some (.int (jI x2)), some (.int (jI x3)), none, none, none]) (st1 := [.int (jI x2), .ref 25]) (σ1 := js E A) zM_X0_joinTail dX0_joinTail_9 rfl rfl rfl rfl ?_
    obtain ⟨hi1, h⟩ := h
    refine jw_iald zM_X0_joinTail dX0_joinTail_10 rfl rfl hi1 ?_
    refine zw_go (pc1 := 13) (L1 := [some (.ref 21), some (.ref 2), some (.int (jI x2)), some (.int (jI x3)), some (.int (jI (A 25 x2))), none, none]) (st1 := []) (σ1 := js E A) zM_X0_joinTail dX0_joinTail_11 rfl rfl rfl rfl ?_
    refine zw_go (pc1 := 15) (L1 := [some (.ref 21), some (.ref 2), some (.int (jI x2)), some (.int (jI x3)), some (.int (jI (A 25 x2))), none, none]) (st1 := [.int (jI (A 25 x2))]) (σ1 := js E A) zM_X0_joinTail dX0_joinTail_13 rfl rfl rfl rfl ?_
    refine jw_bipush (v := 100) zM_X0_joinTail dX0_joinTail_15 (by decide) ?_
    refine jw_mul zM_X0_joinTail dX0_joinTail_17 ?_
    refine zw_go (pc1 := 19) (L1 := [some (.ref 21), some (.ref 2), some (.int (jI x2)), some (.int (jI x3)), some (.int (jI (A 25 x2))), none, none]) (st1 := [.ref 2, .int (jI ((A 25 x2) * 100))]) (σ1 := js E A) zM_X0_joinTail dX0_joinTail_18 rfl rfl rfl rfl ?_
    refine jw_getR (a := 8) zM_X0_joinTail dX0_joinTail_19 zF_0_141 rfl rfl rfl ?_
    refine zw_go (pc1 := 24) (L1 := [some (.ref 21), some (.ref 2), some (.int (jI x2)), some (.int (jI x3)), some (.int (jI (A 25 x2))), none, none]) (st1 := [.int (jI (A 25 x2)), .ref 8, .int (jI ((A 25 x2) * 100))]) (σ1 := js E A) zM_X0_joinTail dX0_joinTail_22 rfl rfl rfl rfl ?_
    obtain ⟨hi2, h⟩ := h
    refine jw_iald zM_X0_joinTail dX0_joinTail_24 rfl rfl hi2 ?_
    refine jw_add zM_X0_joinTail dX0_joinTail_25 ?_
    refine zw_go (pc1 := 27) (L1 := [some (.ref 21), some (.ref 2), some (.int (jI x2)), some (.int (jI x3)), some (.int (jI (A 25 x2))), none, none]) (st1 := [.int (jI x3), .int (jI (((A 25 x2) * 100) + (A 8 (A 25 x2))))]) (σ1 := js E A) zM_X0_joinTail dX0_joinTail_26 rfl rfl rfl rfl ?_
    refine jw_sub zM_X0_joinTail dX0_joinTail_27 ?_
    refine zw_go (pc1 := 30) (L1 := [some (.ref 21), some (.ref 2), some (.int (jI x2)), some (.int (jI x3)), some (.int (jI (A 25 x2))), some (.int (jI ((((A 25 x2) * 100) + (A 8 (A 25 x2))) - x3))), none]) (st1 := []) (σ1 := js E A) zM_X0_joinTail dX0_joinTail_28 rfl rfl rfl rfl ?_
    refine zw_go (pc1 := 31) (L1 := [some (.ref 21), some (.ref 2), some (.int (jI x2)), some (.int (jI x3)), some (.int (jI (A 25 x2))), some (.int (jI ((((A 25 x2) * 100) + (A 8 (A 25 x2))) - x3))), none]) (st1 := [.ref 21]) (σ1 := js E A) zM_X0_joinTail dX0_joinTail_30 rfl rfl rfl rfl ?_
    refine jw_getR (a := 29) zM_X0_joinTail dX0_joinTail_31 zF_0_34 rfl rfl rfl ?_
    refine zw_go (pc1 := 35) (L1 := [some (.ref 21), some (.ref 2), some (.int (jI x2)), some (.int (jI x3)), some (.int (jI (A 25 x2))), some (.int (jI ((((A 25 x2) * 100) + (A 8 (A 25 x2))) - x3))), none]) (st1 := [.int (jI x2), .ref 29]) (σ1 := js E A) zM_X0_joinTail dX0_joinTail_34 rfl rfl rfl rfl ?_
    refine zw_go (pc1 := 36) (L1 := [some (.ref 21), some (.ref 2), some (.int (jI x2)), some (.int (jI x3)), some (.int (jI (A 25 x2))), some (.int (jI ((((A 25 x2) * 100) + (A 8 (A 25 x2))) - x3))), none]) (st1 := [.ref 21, .int (jI x2), .ref 29]) (σ1 := js E A) zM_X0_joinTail dX0_joinTail_35 rfl rfl rfl rfl ?_
    refine jw_getI zM_X0_joinTail dX0_joinTail_36 zF_0_159 rfl rfl rfl ?_
    refine jw_iconst (v := 1) zM_X0_joinTail dX0_joinTail_39 rfl ?_
    refine jw_add zM_X0_joinTail dX0_joinTail_40 ?_
    obtain ⟨hw3, h⟩ := h
    obtain ⟨hi4, h⟩ := h
    obtain ⟨A5, e6⟩ : ∃ z9 : jA, z9 = jup A 29 x2 ((A 21 14) + 1) := ⟨_, rfl⟩
    replace h := h A5 e6
    have hA7 : jOK A5 := jOK.up hA hw3 e6
    refine jw_iast zM_X0_joinTail dX0_joinTail_41 rfl rfl hi4 e6 ?_
    refine zw_go (pc1 := 43) (L1 := [some (.ref 21), some (.ref 2), some (.int (jI x2)), some (.int (jI x3)), some (.int (jI (A 25 x2))), some (.int (jI ((((A 25 x2) * 100) + (A 8 (A 25 x2))) - x3))), none]) (st1 := [.ref 21]) (σ1 := js E A5) zM_X0_joinTail dX0_joinTail_42 rfl rfl rfl rfl ?_
    refine jw_getR (a := 30) zM_X0_joinTail dX0_joinTail_43 zF_0_37 rfl rfl rfl ?_
    refine zw_go (pc1 := 47) (L1 := [some (.ref 21), some (.ref 2), some (.int (jI x2)), some (.int (jI x3)), some (.int (jI (A 25 x2))), some (.int (jI ((((A 25 x2) * 100) + (A 8 (A 25 x2))) - x3))), none]) (st1 := [.int (jI x2), .ref 30]) (σ1 := js E A5) zM_X0_joinTail dX0_joinTail_46 rfl rfl rfl rfl ?_
    refine zw_go (pc1 := 48) (L1 := [some (.ref 21), some (.ref 2), some (.int (jI x2)), some (.int (jI x3)), some (.int (jI (A 25 x2))), some (.int (jI ((((A 25 x2) * 100) + (A 8 (A 25 x2))) - x3))), none]) (st1 := [.ref 21, .int (jI x2), .ref 30]) (σ1 := js E A5) zM_X0_joinTail dX0_joinTail_47 rfl rfl rfl rfl ?_
    refine jw_getI zM_X0_joinTail dX0_joinTail_48 zF_0_162 rfl rfl rfl ?_
    obtain ⟨hi8, h⟩ := h
    obtain ⟨A9, e10⟩ : ∃ z9 : jA, z9 = jup A5 30 x2 (A5 21 15) := ⟨_, rfl⟩
    replace h := h A9 e10
    have hA11 : jOK A9 := jOK.up hA7 (hA7 21 15) e10
    refine jw_iast zM_X0_joinTail dX0_joinTail_51 rfl rfl hi8 e10 ?_
    refine jw_iconst (v := 0) zM_X0_joinTail dX0_joinTail_52 rfl ?_
    refine zw_go (pc1 := 55) (L1 := [some (.ref 21), some (.ref 2), some (.int (jI x2)), some (.int (jI x3)), some (.int (jI (A 25 x2))), some (.int (jI ((((A 25 x2) * 100) + (A 8 (A 25 x2))) - x3))), some (.int (jI 0))]) (st1 := []) (σ1 := js E A9) zM_X0_joinTail dX0_joinTail_53 rfl rfl rfl rfl ?_
    exact zw_weak2 (h hA11) ⟨rfl, rfl, rfl, rfl, rfl, trivial⟩
  · replace h := h.2 q
    exact jw_retv zM_X0_joinTail dX0_joinTail_4 rfl hA h
set_option maxHeartbeats 4000000 in
set_option maxRecDepth 100000 in
theorem vd_X0_joinTail_55 (x3 : Int) (r_x3 : jW x3) (x5 : Int) (r_x5 : jW x5) (x6 : Int) (r_x6 : jW x6) (E : jE) (A : jA) (K : jA → Prop) (h : ((x3 ≤ x6 → K A) ∧ (x6 < x3 → (((32 : Int) ≤ (A 21 15) → K A) ∧ ((A 21 15) < (32 : Int) → (0 ≤ (x5 + x6) ∧ (x5 + x6) < 3200) ∧ (0 ≤ (A 21 15) ∧ (A 21 15) < 32) ∧ ∀ A3 : jA, A3 = jup A 35 (A 21 15) (A 9 (x5 + x6)) → jW ((A3 21 15) + 1) ∧ ∀ A7 : jA, A7 = jup A3 21 15 ((A3 21 15) + 1) → jrV 9 55 [some (.ref 21), some (.ref 2), none, some (.int (jI x3)), none, some (.int (jI x5)), some (.int (jI (x6 + 1)))] [] E A7 K))))) : jrV 9 55 [some (.ref 21), some (.ref 2), none, some (.int (jI x3)), none, some (.int (jI x5)), some (.int (jI x6))] [] E A K := by
  intro hA
  refine zw_go (pc1 := 57) (L1 := [some (.ref 21), some (.ref 2), none, some (.int (jI x3)), none, some (.int (jI x5)), some (.int (jI x6))]) (st1 := [.int (jI x6)]) (σ1 := js E A) zM_X0_joinTail dX0_joinTail_55 rfl rfl rfl rfl ?_
  refine zw_go (pc1 := 58) (L1 := [some (.ref 21), some (.ref 2), none, some (.int (jI x3)), none, some (.int (jI x5)), some (.int (jI x6))]) (st1 := [.int (jI x3), .int (jI x6)]) (σ1 := js E A) zM_X0_joinTail dX0_joinTail_57 rfl rfl rfl rfl ?_
  refine jw_icmp_ge (tgt := 105) zM_X0_joinTail dX0_joinTail_58 rfl r_x6 r_x3 (fun q => ?_) (fun q => ?_)
  · replace h := h.1 q
    exact jw_retv zM_X0_joinTail dX0_joinTail_105 rfl hA h
  · replace h := h.2 q
    refine zw_go (pc1 := 62) (L1 := [some (.ref 21), some (.ref 2), none, some (.int (jI x3)), none, some (.int (jI x5)), some (.int (jI x6))]) (st1 := [.ref 21]) (σ1 := js E A) zM_X0_joinTail dX0_joinTail_61 rfl rfl rfl rfl ?_
    refine jw_getI zM_X0_joinTail dX0_joinTail_62 zF_0_162 rfl rfl rfl ?_
    refine jw_bipush (v := 32) zM_X0_joinTail dX0_joinTail_65 (by decide) ?_
    refine jw_icmp_ge (tgt := 105) zM_X0_joinTail dX0_joinTail_67 rfl (hA 21 15) (show jW 32 from ⟨by decide, by decide⟩) (fun q => ?_) (fun q => ?_)
    · replace h := h.1 q
      exact jw_retv zM_X0_joinTail dX0_joinTail_105 rfl hA h
    · replace h := h.2 q
      refine zw_go (pc1 := 71) (L1 := [some (.ref 21), some (.ref 2), none, some (.int (jI x3)), none, some (.int (jI x5)), some (.int (jI x6))]) (st1 := [.ref 21]) (σ1 := js E A) zM_X0_joinTail dX0_joinTail_70 rfl rfl rfl rfl ?_
      refine jw_getR (a := 35) zM_X0_joinTail dX0_joinTail_71 zF_0_52 rfl rfl rfl ?_
      refine zw_go (pc1 := 75) (L1 := [some (.ref 21), some (.ref 2), none, some (.int (jI x3)), none, some (.int (jI x5)), some (.int (jI x6))]) (st1 := [.ref 21, .ref 35]) (σ1 := js E A) zM_X0_joinTail dX0_joinTail_74 rfl rfl rfl rfl ?_
      refine jw_getI zM_X0_joinTail dX0_joinTail_75 zF_0_162 rfl rfl rfl ?_
      refine zw_go (pc1 := 79) (L1 := [some (.ref 21), some (.ref 2), none, some (.int (jI x3)), none, some (.int (jI x5)), some (.int (jI x6))]) (st1 := [.ref 2, .int (jI (A 21 15)), .ref 35]) (σ1 := js E A) zM_X0_joinTail dX0_joinTail_78 rfl rfl rfl rfl ?_
      refine jw_getR (a := 9) zM_X0_joinTail dX0_joinTail_79 zF_0_152 rfl rfl rfl ?_
      refine zw_go (pc1 := 84) (L1 := [some (.ref 21), some (.ref 2), none, some (.int (jI x3)), none, some (.int (jI x5)), some (.int (jI x6))]) (st1 := [.int (jI x5), .ref 9, .int (jI (A 21 15)), .ref 35]) (σ1 := js E A) zM_X0_joinTail dX0_joinTail_82 rfl rfl rfl rfl ?_
      refine zw_go (pc1 := 86) (L1 := [some (.ref 21), some (.ref 2), none, some (.int (jI x3)), none, some (.int (jI x5)), some (.int (jI x6))]) (st1 := [.int (jI x6), .int (jI x5), .ref 9, .int (jI (A 21 15)), .ref 35]) (σ1 := js E A) zM_X0_joinTail dX0_joinTail_84 rfl rfl rfl rfl ?_
      refine jw_add zM_X0_joinTail dX0_joinTail_86 ?_
      obtain ⟨hi1, h⟩ := h
      refine jw_iald zM_X0_joinTail dX0_joinTail_87 rfl rfl hi1 ?_
      obtain ⟨hi2, h⟩ := h
      obtain ⟨A3, e4⟩ : ∃ z9 : jA, z9 = jup A 35 (A 21 15) (A 9 (x5 + x6)) := ⟨_, rfl⟩
      replace h := h A3 e4
      have hA5 : jOK A3 := jOK.up hA (hA 9 (x5 + x6)) e4
      refine jw_iast zM_X0_joinTail dX0_joinTail_88 rfl rfl hi2 e4 ?_
      refine zw_go (pc1 := 90) (L1 := [some (.ref 21), some (.ref 2), none, some (.int (jI x3)), none, some (.int (jI x5)), some (.int (jI x6))]) (st1 := [.ref 21]) (σ1 := js E A3) zM_X0_joinTail dX0_joinTail_89 rfl rfl rfl rfl ?_
      refine zw_go (pc1 := 91) (L1 := [some (.ref 21), some (.ref 2), none, some (.int (jI x3)), none, some (.int (jI x5)), some (.int (jI x6))]) (st1 := [.ref 21, .ref 21]) (σ1 := js E A3) zM_X0_joinTail dX0_joinTail_90 rfl rfl rfl rfl ?_
      refine jw_getI zM_X0_joinTail dX0_joinTail_91 zF_0_162 rfl rfl rfl ?_
      refine jw_iconst (v := 1) zM_X0_joinTail dX0_joinTail_94 rfl ?_
      refine jw_add zM_X0_joinTail dX0_joinTail_95 ?_
      obtain ⟨hw6, h⟩ := h
      obtain ⟨A7, e8⟩ : ∃ z9 : jA, z9 = jup A3 21 15 ((A3 21 15) + 1) := ⟨_, rfl⟩
      replace h := h A7 e8
      have hA9 : jOK A7 := jOK.up hA5 hw6 e8
      refine jw_putI zM_X0_joinTail dX0_joinTail_96 zF_0_162 rfl rfl rfl rfl e8 ?_
      refine jw_iinc (x := x6) (L1 := [some (.ref 21), some (.ref 2), none, some (.int (jI x3)), none, some (.int (jI x5)), some (.int (jI (x6 + 1)))]) zM_X0_joinTail dX0_joinTail_99 rfl (show 6 < 7 by decide) rfl ?_
      refine zw_goto (tgt := 55) zM_X0_joinTail dX0_joinTail_102 rfl ?_
      exact zw_weak2 (h hA9) ⟨rfl, rfl, rfl, rfl, rfl, trivial⟩
set_option maxHeartbeats 4000000 in
set_option maxRecDepth 100000 in
theorem vd_X0_putBlocks_0 (x2 : Int) (r_x2 : jW x2) (a3 : Nat) (i_a3 : jim a3) (E : jE) (A : jA) (K : jA → Prop) (h : jrV 10 3 [some (.ref 21), some (.ref 2), some (.int (jI x2)), some (.ref a3), some (.int (jI 1))] [] E A K) : jrV 10 0 [some (.ref 21), some (.ref 2), some (.int (jI x2)), some (.ref a3), none] [] E A K := by
  intro hA
  refine jw_iconst (v := 1) zM_X0_putBlocks dX0_putBlocks_0 rfl ?_
  refine zw_go (pc1 := 3) (L1 := [some (.ref 21), some (.ref 2), some (.int (jI x2)), some (.ref a3), some (.int (jI 1))]) (st1 := []) (σ1 := js E A) zM_X0_putBlocks dX0_putBlocks_1 rfl rfl rfl rfl ?_
  exact zw_weak2 (h hA) ⟨rfl, rfl, rfl, rfl, rfl, trivial⟩
set_option maxHeartbeats 4000000 in
set_option maxRecDepth 100000 in
theorem vd_X0_putBlocks_3 (x2 : Int) (r_x2 : jW x2) (a3 : Nat) (i_a3 : jim a3) (x4 : Int) (r_x4 : jW x4) (E : jE) (A : jA) (K : jA → Prop) (h : (((A 21 13) < x4 → K A) ∧ (x4 ≤ (A 21 13) → jrI 5 0 [some (.ref 21), some (.ref 2), some (.int (jI x4)), none, none, none] [] E A (fun v3 A1 => (0 ≤ x4 ∧ x4 < 33) ∧ ∀ A6 : jA, A6 = jup A1 26 x4 v3 → (0 ≤ x4 ∧ x4 < 33) ∧ (0 ≤ (A6 25 x4) ∧ (A6 25 x4) < 32) ∧ ((¬ (A6 3 (A6 25 x4)) = (2 : Int) → jrV 10 61 [some (.ref 21), some (.ref 2), some (.int (jI x2)), some (.ref a3), some (.int (jI x4))] [] E A6 K) ∧ ((A6 3 (A6 25 x4)) = (2 : Int) → (0 ≤ x4 ∧ x4 < 33) ∧ ((¬ (A6 26 x4) = (0 : Int) → jrV 10 61 [some (.ref 21), some (.ref 2), some (.int (jI x2)), some (.ref a3), some (.int (jI x4))] [] E A6 K) ∧ ((A6 26 x4) = (0 : Int) → jrV 11 0 [some (.ref 21), some (.ref 2), some (.int (jI x4)), some (.int (jI x2)), some (.ref a3), none, none, none] [] E A6 (fun A12 => jrV 10 61 [some (.ref 21), some (.ref 2), some (.int (jI x2)), some (.ref a3), some (.int (jI x4))] [] E A12 K))))))))) : jrV 10 3 [some (.ref 21), some (.ref 2), some (.int (jI x2)), some (.ref a3), some (.int (jI x4))] [] E A K := by
  intro hA
  refine zw_go (pc1 := 5) (L1 := [some (.ref 21), some (.ref 2), some (.int (jI x2)), some (.ref a3), some (.int (jI x4))]) (st1 := [.int (jI x4)]) (σ1 := js E A) zM_X0_putBlocks dX0_putBlocks_3 rfl rfl rfl rfl ?_
  refine zw_go (pc1 := 6) (L1 := [some (.ref 21), some (.ref 2), some (.int (jI x2)), some (.ref a3), some (.int (jI x4))]) (st1 := [.ref 21, .int (jI x4)]) (σ1 := js E A) zM_X0_putBlocks dX0_putBlocks_5 rfl rfl rfl rfl ?_
  refine jw_getI zM_X0_putBlocks dX0_putBlocks_6 zF_0_107 rfl rfl rfl ?_
  refine jw_icmp_gt (tgt := 67) zM_X0_putBlocks dX0_putBlocks_9 rfl r_x4 (hA 21 13) (fun q => ?_) (fun q => ?_)
  · replace h := h.1 q
    exact jw_retv zM_X0_putBlocks dX0_putBlocks_67 rfl hA h
  · replace h := h.2 q
    refine zw_go (pc1 := 13) (L1 := [some (.ref 21), some (.ref 2), some (.int (jI x2)), some (.ref a3), some (.int (jI x4))]) (st1 := [.ref 21]) (σ1 := js E A) zM_X0_putBlocks dX0_putBlocks_12 rfl rfl rfl rfl ?_
    refine jw_getR (a := 26) zM_X0_putBlocks dX0_putBlocks_13 zF_0_25 rfl rfl rfl ?_
    refine zw_go (pc1 := 18) (L1 := [some (.ref 21), some (.ref 2), some (.int (jI x2)), some (.ref a3), some (.int (jI x4))]) (st1 := [.int (jI x4), .ref 26]) (σ1 := js E A) zM_X0_putBlocks dX0_putBlocks_16 rfl rfl rfl rfl ?_
    refine zw_go (pc1 := 19) (L1 := [some (.ref 21), some (.ref 2), some (.int (jI x2)), some (.ref a3), some (.int (jI x4))]) (st1 := [.ref 21, .int (jI x4), .ref 26]) (σ1 := js E A) zM_X0_putBlocks dX0_putBlocks_18 rfl rfl rfl rfl ?_
    refine zw_go (pc1 := 20) (L1 := [some (.ref 21), some (.ref 2), some (.int (jI x2)), some (.ref a3), some (.int (jI x4))]) (st1 := [.ref 2, .ref 21, .int (jI x4), .ref 26]) (σ1 := js E A) zM_X0_putBlocks dX0_putBlocks_19 rfl rfl rfl rfl ?_
    refine zw_go (pc1 := 22) (L1 := [some (.ref 21), some (.ref 2), some (.int (jI x2)), some (.ref a3), some (.int (jI x4))]) (st1 := [.int (jI x4), .ref 2, .ref 21, .int (jI x4), .ref 26]) (σ1 := js E A) zM_X0_putBlocks dX0_putBlocks_20 rfl rfl rfl rfl ?_
    refine jw_callI (as := [.ref 21, .ref 2, .int (jI x4)]) (rest := [.int (jI x4), .ref 26]) zM_X0_putBlocks dX0_putBlocks_22 (zx_calV zC_0_133) zM_X0_findTwin rfl rfl rfl rfl rfl (j_args0 rfl rfl) rfl hA h (fun v3 A1 rv4 hA2 h => ?_)
    obtain ⟨hi5, h⟩ := h
    obtain ⟨A6, e7⟩ : ∃ z9 : jA, z9 = jup A1 26 x4 v3 := ⟨_, rfl⟩
    replace h := h A6 e7
    have hA8 : jOK A6 := jOK.up hA2 rv4 e7
    refine jw_iast zM_X0_putBlocks dX0_putBlocks_25 rfl rfl hi5 e7 ?_
    refine zw_go (pc1 := 27) (L1 := [some (.ref 21), some (.ref 2), some (.int (jI x2)), some (.ref a3), some (.int (jI x4))]) (st1 := [.ref 2]) (σ1 := js E A6) zM_X0_putBlocks dX0_putBlocks_26 rfl rfl rfl rfl ?_
    refine jw_getR (a := 3) zM_X0_putBlocks dX0_putBlocks_27 zF_0_110 rfl rfl rfl ?_
    refine zw_go (pc1 := 31) (L1 := [some (.ref 21), some (.ref 2), some (.int (jI x2)), some (.ref a3), some (.int (jI x4))]) (st1 := [.ref 21, .ref 3]) (σ1 := js E A6) zM_X0_putBlocks dX0_putBlocks_30 rfl rfl rfl rfl ?_
    refine jw_getR (a := 25) zM_X0_putBlocks dX0_putBlocks_31 zF_0_22 rfl rfl rfl ?_
    refine zw_go (pc1 := 36) (L1 := [some (.ref 21), some (.ref 2), some (.int (jI x2)), some (.ref a3), some (.int (jI x4))]) (st1 := [.int (jI x4), .ref 25, .ref 3]) (σ1 := js E A6) zM_X0_putBlocks dX0_putBlocks_34 rfl rfl rfl rfl ?_
    obtain ⟨hi9, h⟩ := h
    refine jw_iald zM_X0_putBlocks dX0_putBlocks_36 rfl rfl hi9 ?_
    obtain ⟨hi10, h⟩ := h
    refine jw_iald zM_X0_putBlocks dX0_putBlocks_37 rfl rfl hi10 ?_
    refine jw_iconst (v := 2) zM_X0_putBlocks dX0_putBlocks_38 rfl ?_
    refine jw_icmp_ne (tgt := 61) zM_X0_putBlocks dX0_putBlocks_39 rfl (hA8 3 (A6 25 x4)) (show jW 2 from ⟨by decide, by decide⟩) (fun q => ?_) (fun q => ?_)
    · replace h := h.1 q
      exact zw_weak2 (h hA8) ⟨rfl, rfl, rfl, rfl, rfl, trivial⟩
    · replace h := h.2 q
      refine zw_go (pc1 := 43) (L1 := [some (.ref 21), some (.ref 2), some (.int (jI x2)), some (.ref a3), some (.int (jI x4))]) (st1 := [.ref 21]) (σ1 := js E A6) zM_X0_putBlocks dX0_putBlocks_42 rfl rfl rfl rfl ?_
      refine jw_getR (a := 26) zM_X0_putBlocks dX0_putBlocks_43 zF_0_25 rfl rfl rfl ?_
      refine zw_go (pc1 := 48) (L1 := [some (.ref 21), some (.ref 2), some (.int (jI x2)), some (.ref a3), some (.int (jI x4))]) (st1 := [.int (jI x4), .ref 26]) (σ1 := js E A6) zM_X0_putBlocks dX0_putBlocks_46 rfl rfl rfl rfl ?_
      obtain ⟨hi11, h⟩ := h
      refine jw_iald zM_X0_putBlocks dX0_putBlocks_48 rfl rfl hi11 ?_
      refine jw_if_ne (tgt := 61) zM_X0_putBlocks dX0_putBlocks_49 rfl (hA8 26 x4) (fun q => ?_) (fun q => ?_)
      · replace h := h.1 q
        exact zw_weak2 (h hA8) ⟨rfl, rfl, rfl, rfl, rfl, trivial⟩
      · replace h := h.2 q
        refine zw_go (pc1 := 53) (L1 := [some (.ref 21), some (.ref 2), some (.int (jI x2)), some (.ref a3), some (.int (jI x4))]) (st1 := [.ref 21]) (σ1 := js E A6) zM_X0_putBlocks dX0_putBlocks_52 rfl rfl rfl rfl ?_
        refine zw_go (pc1 := 54) (L1 := [some (.ref 21), some (.ref 2), some (.int (jI x2)), some (.ref a3), some (.int (jI x4))]) (st1 := [.ref 2, .ref 21]) (σ1 := js E A6) zM_X0_putBlocks dX0_putBlocks_53 rfl rfl rfl rfl ?_
        refine zw_go (pc1 := 56) (L1 := [some (.ref 21), some (.ref 2), some (.int (jI x2)), some (.ref a3), some (.int (jI x4))]) (st1 := [.int (jI x4), .ref 2, .ref 21]) (σ1 := js E A6) zM_X0_putBlocks dX0_putBlocks_54 rfl rfl rfl rfl ?_
        refine zw_go (pc1 := 57) (L1 := [some (.ref 21), some (.ref 2), some (.int (jI x2)), some (.ref a3), some (.int (jI x4))]) (st1 := [.int (jI x2), .int (jI x4), .ref 2, .ref 21]) (σ1 := js E A6) zM_X0_putBlocks dX0_putBlocks_56 rfl rfl rfl rfl ?_
        refine zw_go (pc1 := 58) (L1 := [some (.ref 21), some (.ref 2), some (.int (jI x2)), some (.ref a3), some (.int (jI x4))]) (st1 := [.ref a3, .int (jI x2), .int (jI x4), .ref 2, .ref 21]) (σ1 := js E A6) zM_X0_putBlocks dX0_putBlocks_57 rfl rfl rfl rfl ?_
        refine jw_callV (as := [.ref 21, .ref 2, .int (jI x4), .int (jI x2), .ref a3]) (rest := []) zM_X0_putBlocks dX0_putBlocks_58 (zx_calV zC_0_137) zM_X0_putBlocksOf rfl rfl rfl rfl rfl (j_args0 rfl rfl) rfl hA8 h (fun A12 hA13 h => ?_)
        exact zw_weak2 (h hA13) ⟨rfl, rfl, rfl, rfl, rfl, trivial⟩
set_option maxHeartbeats 4000000 in
set_option maxRecDepth 100000 in
theorem vd_X0_putBlocks_61 (x2 : Int) (r_x2 : jW x2) (a3 : Nat) (i_a3 : jim a3) (x4 : Int) (r_x4 : jW x4) (E : jE) (A : jA) (K : jA → Prop) (h : jrV 10 3 [some (.ref 21), some (.ref 2), some (.int (jI x2)), some (.ref a3), some (.int (jI (x4 + 1)))] [] E A K) : jrV 10 61 [some (.ref 21), some (.ref 2), some (.int (jI x2)), some (.ref a3), some (.int (jI x4))] [] E A K := by
  intro hA
  refine jw_iinc (x := x4) (L1 := [some (.ref 21), some (.ref 2), some (.int (jI x2)), some (.ref a3), some (.int (jI (x4 + 1)))]) zM_X0_putBlocks dX0_putBlocks_61 rfl (show 4 < 5 by decide) rfl ?_
  refine zw_goto (tgt := 3) zM_X0_putBlocks dX0_putBlocks_64 rfl ?_
  exact zw_weak2 (h hA) ⟨rfl, rfl, rfl, rfl, rfl, trivial⟩
set_option maxHeartbeats 4000000 in
set_option maxRecDepth 100000 in
theorem vd_X0_putBlocksOf_0 (x2 : Int) (r_x2 : jW x2) (x3 : Int) (r_x3 : jW x3) (a4 : Nat) (i_a4 : jim a4) (E : jE) (A : jA) (K : jA → Prop) (h : (0 ≤ x2 ∧ x2 < 33) ∧ (0 ≤ (A 25 x2) ∧ (A 25 x2) < 32) ∧ jrI 19 0 [some (.int (jI (A 8 (A 25 x2)))), some (.int (jI x3))] [] E A (fun v5 A3 => ((¬ v5 = (0 : Int) → jrV 11 40 [some (.ref 21), some (.ref 2), some (.int (jI x2)), some (.int (jI x3)), some (.ref a4), some (.int (jI (A 25 x2))), some (.int (jI v5)), none] [.int (jI (A3 a4 1)), .int (jI x2), .ref 27] E A3 K) ∧ (v5 = (0 : Int) → jrV 11 40 [some (.ref 21), some (.ref 2), some (.int (jI x2)), some (.int (jI x3)), some (.ref a4), some (.int (jI (A 25 x2))), some (.int (jI v5)), none] [.int (jI 0), .int (jI x2), .ref 27] E A3 K)))) : jrV 11 0 [some (.ref 21), some (.ref 2), some (.int (jI x2)), some (.int (jI x3)), some (.ref a4), none, none, none] [] E A K := by
  intro hA
  refine zw_go (pc1 := 1) (L1 := [some (.ref 21), some (.ref 2), some (.int (jI x2)), some (.int (jI x3)), some (.ref a4), none, none, none]) (st1 := [.ref 21]) (σ1 := js E A) zM_X0_putBlocksOf dX0_putBlocksOf_0 rfl rfl rfl rfl ?_
  refine jw_getR (a := 25) zM_X0_putBlocksOf dX0_putBlocksOf_1 zF_0_22 rfl rfl rfl ?_
  refine zw_go (pc1 := 5) (L1 := [some (.ref 21), some (.ref 2), some (.int (jI x2)), some (.int (jI x3)), some (.ref a4), none, none, none]) (st1 := [.int (jI x2), .ref 25]) (σ1 := js E A) zM_X0_putBlocksOf dX0_putBlocksOf_4 rfl rfl rfl rfl ?_
  obtain ⟨hi1, h⟩ := h
  refine jw_iald zM_X0_putBlocksOf dX0_putBlocksOf_5 rfl rfl hi1 ?_
  refine zw_go (pc1 := 8) (L1 := [some (.ref 21), some (.ref 2), some (.int (jI x2)), some (.int (jI x3)), some (.ref a4), some (.int (jI (A 25 x2))), none, none]) (st1 := []) (σ1 := js E A) zM_X0_putBlocksOf dX0_putBlocksOf_6 rfl rfl rfl rfl ?_
  refine zw_go (pc1 := 9) (L1 := [some (.ref 21), some (.ref 2), some (.int (jI x2)), some (.int (jI x3)), some (.ref a4), some (.int (jI (A 25 x2))), none, none]) (st1 := [.ref 2]) (σ1 := js E A) zM_X0_putBlocksOf dX0_putBlocksOf_8 rfl rfl rfl rfl ?_
  refine jw_getR (a := 8) zM_X0_putBlocksOf dX0_putBlocksOf_9 zF_0_141 rfl rfl rfl ?_
  refine zw_go (pc1 := 14) (L1 := [some (.ref 21), some (.ref 2), some (.int (jI x2)), some (.int (jI x3)), some (.ref a4), some (.int (jI (A 25 x2))), none, none]) (st1 := [.int (jI (A 25 x2)), .ref 8]) (σ1 := js E A) zM_X0_putBlocksOf dX0_putBlocksOf_12 rfl rfl rfl rfl ?_
  obtain ⟨hi2, h⟩ := h
  refine jw_iald zM_X0_putBlocksOf dX0_putBlocksOf_14 rfl rfl hi2 ?_
  refine zw_go (pc1 := 16) (L1 := [some (.ref 21), some (.ref 2), some (.int (jI x2)), some (.int (jI x3)), some (.ref a4), some (.int (jI (A 25 x2))), none, none]) (st1 := [.int (jI x3), .int (jI (A 8 (A 25 x2)))]) (σ1 := js E A) zM_X0_putBlocksOf dX0_putBlocksOf_15 rfl rfl rfl rfl ?_
  refine jw_callI (as := [.int (jI (A 8 (A 25 x2))), .int (jI x3)]) (rest := []) zM_X0_putBlocksOf dX0_putBlocksOf_16 (zx_calS zC_0_148) zM_X0_wholeBlocks rfl rfl rfl rfl rfl rfl rfl hA h (fun v5 A3 rv6 hA4 h => ?_)
  refine zw_go (pc1 := 21) (L1 := [some (.ref 21), some (.ref 2), some (.int (jI x2)), some (.int (jI x3)), some (.ref a4), some (.int (jI (A 25 x2))), some (.int (jI v5)), none]) (st1 := []) (σ1 := js E A3) zM_X0_putBlocksOf dX0_putBlocksOf_19 rfl rfl rfl rfl ?_
  refine zw_go (pc1 := 22) (L1 := [some (.ref 21), some (.ref 2), some (.int (jI x2)), some (.int (jI x3)), some (.ref a4), some (.int (jI (A 25 x2))), some (.int (jI v5)), none]) (st1 := [.ref 21]) (σ1 := js E A3) zM_X0_putBlocksOf dX0_putBlocksOf_21 rfl rfl rfl rfl ?_
  refine jw_getR (a := 27) zM_X0_putBlocksOf dX0_putBlocksOf_22 zF_0_28 rfl rfl rfl ?_
  refine zw_go (pc1 := 26) (L1 := [some (.ref 21), some (.ref 2), some (.int (jI x2)), some (.int (jI x3)), some (.ref a4), some (.int (jI (A 25 x2))), some (.int (jI v5)), none]) (st1 := [.int (jI x2), .ref 27]) (σ1 := js E A3) zM_X0_putBlocksOf dX0_putBlocksOf_25 rfl rfl rfl rfl ?_
  refine zw_go (pc1 := 28) (L1 := [some (.ref 21), some (.ref 2), some (.int (jI x2)), some (.int (jI x3)), some (.ref a4), some (.int (jI (A 25 x2))), some (.int (jI v5)), none]) (st1 := [.int (jI v5), .int (jI x2), .ref 27]) (σ1 := js E A3) zM_X0_putBlocksOf dX0_putBlocksOf_26 rfl rfl rfl rfl ?_
  refine jw_if_ne (tgt := 35) zM_X0_putBlocksOf dX0_putBlocksOf_28 rfl rv6 (fun q => ?_) (fun q => ?_)
  · replace h := h.1 q
    refine zw_go (pc1 := 37) (L1 := [some (.ref 21), some (.ref 2), some (.int (jI x2)), some (.int (jI x3)), some (.ref a4), some (.int (jI (A 25 x2))), some (.int (jI v5)), none]) (st1 := [.ref a4, .int (jI x2), .ref 27]) (σ1 := js E A3) zM_X0_putBlocksOf dX0_putBlocksOf_35 rfl rfl rfl rfl ?_
    refine jw_getI zM_X0_putBlocksOf dX0_putBlocksOf_37 zF_0_70 rfl rfl (jim.K i_a4) ?_
    exact zw_weak2 (h hA4) ⟨rfl, rfl, rfl, rfl, rfl, rfl, rfl, trivial⟩
  · replace h := h.2 q
    refine jw_iconst (v := 0) zM_X0_putBlocksOf dX0_putBlocksOf_31 rfl ?_
    refine zw_goto (tgt := 40) zM_X0_putBlocksOf dX0_putBlocksOf_32 rfl ?_
    exact zw_weak2 (h hA4) ⟨rfl, rfl, rfl, rfl, rfl, rfl, rfl, trivial⟩
set_option maxHeartbeats 4000000 in
set_option maxRecDepth 100000 in
theorem vd_X0_putBlocksOf_40 (x2 : Int) (r_x2 : jW x2) (x3 : Int) (r_x3 : jW x3) (a4 : Nat) (i_a4 : jim a4) (x5 : Int) (r_x5 : jW x5) (x6 : Int) (r_x6 : jW x6) (y0 : Int) (r_y0 : jW y0) (y1 : Int) (r_y1 : jW y1) (E : jE) (A : jA) (K : jA → Prop) (h : (0 ≤ y1 ∧ y1 < 33) ∧ ∀ A2 : jA, A2 = jup A 27 y1 y0 → jrV 11 44 [some (.ref 21), some (.ref 2), some (.int (jI x2)), some (.int (jI x3)), some (.ref a4), some (.int (jI x5)), some (.int (jI x6)), some (.int (jI 0))] [] E A2 K) : jrV 11 40 [some (.ref 21), some (.ref 2), some (.int (jI x2)), some (.int (jI x3)), some (.ref a4), some (.int (jI x5)), some (.int (jI x6)), none] [.int (jI y0), .int (jI y1), .ref 27] E A K := by
  intro hA
  obtain ⟨hi1, h⟩ := h
  obtain ⟨A2, e3⟩ : ∃ z9 : jA, z9 = jup A 27 y1 y0 := ⟨_, rfl⟩
  replace h := h A2 e3
  have hA4 : jOK A2 := jOK.up hA r_y0 e3
  refine jw_iast zM_X0_putBlocksOf dX0_putBlocksOf_40 rfl rfl hi1 e3 ?_
  refine jw_iconst (v := 0) zM_X0_putBlocksOf dX0_putBlocksOf_41 rfl ?_
  refine zw_go (pc1 := 44) (L1 := [some (.ref 21), some (.ref 2), some (.int (jI x2)), some (.int (jI x3)), some (.ref a4), some (.int (jI x5)), some (.int (jI x6)), some (.int (jI 0))]) (st1 := []) (σ1 := js E A2) zM_X0_putBlocksOf dX0_putBlocksOf_42 rfl rfl rfl rfl ?_
  exact zw_weak2 (h hA4) ⟨rfl, rfl, rfl, rfl, rfl, rfl, rfl, rfl, trivial⟩
set_option maxHeartbeats 4000000 in
set_option maxRecDepth 100000 in
theorem vd_X0_putBlocksOf_44 (x2 : Int) (r_x2 : jW x2) (x3 : Int) (r_x3 : jW x3) (a4 : Nat) (i_a4 : jim a4) (x5 : Int) (r_x5 : jW x5) (x6 : Int) (r_x6 : jW x6) (x7 : Int) (r_x7 : jW x7) (E : jE) (A : jA) (K : jA → Prop) (h : ((x6 ≤ x7 → K A) ∧ (x7 < x6 → jrI 95 0 [some (.ref 22), some (.ref 9), some (.int (jI ((x5 * 100) + (x7 * x3)))), some (.int (jI x3)), some (.ref a4)] [] E A (fun v3 A1 => (0 ≤ ((x2 * 12) + x7) ∧ ((x2 * 12) + x7) < 396) ∧ ∀ A6 : jA, A6 = jup A1 28 ((x2 * 12) + x7) v3 → jrV 11 44 [some (.ref 21), some (.ref 2), some (.int (jI x2)), some (.int (jI x3)), some (.ref a4), some (.int (jI x5)), some (.int (jI x6)), some (.int (jI (x7 + 1)))] [] E A6 K)))) : jrV 11 44 [some (.ref 21), some (.ref 2), some (.int (jI x2)), some (.int (jI x3)), some (.ref a4), some (.int (jI x5)), some (.int (jI x6)), some (.int (jI x7))] [] E A K := by
  intro hA
  refine zw_go (pc1 := 46) (L1 := [some (.ref 21), some (.ref 2), some (.int (jI x2)), some (.int (jI x3)), some (.ref a4), some (.int (jI x5)), some (.int (jI x6)), some (.int (jI x7))]) (st1 := [.int (jI x7)]) (σ1 := js E A) zM_X0_putBlocksOf dX0_putBlocksOf_44 rfl rfl rfl rfl ?_
  refine zw_go (pc1 := 48) (L1 := [some (.ref 21), some (.ref 2), some (.int (jI x2)), some (.int (jI x3)), some (.ref a4), some (.int (jI x5)), some (.int (jI x6)), some (.int (jI x7))]) (st1 := [.int (jI x6), .int (jI x7)]) (σ1 := js E A) zM_X0_putBlocksOf dX0_putBlocksOf_46 rfl rfl rfl rfl ?_
  refine jw_icmp_ge (tgt := 93) zM_X0_putBlocksOf dX0_putBlocksOf_48 rfl r_x7 r_x6 (fun q => ?_) (fun q => ?_)
  · replace h := h.1 q
    exact jw_retv zM_X0_putBlocksOf dX0_putBlocksOf_93 rfl hA h
  · replace h := h.2 q
    refine zw_go (pc1 := 52) (L1 := [some (.ref 21), some (.ref 2), some (.int (jI x2)), some (.int (jI x3)), some (.ref a4), some (.int (jI x5)), some (.int (jI x6)), some (.int (jI x7))]) (st1 := [.ref 21]) (σ1 := js E A) zM_X0_putBlocksOf dX0_putBlocksOf_51 rfl rfl rfl rfl ?_
    refine jw_getR (a := 28) zM_X0_putBlocksOf dX0_putBlocksOf_52 zF_0_31 rfl rfl rfl ?_
    refine zw_go (pc1 := 56) (L1 := [some (.ref 21), some (.ref 2), some (.int (jI x2)), some (.int (jI x3)), some (.ref a4), some (.int (jI x5)), some (.int (jI x6)), some (.int (jI x7))]) (st1 := [.int (jI x2), .ref 28]) (σ1 := js E A) zM_X0_putBlocksOf dX0_putBlocksOf_55 rfl rfl rfl rfl ?_
    refine jw_bipush (v := 12) zM_X0_putBlocksOf dX0_putBlocksOf_56 (by decide) ?_
    refine jw_mul zM_X0_putBlocksOf dX0_putBlocksOf_58 ?_
    refine zw_go (pc1 := 61) (L1 := [some (.ref 21), some (.ref 2), some (.int (jI x2)), some (.int (jI x3)), some (.ref a4), some (.int (jI x5)), some (.int (jI x6)), some (.int (jI x7))]) (st1 := [.int (jI x7), .int (jI (x2 * 12)), .ref 28]) (σ1 := js E A) zM_X0_putBlocksOf dX0_putBlocksOf_59 rfl rfl rfl rfl ?_
    refine jw_add zM_X0_putBlocksOf dX0_putBlocksOf_61 ?_
    refine zw_go (pc1 := 63) (L1 := [some (.ref 21), some (.ref 2), some (.int (jI x2)), some (.int (jI x3)), some (.ref a4), some (.int (jI x5)), some (.int (jI x6)), some (.int (jI x7))]) (st1 := [.ref 21, .int (jI ((x2 * 12) + x7)), .ref 28]) (σ1 := js E A) zM_X0_putBlocksOf dX0_putBlocksOf_62 rfl rfl rfl rfl ?_
    refine jw_getR (a := 22) zM_X0_putBlocksOf dX0_putBlocksOf_63 zF_0_12 rfl rfl rfl ?_
    refine zw_go (pc1 := 67) (L1 := [some (.ref 21), some (.ref 2), some (.int (jI x2)), some (.int (jI x3)), some (.ref a4), some (.int (jI x5)), some (.int (jI x6)), some (.int (jI x7))]) (st1 := [.ref 2, .ref 22, .int (jI ((x2 * 12) + x7)), .ref 28]) (σ1 := js E A) zM_X0_putBlocksOf dX0_putBlocksOf_66 rfl rfl rfl rfl ?_
    refine jw_getR (a := 9) zM_X0_putBlocksOf dX0_putBlocksOf_67 zF_0_152 rfl rfl rfl ?_
    refine zw_go (pc1 := 72) (L1 := [some (.ref 21), some (.ref 2), some (.int (jI x2)), some (.int (jI x3)), some (.ref a4), some (.int (jI x5)), some (.int (jI x6)), some (.int (jI x7))]) (st1 := [.int (jI x5), .ref 9, .ref 22, .int (jI ((x2 * 12) + x7)), .ref 28]) (σ1 := js E A) zM_X0_putBlocksOf dX0_putBlocksOf_70 rfl rfl rfl rfl ?_
    refine jw_bipush (v := 100) zM_X0_putBlocksOf dX0_putBlocksOf_72 (by decide) ?_
    refine jw_mul zM_X0_putBlocksOf dX0_putBlocksOf_74 ?_
    refine zw_go (pc1 := 77) (L1 := [some (.ref 21), some (.ref 2), some (.int (jI x2)), some (.int (jI x3)), some (.ref a4), some (.int (jI x5)), some (.int (jI x6)), some (.int (jI x7))]) (st1 := [.int (jI x7), .int (jI (x5 * 100)), .ref 9, .ref 22, .int (jI ((x2 * 12) + x7)), .ref 28]) (σ1 := js E A) zM_X0_putBlocksOf dX0_putBlocksOf_75 rfl rfl rfl rfl ?_
    refine zw_go (pc1 := 78) (L1 := [some (.ref 21), some (.ref 2), some (.int (jI x2)), some (.int (jI x3)), some (.ref a4), some (.int (jI x5)), some (.int (jI x6)), some (.int (jI x7))]) (st1 := [.int (jI x3), .int (jI x7), .int (jI (x5 * 100)), .ref 9, .ref 22, .int (jI ((x2 * 12) + x7)), .ref 28]) (σ1 := js E A) zM_X0_putBlocksOf dX0_putBlocksOf_77 rfl rfl rfl rfl ?_
    refine jw_mul zM_X0_putBlocksOf dX0_putBlocksOf_78 ?_
    refine jw_add zM_X0_putBlocksOf dX0_putBlocksOf_79 ?_
    refine zw_go (pc1 := 81) (L1 := [some (.ref 21), some (.ref 2), some (.int (jI x2)), some (.int (jI x3)), some (.ref a4), some (.int (jI x5)), some (.int (jI x6)), some (.int (jI x7))]) (st1 := [.int (jI x3), .int (jI ((x5 * 100) + (x7 * x3))), .ref 9, .ref 22, .int (jI ((x2 * 12) + x7)), .ref 28]) (σ1 := js E A) zM_X0_putBlocksOf dX0_putBlocksOf_80 rfl rfl rfl rfl ?_
    refine zw_go (pc1 := 83) (L1 := [some (.ref 21), some (.ref 2), some (.int (jI x2)), some (.int (jI x3)), some (.ref a4), some (.int (jI x5)), some (.int (jI x6)), some (.int (jI x7))]) (st1 := [.ref a4, .int (jI x3), .int (jI ((x5 * 100) + (x7 * x3))), .ref 9, .ref 22, .int (jI ((x2 * 12) + x7)), .ref 28]) (σ1 := js E A) zM_X0_putBlocksOf dX0_putBlocksOf_81 rfl rfl rfl rfl ?_
    refine jw_callI (as := [.ref 22, .ref 9, .int (jI ((x5 * 100) + (x7 * x3))), .int (jI x3), .ref a4]) (rest := [.int (jI ((x2 * 12) + x7)), .ref 28]) zM_X0_putBlocksOf dX0_putBlocksOf_83 (zx_calV zC_0_155) zM_X4_store rfl rfl rfl rfl rfl (j_args0 rfl rfl) rfl hA h (fun v3 A1 rv4 hA2 h => ?_)
    obtain ⟨hi5, h⟩ := h
    obtain ⟨A6, e7⟩ : ∃ z9 : jA, z9 = jup A1 28 ((x2 * 12) + x7) v3 := ⟨_, rfl⟩
    replace h := h A6 e7
    have hA8 : jOK A6 := jOK.up hA2 rv4 e7
    refine jw_iast zM_X0_putBlocksOf dX0_putBlocksOf_86 rfl rfl hi5 e7 ?_
    refine jw_iinc (x := x7) (L1 := [some (.ref 21), some (.ref 2), some (.int (jI x2)), some (.int (jI x3)), some (.ref a4), some (.int (jI x5)), some (.int (jI x6)), some (.int (jI (x7 + 1)))]) zM_X0_putBlocksOf dX0_putBlocksOf_87 rfl (show 7 < 8 by decide) rfl ?_
    refine zw_goto (tgt := 44) zM_X0_putBlocksOf dX0_putBlocksOf_90 rfl ?_
    exact zw_weak2 (h hA8) ⟨rfl, rfl, rfl, rfl, rfl, rfl, rfl, rfl, trivial⟩
set_option maxHeartbeats 4000000 in
set_option maxRecDepth 100000 in
theorem vd_X0_putExports_0 (a1 : Nat) (i_a1 : jim a1) (E : jE) (A : jA) (K : jA → Prop) (h : jrV 12 2 [some (.ref 21), some (.ref a1), some (.int (jI 1))] [] E A K) : jrV 12 0 [some (.ref 21), some (.ref a1), none] [] E A K := by
  intro hA
  refine jw_iconst (v := 1) zM_X0_putExports dX0_putExports_0 rfl ?_
  refine zw_go (pc1 := 2) (L1 := [some (.ref 21), some (.ref a1), some (.int (jI 1))]) (st1 := []) (σ1 := js E A) zM_X0_putExports dX0_putExports_1 rfl rfl rfl rfl ?_
  exact zw_weak2 (h hA) ⟨rfl, rfl, rfl, trivial⟩
set_option maxHeartbeats 4000000 in
set_option maxRecDepth 100000 in
theorem vd_X0_putExports_2 (a1 : Nat) (i_a1 : jim a1) (x2 : Int) (r_x2 : jW x2) (E : jE) (A : jA) (K : jA → Prop) (h : (((A 21 13) < x2 → K A) ∧ (x2 ≤ (A 21 13) → (0 ≤ x2 ∧ x2 < 33) ∧ jrV 40 0 [some (.ref a1), some (.int (jI (A 31 x2)))] [] E A (fun A2 => jrV 12 2 [some (.ref 21), some (.ref a1), some (.int (jI (x2 + 1)))] [] E A2 K)))) : jrV 12 2 [some (.ref 21), some (.ref a1), some (.int (jI x2))] [] E A K := by
  intro hA
  refine zw_go (pc1 := 3) (L1 := [some (.ref 21), some (.ref a1), some (.int (jI x2))]) (st1 := [.int (jI x2)]) (σ1 := js E A) zM_X0_putExports dX0_putExports_2 rfl rfl rfl rfl ?_
  refine zw_go (pc1 := 4) (L1 := [some (.ref 21), some (.ref a1), some (.int (jI x2))]) (st1 := [.ref 21, .int (jI x2)]) (σ1 := js E A) zM_X0_putExports dX0_putExports_3 rfl rfl rfl rfl ?_
  refine jw_getI zM_X0_putExports dX0_putExports_4 zF_0_107 rfl rfl rfl ?_
  refine jw_icmp_gt (tgt := 26) zM_X0_putExports dX0_putExports_7 rfl r_x2 (hA 21 13) (fun q => ?_) (fun q => ?_)
  · replace h := h.1 q
    exact jw_retv zM_X0_putExports dX0_putExports_26 rfl hA h
  · replace h := h.2 q
    refine zw_go (pc1 := 11) (L1 := [some (.ref 21), some (.ref a1), some (.int (jI x2))]) (st1 := [.ref a1]) (σ1 := js E A) zM_X0_putExports dX0_putExports_10 rfl rfl rfl rfl ?_
    refine zw_go (pc1 := 12) (L1 := [some (.ref 21), some (.ref a1), some (.int (jI x2))]) (st1 := [.ref 21, .ref a1]) (σ1 := js E A) zM_X0_putExports dX0_putExports_11 rfl rfl rfl rfl ?_
    refine jw_getR (a := 31) zM_X0_putExports dX0_putExports_12 zF_0_40 rfl rfl rfl ?_
    refine zw_go (pc1 := 16) (L1 := [some (.ref 21), some (.ref a1), some (.int (jI x2))]) (st1 := [.int (jI x2), .ref 31, .ref a1]) (σ1 := js E A) zM_X0_putExports dX0_putExports_15 rfl rfl rfl rfl ?_
    obtain ⟨hi1, h⟩ := h
    refine jw_iald zM_X0_putExports dX0_putExports_16 rfl rfl hi1 ?_
    refine jw_callV (as := [.ref a1, .int (jI (A 31 x2))]) (rest := []) zM_X0_putExports dX0_putExports_17 (zx_calV zC_0_130) zM_X1_putWord rfl rfl rfl rfl rfl (j_args0 (jim.K i_a1) rfl) rfl hA h (fun A2 hA3 h => ?_)
    refine jw_iinc (x := x2) (L1 := [some (.ref 21), some (.ref a1), some (.int (jI (x2 + 1)))]) zM_X0_putExports dX0_putExports_20 rfl (show 2 < 3 by decide) rfl ?_
    refine zw_goto (tgt := 2) zM_X0_putExports dX0_putExports_23 rfl ?_
    exact zw_weak2 (h hA3) ⟨rfl, rfl, rfl, trivial⟩
set_option maxHeartbeats 4000000 in
set_option maxRecDepth 100000 in
theorem vd_X0_putFileRow_0 (x1 : Int) (r_x1 : jW x1) (x2 : Int) (r_x2 : jW x2) (x3 : Int) (r_x3 : jW x3) (a4 : Nat) (i_a4 : jim a4) (E : jE) (A : jA) (K : jA → Prop) (h : (0 ≤ x1 ∧ x1 < 33) ∧ ((¬ (A 26 x1) = (0 : Int) → (0 ≤ x1 ∧ x1 < 33) ∧ jrV 13 19 [some (.ref 21), none, some (.int (jI x2)), some (.int (jI x3)), some (.ref a4), none, none, none] [.int (jI (A 26 x1))] E A K) ∧ ((A 26 x1) = (0 : Int) → jrV 13 19 [some (.ref 21), none, some (.int (jI x2)), some (.int (jI x3)), some (.ref a4), none, none, none] [.int (jI x1)] E A K))) : jrV 13 0 [some (.ref 21), some (.int (jI x1)), some (.int (jI x2)), some (.int (jI x3)), some (.ref a4), none, none, none] [] E A K := by
  intro hA
  refine zw_go (pc1 := 1) (L1 := [some (.ref 21), some (.int (jI x1)), some (.int (jI x2)), some (.int (jI x3)), some (.ref a4), none, none, none]) (st1 := [.ref 21]) (σ1 := js E A) zM_X0_putFileRow dX0_putFileRow_0 rfl rfl rfl rfl ?_
  refine jw_getR (a := 26) zM_X0_putFileRow dX0_putFileRow_1 zF_0_25 rfl rfl rfl ?_
  refine zw_go (pc1 := 5) (L1 := [some (.ref 21), some (.int (jI x1)), some (.int (jI x2)), some (.int (jI x3)), some (.ref a4), none, none, none]) (st1 := [.int (jI x1), .ref 26]) (σ1 := js E A) zM_X0_putFileRow dX0_putFileRow_4 rfl rfl rfl rfl ?_
  obtain ⟨hi1, h⟩ := h
  refine jw_iald zM_X0_putFileRow dX0_putFileRow_5 rfl rfl hi1 ?_
  refine jw_if_ne (tgt := 13) zM_X0_putFileRow dX0_putFileRow_6 rfl (hA 26 x1) (fun q => ?_) (fun q => ?_)
  · replace h := h.1 q
    refine zw_go (pc1 := 14) (L1 := [some (.ref 21), some (.int (jI x1)), some (.int (jI x2)), some (.int (jI x3)), some (.ref a4), none, none, none]) (st1 := [.ref 21]) (σ1 := js E A) zM_X0_putFileRow dX0_putFileRow_13 rfl rfl rfl rfl ?_
    refine jw_getR (a := 26) zM_X0_putFileRow dX0_putFileRow_14 zF_0_25 rfl rfl rfl ?_
    refine zw_go (pc1 := 18) (L1 := [some (.ref 21), some (.int (jI x1)), some (.int (jI x2)), some (.int (jI x3)), some (.ref a4), none, none, none]) (st1 := [.int (jI x1), .ref 26]) (σ1 := js E A) zM_X0_putFileRow dX0_putFileRow_17 rfl rfl rfl rfl ?_
    obtain ⟨hi2, h⟩ := h
    refine jw_iald zM_X0_putFileRow dX0_putFileRow_18 rfl rfl hi2 ?_
    exact zw_weak2 (h hA) ⟨rfl, rfl, rfl, rfl, trivial⟩
  · replace h := h.2 q
    refine zw_go (pc1 := 10) (L1 := [some (.ref 21), some (.int (jI x1)), some (.int (jI x2)), some (.int (jI x3)), some (.ref a4), none, none, none]) (st1 := [.int (jI x1)]) (σ1 := js E A) zM_X0_putFileRow dX0_putFileRow_9 rfl rfl rfl rfl ?_
    refine zw_goto (tgt := 19) zM_X0_putFileRow dX0_putFileRow_10 rfl ?_
    exact zw_weak2 (h hA) ⟨rfl, rfl, rfl, rfl, trivial⟩
set_option maxHeartbeats 4000000 in
set_option maxRecDepth 100000 in
theorem vd_X0_putFileRow_19 (x2 : Int) (r_x2 : jW x2) (x3 : Int) (r_x3 : jW x3) (a4 : Nat) (i_a4 : jim a4) (y0 : Int) (r_y0 : jW y0) (E : jE) (A : jA) (K : jA → Prop) (h : jrI 19 0 [some (.int (jI x2)), some (.int (jI x3))] [] E A (fun v3 A1 => jrV 40 0 [some (.ref a4), some (.int (jI x2))] [] E A1 (fun A5 => (0 ≤ y0 ∧ y0 < 33) ∧ jrV 40 0 [some (.ref a4), some (.int (jI (A5 27 y0)))] [] E A5 (fun A8 => (0 ≤ y0 ∧ y0 < 33) ∧ jrV 38 0 [some (.ref a4), some (.int (jI (A8 29 y0)))] [] E A8 (fun A11 => (0 ≤ y0 ∧ y0 < 33) ∧ jrV 38 0 [some (.ref a4), some (.int (jI (A11 30 y0)))] [] E A11 (fun A14 => jrV 13 73 [some (.ref 21), none, none, none, some (.ref a4), some (.int (jI y0)), some (.int (jI v3)), some (.int (jI 0))] [] E A14 K)))))) : jrV 13 19 [some (.ref 21), none, some (.int (jI x2)), some (.int (jI x3)), some (.ref a4), none, none, none] [.int (jI y0)] E A K := by
  intro hA
  refine zw_go (pc1 := 21) (L1 := [some (.ref 21), none, some (.int (jI x2)), some (.int (jI x3)), some (.ref a4), some (.int (jI y0)), none, none]) (st1 := []) (σ1 := js E A) zM_X0_putFileRow dX0_putFileRow_19 rfl rfl rfl rfl ?_
  refine zw_go (pc1 := 22) (L1 := [some (.ref 21), none, some (.int (jI x2)), some (.int (jI x3)), some (.ref a4), some (.int (jI y0)), none, none]) (st1 := [.int (jI x2)]) (σ1 := js E A) zM_X0_putFileRow dX0_putFileRow_21 rfl rfl rfl rfl ?_
  refine zw_go (pc1 := 23) (L1 := [some (.ref 21), none, some (.int (jI x2)), some (.int (jI x3)), some (.ref a4), some (.int (jI y0)), none, none]) (st1 := [.int (jI x3), .int (jI x2)]) (σ1 := js E A) zM_X0_putFileRow dX0_putFileRow_22 rfl rfl rfl rfl ?_
  refine jw_callI (as := [.int (jI x2), .int (jI x3)]) (rest := []) zM_X0_putFileRow dX0_putFileRow_23 (zx_calS zC_0_148) zM_X0_wholeBlocks rfl rfl rfl rfl rfl rfl rfl hA h (fun v3 A1 rv4 hA2 h => ?_)
  refine zw_go (pc1 := 28) (L1 := [some (.ref 21), none, some (.int (jI x2)), some (.int (jI x3)), some (.ref a4), some (.int (jI y0)), some (.int (jI v3)), none]) (st1 := []) (σ1 := js E A1) zM_X0_putFileRow dX0_putFileRow_26 rfl rfl rfl rfl ?_
  refine zw_go (pc1 := 30) (L1 := [some (.ref 21), none, some (.int (jI x2)), some (.int (jI x3)), some (.ref a4), some (.int (jI y0)), some (.int (jI v3)), none]) (st1 := [.ref a4]) (σ1 := js E A1) zM_X0_putFileRow dX0_putFileRow_28 rfl rfl rfl rfl ?_
  refine zw_go (pc1 := 31) (L1 := [some (.ref 21), none, some (.int (jI x2)), some (.int (jI x3)), some (.ref a4), some (.int (jI y0)), some (.int (jI v3)), none]) (st1 := [.int (jI x2), .ref a4]) (σ1 := js E A1) zM_X0_putFileRow dX0_putFileRow_30 rfl rfl rfl rfl ?_
  refine jw_callV (as := [.ref a4, .int (jI x2)]) (rest := []) zM_X0_putFileRow dX0_putFileRow_31 (zx_calV zC_0_130) zM_X1_putWord rfl rfl rfl rfl rfl (j_args0 (jim.K i_a4) rfl) rfl hA2 h (fun A5 hA6 h => ?_)
  refine zw_go (pc1 := 36) (L1 := [some (.ref 21), none, some (.int (jI x2)), some (.int (jI x3)), some (.ref a4), some (.int (jI y0)), some (.int (jI v3)), none]) (st1 := [.ref a4]) (σ1 := js E A5) zM_X0_putFileRow dX0_putFileRow_34 rfl rfl rfl rfl ?_
  refine zw_go (pc1 := 37) (L1 := [some (.ref 21), none, some (.int (jI x2)), some (.int (jI x3)), some (.ref a4), some (.int (jI y0)), some (.int (jI v3)), none]) (st1 := [.ref 21, .ref a4]) (σ1 := js E A5) zM_X0_putFileRow dX0_putFileRow_36 rfl rfl rfl rfl ?_
  refine jw_getR (a := 27) zM_X0_putFileRow dX0_putFileRow_37 zF_0_28 rfl rfl rfl ?_
  refine zw_go (pc1 := 42) (L1 := [some (.ref 21), none, some (.int (jI x2)), some (.int (jI x3)), some (.ref a4), some (.int (jI y0)), some (.int (jI v3)), none]) (st1 := [.int (jI y0), .ref 27, .ref a4]) (σ1 := js E A5) zM_X0_putFileRow dX0_putFileRow_40 rfl rfl rfl rfl ?_
  obtain ⟨hi7, h⟩ := h
  refine jw_iald zM_X0_putFileRow dX0_putFileRow_42 rfl rfl hi7 ?_
  refine jw_callV (as := [.ref a4, .int (jI (A5 27 y0))]) (rest := []) zM_X0_putFileRow dX0_putFileRow_43 (zx_calV zC_0_130) zM_X1_putWord rfl rfl rfl rfl rfl (j_args0 (jim.K i_a4) rfl) rfl hA6 h (fun A8 hA9 h => ?_)
  refine zw_go (pc1 := 48) (L1 := [some (.ref 21), none, some (.int (jI x2)), some (.int (jI x3)), some (.ref a4), some (.int (jI y0)), some (.int (jI v3)), none]) (st1 := [.ref a4]) (σ1 := js E A8) zM_X0_putFileRow dX0_putFileRow_46 rfl rfl rfl rfl ?_
  refine zw_go (pc1 := 49) (L1 := [some (.ref 21), none, some (.int (jI x2)), some (.int (jI x3)), some (.ref a4), some (.int (jI y0)), some (.int (jI v3)), none]) (st1 := [.ref 21, .ref a4]) (σ1 := js E A8) zM_X0_putFileRow dX0_putFileRow_48 rfl rfl rfl rfl ?_
  refine jw_getR (a := 29) zM_X0_putFileRow dX0_putFileRow_49 zF_0_34 rfl rfl rfl ?_
  refine zw_go (pc1 := 54) (L1 := [some (.ref 21), none, some (.int (jI x2)), some (.int (jI x3)), some (.ref a4), some (.int (jI y0)), some (.int (jI v3)), none]) (st1 := [.int (jI y0), .ref 29, .ref a4]) (σ1 := js E A8) zM_X0_putFileRow dX0_putFileRow_52 rfl rfl rfl rfl ?_
  obtain ⟨hi10, h⟩ := h
  refine jw_iald zM_X0_putFileRow dX0_putFileRow_54 rfl rfl hi10 ?_
  refine jw_callV (as := [.ref a4, .int (jI (A8 29 y0))]) (rest := []) zM_X0_putFileRow dX0_putFileRow_55 (zx_calV zC_0_126) zM_X1_putByte rfl rfl rfl rfl rfl (j_args0 (jim.K i_a4) rfl) rfl hA9 h (fun A11 hA12 h => ?_)
  refine zw_go (pc1 := 60) (L1 := [some (.ref 21), none, some (.int (jI x2)), some (.int (jI x3)), some (.ref a4), some (.int (jI y0)), some (.int (jI v3)), none]) (st1 := [.ref a4]) (σ1 := js E A11) zM_X0_putFileRow dX0_putFileRow_58 rfl rfl rfl rfl ?_
  refine zw_go (pc1 := 61) (L1 := [some (.ref 21), none, some (.int (jI x2)), some (.int (jI x3)), some (.ref a4), some (.int (jI y0)), some (.int (jI v3)), none]) (st1 := [.ref 21, .ref a4]) (σ1 := js E A11) zM_X0_putFileRow dX0_putFileRow_60 rfl rfl rfl rfl ?_
  refine jw_getR (a := 30) zM_X0_putFileRow dX0_putFileRow_61 zF_0_37 rfl rfl rfl ?_
  refine zw_go (pc1 := 66) (L1 := [some (.ref 21), none, some (.int (jI x2)), some (.int (jI x3)), some (.ref a4), some (.int (jI y0)), some (.int (jI v3)), none]) (st1 := [.int (jI y0), .ref 30, .ref a4]) (σ1 := js E A11) zM_X0_putFileRow dX0_putFileRow_64 rfl rfl rfl rfl ?_
  obtain ⟨hi13, h⟩ := h
  refine jw_iald zM_X0_putFileRow dX0_putFileRow_66 rfl rfl hi13 ?_
  refine jw_callV (as := [.ref a4, .int (jI (A11 30 y0))]) (rest := []) zM_X0_putFileRow dX0_putFileRow_67 (zx_calV zC_0_126) zM_X1_putByte rfl rfl rfl rfl rfl (j_args0 (jim.K i_a4) rfl) rfl hA12 h (fun A14 hA15 h => ?_)
  refine jw_iconst (v := 0) zM_X0_putFileRow dX0_putFileRow_70 rfl ?_
  refine zw_go (pc1 := 73) (L1 := [some (.ref 21), none, some (.int (jI x2)), some (.int (jI x3)), some (.ref a4), some (.int (jI y0)), some (.int (jI v3)), some (.int (jI 0))]) (st1 := []) (σ1 := js E A14) zM_X0_putFileRow dX0_putFileRow_71 rfl rfl rfl rfl ?_
  exact zw_weak2 (h hA15) ⟨rfl, rfl, rfl, rfl, rfl, trivial⟩
set_option maxHeartbeats 4000000 in
set_option maxRecDepth 100000 in
theorem vd_X0_putFileRow_73 (a4 : Nat) (i_a4 : jim a4) (x5 : Int) (r_x5 : jW x5) (x6 : Int) (r_x6 : jW x6) (x7 : Int) (r_x7 : jW x7) (E : jE) (A : jA) (K : jA → Prop) (h : ((x6 ≤ x7 → K A) ∧ (x7 < x6 → (0 ≤ ((x5 * 12) + x7) ∧ ((x5 * 12) + x7) < 396) ∧ jrV 40 0 [some (.ref a4), some (.int (jI (A 28 ((x5 * 12) + x7))))] [] E A (fun A2 => jrV 13 73 [some (.ref 21), none, none, none, some (.ref a4), some (.int (jI x5)), some (.int (jI x6)), some (.int (jI (x7 + 1)))] [] E A2 K)))) : jrV 13 73 [some (.ref 21), none, none, none, some (.ref a4), some (.int (jI x5)), some (.int (jI x6)), some (.int (jI x7))] [] E A K := by
  intro hA
  refine zw_go (pc1 := 75) (L1 := [some (.ref 21), none, none, none, some (.ref a4), some (.int (jI x5)), some (.int (jI x6)), some (.int (jI x7))]) (st1 := [.int (jI x7)]) (σ1 := js E A) zM_X0_putFileRow dX0_putFileRow_73 rfl rfl rfl rfl ?_
  refine zw_go (pc1 := 77) (L1 := [some (.ref 21), none, none, none, some (.ref a4), some (.int (jI x5)), some (.int (jI x6)), some (.int (jI x7))]) (st1 := [.int (jI x6), .int (jI x7)]) (σ1 := js E A) zM_X0_putFileRow dX0_putFileRow_75 rfl rfl rfl rfl ?_
  refine jw_icmp_ge (tgt := 104) zM_X0_putFileRow dX0_putFileRow_77 rfl r_x7 r_x6 (fun q => ?_) (fun q => ?_)
  · replace h := h.1 q
    exact jw_retv zM_X0_putFileRow dX0_putFileRow_104 rfl hA h
  · replace h := h.2 q
    refine zw_go (pc1 := 82) (L1 := [some (.ref 21), none, none, none, some (.ref a4), some (.int (jI x5)), some (.int (jI x6)), some (.int (jI x7))]) (st1 := [.ref a4]) (σ1 := js E A) zM_X0_putFileRow dX0_putFileRow_80 rfl rfl rfl rfl ?_
    refine zw_go (pc1 := 83) (L1 := [some (.ref 21), none, none, none, some (.ref a4), some (.int (jI x5)), some (.int (jI x6)), some (.int (jI x7))]) (st1 := [.ref 21, .ref a4]) (σ1 := js E A) zM_X0_putFileRow dX0_putFileRow_82 rfl rfl rfl rfl ?_
    refine jw_getR (a := 28) zM_X0_putFileRow dX0_putFileRow_83 zF_0_31 rfl rfl rfl ?_
    refine zw_go (pc1 := 88) (L1 := [some (.ref 21), none, none, none, some (.ref a4), some (.int (jI x5)), some (.int (jI x6)), some (.int (jI x7))]) (st1 := [.int (jI x5), .ref 28, .ref a4]) (σ1 := js E A) zM_X0_putFileRow dX0_putFileRow_86 rfl rfl rfl rfl ?_
    refine jw_bipush (v := 12) zM_X0_putFileRow dX0_putFileRow_88 (by decide) ?_
    refine jw_mul zM_X0_putFileRow dX0_putFileRow_90 ?_
    refine zw_go (pc1 := 93) (L1 := [some (.ref 21), none, none, none, some (.ref a4), some (.int (jI x5)), some (.int (jI x6)), some (.int (jI x7))]) (st1 := [.int (jI x7), .int (jI (x5 * 12)), .ref 28, .ref a4]) (σ1 := js E A) zM_X0_putFileRow dX0_putFileRow_91 rfl rfl rfl rfl ?_
    refine jw_add zM_X0_putFileRow dX0_putFileRow_93 ?_
    obtain ⟨hi1, h⟩ := h
    refine jw_iald zM_X0_putFileRow dX0_putFileRow_94 rfl rfl hi1 ?_
    refine jw_callV (as := [.ref a4, .int (jI (A 28 ((x5 * 12) + x7)))]) (rest := []) zM_X0_putFileRow dX0_putFileRow_95 (zx_calV zC_0_130) zM_X1_putWord rfl rfl rfl rfl rfl (j_args0 (jim.K i_a4) rfl) rfl hA h (fun A2 hA3 h => ?_)
    refine jw_iinc (x := x7) (L1 := [some (.ref 21), none, none, none, some (.ref a4), some (.int (jI x5)), some (.int (jI x6)), some (.int (jI (x7 + 1)))]) zM_X0_putFileRow dX0_putFileRow_98 rfl (show 7 < 8 by decide) rfl ?_
    refine zw_goto (tgt := 73) zM_X0_putFileRow dX0_putFileRow_101 rfl ?_
    exact zw_weak2 (h hA3) ⟨rfl, rfl, rfl, rfl, rfl, trivial⟩
