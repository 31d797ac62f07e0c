set_option maxHeartbeats 4000000 in
set_option maxRecDepth 100000 in
theorem vc_X0_become_0 (a0 : Nat) (a1 : Nat) (x2 : Int32) (a3 : Nat) (σ : zx_S) (K : zx_S → Prop) (h : zK σ a0 = 13 ∧ zwV 6 0 [some (.ref a0), some (.ref a1), none, none] [] σ (fun σ2 => zK σ2 a0 = 13 ∧ zwV 15 0 [some (.ref a0), some (.int x2), some (.ref a3), none] [] σ2 (fun σ4 => zK σ4 a0 = 13 ∧ zwV 10 0 [some (.ref a0), some (.ref a1), some (.int x2), some (.ref a3), none] [] σ4 (fun σ6 => zK σ6 a0 = 13 ∧ zwV 17 0 [some (.ref a0), some (.ref a1), some (.int x2), some (.ref a3), none, none, none] [] σ6 (fun σ8 => zK σ8 a3 = 14 ∧ zwV 43 0 [some (.ref a3), some (.int 6), some (.int (zI σ8 a3 1))] [] σ8 (fun σ10 => zK σ10 a0 = 13 ∧ zwV 16 0 [some (.ref a0), some (.ref a1), some (.int x2), some (.ref a3), none, none, none, none, none] [] σ10 (fun σ12 => zK σ12 a3 = 14 ∧ zwV 43 0 [some (.ref a3), some (.int 8), some (.int (zI σ12 a3 1))] [] σ12 (fun σ14 => zK σ14 a0 = 13 ∧ zwV 14 0 [some (.ref a0), some (.ref a1), some (.ref a3), none, none, none, none] [] σ14 (fun σ16 => zK σ16 a3 = 14 ∧ zwV 43 0 [some (.ref a3), some (.int 10), some (.int (zI σ16 a3 1))] [] σ16 (fun σ18 => zK σ18 a0 = 13 ∧ zwV 18 0 [some (.ref a0), some (.ref a3), none] [] σ18 (fun σ20 => zK σ20 a3 = 14 ∧ zwV 43 0 [some (.ref a3), some (.int 12), some (.int (zI σ20 a3 1))] [] σ20 (fun σ22 => zK σ22 a0 = 13 ∧ zwV 12 0 [some (.ref a0), some (.ref a3), none] [] σ22 (fun σ24 => zK σ24 a3 = 14 ∧ zwV 43 0 [some (.ref a3), some (.int 14), some (.int (zI σ24 a3 1))] [] σ24 (fun σ26 => zK σ26 a3 = 14 ∧ zwI 46 0 [some (.ref a3), none, none, none] [] σ26 (fun v29 σ28 => zK σ28 a3 = 14 ∧ zwV 43 0 [some (.ref a3), some (.int 16), some (.int v29)] [] σ28 (fun σ31 => zK σ31 a3 = 14 ∧ zwV 41 0 [some (.ref a3)] [] σ31 (fun σ33 => K σ33))))))))))))))))) : zwV 3 0 [some (.ref a0), some (.ref a1), some (.int x2), some (.ref a3)] [] σ K := by
  refine zw_go (pc1 := 1) (L1 := [some (.ref a0), some (.ref a1), some (.int x2), some (.ref a3)]) (st1 := [.ref a0]) (σ1 := σ) zM_X0_become dX0_become_0 rfl rfl rfl rfl ?_
  refine zw_go (pc1 := 2) (L1 := [some (.ref a0), some (.ref a1), some (.int x2), some (.ref a3)]) (st1 := [.ref a1, .ref a0]) (σ1 := σ) zM_X0_become dX0_become_1 rfl rfl rfl rfl ?_
  obtain ⟨hk1, h⟩ := h
  refine zw_callV (as := [.ref a0, .ref a1]) (rest := []) zM_X0_become dX0_become_2 (zx_calV zC_0_55) zM_X0_giveNumbers rfl rfl rfl rfl rfl (zx_args0 hk1 rfl) rfl h (fun σ2 h => ?_)
  refine zw_go (pc1 := 6) (L1 := [some (.ref a0), some (.ref a1), some (.int x2), some (.ref a3)]) (st1 := [.ref a0]) (σ1 := σ2) zM_X0_become dX0_become_5 rfl rfl rfl rfl ?_
  refine zw_go (pc1 := 7) (L1 := [some (.ref a0), some (.ref a1), some (.int x2), some (.ref a3)]) (st1 := [.int x2, .ref a0]) (σ1 := σ2) zM_X0_become dX0_become_6 rfl rfl rfl rfl ?_
  refine zw_go (pc1 := 8) (L1 := [some (.ref a0), some (.ref a1), some (.int x2), some (.ref a3)]) (st1 := [.ref a3, .int x2, .ref a0]) (σ1 := σ2) zM_X0_become dX0_become_7 rfl rfl rfl rfl ?_
  obtain ⟨hk3, h⟩ := h
  refine zw_callV (as := [.ref a0, .int x2, .ref a3]) (rest := []) zM_X0_become dX0_become_8 (zx_calV zC_0_59) zM_X0_putHead rfl rfl rfl rfl rfl (zx_args0 hk3 rfl) rfl h (fun σ4 h => ?_)
  refine zw_go (pc1 := 12) (L1 := [some (.ref a0), some (.ref a1), some (.int x2), some (.ref a3)]) (st1 := [.ref a0]) (σ1 := σ4) zM_X0_become dX0_become_11 rfl rfl rfl rfl ?_
  refine zw_go (pc1 := 13) (L1 := [some (.ref a0), some (.ref a1), some (.int x2), some (.ref a3)]) (st1 := [.ref a1, .ref a0]) (σ1 := σ4) zM_X0_become dX0_become_12 rfl rfl rfl rfl ?_
  refine zw_go (pc1 := 14) (L1 := [some (.ref a0), some (.ref a1), some (.int x2), some (.ref a3)]) (st1 := [.int x2, .ref a1, .ref a0]) (σ1 := σ4) zM_X0_become dX0_become_13 rfl rfl rfl rfl ?_
  refine zw_go (pc1 := 15) (L1 := [some (.ref a0), some (.ref a1), some (.int x2), some (.ref a3)]) (st1 := [.ref a3, .int x2, .ref a1, .ref a0]) (σ1 := σ4) zM_X0_become dX0_become_14 rfl rfl rfl rfl ?_
  obtain ⟨hk5, h⟩ := h
  refine zw_callV (as := [.ref a0, .ref a1, .int x2, .ref a3]) (rest := []) zM_X0_become dX0_become_15 (zx_calV zC_0_63) zM_X0_putBlocks rfl rfl rfl rfl rfl (zx_args0 hk5 rfl) rfl h (fun σ6 h => ?_)
  refine zw_go (pc1 := 19) (L1 := [some (.ref a0), some (.ref a1), some (.int x2), some (.ref a3)]) (st1 := [.ref a0]) (σ1 := σ6) zM_X0_become dX0_become_18 rfl rfl rfl rfl ?_
  refine zw_go (pc1 := 20) (L1 := [some (.ref a0), some (.ref a1), some (.int x2), some (.ref a3)]) (st1 := [.ref a1, .ref a0]) (σ1 := σ6) zM_X0_become dX0_become_19 rfl rfl rfl rfl ?_
  refine zw_go (pc1 := 21) (L1 := [some (.ref a0), some (.ref a1), some (.int x2), some (.ref a3)]) (st1 := [.int x2, .ref a1, .ref a0]) (σ1 := σ6) zM_X0_become dX0_become_20 rfl rfl rfl rfl ?_
  refine zw_go (pc1 := 22) (L1 := [some (.ref a0), some (.ref a1), some (.int x2), some (.ref a3)]) (st1 := [.ref a3, .int x2, .ref a1, .ref a0]) (σ1 := σ6) zM_X0_become dX0_become_21 rfl rfl rfl rfl ?_
  obtain ⟨hk7, h⟩ := h
  refine zw_callV (as := [.ref a0, .ref a1, .int x2, .ref a3]) (rest := []) zM_X0_become dX0_become_22 (zx_calV zC_0_67) zM_X0_putTailBlocks rfl rfl rfl rfl rfl (zx_args0 hk7 rfl) rfl h (fun σ8 h => ?_)
  refine zw_go (pc1 := 26) (L1 := [some (.ref a0), some (.ref a1), some (.int x2), some (.ref a3)]) (st1 := [.ref a3]) (σ1 := σ8) zM_X0_become dX0_become_25 rfl rfl rfl rfl ?_
  refine zw_bipush (v := 6) zM_X0_become dX0_become_26 (by decide) ?_
  refine zw_go (pc1 := 29) (L1 := [some (.ref a0), some (.ref a1), some (.int x2), some (.ref a3)]) (st1 := [.ref a3, .int 6, .ref a3]) (σ1 := σ8) zM_X0_become dX0_become_28 rfl rfl rfl rfl ?_
  obtain ⟨hk9, h⟩ := h
  refine zw_getI zM_X0_become dX0_become_29 zF_0_70 rfl hk9 ?_
  refine zw_callV (as := [.ref a3, .int 6, .int (zI σ8 a3 1)]) (rest := []) zM_X0_become dX0_become_32 (zx_calV zC_0_76) zM_X1_setWord rfl rfl rfl rfl rfl (zx_args0 hk9 rfl) rfl h (fun σ10 h => ?_)
  refine zw_go (pc1 := 36) (L1 := [some (.ref a0), some (.ref a1), some (.int x2), some (.ref a3)]) (st1 := [.ref a0]) (σ1 := σ10) zM_X0_become dX0_become_35 rfl rfl rfl rfl ?_
  refine zw_go (pc1 := 37) (L1 := [some (.ref a0), some (.ref a1), some (.int x2), some (.ref a3)]) (st1 := [.ref a1, .ref a0]) (σ1 := σ10) zM_X0_become dX0_become_36 rfl rfl rfl rfl ?_
  refine zw_go (pc1 := 38) (L1 := [some (.ref a0), some (.ref a1), some (.int x2), some (.ref a3)]) (st1 := [.int x2, .ref a1, .ref a0]) (σ1 := σ10) zM_X0_become dX0_become_37 rfl rfl rfl rfl ?_
  refine zw_go (pc1 := 39) (L1 := [some (.ref a0), some (.ref a1), some (.int x2), some (.ref a3)]) (st1 := [.ref a3, .int x2, .ref a1, .ref a0]) (σ1 := σ10) zM_X0_become dX0_become_38 rfl rfl rfl rfl ?_
  obtain ⟨hk11, h⟩ := h
  refine zw_callV (as := [.ref a0, .ref a1, .int x2, .ref a3]) (rest := []) zM_X0_become dX0_become_39 (zx_calV zC_0_80) zM_X0_putInodes rfl rfl rfl rfl rfl (zx_args0 hk11 rfl) rfl h (fun σ12 h => ?_)
  refine zw_go (pc1 := 43) (L1 := [some (.ref a0), some (.ref a1), some (.int x2), some (.ref a3)]) (st1 := [.ref a3]) (σ1 := σ12) zM_X0_become dX0_become_42 rfl rfl rfl rfl ?_
  refine zw_bipush (v := 8) zM_X0_become dX0_become_43 (by decide) ?_
  refine zw_go (pc1 := 46) (L1 := [some (.ref a0), some (.ref a1), some (.int x2), some (.ref a3)]) (st1 := [.ref a3, .int 8, .ref a3]) (σ1 := σ12) zM_X0_become dX0_become_45 rfl rfl rfl rfl ?_
  obtain ⟨hk13, h⟩ := h
  refine zw_getI zM_X0_become dX0_become_46 zF_0_70 rfl hk13 ?_
  refine zw_callV (as := [.ref a3, .int 8, .int (zI σ12 a3 1)]) (rest := []) zM_X0_become dX0_become_49 (zx_calV zC_0_76) zM_X1_setWord rfl rfl rfl rfl rfl (zx_args0 hk13 rfl) rfl h (fun σ14 h => ?_)
  refine zw_go (pc1 := 53) (L1 := [some (.ref a0), some (.ref a1), some (.int x2), some (.ref a3)]) (st1 := [.ref a0]) (σ1 := σ14) zM_X0_become dX0_become_52 rfl rfl rfl rfl ?_
  refine zw_go (pc1 := 54) (L1 := [some (.ref a0), some (.ref a1), some (.int x2), some (.ref a3)]) (st1 := [.ref a1, .ref a0]) (σ1 := σ14) zM_X0_become dX0_become_53 rfl rfl rfl rfl ?_
  refine zw_go (pc1 := 55) (L1 := [some (.ref a0), some (.ref a1), some (.int x2), some (.ref a3)]) (st1 := [.ref a3, .ref a1, .ref a0]) (σ1 := σ14) zM_X0_become dX0_become_54 rfl rfl rfl rfl ?_
  obtain ⟨hk15, h⟩ := h
  refine zw_callV (as := [.ref a0, .ref a1, .ref a3]) (rest := []) zM_X0_become dX0_become_55 (zx_calV zC_0_83) zM_X0_putFolders rfl rfl rfl rfl rfl (zx_args0 hk15 rfl) rfl h (fun σ16 h => ?_)
  refine zw_go (pc1 := 59) (L1 := [some (.ref a0), some (.ref a1), some (.int x2), some (.ref a3)]) (st1 := [.ref a3]) (σ1 := σ16) zM_X0_become dX0_become_58 rfl rfl rfl rfl ?_
  refine zw_bipush (v := 10) zM_X0_become dX0_become_59 (by decide) ?_
  refine zw_go (pc1 := 62) (L1 := [some (.ref a0), some (.ref a1), some (.int x2), some (.ref a3)]) (st1 := [.ref a3, .int 10, .ref a3]) (σ1 := σ16) zM_X0_become dX0_become_61 rfl rfl rfl rfl ?_
  obtain ⟨hk17, h⟩ := h
  refine zw_getI zM_X0_become dX0_become_62 zF_0_70 rfl hk17 ?_
  refine zw_callV (as := [.ref a3, .int 10, .int (zI σ16 a3 1)]) (rest := []) zM_X0_become dX0_become_65 (zx_calV zC_0_76) zM_X1_setWord rfl rfl rfl rfl rfl (zx_args0 hk17 rfl) rfl h (fun σ18 h => ?_)
  refine zw_go (pc1 := 69) (L1 := [some (.ref a0), some (.ref a1), some (.int x2), some (.ref a3)]) (st1 := [.ref a0]) (σ1 := σ18) zM_X0_become dX0_become_68 rfl rfl rfl rfl ?_
  refine zw_go (pc1 := 70) (L1 := [some (.ref a0), some (.ref a1), some (.int x2), some (.ref a3)]) (st1 := [.ref a3, .ref a0]) (σ1 := σ18) zM_X0_become dX0_become_69 rfl rfl rfl rfl ?_
  obtain ⟨hk19, h⟩ := h
  refine zw_callV (as := [.ref a0, .ref a3]) (rest := []) zM_X0_become dX0_become_70 (zx_calV zC_0_87) zM_X0_putTails rfl rfl rfl rfl rfl (zx_args0 hk19 rfl) rfl h (fun σ20 h => ?_)
  refine zw_go (pc1 := 74) (L1 := [some (.ref a0), some (.ref a1), some (.int x2), some (.ref a3)]) (st1 := [.ref a3]) (σ1 := σ20) zM_X0_become dX0_become_73 rfl rfl rfl rfl ?_
  refine zw_bipush (v := 12) zM_X0_become dX0_become_74 (by decide) ?_
  refine zw_go (pc1 := 77) (L1 := [some (.ref a0), some (.ref a1), some (.int x2), some (.ref a3)]) (st1 := [.ref a3, .int 12, .ref a3]) (σ1 := σ20) zM_X0_become dX0_become_76 rfl rfl rfl rfl ?_
  obtain ⟨hk21, h⟩ := h
  refine zw_getI zM_X0_become dX0_become_77 zF_0_70 rfl hk21 ?_
  refine zw_callV (as := [.ref a3, .int 12, .int (zI σ20 a3 1)]) (rest := []) zM_X0_become dX0_become_80 (zx_calV zC_0_76) zM_X1_setWord rfl rfl rfl rfl rfl (zx_args0 hk21 rfl) rfl h (fun σ22 h => ?_)
  refine zw_go (pc1 := 84) (L1 := [some (.ref a0), some (.ref a1), some (.int x2), some (.ref a3)]) (st1 := [.ref a0]) (σ1 := σ22) zM_X0_become dX0_become_83 rfl rfl rfl rfl ?_
  refine zw_go (pc1 := 85) (L1 := [some (.ref a0), some (.ref a1), some (.int x2), some (.ref a3)]) (st1 := [.ref a3, .ref a0]) (σ1 := σ22) zM_X0_become dX0_become_84 rfl rfl rfl rfl ?_
  obtain ⟨hk23, h⟩ := h
  refine zw_callV (as := [.ref a0, .ref a3]) (rest := []) zM_X0_become dX0_become_85 (zx_calV zC_0_91) zM_X0_putExports rfl rfl rfl rfl rfl (zx_args0 hk23 rfl) rfl h (fun σ24 h => ?_)
  refine zw_go (pc1 := 89) (L1 := [some (.ref a0), some (.ref a1), some (.int x2), some (.ref a3)]) (st1 := [.ref a3]) (σ1 := σ24) zM_X0_become dX0_become_88 rfl rfl rfl rfl ?_
  refine zw_bipush (v := 14) zM_X0_become dX0_become_89 (by decide) ?_
  refine zw_go (pc1 := 92) (L1 := [some (.ref a0), some (.ref a1), some (.int x2), some (.ref a3)]) (st1 := [.ref a3, .int 14, .ref a3]) (σ1 := σ24) zM_X0_become dX0_become_91 rfl rfl rfl rfl ?_
  obtain ⟨hk25, h⟩ := h
  refine zw_getI zM_X0_become dX0_become_92 zF_0_70 rfl hk25 ?_
  refine zw_callV (as := [.ref a3, .int 14, .int (zI σ24 a3 1)]) (rest := []) zM_X0_become dX0_become_95 (zx_calV zC_0_76) zM_X1_setWord rfl rfl rfl rfl rfl (zx_args0 hk25 rfl) rfl h (fun σ26 h => ?_)
  refine zw_go (pc1 := 99) (L1 := [some (.ref a0), some (.ref a1), some (.int x2), some (.ref a3)]) (st1 := [.ref a3]) (σ1 := σ26) zM_X0_become dX0_become_98 rfl rfl rfl rfl ?_
  refine zw_bipush (v := 16) zM_X0_become dX0_become_99 (by decide) ?_
  refine zw_go (pc1 := 102) (L1 := [some (.ref a0), some (.ref a1), some (.int x2), some (.ref a3)]) (st1 := [.ref a3, .int 16, .ref a3]) (σ1 := σ26) zM_X0_become dX0_become_101 rfl rfl rfl rfl ?_
  obtain ⟨hk27, h⟩ := h
  refine zw_callI (as := [.ref a3]) (rest := [.int 16, .ref a3]) zM_X0_become dX0_become_102 (zx_calV zC_0_94) zM_X1_sum rfl rfl rfl rfl rfl (zx_args0 hk27 rfl) rfl h (fun v29 σ28 h => ?_)
  obtain ⟨hk30, h⟩ := h
  refine zw_callV (as := [.ref a3, .int 16, .int v29]) (rest := []) zM_X0_become dX0_become_105 (zx_calV zC_0_76) zM_X1_setWord rfl rfl rfl rfl rfl (zx_args0 hk30 rfl) rfl h (fun σ31 h => ?_)
  refine zw_go (pc1 := 109) (L1 := [some (.ref a0), some (.ref a1), some (.int x2), some (.ref a3)]) (st1 := [.ref a3]) (σ1 := σ31) zM_X0_become dX0_become_108 rfl rfl rfl rfl ?_
  obtain ⟨hk32, h⟩ := h
  refine zw_callV (as := [.ref a3]) (rest := []) zM_X0_become dX0_become_109 (zx_calV zC_0_98) zM_X1_readHead rfl rfl rfl rfl rfl (zx_args0 hk32 rfl) rfl h (fun σ33 h => ?_)
  exact zw_retv zM_X0_become dX0_become_112 rfl h
set_option maxHeartbeats 4000000 in
set_option maxRecDepth 100000 in
theorem vc_X0_closeTailBlock_0 (a0 : Nat) (a1 : Nat) (σ : zx_S) (K : zx_S → Prop) (h : zK σ a0 = 13 ∧ (((32 : Int32) ≤ (zI σ a0 14) → ∀ σ2 : zx_S, σ2 = zx_pI σ a0 15 0 → K σ2) ∧ (¬ (32 : Int32) ≤ (zI σ a0 14) → ∃ b4 : Nat, zR σ a0 9 = some b4 ∧ zK σ a1 = 14 ∧ zK σ b4 = 1 ∧ zx_in (zI σ a0 14) (zN σ b4) = true ∧ ∀ σ9 : zx_S, σ9 = zx_pI σ b4 (Int32.toNatClampNeg (zI σ a0 14)) (zI σ a1 1) → ∃ b11 : Nat, zR σ9 a0 10 = some b11 ∧ ∃ b13 : Nat, zR σ9 a0 0 = some b13 ∧ ∃ b15 : Nat, zR σ9 a0 12 = some b15 ∧ zK σ9 b13 = 17 ∧ zwI 95 0 [some (.ref b13), some (.ref b15), some (.int 0), some (.int (zI σ9 a0 15)), some (.ref a1)] [] σ9 (fun v19 σ18 => zK σ18 b11 = 1 ∧ zx_in (zI σ9 a0 14) (zN σ18 b11) = true ∧ ∀ σ22 : zx_S, σ22 = zx_pI σ18 b11 (Int32.toNatClampNeg (zI σ9 a0 14)) v19 → zK σ22 a0 = 13 ∧ ∃ b25 : Nat, zR σ22 a0 11 = some b25 ∧ zK σ22 b25 = 1 ∧ zx_in (zI σ22 a0 14) (zN σ22 b25) = true ∧ ∀ σ29 : zx_S, σ29 = zx_pI σ22 b25 (Int32.toNatClampNeg (zI σ22 a0 14)) (zI σ22 a0 15) → ∀ σ31 : zx_S, σ31 = zx_pI σ29 a0 14 ((zI σ29 a0 14) + 1) → ∀ σ33 : zx_S, σ33 = zx_pI σ31 a0 15 0 → K σ33)))) : zwV 4 0 [some (.ref a0), some (.ref a1)] [] σ K := by
  refine zw_go (pc1 := 1) (L1 := [some (.ref a0), some (.ref a1)]) (st1 := [.ref a0]) (σ1 := σ) zM_X0_closeTailBlock dX0_closeTailBlock_0 rfl rfl rfl rfl ?_
  obtain ⟨hk1, h⟩ := h
  refine zw_getI zM_X0_closeTailBlock dX0_closeTailBlock_1 zF_0_159 rfl hk1 ?_
  refine zw_bipush (v := 32) zM_X0_closeTailBlock dX0_closeTailBlock_4 (by decide) ?_
  refine zw_icmp_ge (tgt := 71) zM_X0_closeTailBlock dX0_closeTailBlock_6 rfl rfl (fun q => ?_) (fun q => ?_)
  · replace h := h.1 q
    refine zw_go (pc1 := 72) (L1 := [some (.ref a0), some (.ref a1)]) (st1 := [.ref a0]) (σ1 := σ) zM_X0_closeTailBlock dX0_closeTailBlock_71 rfl rfl rfl rfl ?_
    refine zw_iconst (v := 0) zM_X0_closeTailBlock dX0_closeTailBlock_72 (by decide) ?_
    obtain ⟨σ2, e3⟩ : ∃ z9 : zx_S, z9 = zx_pI σ a0 15 0 := ⟨_, rfl⟩
    replace h := h σ2 e3
    refine zw_putI zM_X0_closeTailBlock dX0_closeTailBlock_73 zF_0_162 rfl rfl hk1 e3 ?_
    exact zw_retv zM_X0_closeTailBlock dX0_closeTailBlock_76 rfl h
  · replace h := h.2 q
    refine zw_go (pc1 := 10) (L1 := [some (.ref a0), some (.ref a1)]) (st1 := [.ref a0]) (σ1 := σ) zM_X0_closeTailBlock dX0_closeTailBlock_9 rfl rfl rfl rfl ?_
    obtain ⟨b4, hr5, h⟩ := h
    refine zw_getR (a := b4) zM_X0_closeTailBlock dX0_closeTailBlock_10 zF_0_43 rfl hk1 hr5 ?_
    refine zw_go (pc1 := 14) (L1 := [some (.ref a0), some (.ref a1)]) (st1 := [.ref a0, .ref b4]) (σ1 := σ) zM_X0_closeTailBlock dX0_closeTailBlock_13 rfl rfl rfl rfl ?_
    refine zw_getI zM_X0_closeTailBlock dX0_closeTailBlock_14 zF_0_159 rfl hk1 ?_
    refine zw_go (pc1 := 18) (L1 := [some (.ref a0), some (.ref a1)]) (st1 := [.ref a1, .int (zI σ a0 14), .ref b4]) (σ1 := σ) zM_X0_closeTailBlock dX0_closeTailBlock_17 rfl rfl rfl rfl ?_
    obtain ⟨hk6, h⟩ := h
    refine zw_getI zM_X0_closeTailBlock dX0_closeTailBlock_18 zF_0_70 rfl hk6 ?_
    obtain ⟨hk7, h⟩ := h
    obtain ⟨hi8, h⟩ := h
    obtain ⟨σ9, e10⟩ : ∃ z9 : zx_S, z9 = zx_pI σ b4 (Int32.toNatClampNeg (zI σ a0 14)) (zI σ a1 1) := ⟨_, rfl⟩
    replace h := h σ9 e10
    refine zw_iast zM_X0_closeTailBlock dX0_closeTailBlock_21 ⟨hk7, hi8⟩ e10 ?_
    refine zw_go (pc1 := 23) (L1 := [some (.ref a0), some (.ref a1)]) (st1 := [.ref a0]) (σ1 := σ9) zM_X0_closeTailBlock dX0_closeTailBlock_22 rfl rfl rfl rfl ?_
    obtain ⟨b11, hr12, h⟩ := h
    refine zw_getR (a := b11) zM_X0_closeTailBlock dX0_closeTailBlock_23 zF_0_46 rfl (by rw [e10]; exact hk1) hr12 ?_
    refine zw_go (pc1 := 27) (L1 := [some (.ref a0), some (.ref a1)]) (st1 := [.ref a0, .ref b11]) (σ1 := σ9) zM_X0_closeTailBlock dX0_closeTailBlock_26 rfl rfl rfl rfl ?_
    refine zw_getI zM_X0_closeTailBlock dX0_closeTailBlock_27 zF_0_159 rfl (by rw [e10]; exact hk1) ?_
    refine zw_go (pc1 := 31) (L1 := [some (.ref a0), some (.ref a1)]) (st1 := [.ref a0, .int (zI σ9 a0 14), .ref b11]) (σ1 := σ9) zM_X0_closeTailBlock dX0_closeTailBlock_30 rfl rfl rfl rfl ?_
    obtain ⟨b13, hr14, h⟩ := h
    refine zw_getR (a := b13) zM_X0_closeTailBlock dX0_closeTailBlock_31 zF_0_12 rfl (by rw [e10]; exact hk1) hr14 ?_
    refine zw_go (pc1 := 35) (L1 := [some (.ref a0), some (.ref a1)]) (st1 := [.ref a0, .ref b13, .int (zI σ9 a0 14), .ref b11]) (σ1 := σ9) zM_X0_closeTailBlock dX0_closeTailBlock_34 rfl rfl rfl rfl ?_
    obtain ⟨b15, hr16, h⟩ := h
    refine zw_getR (a := b15) zM_X0_closeTailBlock dX0_closeTailBlock_35 zF_0_52 rfl (by rw [e10]; exact hk1) hr16 ?_
    refine zw_iconst (v := 0) zM_X0_closeTailBlock dX0_closeTailBlock_38 (by decide) ?_
    refine zw_go (pc1 := 40) (L1 := [some (.ref a0), some (.ref a1)]) (st1 := [.ref a0, .int 0, .ref b15, .ref b13, .int (zI σ9 a0 14), .ref b11]) (σ1 := σ9) zM_X0_closeTailBlock dX0_closeTailBlock_39 rfl rfl rfl rfl ?_
    refine zw_getI zM_X0_closeTailBlock dX0_closeTailBlock_40 zF_0_162 rfl (by rw [e10]; exact hk1) ?_
    refine zw_go (pc1 := 44) (L1 := [some (.ref a0), some (.ref a1)]) (st1 := [.ref a1, .int (zI σ9 a0 15), .int 0, .ref b15, .ref b13, .int (zI σ9 a0 14), .ref b11]) (σ1 := σ9) zM_X0_closeTailBlock dX0_closeTailBlock_43 rfl rfl rfl rfl ?_
    obtain ⟨hk17, h⟩ := h
    refine zw_callI (as := [.ref b13, .ref b15, .int 0, .int (zI σ9 a0 15), .ref a1]) (rest := [.int (zI σ9 a0 14), .ref b11]) zM_X0_closeTailBlock dX0_closeTailBlock_44 (zx_calV zC_0_155) zM_X4_store rfl rfl rfl rfl rfl (zx_args0 hk17 rfl) rfl h (fun v19 σ18 h => ?_)
    obtain ⟨hk20, h⟩ := h
    obtain ⟨hi21, h⟩ := h
    obtain ⟨σ22, e23⟩ : ∃ z9 : zx_S, z9 = zx_pI σ18 b11 (Int32.toNatClampNeg (zI σ9 a0 14)) v19 := ⟨_, rfl⟩
    replace h := h σ22 e23
    refine zw_iast zM_X0_closeTailBlock dX0_closeTailBlock_47 ⟨hk20, hi21⟩ e23 ?_
    refine zw_go (pc1 := 49) (L1 := [some (.ref a0), some (.ref a1)]) (st1 := [.ref a0]) (σ1 := σ22) zM_X0_closeTailBlock dX0_closeTailBlock_48 rfl rfl rfl rfl ?_
    obtain ⟨hk24, h⟩ := h
    obtain ⟨b25, hr26, h⟩ := h
    refine zw_getR (a := b25) zM_X0_closeTailBlock dX0_closeTailBlock_49 zF_0_49 rfl hk24 hr26 ?_
    refine zw_go (pc1 := 53) (L1 := [some (.ref a0), some (.ref a1)]) (st1 := [.ref a0, .ref b25]) (σ1 := σ22) zM_X0_closeTailBlock dX0_closeTailBlock_52 rfl rfl rfl rfl ?_
    refine zw_getI zM_X0_closeTailBlock dX0_closeTailBlock_53 zF_0_159 rfl hk24 ?_
    refine zw_go (pc1 := 57) (L1 := [some (.ref a0), some (.ref a1)]) (st1 := [.ref a0, .int (zI σ22 a0 14), .ref b25]) (σ1 := σ22) zM_X0_closeTailBlock dX0_closeTailBlock_56 rfl rfl rfl rfl ?_
    refine zw_getI zM_X0_closeTailBlock dX0_closeTailBlock_57 zF_0_162 rfl hk24 ?_
    obtain ⟨hk27, h⟩ := h
    obtain ⟨hi28, h⟩ := h
    obtain ⟨σ29, e30⟩ : ∃ z9 : zx_S, z9 = zx_pI σ22 b25 (Int32.toNatClampNeg (zI σ22 a0 14)) (zI σ22 a0 15) := ⟨_, rfl⟩
    replace h := h σ29 e30
    refine zw_iast zM_X0_closeTailBlock dX0_closeTailBlock_60 ⟨hk27, hi28⟩ e30 ?_
    refine zw_go (pc1 := 62) (L1 := [some (.ref a0), some (.ref a1)]) (st1 := [.ref a0]) (σ1 := σ29) zM_X0_closeTailBlock dX0_closeTailBlock_61 rfl rfl rfl rfl ?_
    refine zw_go (pc1 := 63) (L1 := [some (.ref a0), some (.ref a1)]) (st1 := [.ref a0, .ref a0]) (σ1 := σ29) zM_X0_closeTailBlock dX0_closeTailBlock_62 rfl rfl rfl rfl ?_
    refine zw_getI zM_X0_closeTailBlock dX0_closeTailBlock_63 zF_0_159 rfl (by rw [e30]; exact hk24) ?_
    refine zw_iconst (v := 1) zM_X0_closeTailBlock dX0_closeTailBlock_66 (by decide) ?_
    refine zw_go (pc1 := 68) (L1 := [some (.ref a0), some (.ref a1)]) (st1 := [.int ((zI σ29 a0 14) + 1), .ref a0]) (σ1 := σ29) zM_X0_closeTailBlock dX0_closeTailBlock_67 rfl rfl rfl rfl ?_
    obtain ⟨σ31, e32⟩ : ∃ z9 : zx_S, z9 = zx_pI σ29 a0 14 ((zI σ29 a0 14) + 1) := ⟨_, rfl⟩
    replace h := h σ31 e32
    refine zw_putI zM_X0_closeTailBlock dX0_closeTailBlock_68 zF_0_159 rfl rfl (by rw [e30]; exact hk24) e32 ?_
    refine zw_go (pc1 := 72) (L1 := [some (.ref a0), some (.ref a1)]) (st1 := [.ref a0]) (σ1 := σ31) zM_X0_closeTailBlock dX0_closeTailBlock_71 rfl rfl rfl rfl ?_
    refine zw_iconst (v := 0) zM_X0_closeTailBlock dX0_closeTailBlock_72 (by decide) ?_
    obtain ⟨σ33, e34⟩ : ∃ z9 : zx_S, z9 = zx_pI σ31 a0 15 0 := ⟨_, rfl⟩
    replace h := h σ33 e34
    refine zw_putI zM_X0_closeTailBlock dX0_closeTailBlock_73 zF_0_162 rfl rfl (by rw [e32, e30]; exact hk24) e34 ?_
    exact zw_retv zM_X0_closeTailBlock dX0_closeTailBlock_76 rfl h
set_option maxHeartbeats 4000000 in
set_option maxRecDepth 100000 in
theorem vc_X0_findTwin_0 (a0 : Nat) (a1 : Nat) (x2 : Int32) (σ : zx_S) (K : Int32 → zx_S → Prop) (h : zK σ a0 = 13 ∧ ∃ b2 : Nat, zR σ a0 2 = some b2 ∧ zK σ b2 = 1 ∧ zx_in x2 (zN σ b2) = true ∧ zK σ a1 = 18 ∧ ∃ b7 : Nat, zR σ a1 0 = some b7 ∧ zK σ b7 = 1 ∧ zx_in (zI σ b2 (Int32.toNatClampNeg x2)) (zN σ b7) = true ∧ ((¬ (zI σ b7 (Int32.toNatClampNeg (zI σ b2 (Int32.toNatClampNeg x2)))) = (2 : Int32) → K 0 σ) ∧ ((zI σ b7 (Int32.toNatClampNeg (zI σ b2 (Int32.toNatClampNeg x2)))) = (2 : Int32) → ∃ b11 : Nat, zR σ a1 5 = some b11 ∧ zK σ b11 = 1 ∧ zx_in (zI σ b2 (Int32.toNatClampNeg x2)) (zN σ b11) = true ∧ ((¬ (zI σ b11 (Int32.toNatClampNeg (zI σ b2 (Int32.toNatClampNeg x2)))) = (0 : Int32) → zwI 5 31 [some (.ref a0), some (.ref a1), some (.int x2), some (.int (zI σ b2 (Int32.toNatClampNeg x2))), some (.int 1), none] [] σ K) ∧ ((zI σ b11 (Int32.toNatClampNeg (zI σ b2 (Int32.toNatClampNeg x2)))) = (0 : Int32) → K 0 σ))))) : zwI 5 0 [some (.ref a0), some (.ref a1), some (.int x2), none, none, none] [] σ K := by
  refine zw_go (pc1 := 1) (L1 := [some (.ref a0), some (.ref a1), some (.int x2), none, none, none]) (st1 := [.ref a0]) (σ1 := σ) zM_X0_findTwin dX0_findTwin_0 rfl rfl rfl rfl ?_
  obtain ⟨hk1, h⟩ := h
  obtain ⟨b2, hr3, h⟩ := h
  refine zw_getR (a := b2) zM_X0_findTwin dX0_findTwin_1 zF_0_22 rfl hk1 hr3 ?_
  refine zw_go (pc1 := 5) (L1 := [some (.ref a0), some (.ref a1), some (.int x2), none, none, none]) (st1 := [.int x2, .ref b2]) (σ1 := σ) zM_X0_findTwin dX0_findTwin_4 rfl rfl rfl rfl ?_
  obtain ⟨hk4, h⟩ := h
  obtain ⟨hi5, h⟩ := h
  refine zw_iald zM_X0_findTwin dX0_findTwin_5 ⟨Or.inl hk4, hi5⟩ ?_
  refine zw_go (pc1 := 7) (L1 := [some (.ref a0), some (.ref a1), some (.int x2), some (.int (zI σ b2 (Int32.toNatClampNeg x2))), none, none]) (st1 := []) (σ1 := σ) zM_X0_findTwin dX0_findTwin_6 rfl rfl rfl rfl ?_
  refine zw_go (pc1 := 8) (L1 := [some (.ref a0), some (.ref a1), some (.int x2), some (.int (zI σ b2 (Int32.toNatClampNeg x2))), none, none]) (st1 := [.ref a1]) (σ1 := σ) zM_X0_findTwin dX0_findTwin_7 rfl rfl rfl rfl ?_
  obtain ⟨hk6, h⟩ := h
  obtain ⟨b7, hr8, h⟩ := h
  refine zw_getR (a := b7) zM_X0_findTwin dX0_findTwin_8 zF_0_110 rfl hk6 hr8 ?_
  refine zw_go (pc1 := 12) (L1 := [some (.ref a0), some (.ref a1), some (.int x2), some (.int (zI σ b2 (Int32.toNatClampNeg x2))), none, none]) (st1 := [.int (zI σ b2 (Int32.toNatClampNeg x2)), .ref b7]) (σ1 := σ) zM_X0_findTwin dX0_findTwin_11 rfl rfl rfl rfl ?_
  obtain ⟨hk9, h⟩ := h
  obtain ⟨hi10, h⟩ := h
  refine zw_iald zM_X0_findTwin dX0_findTwin_12 ⟨Or.inl hk9, hi10⟩ ?_
  refine zw_iconst (v := 2) zM_X0_findTwin dX0_findTwin_13 (by decide) ?_
  refine zw_icmp_ne (tgt := 26) zM_X0_findTwin dX0_findTwin_14 rfl rfl (fun q => ?_) (fun q => ?_)
  · replace h := h.1 q
    refine zw_iconst (v := 0) zM_X0_findTwin dX0_findTwin_26 (by decide) ?_
    exact zw_reti zM_X0_findTwin dX0_findTwin_27 rfl h
  · replace h := h.2 q
    refine zw_go (pc1 := 18) (L1 := [some (.ref a0), some (.ref a1), some (.int x2), some (.int (zI σ b2 (Int32.toNatClampNeg x2))), none, none]) (st1 := [.ref a1]) (σ1 := σ) zM_X0_findTwin dX0_findTwin_17 rfl rfl rfl rfl ?_
    obtain ⟨b11, hr12, h⟩ := h
    refine zw_getR (a := b11) zM_X0_findTwin dX0_findTwin_18 zF_0_141 rfl hk6 hr12 ?_
    refine zw_go (pc1 := 22) (L1 := [some (.ref a0), some (.ref a1), some (.int x2), some (.int (zI σ b2 (Int32.toNatClampNeg x2))), none, none]) (st1 := [.int (zI σ b2 (Int32.toNatClampNeg x2)), .ref b11]) (σ1 := σ) zM_X0_findTwin dX0_findTwin_21 rfl rfl rfl rfl ?_
    obtain ⟨hk13, h⟩ := h
    obtain ⟨hi14, h⟩ := h
    refine zw_iald zM_X0_findTwin dX0_findTwin_22 ⟨Or.inl hk13, hi14⟩ ?_
    refine zw_if_ne (tgt := 28) zM_X0_findTwin dX0_findTwin_23 rfl rfl (fun q => ?_) (fun q => ?_)
    · replace h := h.1 q
      refine zw_iconst (v := 1) zM_X0_findTwin dX0_findTwin_28 (by decide) ?_
      refine zw_go (pc1 := 31) (L1 := [some (.ref a0), some (.ref a1), some (.int x2), some (.int (zI σ b2 (Int32.toNatClampNeg x2))), some (.int 1), none]) (st1 := []) (σ1 := σ) zM_X0_findTwin dX0_findTwin_29 rfl rfl rfl rfl ?_
      exact zw_weak2 h ⟨rfl, rfl, rfl, rfl, rfl, trivial⟩
    · replace h := h.2 q
      refine zw_iconst (v := 0) zM_X0_findTwin dX0_findTwin_26 (by decide) ?_
      exact zw_reti zM_X0_findTwin dX0_findTwin_27 rfl h
set_option maxHeartbeats 4000000 in
set_option maxRecDepth 100000 in
theorem vc_X0_findTwin_31 (a0 : Nat) (a1 : Nat) (x2 : Int32) (x3 : Int32) (x4 : Int32) (σ : zx_S) (K : Int32 → zx_S → Prop) (h : ((x2 ≤ x4 → K 0 σ) ∧ (¬ x2 ≤ x4 → zK σ a0 = 13 ∧ ∃ b2 : Nat, zR σ a0 2 = some b2 ∧ zK σ b2 = 1 ∧ zx_in x4 (zN σ b2) = true ∧ zK σ a1 = 18 ∧ ∃ b7 : Nat, zR σ a1 0 = some b7 ∧ zK σ b7 = 1 ∧ zx_in (zI σ b2 (Int32.toNatClampNeg x4)) (zN σ b7) = true ∧ ((¬ (zI σ b7 (Int32.toNatClampNeg (zI σ b2 (Int32.toNatClampNeg x4)))) = (2 : Int32) → zwI 5 70 [some (.ref a0), some (.ref a1), some (.int x2), some (.int x3), some (.int x4), none] [] σ K) ∧ ((zI σ b7 (Int32.toNatClampNeg (zI σ b2 (Int32.toNatClampNeg x4)))) = (2 : Int32) → zwI 102 0 [some (.ref a1), some (.int x3), some (.int (zI σ b2 (Int32.toNatClampNeg x4))), none] [] σ (fun v12 σ11 => ((v12 = (0 : Int32) → zwI 5 70 [some (.ref a0), some (.ref a1), some (.int x2), some (.int x3), some (.int x4), none] [] σ11 K) ∧ (¬ v12 = (0 : Int32) → K x4 σ11)))))))) : zwI 5 31 [some (.ref a0), some (.ref a1), some (.int x2), some (.int x3), some (.int x4), none] [] σ K := by
  refine zw_go (pc1 := 33) (L1 := [some (.ref a0), some (.ref a1), some (.int x2), some (.int x3), some (.int x4), none]) (st1 := [.int x4]) (σ1 := σ) zM_X0_findTwin dX0_findTwin_31 rfl rfl rfl rfl ?_
  refine zw_go (pc1 := 34) (L1 := [some (.ref a0), some (.ref a1), some (.int x2), some (.int x3), some (.int x4), none]) (st1 := [.int x2, .int x4]) (σ1 := σ) zM_X0_findTwin dX0_findTwin_33 rfl rfl rfl rfl ?_
  refine zw_icmp_ge (tgt := 76) zM_X0_findTwin dX0_findTwin_34 rfl rfl (fun q => ?_) (fun q => ?_)
  · replace h := h.1 q
    refine zw_iconst (v := 0) zM_X0_findTwin dX0_findTwin_76 (by decide) ?_
    exact zw_reti zM_X0_findTwin dX0_findTwin_77 rfl h
  · replace h := h.2 q
    refine zw_go (pc1 := 38) (L1 := [some (.ref a0), some (.ref a1), some (.int x2), some (.int x3), some (.int x4), none]) (st1 := [.ref a0]) (σ1 := σ) zM_X0_findTwin dX0_findTwin_37 rfl rfl rfl rfl ?_
    obtain ⟨hk1, h⟩ := h
    obtain ⟨b2, hr3, h⟩ := h
    refine zw_getR (a := b2) zM_X0_findTwin dX0_findTwin_38 zF_0_22 rfl hk1 hr3 ?_
    refine zw_go (pc1 := 43) (L1 := [some (.ref a0), some (.ref a1), some (.int x2), some (.int x3), some (.int x4), none]) (st1 := [.int x4, .ref b2]) (σ1 := σ) zM_X0_findTwin dX0_findTwin_41 rfl rfl rfl rfl ?_
    obtain ⟨hk4, h⟩ := h
    obtain ⟨hi5, h⟩ := h
    refine zw_iald zM_X0_findTwin dX0_findTwin_43 ⟨Or.inl hk4, hi5⟩ ?_
    refine zw_go (pc1 := 46) (L1 := [some (.ref a0), some (.ref a1), some (.int x2), some (.int x3), some (.int x4), some (.int (zI σ b2 (Int32.toNatClampNeg x4)))]) (st1 := []) (σ1 := σ) zM_X0_findTwin dX0_findTwin_44 rfl rfl rfl rfl ?_
    refine zw_go (pc1 := 47) (L1 := [some (.ref a0), some (.ref a1), some (.int x2), some (.int x3), some (.int x4), some (.int (zI σ b2 (Int32.toNatClampNeg x4)))]) (st1 := [.ref a1]) (σ1 := σ) zM_X0_findTwin dX0_findTwin_46 rfl rfl rfl rfl ?_
    obtain ⟨hk6, h⟩ := h
    obtain ⟨b7, hr8, h⟩ := h
    refine zw_getR (a := b7) zM_X0_findTwin dX0_findTwin_47 zF_0_110 rfl hk6 hr8 ?_
    refine zw_go (pc1 := 52) (L1 := [some (.ref a0), some (.ref a1), some (.int x2), some (.int x3), some (.int x4), some (.int (zI σ b2 (Int32.toNatClampNeg x4)))]) (st1 := [.int (zI σ b2 (Int32.toNatClampNeg x4)), .ref b7]) (σ1 := σ) zM_X0_findTwin dX0_findTwin_50 rfl rfl rfl rfl ?_
    obtain ⟨hk9, h⟩ := h
    obtain ⟨hi10, h⟩ := h
    refine zw_iald zM_X0_findTwin dX0_findTwin_52 ⟨Or.inl hk9, hi10⟩ ?_
    refine zw_iconst (v := 2) zM_X0_findTwin dX0_findTwin_53 (by decide) ?_
    refine zw_icmp_ne (tgt := 70) zM_X0_findTwin dX0_findTwin_54 rfl rfl (fun q => ?_) (fun q => ?_)
    · replace h := h.1 q
      exact zw_weak2 h ⟨rfl, rfl, rfl, rfl, rfl, trivial⟩
    · replace h := h.2 q
      refine zw_go (pc1 := 58) (L1 := [some (.ref a0), some (.ref a1), some (.int x2), some (.int x3), some (.int x4), some (.int (zI σ b2 (Int32.toNatClampNeg x4)))]) (st1 := [.ref a1]) (σ1 := σ) zM_X0_findTwin dX0_findTwin_57 rfl rfl rfl rfl ?_
      refine zw_go (pc1 := 59) (L1 := [some (.ref a0), some (.ref a1), some (.int x2), some (.int x3), some (.int x4), some (.int (zI σ b2 (Int32.toNatClampNeg x4)))]) (st1 := [.int x3, .ref a1]) (σ1 := σ) zM_X0_findTwin dX0_findTwin_58 rfl rfl rfl rfl ?_
      refine zw_go (pc1 := 61) (L1 := [some (.ref a0), some (.ref a1), some (.int x2), some (.int x3), some (.int x4), some (.int (zI σ b2 (Int32.toNatClampNeg x4)))]) (st1 := [.int (zI σ b2 (Int32.toNatClampNeg x4)), .int x3, .ref a1]) (σ1 := σ) zM_X0_findTwin dX0_findTwin_59 rfl rfl rfl rfl ?_
      refine zw_callI (as := [.ref a1, .int x3, .int (zI σ b2 (Int32.toNatClampNeg x4))]) (rest := []) zM_X0_findTwin dX0_findTwin_61 (zx_calV zC_0_144) zM_X5_haveSameBytes rfl rfl rfl rfl rfl (zx_args0 hk6 rfl) rfl h (fun v12 σ11 h => ?_)
      refine zw_if_eq (tgt := 70) zM_X0_findTwin dX0_findTwin_64 rfl rfl (fun q => ?_) (fun q => ?_)
      · replace h := h.1 q
        exact zw_weak2 h ⟨rfl, rfl, rfl, rfl, rfl, trivial⟩
      · replace h := h.2 q
        refine zw_go (pc1 := 69) (L1 := [some (.ref a0), some (.ref a1), some (.int x2), some (.int x3), some (.int x4), some (.int (zI σ b2 (Int32.toNatClampNeg x4)))]) (st1 := [.int x4]) (σ1 := σ11) zM_X0_findTwin dX0_findTwin_67 rfl rfl rfl rfl ?_
        exact zw_reti zM_X0_findTwin dX0_findTwin_69 rfl h
set_option maxHeartbeats 4000000 in
set_option maxRecDepth 100000 in
theorem vc_X0_findTwin_70 (a0 : Nat) (a1 : Nat) (x2 : Int32) (x3 : Int32) (x4 : Int32) (σ : zx_S) (K : Int32 → zx_S → Prop) (h : zwI 5 31 [some (.ref a0), some (.ref a1), some (.int x2), some (.int x3), some (.int (x4 + Int32.ofInt 1)), none] [] σ K) : zwI 5 70 [some (.ref a0), some (.ref a1), some (.int x2), some (.int x3), some (.int x4), none] [] σ K := by
  refine zw_go (pc1 := 73) (L1 := [some (.ref a0), some (.ref a1), some (.int x2), some (.int x3), some (.int (x4 + Int32.ofInt 1)), none]) (st1 := []) (σ1 := σ) zM_X0_findTwin dX0_findTwin_70 rfl rfl rfl rfl ?_
  refine zw_goto (tgt := 31) zM_X0_findTwin dX0_findTwin_73 rfl ?_
  exact zw_weak2 h ⟨rfl, rfl, rfl, rfl, rfl, trivial⟩
set_option maxHeartbeats 4000000 in
set_option maxRecDepth 100000 in
theorem vc_X0_giveNumbers_0 (a0 : Nat) (a1 : Nat) (σ : zx_S) (K : zx_S → Prop) (h : zK σ a0 = 13 ∧ ∃ b2 : Nat, zR σ a0 1 = some b2 ∧ zwV 0 0 [some (.ref b2), some (.int 0), none, none] [] σ (fun σ4 => zK σ4 a0 = 13 ∧ ∃ b6 : Nat, zR σ4 a0 1 = some b6 ∧ zK σ4 b6 = 1 ∧ zx_in 0 (zN σ4 b6) = true ∧ ∀ σ10 : zx_S, σ10 = zx_pI σ4 b6 (Int32.toNatClampNeg 0) 1 → ∃ b12 : Nat, zR σ10 a0 2 = some b12 ∧ zK σ10 b12 = 1 ∧ zx_in 1 (zN σ10 b12) = true ∧ ∀ σ16 : zx_S, σ16 = zx_pI σ10 b12 (Int32.toNatClampNeg 1) 0 → ∀ σ18 : zx_S, σ18 = zx_pI σ16 a0 13 1 → zwV 6 29 [some (.ref a0), some (.ref a1), some (.int 1), none] [] σ18 K)) : zwV 6 0 [some (.ref a0), some (.ref a1), none, none] [] σ K := by
  refine zw_go (pc1 := 1) (L1 := [some (.ref a0), some (.ref a1), none, none]) (st1 := [.ref a0]) (σ1 := σ) zM_X0_giveNumbers dX0_giveNumbers_0 rfl rfl rfl rfl ?_
  obtain ⟨hk1, h⟩ := h
  obtain ⟨b2, hr3, h⟩ := h
  refine zw_getR (a := b2) zM_X0_giveNumbers dX0_giveNumbers_1 zF_0_18 rfl hk1 hr3 ?_
  refine zw_iconst (v := 0) zM_X0_giveNumbers dX0_giveNumbers_4 (by decide) ?_
  refine zw_callV (as := [.ref b2, .int 0]) (rest := []) zM_X0_giveNumbers dX0_giveNumbers_5 (zx_calS zC_0_101) zM_J7_fill_53178 rfl rfl rfl rfl rfl rfl rfl h (fun σ4 h => ?_)
  refine zw_go (pc1 := 9) (L1 := [some (.ref a0), some (.ref a1), none, none]) (st1 := [.ref a0]) (σ1 := σ4) zM_X0_giveNumbers dX0_giveNumbers_8 rfl rfl rfl rfl ?_
  obtain ⟨hk5, h⟩ := h
  obtain ⟨b6, hr7, h⟩ := h
  refine zw_getR (a := b6) zM_X0_giveNumbers dX0_giveNumbers_9 zF_0_18 rfl hk5 hr7 ?_
  refine zw_iconst (v := 0) zM_X0_giveNumbers dX0_giveNumbers_12 (by decide) ?_
  refine zw_iconst (v := 1) zM_X0_giveNumbers dX0_giveNumbers_13 (by decide) ?_
  obtain ⟨hk8, h⟩ := h
  obtain ⟨hi9, h⟩ := h
  obtain ⟨σ10, e11⟩ : ∃ z9 : zx_S, z9 = zx_pI σ4 b6 (Int32.toNatClampNeg 0) 1 := ⟨_, rfl⟩
  replace h := h σ10 e11
  refine zw_iast zM_X0_giveNumbers dX0_giveNumbers_14 ⟨hk8, hi9⟩ e11 ?_
  refine zw_go (pc1 := 16) (L1 := [some (.ref a0), some (.ref a1), none, none]) (st1 := [.ref a0]) (σ1 := σ10) zM_X0_giveNumbers dX0_giveNumbers_15 rfl rfl rfl rfl ?_
  obtain ⟨b12, hr13, h⟩ := h
  refine zw_getR (a := b12) zM_X0_giveNumbers dX0_giveNumbers_16 zF_0_22 rfl (by rw [e11]; exact hk5) hr13 ?_
  refine zw_iconst (v := 1) zM_X0_giveNumbers dX0_giveNumbers_19 (by decide) ?_
  refine zw_iconst (v := 0) zM_X0_giveNumbers dX0_giveNumbers_20 (by decide) ?_
  obtain ⟨hk14, h⟩ := h
  obtain ⟨hi15, h⟩ := h
  obtain ⟨σ16, e17⟩ : ∃ z9 : zx_S, z9 = zx_pI σ10 b12 (Int32.toNatClampNeg 1) 0 := ⟨_, rfl⟩
  replace h := h σ16 e17
  refine zw_iast zM_X0_giveNumbers dX0_giveNumbers_21 ⟨hk14, hi15⟩ e17 ?_
  refine zw_go (pc1 := 23) (L1 := [some (.ref a0), some (.ref a1), none, none]) (st1 := [.ref a0]) (σ1 := σ16) zM_X0_giveNumbers dX0_giveNumbers_22 rfl rfl rfl rfl ?_
  refine zw_iconst (v := 1) zM_X0_giveNumbers dX0_giveNumbers_23 (by decide) ?_
  obtain ⟨σ18, e19⟩ : ∃ z9 : zx_S, z9 = zx_pI σ16 a0 13 1 := ⟨_, rfl⟩
  replace h := h σ18 e19
  refine zw_putI zM_X0_giveNumbers dX0_giveNumbers_24 zF_0_107 rfl rfl (by rw [e17, e11]; exact hk5) e19 ?_
  refine zw_iconst (v := 1) zM_X0_giveNumbers dX0_giveNumbers_27 (by decide) ?_
  refine zw_go (pc1 := 29) (L1 := [some (.ref a0), some (.ref a1), some (.int 1), none]) (st1 := []) (σ1 := σ18) zM_X0_giveNumbers dX0_giveNumbers_28 rfl rfl rfl rfl ?_
  exact zw_weak2 h ⟨rfl, rfl, rfl, trivial⟩
set_option maxHeartbeats 4000000 in
set_option maxRecDepth 100000 in
theorem vc_X0_giveNumbers_29 (a0 : Nat) (a1 : Nat) (x2 : Int32) (σ : zx_S) (K : zx_S → Prop) (h : zK σ a0 = 13 ∧ (((zI σ a0 13) < x2 → K σ) ∧ (¬ (zI σ a0 13) < x2 → (((32 : Int32) < x2 → K σ) ∧ (¬ (32 : Int32) < x2 → ∃ b2 : Nat, zR σ a0 2 = some b2 ∧ zK σ b2 = 1 ∧ zx_in x2 (zN σ b2) = true ∧ zK σ a1 = 18 ∧ ∃ b7 : Nat, zR σ a1 0 = some b7 ∧ zK σ b7 = 1 ∧ zx_in (zI σ b2 (Int32.toNatClampNeg x2)) (zN σ b7) = true ∧ ((¬ (zI σ b7 (Int32.toNatClampNeg (zI σ b2 (Int32.toNatClampNeg x2)))) = (1 : Int32) → zwV 6 66 [some (.ref a0), some (.ref a1), some (.int x2), none] [] σ K) ∧ ((zI σ b7 (Int32.toNatClampNeg (zI σ b2 (Int32.toNatClampNeg x2)))) = (1 : Int32) → zwV 7 0 [some (.ref a0), some (.ref a1), some (.int (zI σ b2 (Int32.toNatClampNeg x2))), none, none, none] [] σ (fun σ11 => zwV 6 66 [some (.ref a0), some (.ref a1), some (.int x2), none] [] σ11 K)))))))) : zwV 6 29 [some (.ref a0), some (.ref a1), some (.int x2), none] [] σ K := by
  refine zw_go (pc1 := 30) (L1 := [some (.ref a0), some (.ref a1), some (.int x2), none]) (st1 := [.int x2]) (σ1 := σ) zM_X0_giveNumbers dX0_giveNumbers_29 rfl rfl rfl rfl ?_
  refine zw_go (pc1 := 31) (L1 := [some (.ref a0), some (.ref a1), some (.int x2), none]) (st1 := [.ref a0, .int x2]) (σ1 := σ) zM_X0_giveNumbers dX0_giveNumbers_30 rfl rfl rfl rfl ?_
  obtain ⟨hk1, h⟩ := h
  refine zw_getI zM_X0_giveNumbers dX0_giveNumbers_31 zF_0_107 rfl hk1 ?_
  refine zw_icmp_gt (tgt := 72) zM_X0_giveNumbers dX0_giveNumbers_34 rfl rfl (fun q => ?_) (fun q => ?_)
  · replace h := h.1 q
    exact zw_retv zM_X0_giveNumbers dX0_giveNumbers_72 rfl h
  · replace h := h.2 q
    refine zw_go (pc1 := 38) (L1 := [some (.ref a0), some (.ref a1), some (.int x2), none]) (st1 := [.int x2]) (σ1 := σ) zM_X0_giveNumbers dX0_giveNumbers_37 rfl rfl rfl rfl ?_
    refine zw_bipush (v := 32) zM_X0_giveNumbers dX0_giveNumbers_38 (by decide) ?_
    refine zw_icmp_gt (tgt := 72) zM_X0_giveNumbers dX0_giveNumbers_40 rfl rfl (fun q => ?_) (fun q => ?_)
    · replace h := h.1 q
      exact zw_retv zM_X0_giveNumbers dX0_giveNumbers_72 rfl h
    · replace h := h.2 q
      refine zw_go (pc1 := 44) (L1 := [some (.ref a0), some (.ref a1), some (.int x2), none]) (st1 := [.ref a0]) (σ1 := σ) zM_X0_giveNumbers dX0_giveNumbers_43 rfl rfl rfl rfl ?_
      obtain ⟨b2, hr3, h⟩ := h
      refine zw_getR (a := b2) zM_X0_giveNumbers dX0_giveNumbers_44 zF_0_22 rfl hk1 hr3 ?_
      refine zw_go (pc1 := 48) (L1 := [some (.ref a0), some (.ref a1), some (.int x2), none]) (st1 := [.int x2, .ref b2]) (σ1 := σ) zM_X0_giveNumbers dX0_giveNumbers_47 rfl rfl rfl rfl ?_
      obtain ⟨hk4, h⟩ := h
      obtain ⟨hi5, h⟩ := h
      refine zw_iald zM_X0_giveNumbers dX0_giveNumbers_48 ⟨Or.inl hk4, hi5⟩ ?_
      refine zw_go (pc1 := 50) (L1 := [some (.ref a0), some (.ref a1), some (.int x2), some (.int (zI σ b2 (Int32.toNatClampNeg x2)))]) (st1 := []) (σ1 := σ) zM_X0_giveNumbers dX0_giveNumbers_49 rfl rfl rfl rfl ?_
      refine zw_go (pc1 := 51) (L1 := [some (.ref a0), some (.ref a1), some (.int x2), some (.int (zI σ b2 (Int32.toNatClampNeg x2)))]) (st1 := [.ref a1]) (σ1 := σ) zM_X0_giveNumbers dX0_giveNumbers_50 rfl rfl rfl rfl ?_
      obtain ⟨hk6, h⟩ := h
      obtain ⟨b7, hr8, h⟩ := h
      refine zw_getR (a := b7) zM_X0_giveNumbers dX0_giveNumbers_51 zF_0_110 rfl hk6 hr8 ?_
      refine zw_go (pc1 := 55) (L1 := [some (.ref a0), some (.ref a1), some (.int x2), some (.int (zI σ b2 (Int32.toNatClampNeg x2)))]) (st1 := [.int (zI σ b2 (Int32.toNatClampNeg x2)), .ref b7]) (σ1 := σ) zM_X0_giveNumbers dX0_giveNumbers_54 rfl rfl rfl rfl ?_
      obtain ⟨hk9, h⟩ := h
      obtain ⟨hi10, h⟩ := h
      refine zw_iald zM_X0_giveNumbers dX0_giveNumbers_55 ⟨Or.inl hk9, hi10⟩ ?_
      refine zw_iconst (v := 1) zM_X0_giveNumbers dX0_giveNumbers_56 (by decide) ?_
      refine zw_icmp_ne (tgt := 66) zM_X0_giveNumbers dX0_giveNumbers_57 rfl rfl (fun q => ?_) (fun q => ?_)
      · replace h := h.1 q
        exact zw_weak2 h ⟨rfl, rfl, rfl, trivial⟩
      · replace h := h.2 q
        refine zw_go (pc1 := 61) (L1 := [some (.ref a0), some (.ref a1), some (.int x2), some (.int (zI σ b2 (Int32.toNatClampNeg x2)))]) (st1 := [.ref a0]) (σ1 := σ) zM_X0_giveNumbers dX0_giveNumbers_60 rfl rfl rfl rfl ?_
        refine zw_go (pc1 := 62) (L1 := [some (.ref a0), some (.ref a1), some (.int x2), some (.int (zI σ b2 (Int32.toNatClampNeg x2)))]) (st1 := [.ref a1, .ref a0]) (σ1 := σ) zM_X0_giveNumbers dX0_giveNumbers_61 rfl rfl rfl rfl ?_
        refine zw_go (pc1 := 63) (L1 := [some (.ref a0), some (.ref a1), some (.int x2), some (.int (zI σ b2 (Int32.toNatClampNeg x2)))]) (st1 := [.int (zI σ b2 (Int32.toNatClampNeg x2)), .ref a1, .ref a0]) (σ1 := σ) zM_X0_giveNumbers dX0_giveNumbers_62 rfl rfl rfl rfl ?_
        refine zw_callV (as := [.ref a0, .ref a1, .int (zI σ b2 (Int32.toNatClampNeg x2))]) (rest := []) zM_X0_giveNumbers dX0_giveNumbers_63 (zx_calV zC_0_115) zM_X0_giveNumbersBelow rfl rfl rfl rfl rfl (zx_args0 hk1 rfl) rfl h (fun σ11 h => ?_)
        exact zw_weak2 h ⟨rfl, rfl, rfl, trivial⟩
set_option maxHeartbeats 4000000 in
set_option maxRecDepth 100000 in
theorem vc_X0_giveNumbers_66 (a0 : Nat) (a1 : Nat) (x2 : Int32) (σ : zx_S) (K : zx_S → Prop) (h : zwV 6 29 [some (.ref a0), some (.ref a1), some (.int (x2 + Int32.ofInt 1)), none] [] σ K) : zwV 6 66 [some (.ref a0), some (.ref a1), some (.int x2), none] [] σ K := by
  refine zw_go (pc1 := 69) (L1 := [some (.ref a0), some (.ref a1), some (.int (x2 + Int32.ofInt 1)), none]) (st1 := []) (σ1 := σ) zM_X0_giveNumbers dX0_giveNumbers_66 rfl rfl rfl rfl ?_
  refine zw_goto (tgt := 29) zM_X0_giveNumbers dX0_giveNumbers_69 rfl ?_
  exact zw_weak2 h ⟨rfl, rfl, rfl, trivial⟩
set_option maxHeartbeats 4000000 in
set_option maxRecDepth 100000 in
theorem vc_X0_giveNumbersBelow_0 (a0 : Nat) (a1 : Nat) (x2 : Int32) (σ : zx_S) (K : zx_S → Prop) (h : zK σ a1 = 18 ∧ zwI 100 0 [some (.ref a1), some (.int (x2 + 1))] [] σ (fun v3 σ2 => zK σ2 a1 = 18 ∧ zwI 100 0 [some (.ref a1), some (.int x2)] [] σ2 (fun v6 σ5 => zwV 7 15 [some (.ref a0), some (.ref a1), none, some (.int v3), some (.int v6), none] [] σ5 K))) : zwV 7 0 [some (.ref a0), some (.ref a1), some (.int x2), none, none, none] [] σ K := by
  refine zw_go (pc1 := 1) (L1 := [some (.ref a0), some (.ref a1), some (.int x2), none, none, none]) (st1 := [.ref a1]) (σ1 := σ) zM_X0_giveNumbersBelow dX0_giveNumbersBelow_0 rfl rfl rfl rfl ?_
  refine zw_go (pc1 := 2) (L1 := [some (.ref a0), some (.ref a1), some (.int x2), none, none, none]) (st1 := [.int x2, .ref a1]) (σ1 := σ) zM_X0_giveNumbersBelow dX0_giveNumbersBelow_1 rfl rfl rfl rfl ?_
  refine zw_iconst (v := 1) zM_X0_giveNumbersBelow dX0_giveNumbersBelow_2 (by decide) ?_
  refine zw_go (pc1 := 4) (L1 := [some (.ref a0), some (.ref a1), some (.int x2), none, none, none]) (st1 := [.int (x2 + 1), .ref a1]) (σ1 := σ) zM_X0_giveNumbersBelow dX0_giveNumbersBelow_3 rfl rfl rfl rfl ?_
  obtain ⟨hk1, h⟩ := h
  refine zw_callI (as := [.ref a1, .int (x2 + 1)]) (rest := []) zM_X0_giveNumbersBelow dX0_giveNumbersBelow_4 (zx_calV zC_0_119) zM_X5_firstNameOf rfl rfl rfl rfl rfl (zx_args0 hk1 rfl) rfl h (fun v3 σ2 h => ?_)
  refine zw_go (pc1 := 8) (L1 := [some (.ref a0), some (.ref a1), some (.int x2), some (.int v3), none, none]) (st1 := []) (σ1 := σ2) zM_X0_giveNumbersBelow dX0_giveNumbersBelow_7 rfl rfl rfl rfl ?_
  refine zw_go (pc1 := 9) (L1 := [some (.ref a0), some (.ref a1), some (.int x2), some (.int v3), none, none]) (st1 := [.ref a1]) (σ1 := σ2) zM_X0_giveNumbersBelow dX0_giveNumbersBelow_8 rfl rfl rfl rfl ?_
  refine zw_go (pc1 := 10) (L1 := [some (.ref a0), some (.ref a1), some (.int x2), some (.int v3), none, none]) (st1 := [.int x2, .ref a1]) (σ1 := σ2) zM_X0_giveNumbersBelow dX0_giveNumbersBelow_9 rfl rfl rfl rfl ?_
  obtain ⟨hk4, h⟩ := h
  refine zw_callI (as := [.ref a1, .int x2]) (rest := []) zM_X0_giveNumbersBelow dX0_giveNumbersBelow_10 (zx_calV zC_0_119) zM_X5_firstNameOf rfl rfl rfl rfl rfl (zx_args0 hk4 rfl) rfl h (fun v6 σ5 h => ?_)
  refine zw_go (pc1 := 15) (L1 := [some (.ref a0), some (.ref a1), some (.int x2), some (.int v3), some (.int v6), none]) (st1 := []) (σ1 := σ5) zM_X0_giveNumbersBelow dX0_giveNumbersBelow_13 rfl rfl rfl rfl ?_
  exact zw_weak2 h ⟨rfl, rfl, rfl, rfl, trivial⟩
set_option maxHeartbeats 4000000 in
set_option maxRecDepth 100000 in
theorem vc_X0_giveNumbersBelow_15 (a0 : Nat) (a1 : Nat) (x3 : Int32) (x4 : Int32) (σ : zx_S) (K : zx_S → Prop) (h : ((x3 ≤ x4 → K σ) ∧ (¬ x3 ≤ x4 → zK σ a1 = 18 ∧ ∃ b2 : Nat, zR σ a1 8 = some b2 ∧ zK σ b2 = 1 ∧ zx_in x4 (zN σ b2) = true ∧ zK σ a0 = 13 ∧ ∃ b7 : Nat, zR σ a0 1 = some b7 ∧ zK σ b7 = 1 ∧ zx_in (zI σ b2 (Int32.toNatClampNeg x4)) (zN σ b7) = true ∧ ((¬ (zI σ b7 (Int32.toNatClampNeg (zI σ b2 (Int32.toNatClampNeg x4)))) = (0 : Int32) → zwV 7 81 [some (.ref a0), some (.ref a1), none, some (.int x3), some (.int x4), none] [] σ K) ∧ ((zI σ b7 (Int32.toNatClampNeg (zI σ b2 (Int32.toNatClampNeg x4)))) = (0 : Int32) → (((32 : Int32) ≤ (zI σ a0 13) → zwV 7 81 [some (.ref a0), some (.ref a1), none, some (.int x3), some (.int x4), none] [] σ K) ∧ (¬ (32 : Int32) ≤ (zI σ a0 13) → ∀ σ11 : zx_S, σ11 = zx_pI σ a0 13 ((zI σ a0 13) + 1) → zx_in (zI σ b2 (Int32.toNatClampNeg x4)) (zN σ11 b7) = true ∧ ∀ σ14 : zx_S, σ14 = zx_pI σ11 b7 (Int32.toNatClampNeg (zI σ b2 (Int32.toNatClampNeg x4))) (zI σ11 a0 13) → ∃ b16 : Nat, zR σ14 a0 2 = some b16 ∧ zK σ14 b16 = 1 ∧ zx_in (zI σ14 a0 13) (zN σ14 b16) = true ∧ ∀ σ20 : zx_S, σ20 = zx_pI σ14 b16 (Int32.toNatClampNeg (zI σ14 a0 13)) (zI σ b2 (Int32.toNatClampNeg x4)) → zwV 7 81 [some (.ref a0), some (.ref a1), none, some (.int x3), some (.int x4), none] [] σ20 K))))))) : zwV 7 15 [some (.ref a0), some (.ref a1), none, some (.int x3), some (.int x4), none] [] σ K := by
  refine zw_go (pc1 := 17) (L1 := [some (.ref a0), some (.ref a1), none, some (.int x3), some (.int x4), none]) (st1 := [.int x4]) (σ1 := σ) zM_X0_giveNumbersBelow dX0_giveNumbersBelow_15 rfl rfl rfl rfl ?_
  refine zw_go (pc1 := 18) (L1 := [some (.ref a0), some (.ref a1), none, some (.int x3), some (.int x4), none]) (st1 := [.int x3, .int x4]) (σ1 := σ) zM_X0_giveNumbersBelow dX0_giveNumbersBelow_17 rfl rfl rfl rfl ?_
  refine zw_icmp_ge (tgt := 87) zM_X0_giveNumbersBelow dX0_giveNumbersBelow_18 rfl rfl (fun q => ?_) (fun q => ?_)
  · replace h := h.1 q
    exact zw_retv zM_X0_giveNumbersBelow dX0_giveNumbersBelow_87 rfl h
  · replace h := h.2 q
    refine zw_go (pc1 := 22) (L1 := [some (.ref a0), some (.ref a1), none, some (.int x3), some (.int x4), none]) (st1 := [.ref a1]) (σ1 := σ) zM_X0_giveNumbersBelow dX0_giveNumbersBelow_21 rfl rfl rfl rfl ?_
    obtain ⟨hk1, h⟩ := h
    obtain ⟨b2, hr3, h⟩ := h
    refine zw_getR (a := b2) zM_X0_giveNumbersBelow dX0_giveNumbersBelow_22 zF_0_123 rfl hk1 hr3 ?_
    refine zw_go (pc1 := 27) (L1 := [some (.ref a0), some (.ref a1), none, some (.int x3), some (.int x4), none]) (st1 := [.int x4, .ref b2]) (σ1 := σ) zM_X0_giveNumbersBelow dX0_giveNumbersBelow_25 rfl rfl rfl rfl ?_
    obtain ⟨hk4, h⟩ := h
    obtain ⟨hi5, h⟩ := h
    refine zw_iald zM_X0_giveNumbersBelow dX0_giveNumbersBelow_27 ⟨Or.inl hk4, hi5⟩ ?_
    refine zw_go (pc1 := 30) (L1 := [some (.ref a0), some (.ref a1), none, some (.int x3), some (.int x4), some (.int (zI σ b2 (Int32.toNatClampNeg x4)))]) (st1 := []) (σ1 := σ) zM_X0_giveNumbersBelow dX0_giveNumbersBelow_28 rfl rfl rfl rfl ?_
    refine zw_go (pc1 := 31) (L1 := [some (.ref a0), some (.ref a1), none, some (.int x3), some (.int x4), some (.int (zI σ b2 (Int32.toNatClampNeg x4)))]) (st1 := [.ref a0]) (σ1 := σ) zM_X0_giveNumbersBelow dX0_giveNumbersBelow_30 rfl rfl rfl rfl ?_
    obtain ⟨hk6, h⟩ := h
    obtain ⟨b7, hr8, h⟩ := h
    refine zw_getR (a := b7) zM_X0_giveNumbersBelow dX0_giveNumbersBelow_31 zF_0_18 rfl hk6 hr8 ?_
    refine zw_go (pc1 := 36) (L1 := [some (.ref a0), some (.ref a1), none, some (.int x3), some (.int x4), some (.int (zI σ b2 (Int32.toNatClampNeg x4)))]) (st1 := [.int (zI σ b2 (Int32.toNatClampNeg x4)), .ref b7]) (σ1 := σ) zM_X0_giveNumbersBelow dX0_giveNumbersBelow_34 rfl rfl rfl rfl ?_
    obtain ⟨hk9, h⟩ := h
    obtain ⟨hi10, h⟩ := h
    refine zw_iald zM_X0_giveNumbersBelow dX0_giveNumbersBelow_36 ⟨Or.inl hk9, hi10⟩ ?_
    refine zw_if_ne (tgt := 81) zM_X0_giveNumbersBelow dX0_giveNumbersBelow_37 rfl rfl (fun q => ?_) (fun q => ?_)
    · replace h := h.1 q
      exact zw_weak2 h ⟨rfl, rfl, rfl, rfl, trivial⟩
    · replace h := h.2 q
      refine zw_go (pc1 := 41) (L1 := [some (.ref a0), some (.ref a1), none, some (.int x3), some (.int x4), some (.int (zI σ b2 (Int32.toNatClampNeg x4)))]) (st1 := [.ref a0]) (σ1 := σ) zM_X0_giveNumbersBelow dX0_giveNumbersBelow_40 rfl rfl rfl rfl ?_
      refine zw_getI zM_X0_giveNumbersBelow dX0_giveNumbersBelow_41 zF_0_107 rfl hk6 ?_
      refine zw_bipush (v := 32) zM_X0_giveNumbersBelow dX0_giveNumbersBelow_44 (by decide) ?_
      refine zw_icmp_ge (tgt := 81) zM_X0_giveNumbersBelow dX0_giveNumbersBelow_46 rfl rfl (fun q => ?_) (fun q => ?_)
      · replace h := h.1 q
        exact zw_weak2 h ⟨rfl, rfl, rfl, rfl, trivial⟩
      · replace h := h.2 q
        refine zw_go (pc1 := 50) (L1 := [some (.ref a0), some (.ref a1), none, some (.int x3), some (.int x4), some (.int (zI σ b2 (Int32.toNatClampNeg x4)))]) (st1 := [.ref a0]) (σ1 := σ) zM_X0_giveNumbersBelow dX0_giveNumbersBelow_49 rfl rfl rfl rfl ?_
        refine zw_go (pc1 := 51) (L1 := [some (.ref a0), some (.ref a1), none, some (.int x3), some (.int x4), some (.int (zI σ b2 (Int32.toNatClampNeg x4)))]) (st1 := [.ref a0, .ref a0]) (σ1 := σ) zM_X0_giveNumbersBelow dX0_giveNumbersBelow_50 rfl rfl rfl rfl ?_
        refine zw_getI zM_X0_giveNumbersBelow dX0_giveNumbersBelow_51 zF_0_107 rfl hk6 ?_
        refine zw_iconst (v := 1) zM_X0_giveNumbersBelow dX0_giveNumbersBelow_54 (by decide) ?_
        refine zw_go (pc1 := 56) (L1 := [some (.ref a0), some (.ref a1), none, some (.int x3), some (.int x4), some (.int (zI σ b2 (Int32.toNatClampNeg x4)))]) (st1 := [.int ((zI σ a0 13) + 1), .ref a0]) (σ1 := σ) zM_X0_giveNumbersBelow dX0_giveNumbersBelow_55 rfl rfl rfl rfl ?_
        obtain ⟨σ11, e12⟩ : ∃ z9 : zx_S, z9 = zx_pI σ a0 13 ((zI σ a0 13) + 1) := ⟨_, rfl⟩
        replace h := h σ11 e12
        refine zw_putI zM_X0_giveNumbersBelow dX0_giveNumbersBelow_56 zF_0_107 rfl rfl hk6 e12 ?_
        refine zw_go (pc1 := 60) (L1 := [some (.ref a0), some (.ref a1), none, some (.int x3), some (.int x4), some (.int (zI σ b2 (Int32.toNatClampNeg x4)))]) (st1 := [.ref a0]) (σ1 := σ11) zM_X0_giveNumbersBelow dX0_giveNumbersBelow_59 rfl rfl rfl rfl ?_
        refine zw_getR (a := b7) zM_X0_giveNumbersBelow dX0_giveNumbersBelow_60 zF_0_18 rfl (by rw [e12]; exact hk6) (by rw [e12]; exact hr8) ?_
        refine zw_go (pc1 := 65) (L1 := [some (.ref a0), some (.ref a1), none, some (.int x3), some (.int x4), some (.int (zI σ b2 (Int32.toNatClampNeg x4)))]) (st1 := [.int (zI σ b2 (Int32.toNatClampNeg x4)), .ref b7]) (σ1 := σ11) zM_X0_giveNumbersBelow dX0_giveNumbersBelow_63 rfl rfl rfl rfl ?_
        refine zw_go (pc1 := 66) (L1 := [some (.ref a0), some (.ref a1), none, some (.int x3), some (.int x4), some (.int (zI σ b2 (Int32.toNatClampNeg x4)))]) (st1 := [.ref a0, .int (zI σ b2 (Int32.toNatClampNeg x4)), .ref b7]) (σ1 := σ11) zM_X0_giveNumbersBelow dX0_giveNumbersBelow_65 rfl rfl rfl rfl ?_
        refine zw_getI zM_X0_giveNumbersBelow dX0_giveNumbersBelow_66 zF_0_107 rfl (by rw [e12]; exact hk6) ?_
        obtain ⟨hi13, h⟩ := h
        obtain ⟨σ14, e15⟩ : ∃ z9 : zx_S, z9 = zx_pI σ11 b7 (Int32.toNatClampNeg (zI σ b2 (Int32.toNatClampNeg x4))) (zI σ11 a0 13) := ⟨_, rfl⟩
        replace h := h σ14 e15
        refine zw_iast zM_X0_giveNumbersBelow dX0_giveNumbersBelow_69 ⟨(by rw [e12]; exact hk9), hi13⟩ e15 ?_
        refine zw_go (pc1 := 71) (L1 := [some (.ref a0), some (.ref a1), none, some (.int x3), some (.int x4), some (.int (zI σ b2 (Int32.toNatClampNeg x4)))]) (st1 := [.ref a0]) (σ1 := σ14) zM_X0_giveNumbersBelow dX0_giveNumbersBelow_70 rfl rfl rfl rfl ?_
        obtain ⟨b16, hr17, h⟩ := h
        refine zw_getR (a := b16) zM_X0_giveNumbersBelow dX0_giveNumbersBelow_71 zF_0_22 rfl (by rw [e15, e12]; exact hk6) hr17 ?_
        refine zw_go (pc1 := 75) (L1 := [some (.ref a0), some (.ref a1), none, some (.int x3), some (.int x4), some (.int (zI σ b2 (Int32.toNatClampNeg x4)))]) (st1 := [.ref a0, .ref b16]) (σ1 := σ14) zM_X0_giveNumbersBelow dX0_giveNumbersBelow_74 rfl rfl rfl rfl ?_
        refine zw_getI zM_X0_giveNumbersBelow dX0_giveNumbersBelow_75 zF_0_107 rfl (by rw [e15, e12]; exact hk6) ?_
        refine zw_go (pc1 := 80) (L1 := [some (.ref a0), some (.ref a1), none, some (.int x3), some (.int x4), some (.int (zI σ b2 (Int32.toNatClampNeg x4)))]) (st1 := [.int (zI σ b2 (Int32.toNatClampNeg x4)), .int (zI σ14 a0 13), .ref b16]) (σ1 := σ14) zM_X0_giveNumbersBelow dX0_giveNumbersBelow_78 rfl rfl rfl rfl ?_
        obtain ⟨hk18, h⟩ := h
        obtain ⟨hi19, h⟩ := h
        obtain ⟨σ20, e21⟩ : ∃ z9 : zx_S, z9 = zx_pI σ14 b16 (Int32.toNatClampNeg (zI σ14 a0 13)) (zI σ b2 (Int32.toNatClampNeg x4)) := ⟨_, rfl⟩
        replace h := h σ20 e21
        refine zw_iast zM_X0_giveNumbersBelow dX0_giveNumbersBelow_80 ⟨hk18, hi19⟩ e21 ?_
        exact zw_weak2 h ⟨rfl, rfl, rfl, rfl, trivial⟩
set_option maxHeartbeats 4000000 in
set_option maxRecDepth 100000 in
theorem vc_X0_giveNumbersBelow_81 (a0 : Nat) (a1 : Nat) (x3 : Int32) (x4 : Int32) (σ : zx_S) (K : zx_S → Prop) (h : zwV 7 15 [some (.ref a0), some (.ref a1), none, some (.int x3), some (.int (x4 + Int32.ofInt 1)), none] [] σ K) : zwV 7 81 [some (.ref a0), some (.ref a1), none, some (.int x3), some (.int x4), none] [] σ K := by
  refine zw_go (pc1 := 84) (L1 := [some (.ref a0), some (.ref a1), none, some (.int x3), some (.int (x4 + Int32.ofInt 1)), none]) (st1 := []) (σ1 := σ) zM_X0_giveNumbersBelow dX0_giveNumbersBelow_81 rfl rfl rfl rfl ?_
  refine zw_goto (tgt := 15) zM_X0_giveNumbersBelow dX0_giveNumbersBelow_84 rfl ?_
  exact zw_weak2 h ⟨rfl, rfl, rfl, rfl, trivial⟩
set_option maxHeartbeats 4000000 in
set_option maxRecDepth 100000 in
theorem vc_X0_init_0 (a0 : Nat) (σ : zx_S) (K : zx_S → Prop) (h : ∀ σ1 : zx_S, σ1 = zx_nw σ 17 0 2 → zwV 90 0 [some (.ref (zn σ))] [] σ1 (fun σ3 => zK σ3 a0 = 13 ∧ ∀ σ5 : zx_S, σ5 = zx_pR σ3 a0 0 (some (zn σ)) → ∀ σ7 : zx_S, σ7 = zx_nw σ5 1 (Int32.toNatClampNeg 32) (Int32.toNatClampNeg 32) → zK σ7 a0 = 13 ∧ ∀ σ10 : zx_S, σ10 = zx_pR σ7 a0 1 (some (zn σ5)) → ∀ σ12 : zx_S, σ12 = zx_nw σ10 1 (Int32.toNatClampNeg 33) (Int32.toNatClampNeg 33) → zK σ12 a0 = 13 ∧ ∀ σ15 : zx_S, σ15 = zx_pR σ12 a0 2 (some (zn σ10)) → ∀ σ17 : zx_S, σ17 = zx_nw σ15 1 (Int32.toNatClampNeg 33) (Int32.toNatClampNeg 33) → zK σ17 a0 = 13 ∧ ∀ σ20 : zx_S, σ20 = zx_pR σ17 a0 3 (some (zn σ15)) → ∀ σ22 : zx_S, σ22 = zx_nw σ20 1 (Int32.toNatClampNeg 33) (Int32.toNatClampNeg 33) → zK σ22 a0 = 13 ∧ ∀ σ25 : zx_S, σ25 = zx_pR σ22 a0 4 (some (zn σ20)) → ∀ σ27 : zx_S, σ27 = zx_nw σ25 1 (Int32.toNatClampNeg 396) (Int32.toNatClampNeg 396) → zK σ27 a0 = 13 ∧ ∀ σ30 : zx_S, σ30 = zx_pR σ27 a0 5 (some (zn σ25)) → ∀ σ32 : zx_S, σ32 = zx_nw σ30 1 (Int32.toNatClampNeg 33) (Int32.toNatClampNeg 33) → zK σ32 a0 = 13 ∧ ∀ σ35 : zx_S, σ35 = zx_pR σ32 a0 6 (some (zn σ30)) → ∀ σ37 : zx_S, σ37 = zx_nw σ35 1 (Int32.toNatClampNeg 33) (Int32.toNatClampNeg 33) → zK σ37 a0 = 13 ∧ ∀ σ40 : zx_S, σ40 = zx_pR σ37 a0 7 (some (zn σ35)) → ∀ σ42 : zx_S, σ42 = zx_nw σ40 1 (Int32.toNatClampNeg 33) (Int32.toNatClampNeg 33) → zK σ42 a0 = 13 ∧ ∀ σ45 : zx_S, σ45 = zx_pR σ42 a0 8 (some (zn σ40)) → ∀ σ47 : zx_S, σ47 = zx_nw σ45 1 (Int32.toNatClampNeg 32) (Int32.toNatClampNeg 32) → zK σ47 a0 = 13 ∧ ∀ σ50 : zx_S, σ50 = zx_pR σ47 a0 9 (some (zn σ45)) → ∀ σ52 : zx_S, σ52 = zx_nw σ50 1 (Int32.toNatClampNeg 32) (Int32.toNatClampNeg 32) → zK σ52 a0 = 13 ∧ ∀ σ55 : zx_S, σ55 = zx_pR σ52 a0 10 (some (zn σ50)) → ∀ σ57 : zx_S, σ57 = zx_nw σ55 1 (Int32.toNatClampNeg 32) (Int32.toNatClampNeg 32) → zK σ57 a0 = 13 ∧ ∀ σ60 : zx_S, σ60 = zx_pR σ57 a0 11 (some (zn σ55)) → ∀ σ62 : zx_S, σ62 = zx_nw σ60 1 (Int32.toNatClampNeg 32) (Int32.toNatClampNeg 32) → zK σ62 a0 = 13 ∧ ∀ σ65 : zx_S, σ65 = zx_pR σ62 a0 12 (some (zn σ60)) → K σ65)) : zwV 8 0 [some (.ref a0)] [] σ K := by
  refine zw_go (pc1 := 1) (L1 := [some (.ref a0)]) (st1 := [.ref a0]) (σ1 := σ) zM_X0_init dX0_init_0 rfl rfl rfl rfl ?_
  refine zw_obj zM_X0_init dX0_init_1 zC_0_3 (by decide) rfl ?_
  refine zw_go (pc1 := 5) (L1 := [some (.ref a0)]) (st1 := [.ref a0]) (σ1 := σ) zM_X0_init dX0_init_4 rfl rfl rfl rfl ?_
  obtain ⟨σ1, e2⟩ : ∃ z9 : zx_S, z9 = zx_nw σ 17 0 2 := ⟨_, rfl⟩
  replace h := h σ1 e2
  refine zw_new zM_X0_init dX0_init_5 zN_0_9 rfl e2 ?_
  refine zw_go (pc1 := 9) (L1 := [some (.ref a0)]) (st1 := [.ref (zn σ), .ref (zn σ), .ref a0]) (σ1 := σ1) zM_X0_init dX0_init_8 rfl rfl rfl rfl ?_
  refine zw_callV (as := [.ref (zn σ)]) (rest := [.ref (zn σ), .ref a0]) zM_X0_init dX0_init_9 (zx_calI zC_0_11) zM_X4_init rfl rfl rfl rfl rfl rfl rfl h (fun σ3 h => ?_)
  obtain ⟨hk4, h⟩ := h
  obtain ⟨σ5, e6⟩ : ∃ z9 : zx_S, z9 = zx_pR σ3 a0 0 (some (zn σ)) := ⟨_, rfl⟩
  replace h := h σ5 e6
  refine zw_putR zM_X0_init dX0_init_12 zF_0_12 rfl rfl (by decide) hk4 e6 ?_
  refine zw_go (pc1 := 16) (L1 := [some (.ref a0)]) (st1 := [.ref a0]) (σ1 := σ5) zM_X0_init dX0_init_15 rfl rfl rfl rfl ?_
  refine zw_bipush (v := 32) zM_X0_init dX0_init_16 (by decide) ?_
  obtain ⟨σ7, e8⟩ : ∃ z9 : zx_S, z9 = zx_nw σ5 1 (Int32.toNatClampNeg 32) (Int32.toNatClampNeg 32) := ⟨_, rfl⟩
  replace h := h σ7 e8
  refine zw_newI zM_X0_init dX0_init_18 (by decide) e8 ?_
  obtain ⟨hk9, h⟩ := h
  obtain ⟨σ10, e11⟩ : ∃ z9 : zx_S, z9 = zx_pR σ7 a0 1 (some (zn σ5)) := ⟨_, rfl⟩
  replace h := h σ10 e11
  refine zw_putR zM_X0_init dX0_init_20 zF_0_18 rfl rfl (by decide) hk9 e11 ?_
  refine zw_go (pc1 := 24) (L1 := [some (.ref a0)]) (st1 := [.ref a0]) (σ1 := σ10) zM_X0_init dX0_init_23 rfl rfl rfl rfl ?_
  refine zw_bipush (v := 33) zM_X0_init dX0_init_24 (by decide) ?_
  obtain ⟨σ12, e13⟩ : ∃ z9 : zx_S, z9 = zx_nw σ10 1 (Int32.toNatClampNeg 33) (Int32.toNatClampNeg 33) := ⟨_, rfl⟩
  replace h := h σ12 e13
  refine zw_newI zM_X0_init dX0_init_26 (by decide) e13 ?_
  obtain ⟨hk14, h⟩ := h
  obtain ⟨σ15, e16⟩ : ∃ z9 : zx_S, z9 = zx_pR σ12 a0 2 (some (zn σ10)) := ⟨_, rfl⟩
  replace h := h σ15 e16
  refine zw_putR zM_X0_init dX0_init_28 zF_0_22 rfl rfl (by decide) hk14 e16 ?_
  refine zw_go (pc1 := 32) (L1 := [some (.ref a0)]) (st1 := [.ref a0]) (σ1 := σ15) zM_X0_init dX0_init_31 rfl rfl rfl rfl ?_
  refine zw_bipush (v := 33) zM_X0_init dX0_init_32 (by decide) ?_
  obtain ⟨σ17, e18⟩ : ∃ z9 : zx_S, z9 = zx_nw σ15 1 (Int32.toNatClampNeg 33) (Int32.toNatClampNeg 33) := ⟨_, rfl⟩
  replace h := h σ17 e18
  refine zw_newI zM_X0_init dX0_init_34 (by decide) e18 ?_
  obtain ⟨hk19, h⟩ := h
  obtain ⟨σ20, e21⟩ : ∃ z9 : zx_S, z9 = zx_pR σ17 a0 3 (some (zn σ15)) := ⟨_, rfl⟩
  replace h := h σ20 e21
  refine zw_putR zM_X0_init dX0_init_36 zF_0_25 rfl rfl (by decide) hk19 e21 ?_
  refine zw_go (pc1 := 40) (L1 := [some (.ref a0)]) (st1 := [.ref a0]) (σ1 := σ20) zM_X0_init dX0_init_39 rfl rfl rfl rfl ?_
  refine zw_bipush (v := 33) zM_X0_init dX0_init_40 (by decide) ?_
  obtain ⟨σ22, e23⟩ : ∃ z9 : zx_S, z9 = zx_nw σ20 1 (Int32.toNatClampNeg 33) (Int32.toNatClampNeg 33) := ⟨_, rfl⟩
  replace h := h σ22 e23
  refine zw_newI zM_X0_init dX0_init_42 (by decide) e23 ?_
  obtain ⟨hk24, h⟩ := h
  obtain ⟨σ25, e26⟩ : ∃ z9 : zx_S, z9 = zx_pR σ22 a0 4 (some (zn σ20)) := ⟨_, rfl⟩
  replace h := h σ25 e26
  refine zw_putR zM_X0_init dX0_init_44 zF_0_28 rfl rfl (by decide) hk24 e26 ?_
  refine zw_go (pc1 := 48) (L1 := [some (.ref a0)]) (st1 := [.ref a0]) (σ1 := σ25) zM_X0_init dX0_init_47 rfl rfl rfl rfl ?_
  refine zw_sipush (v := 396) zM_X0_init dX0_init_48 (by decide) ?_
  obtain ⟨σ27, e28⟩ : ∃ z9 : zx_S, z9 = zx_nw σ25 1 (Int32.toNatClampNeg 396) (Int32.toNatClampNeg 396) := ⟨_, rfl⟩
  replace h := h σ27 e28
  refine zw_newI zM_X0_init dX0_init_51 (by decide) e28 ?_
  obtain ⟨hk29, h⟩ := h
  obtain ⟨σ30, e31⟩ : ∃ z9 : zx_S, z9 = zx_pR σ27 a0 5 (some (zn σ25)) := ⟨_, rfl⟩
  replace h := h σ30 e31
  refine zw_putR zM_X0_init dX0_init_53 zF_0_31 rfl rfl (by decide) hk29 e31 ?_
  refine zw_go (pc1 := 57) (L1 := [some (.ref a0)]) (st1 := [.ref a0]) (σ1 := σ30) zM_X0_init dX0_init_56 rfl rfl rfl rfl ?_
  refine zw_bipush (v := 33) zM_X0_init dX0_init_57 (by decide) ?_
  obtain ⟨σ32, e33⟩ : ∃ z9 : zx_S, z9 = zx_nw σ30 1 (Int32.toNatClampNeg 33) (Int32.toNatClampNeg 33) := ⟨_, rfl⟩
  replace h := h σ32 e33
  refine zw_newI zM_X0_init dX0_init_59 (by decide) e33 ?_
  obtain ⟨hk34, h⟩ := h
  obtain ⟨σ35, e36⟩ : ∃ z9 : zx_S, z9 = zx_pR σ32 a0 6 (some (zn σ30)) := ⟨_, rfl⟩
  replace h := h σ35 e36
  refine zw_putR zM_X0_init dX0_init_61 zF_0_34 rfl rfl (by decide) hk34 e36 ?_
  refine zw_go (pc1 := 65) (L1 := [some (.ref a0)]) (st1 := [.ref a0]) (σ1 := σ35) zM_X0_init dX0_init_64 rfl rfl rfl rfl ?_
  refine zw_bipush (v := 33) zM_X0_init dX0_init_65 (by decide) ?_
  obtain ⟨σ37, e38⟩ : ∃ z9 : zx_S, z9 = zx_nw σ35 1 (Int32.toNatClampNeg 33) (Int32.toNatClampNeg 33) := ⟨_, rfl⟩
  replace h := h σ37 e38
  refine zw_newI zM_X0_init dX0_init_67 (by decide) e38 ?_
  obtain ⟨hk39, h⟩ := h
  obtain ⟨σ40, e41⟩ : ∃ z9 : zx_S, z9 = zx_pR σ37 a0 7 (some (zn σ35)) := ⟨_, rfl⟩
  replace h := h σ40 e41
  refine zw_putR zM_X0_init dX0_init_69 zF_0_37 rfl rfl (by decide) hk39 e41 ?_
  refine zw_go (pc1 := 73) (L1 := [some (.ref a0)]) (st1 := [.ref a0]) (σ1 := σ40) zM_X0_init dX0_init_72 rfl rfl rfl rfl ?_
  refine zw_bipush (v := 33) zM_X0_init dX0_init_73 (by decide) ?_
  obtain ⟨σ42, e43⟩ : ∃ z9 : zx_S, z9 = zx_nw σ40 1 (Int32.toNatClampNeg 33) (Int32.toNatClampNeg 33) := ⟨_, rfl⟩
  replace h := h σ42 e43
  refine zw_newI zM_X0_init dX0_init_75 (by decide) e43 ?_
  obtain ⟨hk44, h⟩ := h
  obtain ⟨σ45, e46⟩ : ∃ z9 : zx_S, z9 = zx_pR σ42 a0 8 (some (zn σ40)) := ⟨_, rfl⟩
  replace h := h σ45 e46
  refine zw_putR zM_X0_init dX0_init_77 zF_0_40 rfl rfl (by decide) hk44 e46 ?_
  refine zw_go (pc1 := 81) (L1 := [some (.ref a0)]) (st1 := [.ref a0]) (σ1 := σ45) zM_X0_init dX0_init_80 rfl rfl rfl rfl ?_
  refine zw_bipush (v := 32) zM_X0_init dX0_init_81 (by decide) ?_
  obtain ⟨σ47, e48⟩ : ∃ z9 : zx_S, z9 = zx_nw σ45 1 (Int32.toNatClampNeg 32) (Int32.toNatClampNeg 32) := ⟨_, rfl⟩
  replace h := h σ47 e48
  refine zw_newI zM_X0_init dX0_init_83 (by decide) e48 ?_
  obtain ⟨hk49, h⟩ := h
  obtain ⟨σ50, e51⟩ : ∃ z9 : zx_S, z9 = zx_pR σ47 a0 9 (some (zn σ45)) := ⟨_, rfl⟩
  replace h := h σ50 e51
  refine zw_putR zM_X0_init dX0_init_85 zF_0_43 rfl rfl (by decide) hk49 e51 ?_
  refine zw_go (pc1 := 89) (L1 := [some (.ref a0)]) (st1 := [.ref a0]) (σ1 := σ50) zM_X0_init dX0_init_88 rfl rfl rfl rfl ?_
  refine zw_bipush (v := 32) zM_X0_init dX0_init_89 (by decide) ?_
  obtain ⟨σ52, e53⟩ : ∃ z9 : zx_S, z9 = zx_nw σ50 1 (Int32.toNatClampNeg 32) (Int32.toNatClampNeg 32) := ⟨_, rfl⟩
  replace h := h σ52 e53
  refine zw_newI zM_X0_init dX0_init_91 (by decide) e53 ?_
  obtain ⟨hk54, h⟩ := h
  obtain ⟨σ55, e56⟩ : ∃ z9 : zx_S, z9 = zx_pR σ52 a0 10 (some (zn σ50)) := ⟨_, rfl⟩
  replace h := h σ55 e56
  refine zw_putR zM_X0_init dX0_init_93 zF_0_46 rfl rfl (by decide) hk54 e56 ?_
  refine zw_go (pc1 := 97) (L1 := [some (.ref a0)]) (st1 := [.ref a0]) (σ1 := σ55) zM_X0_init dX0_init_96 rfl rfl rfl rfl ?_
  refine zw_bipush (v := 32) zM_X0_init dX0_init_97 (by decide) ?_
  obtain ⟨σ57, e58⟩ : ∃ z9 : zx_S, z9 = zx_nw σ55 1 (Int32.toNatClampNeg 32) (Int32.toNatClampNeg 32) := ⟨_, rfl⟩
  replace h := h σ57 e58
  refine zw_newI zM_X0_init dX0_init_99 (by decide) e58 ?_
  obtain ⟨hk59, h⟩ := h
  obtain ⟨σ60, e61⟩ : ∃ z9 : zx_S, z9 = zx_pR σ57 a0 11 (some (zn σ55)) := ⟨_, rfl⟩
  replace h := h σ60 e61
  refine zw_putR zM_X0_init dX0_init_101 zF_0_49 rfl rfl (by decide) hk59 e61 ?_
  refine zw_go (pc1 := 105) (L1 := [some (.ref a0)]) (st1 := [.ref a0]) (σ1 := σ60) zM_X0_init dX0_init_104 rfl rfl rfl rfl ?_
  refine zw_bipush (v := 32) zM_X0_init dX0_init_105 (by decide) ?_
  obtain ⟨σ62, e63⟩ : ∃ z9 : zx_S, z9 = zx_nw σ60 1 (Int32.toNatClampNeg 32) (Int32.toNatClampNeg 32) := ⟨_, rfl⟩
  replace h := h σ62 e63
  refine zw_newI zM_X0_init dX0_init_107 (by decide) e63 ?_
  obtain ⟨hk64, h⟩ := h
  obtain ⟨σ65, e66⟩ : ∃ z9 : zx_S, z9 = zx_pR σ62 a0 12 (some (zn σ60)) := ⟨_, rfl⟩
  replace h := h σ65 e66
  refine zw_putR zM_X0_init dX0_init_109 zF_0_52 rfl rfl (by decide) hk64 e66 ?_
  exact zw_retv zM_X0_init dX0_init_112 rfl h
set_option maxHeartbeats 4000000 in
set_option maxRecDepth 100000 in
theorem vc_X0_joinTail_0 (a0 : Nat) (a1 : Nat) (x2 : Int32) (x3 : Int32) (σ : zx_S) (K : zx_S → Prop) (h : ((¬ x3 = (0 : Int32) → zK σ a0 = 13 ∧ ∃ b2 : Nat, zR σ a0 2 = some b2 ∧ zK σ b2 = 1 ∧ zx_in x2 (zN σ b2) = true ∧ zK σ a1 = 18 ∧ ∃ b7 : Nat, zR σ a1 5 = some b7 ∧ zK σ b7 = 1 ∧ zx_in (zI σ b2 (Int32.toNatClampNeg x2)) (zN σ b7) = true ∧ ∃ b11 : Nat, zR σ a0 6 = some b11 ∧ zK σ b11 = 1 ∧ zx_in x2 (zN σ b11) = true ∧ ∀ σ15 : zx_S, σ15 = zx_pI σ b11 (Int32.toNatClampNeg x2) ((zI σ a0 14) + 1) → ∃ b17 : Nat, zR σ15 a0 7 = some b17 ∧ zK σ15 b17 = 1 ∧ zx_in x2 (zN σ15 b17) = true ∧ ∀ σ21 : zx_S, σ21 = zx_pI σ15 b17 (Int32.toNatClampNeg x2) (zI σ15 a0 15) → zwV 9 55 [some (.ref a0), some (.ref a1), none, some (.int x3), none, some (.int ((((zI σ b2 (Int32.toNatClampNeg x2)) * 100) + (zI σ b7 (Int32.toNatClampNeg (zI σ b2 (Int32.toNatClampNeg x2))))) - x3)), some (.int 0)] [] σ21 K) ∧ (x3 = (0 : Int32) → K σ))) : zwV 9 0 [some (.ref a0), some (.ref a1), some (.int x2), some (.int x3), none, none, none] [] σ K := by
  refine zw_go (pc1 := 1) (L1 := [some (.ref a0), some (.ref a1), some (.int x2), some (.int x3), none, none, none]) (st1 := [.int x3]) (σ1 := σ) zM_X0_joinTail dX0_joinTail_0 rfl rfl rfl rfl ?_
  refine zw_if_ne (tgt := 5) zM_X0_joinTail dX0_joinTail_1 rfl rfl (fun q => ?_) (fun q => ?_)
  · replace h := h.1 q
    refine zw_go (pc1 := 6) (L1 := [some (.ref a0), some (.ref a1), some (.int x2), some (.int x3), none, none, none]) (st1 := [.ref a0]) (σ1 := σ) zM_X0_joinTail dX0_joinTail_5 rfl rfl rfl rfl ?_
    obtain ⟨hk1, h⟩ := h
    obtain ⟨b2, hr3, h⟩ := h
    refine zw_getR (a := b2) zM_X0_joinTail dX0_joinTail_6 zF_0_22 rfl hk1 hr3 ?_
    refine zw_go (pc1 := 10) (L1 := [some (.ref a0), some (.ref a1), some (.int x2), some (.int x3), none, none, none]) (st1 := [.int x2, .ref b2]) (σ1 := σ) zM_X0_joinTail dX0_joinTail_9 rfl rfl rfl rfl ?_
    obtain ⟨hk4, h⟩ := h
    obtain ⟨hi5, h⟩ := h
    refine zw_iald zM_X0_joinTail dX0_joinTail_10 ⟨Or.inl hk4, hi5⟩ ?_
    refine zw_go (pc1 := 13) (L1 := [some (.ref a0), some (.ref a1), some (.int x2), some (.int x3), some (.int (zI σ b2 (Int32.toNatClampNeg x2))), none, none]) (st1 := []) (σ1 := σ) zM_X0_joinTail dX0_joinTail_11 rfl rfl rfl rfl ?_
    refine zw_go (pc1 := 15) (L1 := [some (.ref a0), some (.ref a1), some (.int x2), some (.int x3), some (.int (zI σ b2 (Int32.toNatClampNeg x2))), none, none]) (st1 := [.int (zI σ b2 (Int32.toNatClampNeg x2))]) (σ1 := σ) zM_X0_joinTail dX0_joinTail_13 rfl rfl rfl rfl ?_
    refine zw_bipush (v := 100) zM_X0_joinTail dX0_joinTail_15 (by decide) ?_
    refine zw_go (pc1 := 18) (L1 := [some (.ref a0), some (.ref a1), some (.int x2), some (.int x3), some (.int (zI σ b2 (Int32.toNatClampNeg x2))), none, none]) (st1 := [.int ((zI σ b2 (Int32.toNatClampNeg x2)) * 100)]) (σ1 := σ) zM_X0_joinTail dX0_joinTail_17 rfl rfl rfl rfl ?_
    refine zw_go (pc1 := 19) (L1 := [some (.ref a0), some (.ref a1), some (.int x2), some (.int x3), some (.int (zI σ b2 (Int32.toNatClampNeg x2))), none, none]) (st1 := [.ref a1, .int ((zI σ b2 (Int32.toNatClampNeg x2)) * 100)]) (σ1 := σ) zM_X0_joinTail dX0_joinTail_18 rfl rfl rfl rfl ?_
    obtain ⟨hk6, h⟩ := h
    obtain ⟨b7, hr8, h⟩ := h
    refine zw_getR (a := b7) zM_X0_joinTail dX0_joinTail_19 zF_0_141 rfl hk6 hr8 ?_
    refine zw_go (pc1 := 24) (L1 := [some (.ref a0), some (.ref a1), some (.int x2), some (.int x3), some (.int (zI σ b2 (Int32.toNatClampNeg x2))), none, none]) (st1 := [.int (zI σ b2 (Int32.toNatClampNeg x2)), .ref b7, .int ((zI σ b2 (Int32.toNatClampNeg x2)) * 100)]) (σ1 := σ) zM_X0_joinTail dX0_joinTail_22 rfl rfl rfl rfl ?_
    obtain ⟨hk9, h⟩ := h
    obtain ⟨hi10, h⟩ := h
    refine zw_iald zM_X0_joinTail dX0_joinTail_24 ⟨Or.inl hk9, hi10⟩ ?_
    refine zw_go (pc1 := 26) (L1 := [some (.ref a0), some (.ref a1), some (.int x2), some (.int x3), some (.int (zI σ b2 (Int32.toNatClampNeg x2))), none, none]) (st1 := [.int (((zI σ b2 (Int32.toNatClampNeg x2)) * 100) + (zI σ b7 (Int32.toNatClampNeg (zI σ b2 (Int32.toNatClampNeg x2)))))]) (σ1 := σ) zM_X0_joinTail dX0_joinTail_25 rfl rfl rfl rfl ?_
    refine zw_go (pc1 := 27) (L1 := [some (.ref a0), some (.ref a1), some (.int x2), some (.int x3), some (.int (zI σ b2 (Int32.toNatClampNeg x2))), none, none]) (st1 := [.int x3, .int (((zI σ b2 (Int32.toNatClampNeg x2)) * 100) + (zI σ b7 (Int32.toNatClampNeg (zI σ b2 (Int32.toNatClampNeg x2)))))]) (σ1 := σ) zM_X0_joinTail dX0_joinTail_26 rfl rfl rfl rfl ?_
    refine zw_go (pc1 := 28) (L1 := [some (.ref a0), some (.ref a1), some (.int x2), some (.int x3), some (.int (zI σ b2 (Int32.toNatClampNeg x2))), none, none]) (st1 := [.int ((((zI σ b2 (Int32.toNatClampNeg x2)) * 100) + (zI σ b7 (Int32.toNatClampNeg (zI σ b2 (Int32.toNatClampNeg x2))))) - x3)]) (σ1 := σ) zM_X0_joinTail dX0_joinTail_27 rfl rfl rfl rfl ?_
    refine zw_go (pc1 := 30) (L1 := [some (.ref a0), some (.ref a1), some (.int x2), some (.int x3), some (.int (zI σ b2 (Int32.toNatClampNeg x2))), some (.int ((((zI σ b2 (Int32.toNatClampNeg x2)) * 100) + (zI σ b7 (Int32.toNatClampNeg (zI σ b2 (Int32.toNatClampNeg x2))))) - x3)), none]) (st1 := []) (σ1 := σ) zM_X0_joinTail dX0_joinTail_28 rfl rfl rfl rfl ?_
    refine zw_go (pc1 := 31) (L1 := [some (.ref a0), some (.ref a1), some (.int x2), some (.int x3), some (.int (zI σ b2 (Int32.toNatClampNeg x2))), some (.int ((((zI σ b2 (Int32.toNatClampNeg x2)) * 100) + (zI σ b7 (Int32.toNatClampNeg (zI σ b2 (Int32.toNatClampNeg x2))))) - x3)), none]) (st1 := [.ref a0]) (σ1 := σ) zM_X0_joinTail dX0_joinTail_30 rfl rfl rfl rfl ?_
    obtain ⟨b11, hr12, h⟩ := h
    refine zw_getR (a := b11) zM_X0_joinTail dX0_joinTail_31 zF_0_34 rfl hk1 hr12 ?_
    refine zw_go (pc1 := 35) (L1 := [some (.ref a0), some (.ref a1), some (.int x2), some (.int x3), some (.int (zI σ b2 (Int32.toNatClampNeg x2))), some (.int ((((zI σ b2 (Int32.toNatClampNeg x2)) * 100) + (zI σ b7 (Int32.toNatClampNeg (zI σ b2 (Int32.toNatClampNeg x2))))) - x3)), none]) (st1 := [.int x2, .ref b11]) (σ1 := σ) zM_X0_joinTail dX0_joinTail_34 rfl rfl rfl rfl ?_
    refine zw_go (pc1 := 36) (L1 := [some (.ref a0), some (.ref a1), some (.int x2), some (.int x3), some (.int (zI σ b2 (Int32.toNatClampNeg x2))), some (.int ((((zI σ b2 (Int32.toNatClampNeg x2)) * 100) + (zI σ b7 (Int32.toNatClampNeg (zI σ b2 (Int32.toNatClampNeg x2))))) - x3)), none]) (st1 := [.ref a0, .int x2, .ref b11]) (σ1 := σ) zM_X0_joinTail dX0_joinTail_35 rfl rfl rfl rfl ?_
    refine zw_getI zM_X0_joinTail dX0_joinTail_36 zF_0_159 rfl hk1 ?_
    refine zw_iconst (v := 1) zM_X0_joinTail dX0_joinTail_39 (by decide) ?_
    refine zw_go (pc1 := 41) (L1 := [some (.ref a0), some (.ref a1), some (.int x2), some (.int x3), some (.int (zI σ b2 (Int32.toNatClampNeg x2))), some (.int ((((zI σ b2 (Int32.toNatClampNeg x2)) * 100) + (zI σ b7 (Int32.toNatClampNeg (zI σ b2 (Int32.toNatClampNeg x2))))) - x3)), none]) (st1 := [.int ((zI σ a0 14) + 1), .int x2, .ref b11]) (σ1 := σ) zM_X0_joinTail dX0_joinTail_40 rfl rfl rfl rfl ?_
    obtain ⟨hk13, h⟩ := h
    obtain ⟨hi14, h⟩ := h
    obtain ⟨σ15, e16⟩ : ∃ z9 : zx_S, z9 = zx_pI σ b11 (Int32.toNatClampNeg x2) ((zI σ a0 14) + 1) := ⟨_, rfl⟩
    replace h := h σ15 e16
    refine zw_iast zM_X0_joinTail dX0_joinTail_41 ⟨hk13, hi14⟩ e16 ?_
    refine zw_go (pc1 := 43) (L1 := [some (.ref a0), some (.ref a1), some (.int x2), some (.int x3), some (.int (zI σ b2 (Int32.toNatClampNeg x2))), some (.int ((((zI σ b2 (Int32.toNatClampNeg x2)) * 100) + (zI σ b7 (Int32.toNatClampNeg (zI σ b2 (Int32.toNatClampNeg x2))))) - x3)), none]) (st1 := [.ref a0]) (σ1 := σ15) zM_X0_joinTail dX0_joinTail_42 rfl rfl rfl rfl ?_
    obtain ⟨b17, hr18, h⟩ := h
    refine zw_getR (a := b17) zM_X0_joinTail dX0_joinTail_43 zF_0_37 rfl (by rw [e16]; exact hk1) hr18 ?_
    refine zw_go (pc1 := 47) (L1 := [some (.ref a0), some (.ref a1), some (.int x2), some (.int x3), some (.int (zI σ b2 (Int32.toNatClampNeg x2))), some (.int ((((zI σ b2 (Int32.toNatClampNeg x2)) * 100) + (zI σ b7 (Int32.toNatClampNeg (zI σ b2 (Int32.toNatClampNeg x2))))) - x3)), none]) (st1 := [.int x2, .ref b17]) (σ1 := σ15) zM_X0_joinTail dX0_joinTail_46 rfl rfl rfl rfl ?_
    refine zw_go (pc1 := 48) (L1 := [some (.ref a0), some (.ref a1), some (.int x2), some (.int x3), some (.int (zI σ b2 (Int32.toNatClampNeg x2))), some (.int ((((zI σ b2 (Int32.toNatClampNeg x2)) * 100) + (zI σ b7 (Int32.toNatClampNeg (zI σ b2 (Int32.toNatClampNeg x2))))) - x3)), none]) (st1 := [.ref a0, .int x2, .ref b17]) (σ1 := σ15) zM_X0_joinTail dX0_joinTail_47 rfl rfl rfl rfl ?_
    refine zw_getI zM_X0_joinTail dX0_joinTail_48 zF_0_162 rfl (by rw [e16]; exact hk1) ?_
    obtain ⟨hk19, h⟩ := h
    obtain ⟨hi20, h⟩ := h
    obtain ⟨σ21, e22⟩ : ∃ z9 : zx_S, z9 = zx_pI σ15 b17 (Int32.toNatClampNeg x2) (zI σ15 a0 15) := ⟨_, rfl⟩
    replace h := h σ21 e22
    refine zw_iast zM_X0_joinTail dX0_joinTail_51 ⟨hk19, hi20⟩ e22 ?_
    refine zw_iconst (v := 0) zM_X0_joinTail dX0_joinTail_52 (by decide) ?_
    refine zw_go (pc1 := 55) (L1 := [some (.ref a0), some (.ref a1), some (.int x2), some (.int x3), some (.int (zI σ b2 (Int32.toNatClampNeg x2))), some (.int ((((zI σ b2 (Int32.toNatClampNeg x2)) * 100) + (zI σ b7 (Int32.toNatClampNeg (zI σ b2 (Int32.toNatClampNeg x2))))) - x3)), some (.int 0)]) (st1 := []) (σ1 := σ21) zM_X0_joinTail dX0_joinTail_53 rfl rfl rfl rfl ?_
    exact zw_weak2 h ⟨rfl, rfl, rfl, rfl, rfl, trivial⟩
  · replace h := h.2 q
    exact zw_retv zM_X0_joinTail dX0_joinTail_4 rfl h
set_option maxHeartbeats 4000000 in
set_option maxRecDepth 100000 in
theorem vc_X0_joinTail_55 (a0 : Nat) (a1 : Nat) (x3 : Int32) (x5 : Int32) (x6 : Int32) (σ : zx_S) (K : zx_S → Prop) (h : ((x3 ≤ x6 → K σ) ∧ (¬ x3 ≤ x6 → zK σ a0 = 13 ∧ (((32 : Int32) ≤ (zI σ a0 15) → K σ) ∧ (¬ (32 : Int32) ≤ (zI σ a0 15) → ∃ b2 : Nat, zR σ a0 12 = some b2 ∧ zK σ a1 = 18 ∧ ∃ b5 : Nat, zR σ a1 6 = some b5 ∧ zK σ b5 = 1 ∧ zx_in (x5 + x6) (zN σ b5) = true ∧ zK σ b2 = 1 ∧ zx_in (zI σ a0 15) (zN σ b2) = true ∧ ∀ σ11 : zx_S, σ11 = zx_pI σ b2 (Int32.toNatClampNeg (zI σ a0 15)) (zI σ b5 (Int32.toNatClampNeg (x5 + x6))) → ∀ σ13 : zx_S, σ13 = zx_pI σ11 a0 15 ((zI σ11 a0 15) + 1) → zwV 9 55 [some (.ref a0), some (.ref a1), none, some (.int x3), none, some (.int x5), some (.int (x6 + Int32.ofInt 1))] [] σ13 K))))) : zwV 9 55 [some (.ref a0), some (.ref a1), none, some (.int x3), none, some (.int x5), some (.int x6)] [] σ K := by
  refine zw_go (pc1 := 57) (L1 := [some (.ref a0), some (.ref a1), none, some (.int x3), none, some (.int x5), some (.int x6)]) (st1 := [.int x6]) (σ1 := σ) zM_X0_joinTail dX0_joinTail_55 rfl rfl rfl rfl ?_
  refine zw_go (pc1 := 58) (L1 := [some (.ref a0), some (.ref a1), none, some (.int x3), none, some (.int x5), some (.int x6)]) (st1 := [.int x3, .int x6]) (σ1 := σ) zM_X0_joinTail dX0_joinTail_57 rfl rfl rfl rfl ?_
  refine zw_icmp_ge (tgt := 105) zM_X0_joinTail dX0_joinTail_58 rfl rfl (fun q => ?_) (fun q => ?_)
  · replace h := h.1 q
    exact zw_retv zM_X0_joinTail dX0_joinTail_105 rfl h
  · replace h := h.2 q
    refine zw_go (pc1 := 62) (L1 := [some (.ref a0), some (.ref a1), none, some (.int x3), none, some (.int x5), some (.int x6)]) (st1 := [.ref a0]) (σ1 := σ) zM_X0_joinTail dX0_joinTail_61 rfl rfl rfl rfl ?_
    obtain ⟨hk1, h⟩ := h
    refine zw_getI zM_X0_joinTail dX0_joinTail_62 zF_0_162 rfl hk1 ?_
    refine zw_bipush (v := 32) zM_X0_joinTail dX0_joinTail_65 (by decide) ?_
    refine zw_icmp_ge (tgt := 105) zM_X0_joinTail dX0_joinTail_67 rfl rfl (fun q => ?_) (fun q => ?_)
    · replace h := h.1 q
      exact zw_retv zM_X0_joinTail dX0_joinTail_105 rfl h
    · replace h := h.2 q
      refine zw_go (pc1 := 71) (L1 := [some (.ref a0), some (.ref a1), none, some (.int x3), none, some (.int x5), some (.int x6)]) (st1 := [.ref a0]) (σ1 := σ) zM_X0_joinTail dX0_joinTail_70 rfl rfl rfl rfl ?_
      obtain ⟨b2, hr3, h⟩ := h
      refine zw_getR (a := b2) zM_X0_joinTail dX0_joinTail_71 zF_0_52 rfl hk1 hr3 ?_
      refine zw_go (pc1 := 75) (L1 := [some (.ref a0), some (.ref a1), none, some (.int x3), none, some (.int x5), some (.int x6)]) (st1 := [.ref a0, .ref b2]) (σ1 := σ) zM_X0_joinTail dX0_joinTail_74 rfl rfl rfl rfl ?_
      refine zw_getI zM_X0_joinTail dX0_joinTail_75 zF_0_162 rfl hk1 ?_
      refine zw_go (pc1 := 79) (L1 := [some (.ref a0), some (.ref a1), none, some (.int x3), none, some (.int x5), some (.int x6)]) (st1 := [.ref a1, .int (zI σ a0 15), .ref b2]) (σ1 := σ) zM_X0_joinTail dX0_joinTail_78 rfl rfl rfl rfl ?_
      obtain ⟨hk4, h⟩ := h
      obtain ⟨b5, hr6, h⟩ := h
      refine zw_getR (a := b5) zM_X0_joinTail dX0_joinTail_79 zF_0_152 rfl hk4 hr6 ?_
      refine zw_go (pc1 := 84) (L1 := [some (.ref a0), some (.ref a1), none, some (.int x3), none, some (.int x5), some (.int x6)]) (st1 := [.int x5, .ref b5, .int (zI σ a0 15), .ref b2]) (σ1 := σ) zM_X0_joinTail dX0_joinTail_82 rfl rfl rfl rfl ?_
      refine zw_go (pc1 := 86) (L1 := [some (.ref a0), some (.ref a1), none, some (.int x3), none, some (.int x5), some (.int x6)]) (st1 := [.int x6, .int x5, .ref b5, .int (zI σ a0 15), .ref b2]) (σ1 := σ) zM_X0_joinTail dX0_joinTail_84 rfl rfl rfl rfl ?_
      refine zw_go (pc1 := 87) (L1 := [some (.ref a0), some (.ref a1), none, some (.int x3), none, some (.int x5), some (.int x6)]) (st1 := [.int (x5 + x6), .ref b5, .int (zI σ a0 15), .ref b2]) (σ1 := σ) zM_X0_joinTail dX0_joinTail_86 rfl rfl rfl rfl ?_
      obtain ⟨hk7, h⟩ := h
      obtain ⟨hi8, h⟩ := h
      refine zw_iald zM_X0_joinTail dX0_joinTail_87 ⟨Or.inl hk7, hi8⟩ ?_
      obtain ⟨hk9, h⟩ := h
      obtain ⟨hi10, h⟩ := h
      obtain ⟨σ11, e12⟩ : ∃ z9 : zx_S, z9 = zx_pI σ b2 (Int32.toNatClampNeg (zI σ a0 15)) (zI σ b5 (Int32.toNatClampNeg (x5 + x6))) := ⟨_, rfl⟩
      replace h := h σ11 e12
      refine zw_iast zM_X0_joinTail dX0_joinTail_88 ⟨hk9, hi10⟩ e12 ?_
      refine zw_go (pc1 := 90) (L1 := [some (.ref a0), some (.ref a1), none, some (.int x3), none, some (.int x5), some (.int x6)]) (st1 := [.ref a0]) (σ1 := σ11) zM_X0_joinTail dX0_joinTail_89 rfl rfl rfl rfl ?_
      refine zw_go (pc1 := 91) (L1 := [some (.ref a0), some (.ref a1), none, some (.int x3), none, some (.int x5), some (.int x6)]) (st1 := [.ref a0, .ref a0]) (σ1 := σ11) zM_X0_joinTail dX0_joinTail_90 rfl rfl rfl rfl ?_
      refine zw_getI zM_X0_joinTail dX0_joinTail_91 zF_0_162 rfl (by rw [e12]; exact hk1) ?_
      refine zw_iconst (v := 1) zM_X0_joinTail dX0_joinTail_94 (by decide) ?_
      refine zw_go (pc1 := 96) (L1 := [some (.ref a0), some (.ref a1), none, some (.int x3), none, some (.int x5), some (.int x6)]) (st1 := [.int ((zI σ11 a0 15) + 1), .ref a0]) (σ1 := σ11) zM_X0_joinTail dX0_joinTail_95 rfl rfl rfl rfl ?_
      obtain ⟨σ13, e14⟩ : ∃ z9 : zx_S, z9 = zx_pI σ11 a0 15 ((zI σ11 a0 15) + 1) := ⟨_, rfl⟩
      replace h := h σ13 e14
      refine zw_putI zM_X0_joinTail dX0_joinTail_96 zF_0_162 rfl rfl (by rw [e12]; exact hk1) e14 ?_
      refine zw_go (pc1 := 102) (L1 := [some (.ref a0), some (.ref a1), none, some (.int x3), none, some (.int x5), some (.int (x6 + Int32.ofInt 1))]) (st1 := []) (σ1 := σ13) zM_X0_joinTail dX0_joinTail_99 rfl rfl rfl rfl ?_
      refine zw_goto (tgt := 55) zM_X0_joinTail dX0_joinTail_102 rfl ?_
      exact zw_weak2 h ⟨rfl, rfl, rfl, rfl, rfl, trivial⟩
set_option maxHeartbeats 4000000 in
set_option maxRecDepth 100000 in
theorem vc_X0_putBlocks_0 (a0 : Nat) (a1 : Nat) (x2 : Int32) (a3 : Nat) (σ : zx_S) (K : zx_S → Prop) (h : zwV 10 3 [some (.ref a0), some (.ref a1), some (.int x2), some (.ref a3), some (.int 1)] [] σ K) : zwV 10 0 [some (.ref a0), some (.ref a1), some (.int x2), some (.ref a3), none] [] σ K := by
  refine zw_iconst (v := 1) zM_X0_putBlocks dX0_putBlocks_0 (by decide) ?_
  refine zw_go (pc1 := 3) (L1 := [some (.ref a0), some (.ref a1), some (.int x2), some (.ref a3), some (.int 1)]) (st1 := []) (σ1 := σ) zM_X0_putBlocks dX0_putBlocks_1 rfl rfl rfl rfl ?_
  exact zw_weak2 h ⟨rfl, rfl, rfl, rfl, rfl, trivial⟩
set_option maxHeartbeats 4000000 in
set_option maxRecDepth 100000 in
theorem vc_X0_putBlocks_3 (a0 : Nat) (a1 : Nat) (x2 : Int32) (a3 : Nat) (x4 : Int32) (σ : zx_S) (K : zx_S → Prop) (h : zK σ a0 = 13 ∧ (((zI σ a0 13) < x4 → K σ) ∧ (¬ (zI σ a0 13) < x4 → ∃ b2 : Nat, zR σ a0 3 = some b2 ∧ zwI 5 0 [some (.ref a0), some (.ref a1), some (.int x4), none, none, none] [] σ (fun v5 σ4 => zK σ4 b2 = 1 ∧ zx_in x4 (zN σ4 b2) = true ∧ ∀ σ8 : zx_S, σ8 = zx_pI σ4 b2 (Int32.toNatClampNeg x4) v5 → zK σ8 a1 = 18 ∧ ∃ b11 : Nat, zR σ8 a1 0 = some b11 ∧ zK σ8 a0 = 13 ∧ ∃ b14 : Nat, zR σ8 a0 2 = some b14 ∧ zK σ8 b14 = 1 ∧ zx_in x4 (zN σ8 b14) = true ∧ zK σ8 b11 = 1 ∧ zx_in (zI σ8 b14 (Int32.toNatClampNeg x4)) (zN σ8 b11) = true ∧ ((¬ (zI σ8 b11 (Int32.toNatClampNeg (zI σ8 b14 (Int32.toNatClampNeg x4)))) = (2 : Int32) → zwV 10 61 [some (.ref a0), some (.ref a1), some (.int x2), some (.ref a3), some (.int x4)] [] σ8 K) ∧ ((zI σ8 b11 (Int32.toNatClampNeg (zI σ8 b14 (Int32.toNatClampNeg x4)))) = (2 : Int32) → ∃ b20 : Nat, zR σ8 a0 3 = some b20 ∧ zK σ8 b20 = 1 ∧ zx_in x4 (zN σ8 b20) = true ∧ ((¬ (zI σ8 b20 (Int32.toNatClampNeg x4)) = (0 : Int32) → zwV 10 61 [some (.ref a0), some (.ref a1), some (.int x2), some (.ref a3), some (.int x4)] [] σ8 K) ∧ ((zI σ8 b20 (Int32.toNatClampNeg x4)) = (0 : Int32) → zwV 11 0 [some (.ref a0), some (.ref a1), some (.int x4), some (.int x2), some (.ref a3), none, none, none] [] σ8 (fun σ24 => zwV 10 61 [some (.ref a0), some (.ref a1), some (.int x2), some (.ref a3), some (.int x4)] [] σ24 K))))))))) : zwV 10 3 [some (.ref a0), some (.ref a1), some (.int x2), some (.ref a3), some (.int x4)] [] σ K := by
  refine zw_go (pc1 := 5) (L1 := [some (.ref a0), some (.ref a1), some (.int x2), some (.ref a3), some (.int x4)]) (st1 := [.int x4]) (σ1 := σ) zM_X0_putBlocks dX0_putBlocks_3 rfl rfl rfl rfl ?_
  refine zw_go (pc1 := 6) (L1 := [some (.ref a0), some (.ref a1), some (.int x2), some (.ref a3), some (.int x4)]) (st1 := [.ref a0, .int x4]) (σ1 := σ) zM_X0_putBlocks dX0_putBlocks_5 rfl rfl rfl rfl ?_
  obtain ⟨hk1, h⟩ := h
  refine zw_getI zM_X0_putBlocks dX0_putBlocks_6 zF_0_107 rfl hk1 ?_
  refine zw_icmp_gt (tgt := 67) zM_X0_putBlocks dX0_putBlocks_9 rfl rfl (fun q => ?_) (fun q => ?_)
  · replace h := h.1 q
    exact zw_retv zM_X0_putBlocks dX0_putBlocks_67 rfl h
  · replace h := h.2 q
    refine zw_go (pc1 := 13) (L1 := [some (.ref a0), some (.ref a1), some (.int x2), some (.ref a3), some (.int x4)]) (st1 := [.ref a0]) (σ1 := σ) zM_X0_putBlocks dX0_putBlocks_12 rfl rfl rfl rfl ?_
    obtain ⟨b2, hr3, h⟩ := h
    refine zw_getR (a := b2) zM_X0_putBlocks dX0_putBlocks_13 zF_0_25 rfl hk1 hr3 ?_
    refine zw_go (pc1 := 18) (L1 := [some (.ref a0), some (.ref a1), some (.int x2), some (.ref a3), some (.int x4)]) (st1 := [.int x4, .ref b2]) (σ1 := σ) zM_X0_putBlocks dX0_putBlocks_16 rfl rfl rfl rfl ?_
    refine zw_go (pc1 := 19) (L1 := [some (.ref a0), some (.ref a1), some (.int x2), some (.ref a3), some (.int x4)]) (st1 := [.ref a0, .int x4, .ref b2]) (σ1 := σ) zM_X0_putBlocks dX0_putBlocks_18 rfl rfl rfl rfl ?_
    refine zw_go (pc1 := 20) (L1 := [some (.ref a0), some (.ref a1), some (.int x2), some (.ref a3), some (.int x4)]) (st1 := [.ref a1, .ref a0, .int x4, .ref b2]) (σ1 := σ) zM_X0_putBlocks dX0_putBlocks_19 rfl rfl rfl rfl ?_
    refine zw_go (pc1 := 22) (L1 := [some (.ref a0), some (.ref a1), some (.int x2), some (.ref a3), some (.int x4)]) (st1 := [.int x4, .ref a1, .ref a0, .int x4, .ref b2]) (σ1 := σ) zM_X0_putBlocks dX0_putBlocks_20 rfl rfl rfl rfl ?_
    refine zw_callI (as := [.ref a0, .ref a1, .int x4]) (rest := [.int x4, .ref b2]) zM_X0_putBlocks dX0_putBlocks_22 (zx_calV zC_0_133) zM_X0_findTwin rfl rfl rfl rfl rfl (zx_args0 hk1 rfl) rfl h (fun v5 σ4 h => ?_)
    obtain ⟨hk6, h⟩ := h
    obtain ⟨hi7, h⟩ := h
    obtain ⟨σ8, e9⟩ : ∃ z9 : zx_S, z9 = zx_pI σ4 b2 (Int32.toNatClampNeg x4) v5 := ⟨_, rfl⟩
    replace h := h σ8 e9
    refine zw_iast zM_X0_putBlocks dX0_putBlocks_25 ⟨hk6, hi7⟩ e9 ?_
    refine zw_go (pc1 := 27) (L1 := [some (.ref a0), some (.ref a1), some (.int x2), some (.ref a3), some (.int x4)]) (st1 := [.ref a1]) (σ1 := σ8) zM_X0_putBlocks dX0_putBlocks_26 rfl rfl rfl rfl ?_
    obtain ⟨hk10, h⟩ := h
    obtain ⟨b11, hr12, h⟩ := h
    refine zw_getR (a := b11) zM_X0_putBlocks dX0_putBlocks_27 zF_0_110 rfl hk10 hr12 ?_
    refine zw_go (pc1 := 31) (L1 := [some (.ref a0), some (.ref a1), some (.int x2), some (.ref a3), some (.int x4)]) (st1 := [.ref a0, .ref b11]) (σ1 := σ8) zM_X0_putBlocks dX0_putBlocks_30 rfl rfl rfl rfl ?_
    obtain ⟨hk13, h⟩ := h
    obtain ⟨b14, hr15, h⟩ := h
    refine zw_getR (a := b14) zM_X0_putBlocks dX0_putBlocks_31 zF_0_22 rfl hk13 hr15 ?_
    refine zw_go (pc1 := 36) (L1 := [some (.ref a0), some (.ref a1), some (.int x2), some (.ref a3), some (.int x4)]) (st1 := [.int x4, .ref b14, .ref b11]) (σ1 := σ8) zM_X0_putBlocks dX0_putBlocks_34 rfl rfl rfl rfl ?_
    obtain ⟨hk16, h⟩ := h
    obtain ⟨hi17, h⟩ := h
    refine zw_iald zM_X0_putBlocks dX0_putBlocks_36 ⟨Or.inl hk16, hi17⟩ ?_
    obtain ⟨hk18, h⟩ := h
    obtain ⟨hi19, h⟩ := h
    refine zw_iald zM_X0_putBlocks dX0_putBlocks_37 ⟨Or.inl hk18, hi19⟩ ?_
    refine zw_iconst (v := 2) zM_X0_putBlocks dX0_putBlocks_38 (by decide) ?_
    refine zw_icmp_ne (tgt := 61) zM_X0_putBlocks dX0_putBlocks_39 rfl rfl (fun q => ?_) (fun q => ?_)
    · replace h := h.1 q
      exact zw_weak2 h ⟨rfl, rfl, rfl, rfl, rfl, trivial⟩
    · replace h := h.2 q
      refine zw_go (pc1 := 43) (L1 := [some (.ref a0), some (.ref a1), some (.int x2), some (.ref a3), some (.int x4)]) (st1 := [.ref a0]) (σ1 := σ8) zM_X0_putBlocks dX0_putBlocks_42 rfl rfl rfl rfl ?_
      obtain ⟨b20, hr21, h⟩ := h
      refine zw_getR (a := b20) zM_X0_putBlocks dX0_putBlocks_43 zF_0_25 rfl hk13 hr21 ?_
      refine zw_go (pc1 := 48) (L1 := [some (.ref a0), some (.ref a1), some (.int x2), some (.ref a3), some (.int x4)]) (st1 := [.int x4, .ref b20]) (σ1 := σ8) zM_X0_putBlocks dX0_putBlocks_46 rfl rfl rfl rfl ?_
      obtain ⟨hk22, h⟩ := h
      obtain ⟨hi23, h⟩ := h
      refine zw_iald zM_X0_putBlocks dX0_putBlocks_48 ⟨Or.inl hk22, hi23⟩ ?_
      refine zw_if_ne (tgt := 61) zM_X0_putBlocks dX0_putBlocks_49 rfl rfl (fun q => ?_) (fun q => ?_)
      · replace h := h.1 q
        exact zw_weak2 h ⟨rfl, rfl, rfl, rfl, rfl, trivial⟩
      · replace h := h.2 q
        refine zw_go (pc1 := 53) (L1 := [some (.ref a0), some (.ref a1), some (.int x2), some (.ref a3), some (.int x4)]) (st1 := [.ref a0]) (σ1 := σ8) zM_X0_putBlocks dX0_putBlocks_52 rfl rfl rfl rfl ?_
        refine zw_go (pc1 := 54) (L1 := [some (.ref a0), some (.ref a1), some (.int x2), some (.ref a3), some (.int x4)]) (st1 := [.ref a1, .ref a0]) (σ1 := σ8) zM_X0_putBlocks dX0_putBlocks_53 rfl rfl rfl rfl ?_
        refine zw_go (pc1 := 56) (L1 := [some (.ref a0), some (.ref a1), some (.int x2), some (.ref a3), some (.int x4)]) (st1 := [.int x4, .ref a1, .ref a0]) (σ1 := σ8) zM_X0_putBlocks dX0_putBlocks_54 rfl rfl rfl rfl ?_
        refine zw_go (pc1 := 57) (L1 := [some (.ref a0), some (.ref a1), some (.int x2), some (.ref a3), some (.int x4)]) (st1 := [.int x2, .int x4, .ref a1, .ref a0]) (σ1 := σ8) zM_X0_putBlocks dX0_putBlocks_56 rfl rfl rfl rfl ?_
        refine zw_go (pc1 := 58) (L1 := [some (.ref a0), some (.ref a1), some (.int x2), some (.ref a3), some (.int x4)]) (st1 := [.ref a3, .int x2, .int x4, .ref a1, .ref a0]) (σ1 := σ8) zM_X0_putBlocks dX0_putBlocks_57 rfl rfl rfl rfl ?_
        refine zw_callV (as := [.ref a0, .ref a1, .int x4, .int x2, .ref a3]) (rest := []) zM_X0_putBlocks dX0_putBlocks_58 (zx_calV zC_0_137) zM_X0_putBlocksOf rfl rfl rfl rfl rfl (zx_args0 hk13 rfl) rfl h (fun σ24 h => ?_)
        exact zw_weak2 h ⟨rfl, rfl, rfl, rfl, rfl, trivial⟩
set_option maxHeartbeats 4000000 in
set_option maxRecDepth 100000 in
theorem vc_X0_putBlocks_61 (a0 : Nat) (a1 : Nat) (x2 : Int32) (a3 : Nat) (x4 : Int32) (σ : zx_S) (K : zx_S → Prop) (h : zwV 10 3 [some (.ref a0), some (.ref a1), some (.int x2), some (.ref a3), some (.int (x4 + Int32.ofInt 1))] [] σ K) : zwV 10 61 [some (.ref a0), some (.ref a1), some (.int x2), some (.ref a3), some (.int x4)] [] σ K := by
  refine zw_go (pc1 := 64) (L1 := [some (.ref a0), some (.ref a1), some (.int x2), some (.ref a3), some (.int (x4 + Int32.ofInt 1))]) (st1 := []) (σ1 := σ) zM_X0_putBlocks dX0_putBlocks_61 rfl rfl rfl rfl ?_
  refine zw_goto (tgt := 3) zM_X0_putBlocks dX0_putBlocks_64 rfl ?_
  exact zw_weak2 h ⟨rfl, rfl, rfl, rfl, rfl, trivial⟩
set_option maxHeartbeats 4000000 in
set_option maxRecDepth 100000 in
theorem vc_X0_putBlocksOf_0 (a0 : Nat) (a1 : Nat) (x2 : Int32) (x3 : Int32) (a4 : Nat) (σ : zx_S) (K : zx_S → Prop) (h : zK σ a0 = 13 ∧ ∃ b2 : Nat, zR σ a0 2 = some b2 ∧ zK σ b2 = 1 ∧ zx_in x2 (zN σ b2) = true ∧ zK σ a1 = 18 ∧ ∃ b7 : Nat, zR σ a1 5 = some b7 ∧ zK σ b7 = 1 ∧ zx_in (zI σ b2 (Int32.toNatClampNeg x2)) (zN σ b7) = true ∧ zwI 19 0 [some (.int (zI σ b7 (Int32.toNatClampNeg (zI σ b2 (Int32.toNatClampNeg x2))))), some (.int x3)] [] σ (fun v12 σ11 => zK σ11 a0 = 13 ∧ ∃ b14 : Nat, zR σ11 a0 4 = some b14 ∧ ((¬ v12 = (0 : Int32) → zK σ11 a4 = 14 ∧ zwV 11 40 [some (.ref a0), some (.ref a1), some (.int x2), some (.int x3), some (.ref a4), some (.int (zI σ b2 (Int32.toNatClampNeg x2))), some (.int v12), none] [.int (zI σ11 a4 1), .int x2, .ref b14] σ11 K) ∧ (v12 = (0 : Int32) → zwV 11 40 [some (.ref a0), some (.ref a1), some (.int x2), some (.int x3), some (.ref a4), some (.int (zI σ b2 (Int32.toNatClampNeg x2))), some (.int v12), none] [.int 0, .int x2, .ref b14] σ11 K)))) : zwV 11 0 [some (.ref a0), some (.ref a1), some (.int x2), some (.int x3), some (.ref a4), none, none, none] [] σ K := by
  refine zw_go (pc1 := 1) (L1 := [some (.ref a0), some (.ref a1), some (.int x2), some (.int x3), some (.ref a4), none, none, none]) (st1 := [.ref a0]) (σ1 := σ) zM_X0_putBlocksOf dX0_putBlocksOf_0 rfl rfl rfl rfl ?_
  obtain ⟨hk1, h⟩ := h
  obtain ⟨b2, hr3, h⟩ := h
  refine zw_getR (a := b2) zM_X0_putBlocksOf dX0_putBlocksOf_1 zF_0_22 rfl hk1 hr3 ?_
  refine zw_go (pc1 := 5) (L1 := [some (.ref a0), some (.ref a1), some (.int x2), some (.int x3), some (.ref a4), none, none, none]) (st1 := [.int x2, .ref b2]) (σ1 := σ) zM_X0_putBlocksOf dX0_putBlocksOf_4 rfl rfl rfl rfl ?_
  obtain ⟨hk4, h⟩ := h
  obtain ⟨hi5, h⟩ := h
  refine zw_iald zM_X0_putBlocksOf dX0_putBlocksOf_5 ⟨Or.inl hk4, hi5⟩ ?_
  refine zw_go (pc1 := 8) (L1 := [some (.ref a0), some (.ref a1), some (.int x2), some (.int x3), some (.ref a4), some (.int (zI σ b2 (Int32.toNatClampNeg x2))), none, none]) (st1 := []) (σ1 := σ) zM_X0_putBlocksOf dX0_putBlocksOf_6 rfl rfl rfl rfl ?_
  refine zw_go (pc1 := 9) (L1 := [some (.ref a0), some (.ref a1), some (.int x2), some (.int x3), some (.ref a4), some (.int (zI σ b2 (Int32.toNatClampNeg x2))), none, none]) (st1 := [.ref a1]) (σ1 := σ) zM_X0_putBlocksOf dX0_putBlocksOf_8 rfl rfl rfl rfl ?_
  obtain ⟨hk6, h⟩ := h
  obtain ⟨b7, hr8, h⟩ := h
  refine zw_getR (a := b7) zM_X0_putBlocksOf dX0_putBlocksOf_9 zF_0_141 rfl hk6 hr8 ?_
  refine zw_go (pc1 := 14) (L1 := [some (.ref a0), some (.ref a1), some (.int x2), some (.int x3), some (.ref a4), some (.int (zI σ b2 (Int32.toNatClampNeg x2))), none, none]) (st1 := [.int (zI σ b2 (Int32.toNatClampNeg x2)), .ref b7]) (σ1 := σ) zM_X0_putBlocksOf dX0_putBlocksOf_12 rfl rfl rfl rfl ?_
  obtain ⟨hk9, h⟩ := h
  obtain ⟨hi10, h⟩ := h
  refine zw_iald zM_X0_putBlocksOf dX0_putBlocksOf_14 ⟨Or.inl hk9, hi10⟩ ?_
  refine zw_go (pc1 := 16) (L1 := [some (.ref a0), some (.ref a1), some (.int x2), some (.int x3), some (.ref a4), some (.int (zI σ b2 (Int32.toNatClampNeg x2))), none, none]) (st1 := [.int x3, .int (zI σ b7 (Int32.toNatClampNeg (zI σ b2 (Int32.toNatClampNeg x2))))]) (σ1 := σ) zM_X0_putBlocksOf dX0_putBlocksOf_15 rfl rfl rfl rfl ?_
  refine zw_callI (as := [.int (zI σ b7 (Int32.toNatClampNeg (zI σ b2 (Int32.toNatClampNeg x2)))), .int x3]) (rest := []) zM_X0_putBlocksOf dX0_putBlocksOf_16 (zx_calS zC_0_148) zM_X0_wholeBlocks rfl rfl rfl rfl rfl rfl rfl h (fun v12 σ11 h => ?_)
  refine zw_go (pc1 := 21) (L1 := [some (.ref a0), some (.ref a1), some (.int x2), some (.int x3), some (.ref a4), some (.int (zI σ b2 (Int32.toNatClampNeg x2))), some (.int v12), none]) (st1 := []) (σ1 := σ11) zM_X0_putBlocksOf dX0_putBlocksOf_19 rfl rfl rfl rfl ?_
  refine zw_go (pc1 := 22) (L1 := [some (.ref a0), some (.ref a1), some (.int x2), some (.int x3), some (.ref a4), some (.int (zI σ b2 (Int32.toNatClampNeg x2))), some (.int v12), none]) (st1 := [.ref a0]) (σ1 := σ11) zM_X0_putBlocksOf dX0_putBlocksOf_21 rfl rfl rfl rfl ?_
  obtain ⟨hk13, h⟩ := h
  obtain ⟨b14, hr15, h⟩ := h
  refine zw_getR (a := b14) zM_X0_putBlocksOf dX0_putBlocksOf_22 zF_0_28 rfl hk13 hr15 ?_
  refine zw_go (pc1 := 26) (L1 := [some (.ref a0), some (.ref a1), some (.int x2), some (.int x3), some (.ref a4), some (.int (zI σ b2 (Int32.toNatClampNeg x2))), some (.int v12), none]) (st1 := [.int x2, .ref b14]) (σ1 := σ11) zM_X0_putBlocksOf dX0_putBlocksOf_25 rfl rfl rfl rfl ?_
  refine zw_go (pc1 := 28) (L1 := [some (.ref a0), some (.ref a1), some (.int x2), some (.int x3), some (.ref a4), some (.int (zI σ b2 (Int32.toNatClampNeg x2))), some (.int v12), none]) (st1 := [.int v12, .int x2, .ref b14]) (σ1 := σ11) zM_X0_putBlocksOf dX0_putBlocksOf_26 rfl rfl rfl rfl ?_
  refine zw_if_ne (tgt := 35) zM_X0_putBlocksOf dX0_putBlocksOf_28 rfl rfl (fun q => ?_) (fun q => ?_)
  · replace h := h.1 q
    refine zw_go (pc1 := 37) (L1 := [some (.ref a0), some (.ref a1), some (.int x2), some (.int x3), some (.ref a4), some (.int (zI σ b2 (Int32.toNatClampNeg x2))), some (.int v12), none]) (st1 := [.ref a4, .int x2, .ref b14]) (σ1 := σ11) zM_X0_putBlocksOf dX0_putBlocksOf_35 rfl rfl rfl rfl ?_
    obtain ⟨hk16, h⟩ := h
    refine zw_getI zM_X0_putBlocksOf dX0_putBlocksOf_37 zF_0_70 rfl hk16 ?_
    exact zw_weak2 h ⟨rfl, rfl, rfl, rfl, rfl, rfl, rfl, trivial⟩
  · replace h := h.2 q
    refine zw_iconst (v := 0) zM_X0_putBlocksOf dX0_putBlocksOf_31 (by decide) ?_
    refine zw_goto (tgt := 40) zM_X0_putBlocksOf dX0_putBlocksOf_32 rfl ?_
    exact zw_weak2 h ⟨rfl, rfl, rfl, rfl, rfl, rfl, rfl, trivial⟩
set_option maxHeartbeats 4000000 in
set_option maxRecDepth 100000 in
theorem vc_X0_putBlocksOf_40 (a0 : Nat) (a1 : Nat) (x2 : Int32) (x3 : Int32) (a4 : Nat) (x5 : Int32) (x6 : Int32) (y0 : Int32) (y1 : Int32) (c2 : Nat) (σ : zx_S) (K : zx_S → Prop) (h : zK σ c2 = 1 ∧ zx_in y1 (zN σ c2) = true ∧ ∀ σ3 : zx_S, σ3 = zx_pI σ c2 (Int32.toNatClampNeg y1) y0 → zwV 11 44 [some (.ref a0), some (.ref a1), some (.int x2), some (.int x3), some (.ref a4), some (.int x5), some (.int x6), some (.int 0)] [] σ3 K) : zwV 11 40 [some (.ref a0), some (.ref a1), some (.int x2), some (.int x3), some (.ref a4), some (.int x5), some (.int x6), none] [.int y0, .int y1, .ref c2] σ K := by
  obtain ⟨hk1, h⟩ := h
  obtain ⟨hi2, h⟩ := h
  obtain ⟨σ3, e4⟩ : ∃ z9 : zx_S, z9 = zx_pI σ c2 (Int32.toNatClampNeg y1) y0 := ⟨_, rfl⟩
  replace h := h σ3 e4
  refine zw_iast zM_X0_putBlocksOf dX0_putBlocksOf_40 ⟨hk1, hi2⟩ e4 ?_
  refine zw_iconst (v := 0) zM_X0_putBlocksOf dX0_putBlocksOf_41 (by decide) ?_
  refine zw_go (pc1 := 44) (L1 := [some (.ref a0), some (.ref a1), some (.int x2), some (.int x3), some (.ref a4), some (.int x5), some (.int x6), some (.int 0)]) (st1 := []) (σ1 := σ3) zM_X0_putBlocksOf dX0_putBlocksOf_42 rfl rfl rfl rfl ?_
  exact zw_weak2 h ⟨rfl, rfl, rfl, rfl, rfl, rfl, rfl, rfl, trivial⟩
set_option maxHeartbeats 4000000 in
set_option maxRecDepth 100000 in
theorem vc_X0_putBlocksOf_44 (a0 : Nat) (a1 : Nat) (x2 : Int32) (x3 : Int32) (a4 : Nat) (x5 : Int32) (x6 : Int32) (x7 : Int32) (σ : zx_S) (K : zx_S → Prop) (h : ((x6 ≤ x7 → K σ) ∧ (¬ x6 ≤ x7 → zK σ a0 = 13 ∧ ∃ b2 : Nat, zR σ a0 5 = some b2 ∧ ∃ b4 : Nat, zR σ a0 0 = some b4 ∧ zK σ a1 = 18 ∧ ∃ b7 : Nat, zR σ a1 6 = some b7 ∧ zK σ b4 = 17 ∧ zwI 95 0 [some (.ref b4), some (.ref b7), some (.int ((x5 * 100) + (x7 * x3))), some (.int x3), some (.ref a4)] [] σ (fun v11 σ10 => zK σ10 b2 = 1 ∧ zx_in ((x2 * 12) + x7) (zN σ10 b2) = true ∧ ∀ σ14 : zx_S, σ14 = zx_pI σ10 b2 (Int32.toNatClampNeg ((x2 * 12) + x7)) v11 → zwV 11 44 [some (.ref a0), some (.ref a1), some (.int x2), some (.int x3), some (.ref a4), some (.int x5), some (.int x6), some (.int (x7 + Int32.ofInt 1))] [] σ14 K)))) : zwV 11 44 [some (.ref a0), some (.ref a1), some (.int x2), some (.int x3), some (.ref a4), some (.int x5), some (.int x6), some (.int x7)] [] σ K := by
  refine zw_go (pc1 := 46) (L1 := [some (.ref a0), some (.ref a1), some (.int x2), some (.int x3), some (.ref a4), some (.int x5), some (.int x6), some (.int x7)]) (st1 := [.int x7]) (σ1 := σ) zM_X0_putBlocksOf dX0_putBlocksOf_44 rfl rfl rfl rfl ?_
  refine zw_go (pc1 := 48) (L1 := [some (.ref a0), some (.ref a1), some (.int x2), some (.int x3), some (.ref a4), some (.int x5), some (.int x6), some (.int x7)]) (st1 := [.int x6, .int x7]) (σ1 := σ) zM_X0_putBlocksOf dX0_putBlocksOf_46 rfl rfl rfl rfl ?_
  refine zw_icmp_ge (tgt := 93) zM_X0_putBlocksOf dX0_putBlocksOf_48 rfl rfl (fun q => ?_) (fun q => ?_)
  · replace h := h.1 q
    exact zw_retv zM_X0_putBlocksOf dX0_putBlocksOf_93 rfl h
  · replace h := h.2 q
    refine zw_go (pc1 := 52) (L1 := [some (.ref a0), some (.ref a1), some (.int x2), some (.int x3), some (.ref a4), some (.int x5), some (.int x6), some (.int x7)]) (st1 := [.ref a0]) (σ1 := σ) zM_X0_putBlocksOf dX0_putBlocksOf_51 rfl rfl rfl rfl ?_
    obtain ⟨hk1, h⟩ := h
    obtain ⟨b2, hr3, h⟩ := h
    refine zw_getR (a := b2) zM_X0_putBlocksOf dX0_putBlocksOf_52 zF_0_31 rfl hk1 hr3 ?_
    refine zw_go (pc1 := 56) (L1 := [some (.ref a0), some (.ref a1), some (.int x2), some (.int x3), some (.ref a4), some (.int x5), some (.int x6), some (.int x7)]) (st1 := [.int x2, .ref b2]) (σ1 := σ) zM_X0_putBlocksOf dX0_putBlocksOf_55 rfl rfl rfl rfl ?_
    refine zw_bipush (v := 12) zM_X0_putBlocksOf dX0_putBlocksOf_56 (by decide) ?_
    refine zw_go (pc1 := 59) (L1 := [some (.ref a0), some (.ref a1), some (.int x2), some (.int x3), some (.ref a4), some (.int x5), some (.int x6), some (.int x7)]) (st1 := [.int (x2 * 12), .ref b2]) (σ1 := σ) zM_X0_putBlocksOf dX0_putBlocksOf_58 rfl rfl rfl rfl ?_
    refine zw_go (pc1 := 61) (L1 := [some (.ref a0), some (.ref a1), some (.int x2), some (.int x3), some (.ref a4), some (.int x5), some (.int x6), some (.int x7)]) (st1 := [.int x7, .int (x2 * 12), .ref b2]) (σ1 := σ) zM_X0_putBlocksOf dX0_putBlocksOf_59 rfl rfl rfl rfl ?_
    refine zw_go (pc1 := 62) (L1 := [some (.ref a0), some (.ref a1), some (.int x2), some (.int x3), some (.ref a4), some (.int x5), some (.int x6), some (.int x7)]) (st1 := [.int ((x2 * 12) + x7), .ref b2]) (σ1 := σ) zM_X0_putBlocksOf dX0_putBlocksOf_61 rfl rfl rfl rfl ?_
    refine zw_go (pc1 := 63) (L1 := [some (.ref a0), some (.ref a1), some (.int x2), some (.int x3), some (.ref a4), some (.int x5), some (.int x6), some (.int x7)]) (st1 := [.ref a0, .int ((x2 * 12) + x7), .ref b2]) (σ1 := σ) zM_X0_putBlocksOf dX0_putBlocksOf_62 rfl rfl rfl rfl ?_
    obtain ⟨b4, hr5, h⟩ := h
    refine zw_getR (a := b4) zM_X0_putBlocksOf dX0_putBlocksOf_63 zF_0_12 rfl hk1 hr5 ?_
    refine zw_go (pc1 := 67) (L1 := [some (.ref a0), some (.ref a1), some (.int x2), some (.int x3), some (.ref a4), some (.int x5), some (.int x6), some (.int x7)]) (st1 := [.ref a1, .ref b4, .int ((x2 * 12) + x7), .ref b2]) (σ1 := σ) zM_X0_putBlocksOf dX0_putBlocksOf_66 rfl rfl rfl rfl ?_
    obtain ⟨hk6, h⟩ := h
    obtain ⟨b7, hr8, h⟩ := h
    refine zw_getR (a := b7) zM_X0_putBlocksOf dX0_putBlocksOf_67 zF_0_152 rfl hk6 hr8 ?_
    refine zw_go (pc1 := 72) (L1 := [some (.ref a0), some (.ref a1), some (.int x2), some (.int x3), some (.ref a4), some (.int x5), some (.int x6), some (.int x7)]) (st1 := [.int x5, .ref b7, .ref b4, .int ((x2 * 12) + x7), .ref b2]) (σ1 := σ) zM_X0_putBlocksOf dX0_putBlocksOf_70 rfl rfl rfl rfl ?_
    refine zw_bipush (v := 100) zM_X0_putBlocksOf dX0_putBlocksOf_72 (by decide) ?_
    refine zw_go (pc1 := 75) (L1 := [some (.ref a0), some (.ref a1), some (.int x2), some (.int x3), some (.ref a4), some (.int x5), some (.int x6), some (.int x7)]) (st1 := [.int (x5 * 100), .ref b7, .ref b4, .int ((x2 * 12) + x7), .ref b2]) (σ1 := σ) zM_X0_putBlocksOf dX0_putBlocksOf_74 rfl rfl rfl rfl ?_
    refine zw_go (pc1 := 77) (L1 := [some (.ref a0), some (.ref a1), some (.int x2), some (.int x3), some (.ref a4), some (.int x5), some (.int x6), some (.int x7)]) (st1 := [.int x7, .int (x5 * 100), .ref b7, .ref b4, .int ((x2 * 12) + x7), .ref b2]) (σ1 := σ) zM_X0_putBlocksOf dX0_putBlocksOf_75 rfl rfl rfl rfl ?_
    refine zw_go (pc1 := 78) (L1 := [some (.ref a0), some (.ref a1), some (.int x2), some (.int x3), some (.ref a4), some (.int x5), some (.int x6), some (.int x7)]) (st1 := [.int x3, .int x7, .int (x5 * 100), .ref b7, .ref b4, .int ((x2 * 12) + x7), .ref b2]) (σ1 := σ) zM_X0_putBlocksOf dX0_putBlocksOf_77 rfl rfl rfl rfl ?_
    refine zw_go (pc1 := 79) (L1 := [some (.ref a0), some (.ref a1), some (.int x2), some (.int x3), some (.ref a4), some (.int x5), some (.int x6), some (.int x7)]) (st1 := [.int (x7 * x3), .int (x5 * 100), .ref b7, .ref b4, .int ((x2 * 12) + x7), .ref b2]) (σ1 := σ) zM_X0_putBlocksOf dX0_putBlocksOf_78 rfl rfl rfl rfl ?_
    refine zw_go (pc1 := 80) (L1 := [some (.ref a0), some (.ref a1), some (.int x2), some (.int x3), some (.ref a4), some (.int x5), some (.int x6), some (.int x7)]) (st1 := [.int ((x5 * 100) + (x7 * x3)), .ref b7, .ref b4, .int ((x2 * 12) + x7), .ref b2]) (σ1 := σ) zM_X0_putBlocksOf dX0_putBlocksOf_79 rfl rfl rfl rfl ?_
    refine zw_go (pc1 := 81) (L1 := [some (.ref a0), some (.ref a1), some (.int x2), some (.int x3), some (.ref a4), some (.int x5), some (.int x6), some (.int x7)]) (st1 := [.int x3, .int ((x5 * 100) + (x7 * x3)), .ref b7, .ref b4, .int ((x2 * 12) + x7), .ref b2]) (σ1 := σ) zM_X0_putBlocksOf dX0_putBlocksOf_80 rfl rfl rfl rfl ?_
    refine zw_go (pc1 := 83) (L1 := [some (.ref a0), some (.ref a1), some (.int x2), some (.int x3), some (.ref a4), some (.int x5), some (.int x6), some (.int x7)]) (st1 := [.ref a4, .int x3, .int ((x5 * 100) + (x7 * x3)), .ref b7, .ref b4, .int ((x2 * 12) + x7), .ref b2]) (σ1 := σ) zM_X0_putBlocksOf dX0_putBlocksOf_81 rfl rfl rfl rfl ?_
    obtain ⟨hk9, h⟩ := h
    refine zw_callI (as := [.ref b4, .ref b7, .int ((x5 * 100) + (x7 * x3)), .int x3, .ref a4]) (rest := [.int ((x2 * 12) + x7), .ref b2]) zM_X0_putBlocksOf dX0_putBlocksOf_83 (zx_calV zC_0_155) zM_X4_store rfl rfl rfl rfl rfl (zx_args0 hk9 rfl) rfl h (fun v11 σ10 h => ?_)
    obtain ⟨hk12, h⟩ := h
    obtain ⟨hi13, h⟩ := h
    obtain ⟨σ14, e15⟩ : ∃ z9 : zx_S, z9 = zx_pI σ10 b2 (Int32.toNatClampNeg ((x2 * 12) + x7)) v11 := ⟨_, rfl⟩
    replace h := h σ14 e15
    refine zw_iast zM_X0_putBlocksOf dX0_putBlocksOf_86 ⟨hk12, hi13⟩ e15 ?_
    refine zw_go (pc1 := 90) (L1 := [some (.ref a0), some (.ref a1), some (.int x2), some (.int x3), some (.ref a4), some (.int x5), some (.int x6), some (.int (x7 + Int32.ofInt 1))]) (st1 := []) (σ1 := σ14) zM_X0_putBlocksOf dX0_putBlocksOf_87 rfl rfl rfl rfl ?_
    refine zw_goto (tgt := 44) zM_X0_putBlocksOf dX0_putBlocksOf_90 rfl ?_
    exact zw_weak2 h ⟨rfl, rfl, rfl, rfl, rfl, rfl, rfl, rfl, trivial⟩
set_option maxHeartbeats 4000000 in
set_option maxRecDepth 100000 in
theorem vc_X0_putExports_0 (a0 : Nat) (a1 : Nat) (σ : zx_S) (K : zx_S → Prop) (h : zwV 12 2 [some (.ref a0), some (.ref a1), some (.int 1)] [] σ K) : zwV 12 0 [some (.ref a0), some (.ref a1), none] [] σ K := by
  refine zw_iconst (v := 1) zM_X0_putExports dX0_putExports_0 (by decide) ?_
  refine zw_go (pc1 := 2) (L1 := [some (.ref a0), some (.ref a1), some (.int 1)]) (st1 := []) (σ1 := σ) zM_X0_putExports dX0_putExports_1 rfl rfl rfl rfl ?_
  exact zw_weak2 h ⟨rfl, rfl, rfl, trivial⟩
set_option maxHeartbeats 4000000 in
set_option maxRecDepth 100000 in
theorem vc_X0_putExports_2 (a0 : Nat) (a1 : Nat) (x2 : Int32) (σ : zx_S) (K : zx_S → Prop) (h : zK σ a0 = 13 ∧ (((zI σ a0 13) < x2 → K σ) ∧ (¬ (zI σ a0 13) < x2 → ∃ b2 : Nat, zR σ a0 8 = some b2 ∧ zK σ b2 = 1 ∧ zx_in x2 (zN σ b2) = true ∧ zK σ a1 = 14 ∧ zwV 40 0 [some (.ref a1), some (.int (zI σ b2 (Int32.toNatClampNeg x2)))] [] σ (fun σ7 => zwV 12 2 [some (.ref a0), some (.ref a1), some (.int (x2 + Int32.ofInt 1))] [] σ7 K)))) : zwV 12 2 [some (.ref a0), some (.ref a1), some (.int x2)] [] σ K := by
  refine zw_go (pc1 := 3) (L1 := [some (.ref a0), some (.ref a1), some (.int x2)]) (st1 := [.int x2]) (σ1 := σ) zM_X0_putExports dX0_putExports_2 rfl rfl rfl rfl ?_
  refine zw_go (pc1 := 4) (L1 := [some (.ref a0), some (.ref a1), some (.int x2)]) (st1 := [.ref a0, .int x2]) (σ1 := σ) zM_X0_putExports dX0_putExports_3 rfl rfl rfl rfl ?_
  obtain ⟨hk1, h⟩ := h
  refine zw_getI zM_X0_putExports dX0_putExports_4 zF_0_107 rfl hk1 ?_
  refine zw_icmp_gt (tgt := 26) zM_X0_putExports dX0_putExports_7 rfl rfl (fun q => ?_) (fun q => ?_)
  · replace h := h.1 q
    exact zw_retv zM_X0_putExports dX0_putExports_26 rfl h
  · replace h := h.2 q
    refine zw_go (pc1 := 11) (L1 := [some (.ref a0), some (.ref a1), some (.int x2)]) (st1 := [.ref a1]) (σ1 := σ) zM_X0_putExports dX0_putExports_10 rfl rfl rfl rfl ?_
    refine zw_go (pc1 := 12) (L1 := [some (.ref a0), some (.ref a1), some (.int x2)]) (st1 := [.ref a0, .ref a1]) (σ1 := σ) zM_X0_putExports dX0_putExports_11 rfl rfl rfl rfl ?_
    obtain ⟨b2, hr3, h⟩ := h
    refine zw_getR (a := b2) zM_X0_putExports dX0_putExports_12 zF_0_40 rfl hk1 hr3 ?_
    refine zw_go (pc1 := 16) (L1 := [some (.ref a0), some (.ref a1), some (.int x2)]) (st1 := [.int x2, .ref b2, .ref a1]) (σ1 := σ) zM_X0_putExports dX0_putExports_15 rfl rfl rfl rfl ?_
    obtain ⟨hk4, h⟩ := h
    obtain ⟨hi5, h⟩ := h
    refine zw_iald zM_X0_putExports dX0_putExports_16 ⟨Or.inl hk4, hi5⟩ ?_
    obtain ⟨hk6, h⟩ := h
    refine zw_callV (as := [.ref a1, .int (zI σ b2 (Int32.toNatClampNeg x2))]) (rest := []) zM_X0_putExports dX0_putExports_17 (zx_calV zC_0_130) zM_X1_putWord rfl rfl rfl rfl rfl (zx_args0 hk6 rfl) rfl h (fun σ7 h => ?_)
    refine zw_go (pc1 := 23) (L1 := [some (.ref a0), some (.ref a1), some (.int (x2 + Int32.ofInt 1))]) (st1 := []) (σ1 := σ7) zM_X0_putExports dX0_putExports_20 rfl rfl rfl rfl ?_
    refine zw_goto (tgt := 2) zM_X0_putExports dX0_putExports_23 rfl ?_
    exact zw_weak2 h ⟨rfl, rfl, rfl, trivial⟩
set_option maxHeartbeats 4000000 in
set_option maxRecDepth 100000 in
theorem vc_X0_putFileRow_0 (a0 : Nat) (x1 : Int32) (x2 : Int32) (x3 : Int32) (a4 : Nat) (σ : zx_S) (K : zx_S → Prop) (h : zK σ a0 = 13 ∧ ∃ b2 : Nat, zR σ a0 3 = some b2 ∧ zK σ b2 = 1 ∧ zx_in x1 (zN σ b2) = true ∧ ((¬ (zI σ b2 (Int32.toNatClampNeg x1)) = (0 : Int32) → zx_in x1 (zN σ b2) = true ∧ zwV 13 19 [some (.ref a0), none, some (.int x2), some (.int x3), some (.ref a4), none, none, none] [.int (zI σ b2 (Int32.toNatClampNeg x1))] σ K) ∧ ((zI σ b2 (Int32.toNatClampNeg x1)) = (0 : Int32) → zwV 13 19 [some (.ref a0), none, some (.int x2), some (.int x3), some (.ref a4), none, none, none] [.int x1] σ K))) : zwV 13 0 [some (.ref a0), some (.int x1), some (.int x2), some (.int x3), some (.ref a4), none, none, none] [] σ K := by
  refine zw_go (pc1 := 1) (L1 := [some (.ref a0), some (.int x1), some (.int x2), some (.int x3), some (.ref a4), none, none, none]) (st1 := [.ref a0]) (σ1 := σ) zM_X0_putFileRow dX0_putFileRow_0 rfl rfl rfl rfl ?_
  obtain ⟨hk1, h⟩ := h
  obtain ⟨b2, hr3, h⟩ := h
  refine zw_getR (a := b2) zM_X0_putFileRow dX0_putFileRow_1 zF_0_25 rfl hk1 hr3 ?_
  refine zw_go (pc1 := 5) (L1 := [some (.ref a0), some (.int x1), some (.int x2), some (.int x3), some (.ref a4), none, none, none]) (st1 := [.int x1, .ref b2]) (σ1 := σ) zM_X0_putFileRow dX0_putFileRow_4 rfl rfl rfl rfl ?_
  obtain ⟨hk4, h⟩ := h
  obtain ⟨hi5, h⟩ := h
  refine zw_iald zM_X0_putFileRow dX0_putFileRow_5 ⟨Or.inl hk4, hi5⟩ ?_
  refine zw_if_ne (tgt := 13) zM_X0_putFileRow dX0_putFileRow_6 rfl rfl (fun q => ?_) (fun q => ?_)
  · replace h := h.1 q
    refine zw_go (pc1 := 14) (L1 := [some (.ref a0), some (.int x1), some (.int x2), some (.int x3), some (.ref a4), none, none, none]) (st1 := [.ref a0]) (σ1 := σ) zM_X0_putFileRow dX0_putFileRow_13 rfl rfl rfl rfl ?_
    refine zw_getR (a := b2) zM_X0_putFileRow dX0_putFileRow_14 zF_0_25 rfl hk1 hr3 ?_
    refine zw_go (pc1 := 18) (L1 := [some (.ref a0), some (.int x1), some (.int x2), some (.int x3), some (.ref a4), none, none, none]) (st1 := [.int x1, .ref b2]) (σ1 := σ) zM_X0_putFileRow dX0_putFileRow_17 rfl rfl rfl rfl ?_
    obtain ⟨hi6, h⟩ := h
    refine zw_iald zM_X0_putFileRow dX0_putFileRow_18 ⟨Or.inl hk4, hi6⟩ ?_
    exact zw_weak2 h ⟨rfl, rfl, rfl, rfl, trivial⟩
  · replace h := h.2 q
    refine zw_go (pc1 := 10) (L1 := [some (.ref a0), some (.int x1), some (.int x2), some (.int x3), some (.ref a4), none, none, none]) (st1 := [.int x1]) (σ1 := σ) zM_X0_putFileRow dX0_putFileRow_9 rfl rfl rfl rfl ?_
    refine zw_goto (tgt := 19) zM_X0_putFileRow dX0_putFileRow_10 rfl ?_
    exact zw_weak2 h ⟨rfl, rfl, rfl, rfl, trivial⟩
set_option maxHeartbeats 4000000 in
set_option maxRecDepth 100000 in
theorem vc_X0_putFileRow_19 (a0 : Nat) (x2 : Int32) (x3 : Int32) (a4 : Nat) (y0 : Int32) (σ : zx_S) (K : zx_S → Prop) (h : zwI 19 0 [some (.int x2), some (.int x3)] [] σ (fun v2 σ1 => zK σ1 a4 = 14 ∧ zwV 40 0 [some (.ref a4), some (.int x2)] [] σ1 (fun σ4 => zK σ4 a0 = 13 ∧ ∃ b6 : Nat, zR σ4 a0 4 = some b6 ∧ zK σ4 b6 = 1 ∧ zx_in y0 (zN σ4 b6) = true ∧ zK σ4 a4 = 14 ∧ zwV 40 0 [some (.ref a4), some (.int (zI σ4 b6 (Int32.toNatClampNeg y0)))] [] σ4 (fun σ11 => zK σ11 a0 = 13 ∧ ∃ b13 : Nat, zR σ11 a0 6 = some b13 ∧ zK σ11 b13 = 1 ∧ zx_in y0 (zN σ11 b13) = true ∧ zK σ11 a4 = 14 ∧ zwV 38 0 [some (.ref a4), some (.int (zI σ11 b13 (Int32.toNatClampNeg y0)))] [] σ11 (fun σ18 => zK σ18 a0 = 13 ∧ ∃ b20 : Nat, zR σ18 a0 7 = some b20 ∧ zK σ18 b20 = 1 ∧ zx_in y0 (zN σ18 b20) = true ∧ zK σ18 a4 = 14 ∧ zwV 38 0 [some (.ref a4), some (.int (zI σ18 b20 (Int32.toNatClampNeg y0)))] [] σ18 (fun σ25 => zwV 13 73 [some (.ref a0), none, none, none, some (.ref a4), some (.int y0), some (.int v2), some (.int 0)] [] σ25 K)))))) : zwV 13 19 [some (.ref a0), none, some (.int x2), some (.int x3), some (.ref a4), none, none, none] [.int y0] σ K := by
  refine zw_go (pc1 := 21) (L1 := [some (.ref a0), none, some (.int x2), some (.int x3), some (.ref a4), some (.int y0), none, none]) (st1 := []) (σ1 := σ) zM_X0_putFileRow dX0_putFileRow_19 rfl rfl rfl rfl ?_
  refine zw_go (pc1 := 22) (L1 := [some (.ref a0), none, some (.int x2), some (.int x3), some (.ref a4), some (.int y0), none, none]) (st1 := [.int x2]) (σ1 := σ) zM_X0_putFileRow dX0_putFileRow_21 rfl rfl rfl rfl ?_
  refine zw_go (pc1 := 23) (L1 := [some (.ref a0), none, some (.int x2), some (.int x3), some (.ref a4), some (.int y0), none, none]) (st1 := [.int x3, .int x2]) (σ1 := σ) zM_X0_putFileRow dX0_putFileRow_22 rfl rfl rfl rfl ?_
  refine zw_callI (as := [.int x2, .int x3]) (rest := []) zM_X0_putFileRow dX0_putFileRow_23 (zx_calS zC_0_148) zM_X0_wholeBlocks rfl rfl rfl rfl rfl rfl rfl h (fun v2 σ1 h => ?_)
  refine zw_go (pc1 := 28) (L1 := [some (.ref a0), none, some (.int x2), some (.int x3), some (.ref a4), some (.int y0), some (.int v2), none]) (st1 := []) (σ1 := σ1) zM_X0_putFileRow dX0_putFileRow_26 rfl rfl rfl rfl ?_
  refine zw_go (pc1 := 30) (L1 := [some (.ref a0), none, some (.int x2), some (.int x3), some (.ref a4), some (.int y0), some (.int v2), none]) (st1 := [.ref a4]) (σ1 := σ1) zM_X0_putFileRow dX0_putFileRow_28 rfl rfl rfl rfl ?_
  refine zw_go (pc1 := 31) (L1 := [some (.ref a0), none, some (.int x2), some (.int x3), some (.ref a4), some (.int y0), some (.int v2), none]) (st1 := [.int x2, .ref a4]) (σ1 := σ1) zM_X0_putFileRow dX0_putFileRow_30 rfl rfl rfl rfl ?_
  obtain ⟨hk3, h⟩ := h
  refine zw_callV (as := [.ref a4, .int x2]) (rest := []) zM_X0_putFileRow dX0_putFileRow_31 (zx_calV zC_0_130) zM_X1_putWord rfl rfl rfl rfl rfl (zx_args0 hk3 rfl) rfl h (fun σ4 h => ?_)
  refine zw_go (pc1 := 36) (L1 := [some (.ref a0), none, some (.int x2), some (.int x3), some (.ref a4), some (.int y0), some (.int v2), none]) (st1 := [.ref a4]) (σ1 := σ4) zM_X0_putFileRow dX0_putFileRow_34 rfl rfl rfl rfl ?_
  refine zw_go (pc1 := 37) (L1 := [some (.ref a0), none, some (.int x2), some (.int x3), some (.ref a4), some (.int y0), some (.int v2), none]) (st1 := [.ref a0, .ref a4]) (σ1 := σ4) zM_X0_putFileRow dX0_putFileRow_36 rfl rfl rfl rfl ?_
  obtain ⟨hk5, h⟩ := h
  obtain ⟨b6, hr7, h⟩ := h
  refine zw_getR (a := b6) zM_X0_putFileRow dX0_putFileRow_37 zF_0_28 rfl hk5 hr7 ?_
  refine zw_go (pc1 := 42) (L1 := [some (.ref a0), none, some (.int x2), some (.int x3), some (.ref a4), some (.int y0), some (.int v2), none]) (st1 := [.int y0, .ref b6, .ref a4]) (σ1 := σ4) zM_X0_putFileRow dX0_putFileRow_40 rfl rfl rfl rfl ?_
  obtain ⟨hk8, h⟩ := h
  obtain ⟨hi9, h⟩ := h
  refine zw_iald zM_X0_putFileRow dX0_putFileRow_42 ⟨Or.inl hk8, hi9⟩ ?_
  obtain ⟨hk10, h⟩ := h
  refine zw_callV (as := [.ref a4, .int (zI σ4 b6 (Int32.toNatClampNeg y0))]) (rest := []) zM_X0_putFileRow dX0_putFileRow_43 (zx_calV zC_0_130) zM_X1_putWord rfl rfl rfl rfl rfl (zx_args0 hk10 rfl) rfl h (fun σ11 h => ?_)
  refine zw_go (pc1 := 48) (L1 := [some (.ref a0), none, some (.int x2), some (.int x3), some (.ref a4), some (.int y0), some (.int v2), none]) (st1 := [.ref a4]) (σ1 := σ11) zM_X0_putFileRow dX0_putFileRow_46 rfl rfl rfl rfl ?_
  refine zw_go (pc1 := 49) (L1 := [some (.ref a0), none, some (.int x2), some (.int x3), some (.ref a4), some (.int y0), some (.int v2), none]) (st1 := [.ref a0, .ref a4]) (σ1 := σ11) zM_X0_putFileRow dX0_putFileRow_48 rfl rfl rfl rfl ?_
  obtain ⟨hk12, h⟩ := h
  obtain ⟨b13, hr14, h⟩ := h
  refine zw_getR (a := b13) zM_X0_putFileRow dX0_putFileRow_49 zF_0_34 rfl hk12 hr14 ?_
  refine zw_go (pc1 := 54) (L1 := [some (.ref a0), none, some (.int x2), some (.int x3), some (.ref a4), some (.int y0), some (.int v2), none]) (st1 := [.int y0, .ref b13, .ref a4]) (σ1 := σ11) zM_X0_putFileRow dX0_putFileRow_52 rfl rfl rfl rfl ?_
  obtain ⟨hk15, h⟩ := h
  obtain ⟨hi16, h⟩ := h
  refine zw_iald zM_X0_putFileRow dX0_putFileRow_54 ⟨Or.inl hk15, hi16⟩ ?_
  obtain ⟨hk17, h⟩ := h
  refine zw_callV (as := [.ref a4, .int (zI σ11 b13 (Int32.toNatClampNeg y0))]) (rest := []) zM_X0_putFileRow dX0_putFileRow_55 (zx_calV zC_0_126) zM_X1_putByte rfl rfl rfl rfl rfl (zx_args0 hk17 rfl) rfl h (fun σ18 h => ?_)
  refine zw_go (pc1 := 60) (L1 := [some (.ref a0), none, some (.int x2), some (.int x3), some (.ref a4), some (.int y0), some (.int v2), none]) (st1 := [.ref a4]) (σ1 := σ18) zM_X0_putFileRow dX0_putFileRow_58 rfl rfl rfl rfl ?_
  refine zw_go (pc1 := 61) (L1 := [some (.ref a0), none, some (.int x2), some (.int x3), some (.ref a4), some (.int y0), some (.int v2), none]) (st1 := [.ref a0, .ref a4]) (σ1 := σ18) zM_X0_putFileRow dX0_putFileRow_60 rfl rfl rfl rfl ?_
  obtain ⟨hk19, h⟩ := h
  obtain ⟨b20, hr21, h⟩ := h
  refine zw_getR (a := b20) zM_X0_putFileRow dX0_putFileRow_61 zF_0_37 rfl hk19 hr21 ?_
  refine zw_go (pc1 := 66) (L1 := [some (.ref a0), none, some (.int x2), some (.int x3), some (.ref a4), some (.int y0), some (.int v2), none]) (st1 := [.int y0, .ref b20, .ref a4]) (σ1 := σ18) zM_X0_putFileRow dX0_putFileRow_64 rfl rfl rfl rfl ?_
  obtain ⟨hk22, h⟩ := h
  obtain ⟨hi23, h⟩ := h
  refine zw_iald zM_X0_putFileRow dX0_putFileRow_66 ⟨Or.inl hk22, hi23⟩ ?_
  obtain ⟨hk24, h⟩ := h
  refine zw_callV (as := [.ref a4, .int (zI σ18 b20 (Int32.toNatClampNeg y0))]) (rest := []) zM_X0_putFileRow dX0_putFileRow_67 (zx_calV zC_0_126) zM_X1_putByte rfl rfl rfl rfl rfl (zx_args0 hk24 rfl) rfl h (fun σ25 h => ?_)
  refine zw_iconst (v := 0) zM_X0_putFileRow dX0_putFileRow_70 (by decide) ?_
  refine zw_go (pc1 := 73) (L1 := [some (.ref a0), none, some (.int x2), some (.int x3), some (.ref a4), some (.int y0), some (.int v2), some (.int 0)]) (st1 := []) (σ1 := σ25) zM_X0_putFileRow dX0_putFileRow_71 rfl rfl rfl rfl ?_
  exact zw_weak2 h ⟨rfl, rfl, rfl, rfl, rfl, trivial⟩
set_option maxHeartbeats 4000000 in
set_option maxRecDepth 100000 in
theorem vc_X0_putFileRow_73 (a0 : Nat) (a4 : Nat) (x5 : Int32) (x6 : Int32) (x7 : Int32) (σ : zx_S) (K : zx_S → Prop) (h : ((x6 ≤ x7 → K σ) ∧ (¬ x6 ≤ x7 → zK σ a0 = 13 ∧ ∃ b2 : Nat, zR σ a0 5 = some b2 ∧ zK σ b2 = 1 ∧ zx_in ((x5 * 12) + x7) (zN σ b2) = true ∧ zK σ a4 = 14 ∧ zwV 40 0 [some (.ref a4), some (.int (zI σ b2 (Int32.toNatClampNeg ((x5 * 12) + x7))))] [] σ (fun σ7 => zwV 13 73 [some (.ref a0), none, none, none, some (.ref a4), some (.int x5), some (.int x6), some (.int (x7 + Int32.ofInt 1))] [] σ7 K)))) : zwV 13 73 [some (.ref a0), none, none, none, some (.ref a4), some (.int x5), some (.int x6), some (.int x7)] [] σ K := by
  refine zw_go (pc1 := 75) (L1 := [some (.ref a0), none, none, none, some (.ref a4), some (.int x5), some (.int x6), some (.int x7)]) (st1 := [.int x7]) (σ1 := σ) zM_X0_putFileRow dX0_putFileRow_73 rfl rfl rfl rfl ?_
  refine zw_go (pc1 := 77) (L1 := [some (.ref a0), none, none, none, some (.ref a4), some (.int x5), some (.int x6), some (.int x7)]) (st1 := [.int x6, .int x7]) (σ1 := σ) zM_X0_putFileRow dX0_putFileRow_75 rfl rfl rfl rfl ?_
  refine zw_icmp_ge (tgt := 104) zM_X0_putFileRow dX0_putFileRow_77 rfl rfl (fun q => ?_) (fun q => ?_)
  · replace h := h.1 q
    exact zw_retv zM_X0_putFileRow dX0_putFileRow_104 rfl h
  · replace h := h.2 q
    refine zw_go (pc1 := 82) (L1 := [some (.ref a0), none, none, none, some (.ref a4), some (.int x5), some (.int x6), some (.int x7)]) (st1 := [.ref a4]) (σ1 := σ) zM_X0_putFileRow dX0_putFileRow_80 rfl rfl rfl rfl ?_
    refine zw_go (pc1 := 83) (L1 := [some (.ref a0), none, none, none, some (.ref a4), some (.int x5), some (.int x6), some (.int x7)]) (st1 := [.ref a0, .ref a4]) (σ1 := σ) zM_X0_putFileRow dX0_putFileRow_82 rfl rfl rfl rfl ?_
    obtain ⟨hk1, h⟩ := h
    obtain ⟨b2, hr3, h⟩ := h
    refine zw_getR (a := b2) zM_X0_putFileRow dX0_putFileRow_83 zF_0_31 rfl hk1 hr3 ?_
    refine zw_go (pc1 := 88) (L1 := [some (.ref a0), none, none, none, some (.ref a4), some (.int x5), some (.int x6), some (.int x7)]) (st1 := [.int x5, .ref b2, .ref a4]) (σ1 := σ) zM_X0_putFileRow dX0_putFileRow_86 rfl rfl rfl rfl ?_
    refine zw_bipush (v := 12) zM_X0_putFileRow dX0_putFileRow_88 (by decide) ?_
    refine zw_go (pc1 := 91) (L1 := [some (.ref a0), none, none, none, some (.ref a4), some (.int x5), some (.int x6), some (.int x7)]) (st1 := [.int (x5 * 12), .ref b2, .ref a4]) (σ1 := σ) zM_X0_putFileRow dX0_putFileRow_90 rfl rfl rfl rfl ?_
    refine zw_go (pc1 := 93) (L1 := [some (.ref a0), none, none, none, some (.ref a4), some (.int x5), some (.int x6), some (.int x7)]) (st1 := [.int x7, .int (x5 * 12), .ref b2, .ref a4]) (σ1 := σ) zM_X0_putFileRow dX0_putFileRow_91 rfl rfl rfl rfl ?_
    refine zw_go (pc1 := 94) (L1 := [some (.ref a0), none, none, none, some (.ref a4), some (.int x5), some (.int x6), some (.int x7)]) (st1 := [.int ((x5 * 12) + x7), .ref b2, .ref a4]) (σ1 := σ) zM_X0_putFileRow dX0_putFileRow_93 rfl rfl rfl rfl ?_
    obtain ⟨hk4, h⟩ := h
    obtain ⟨hi5, h⟩ := h
    refine zw_iald zM_X0_putFileRow dX0_putFileRow_94 ⟨Or.inl hk4, hi5⟩ ?_
    obtain ⟨hk6, h⟩ := h
    refine zw_callV (as := [.ref a4, .int (zI σ b2 (Int32.toNatClampNeg ((x5 * 12) + x7)))]) (rest := []) zM_X0_putFileRow dX0_putFileRow_95 (zx_calV zC_0_130) zM_X1_putWord rfl rfl rfl rfl rfl (zx_args0 hk6 rfl) rfl h (fun σ7 h => ?_)
    refine zw_go (pc1 := 101) (L1 := [some (.ref a0), none, none, none, some (.ref a4), some (.int x5), some (.int x6), some (.int (x7 + Int32.ofInt 1))]) (st1 := []) (σ1 := σ7) zM_X0_putFileRow dX0_putFileRow_98 rfl rfl rfl rfl ?_
    refine zw_goto (tgt := 73) zM_X0_putFileRow dX0_putFileRow_101 rfl ?_
    exact zw_weak2 h ⟨rfl, rfl, rfl, rfl, rfl, trivial⟩
set_option maxHeartbeats 4000000 in
set_option maxRecDepth 100000 in
theorem vc_X0_putFolders_0 (a0 : Nat) (a1 : Nat) (a2 : Nat) (σ : zx_S) (K : zx_S → Prop) (h : zwV 14 2 [some (.ref a0), some (.ref a1), some (.ref a2), some (.int 1), none, none, none] [] σ K) : zwV 14 0 [some (.ref a0), some (.ref a1), some (.ref a2), none, none, none, none] [] σ K := by
  refine zw_iconst (v := 1) zM_X0_putFolders dX0_putFolders_0 (by decide) ?_
  refine zw_go (pc1 := 2) (L1 := [some (.ref a0), some (.ref a1), some (.ref a2), some (.int 1), none, none, none]) (st1 := []) (σ1 := σ) zM_X0_putFolders dX0_putFolders_1 rfl rfl rfl rfl ?_
  exact zw_weak2 h ⟨rfl, rfl, rfl, rfl, trivial⟩
set_option maxHeartbeats 4000000 in
set_option maxRecDepth 100000 in
theorem vc_X0_putFolders_2 (a0 : Nat) (a1 : Nat) (a2 : Nat) (x3 : Int32) (σ : zx_S) (K : zx_S → Prop) (h : zK σ a0 = 13 ∧ (((zI σ a0 13) < x3 → K σ) ∧ (¬ (zI σ a0 13) < x3 → ∃ b2 : Nat, zR σ a0 2 = some b2 ∧ zK σ b2 = 1 ∧ zx_in x3 (zN σ b2) = true ∧ zK σ a1 = 18 ∧ zwI 100 0 [some (.ref a1), some (.int ((zI σ b2 (Int32.toNatClampNeg x3)) + 1))] [] σ (fun v8 σ7 => zK σ7 a1 = 18 ∧ zwI 100 0 [some (.ref a1), some (.int (zI σ b2 (Int32.toNatClampNeg x3)))] [] σ7 (fun v11 σ10 => zwV 14 36 [some (.ref a0), some (.ref a1), some (.ref a2), some (.int x3), none, some (.int v8), some (.int v11)] [] σ10 K))))) : zwV 14 2 [some (.ref a0), some (.ref a1), some (.ref a2), some (.int x3), none, none, none] [] σ K := by
  refine zw_go (pc1 := 3) (L1 := [some (.ref a0), some (.ref a1), some (.ref a2), some (.int x3), none, none, none]) (st1 := [.int x3]) (σ1 := σ) zM_X0_putFolders dX0_putFolders_2 rfl rfl rfl rfl ?_
  refine zw_go (pc1 := 4) (L1 := [some (.ref a0), some (.ref a1), some (.ref a2), some (.int x3), none, none, none]) (st1 := [.ref a0, .int x3]) (σ1 := σ) zM_X0_putFolders dX0_putFolders_3 rfl rfl rfl rfl ?_
  obtain ⟨hk1, h⟩ := h
  refine zw_getI zM_X0_putFolders dX0_putFolders_4 zF_0_107 rfl hk1 ?_
  refine zw_icmp_gt (tgt := 81) zM_X0_putFolders dX0_putFolders_7 rfl rfl (fun q => ?_) (fun q => ?_)
  · replace h := h.1 q
    exact zw_retv zM_X0_putFolders dX0_putFolders_81 rfl h
  · replace h := h.2 q
    refine zw_go (pc1 := 11) (L1 := [some (.ref a0), some (.ref a1), some (.ref a2), some (.int x3), none, none, none]) (st1 := [.ref a0]) (σ1 := σ) zM_X0_putFolders dX0_putFolders_10 rfl rfl rfl rfl ?_
    obtain ⟨b2, hr3, h⟩ := h
    refine zw_getR (a := b2) zM_X0_putFolders dX0_putFolders_11 zF_0_22 rfl hk1 hr3 ?_
    refine zw_go (pc1 := 15) (L1 := [some (.ref a0), some (.ref a1), some (.ref a2), some (.int x3), none, none, none]) (st1 := [.int x3, .ref b2]) (σ1 := σ) zM_X0_putFolders dX0_putFolders_14 rfl rfl rfl rfl ?_
    obtain ⟨hk4, h⟩ := h
    obtain ⟨hi5, h⟩ := h
    refine zw_iald zM_X0_putFolders dX0_putFolders_15 ⟨Or.inl hk4, hi5⟩ ?_
    refine zw_go (pc1 := 18) (L1 := [some (.ref a0), some (.ref a1), some (.ref a2), some (.int x3), some (.int (zI σ b2 (Int32.toNatClampNeg x3))), none, none]) (st1 := []) (σ1 := σ) zM_X0_putFolders dX0_putFolders_16 rfl rfl rfl rfl ?_
    refine zw_go (pc1 := 19) (L1 := [some (.ref a0), some (.ref a1), some (.ref a2), some (.int x3), some (.int (zI σ b2 (Int32.toNatClampNeg x3))), none, none]) (st1 := [.ref a1]) (σ1 := σ) zM_X0_putFolders dX0_putFolders_18 rfl rfl rfl rfl ?_
    refine zw_go (pc1 := 21) (L1 := [some (.ref a0), some (.ref a1), some (.ref a2), some (.int x3), some (.int (zI σ b2 (Int32.toNatClampNeg x3))), none, none]) (st1 := [.int (zI σ b2 (Int32.toNatClampNeg x3)), .ref a1]) (σ1 := σ) zM_X0_putFolders dX0_putFolders_19 rfl rfl rfl rfl ?_
    refine zw_iconst (v := 1) zM_X0_putFolders dX0_putFolders_21 (by decide) ?_
    refine zw_go (pc1 := 23) (L1 := [some (.ref a0), some (.ref a1), some (.ref a2), some (.int x3), some (.int (zI σ b2 (Int32.toNatClampNeg x3))), none, none]) (st1 := [.int ((zI σ b2 (Int32.toNatClampNeg x3)) + 1), .ref a1]) (σ1 := σ) zM_X0_putFolders dX0_putFolders_22 rfl rfl rfl rfl ?_
    obtain ⟨hk6, h⟩ := h
    refine zw_callI (as := [.ref a1, .int ((zI σ b2 (Int32.toNatClampNeg x3)) + 1)]) (rest := []) zM_X0_putFolders dX0_putFolders_23 (zx_calV zC_0_119) zM_X5_firstNameOf rfl rfl rfl rfl rfl (zx_args0 hk6 rfl) rfl h (fun v8 σ7 h => ?_)
    refine zw_go (pc1 := 28) (L1 := [some (.ref a0), some (.ref a1), some (.ref a2), some (.int x3), some (.int (zI σ b2 (Int32.toNatClampNeg x3))), some (.int v8), none]) (st1 := []) (σ1 := σ7) zM_X0_putFolders dX0_putFolders_26 rfl rfl rfl rfl ?_
    refine zw_go (pc1 := 29) (L1 := [some (.ref a0), some (.ref a1), some (.ref a2), some (.int x3), some (.int (zI σ b2 (Int32.toNatClampNeg x3))), some (.int v8), none]) (st1 := [.ref a1]) (σ1 := σ7) zM_X0_putFolders dX0_putFolders_28 rfl rfl rfl rfl ?_
    refine zw_go (pc1 := 31) (L1 := [some (.ref a0), some (.ref a1), some (.ref a2), some (.int x3), some (.int (zI σ b2 (Int32.toNatClampNeg x3))), some (.int v8), none]) (st1 := [.int (zI σ b2 (Int32.toNatClampNeg x3)), .ref a1]) (σ1 := σ7) zM_X0_putFolders dX0_putFolders_29 rfl rfl rfl rfl ?_
    obtain ⟨hk9, h⟩ := h
    refine zw_callI (as := [.ref a1, .int (zI σ b2 (Int32.toNatClampNeg x3))]) (rest := []) zM_X0_putFolders dX0_putFolders_31 (zx_calV zC_0_119) zM_X5_firstNameOf rfl rfl rfl rfl rfl (zx_args0 hk9 rfl) rfl h (fun v11 σ10 h => ?_)
    refine zw_go (pc1 := 36) (L1 := [some (.ref a0), some (.ref a1), some (.ref a2), some (.int x3), some (.int (zI σ b2 (Int32.toNatClampNeg x3))), some (.int v8), some (.int v11)]) (st1 := []) (σ1 := σ10) zM_X0_putFolders dX0_putFolders_34 rfl rfl rfl rfl ?_
    exact zw_weak2 h ⟨rfl, rfl, rfl, rfl, rfl, rfl, trivial⟩
set_option maxHeartbeats 4000000 in
set_option maxRecDepth 100000 in
theorem vc_X0_putFolders_36 (a0 : Nat) (a1 : Nat) (a2 : Nat) (x3 : Int32) (x5 : Int32) (x6 : Int32) (σ : zx_S) (K : zx_S → Prop) (h : ((x5 ≤ x6 → zwV 14 2 [some (.ref a0), some (.ref a1), some (.ref a2), some (.int (x3 + Int32.ofInt 1)), none, none, none] [] σ K) ∧ (¬ x5 ≤ x6 → zK σ a1 = 18 ∧ zwI 104 0 [some (.ref a1), some (.int x6)] [] σ (fun v3 σ2 => zK σ2 a2 = 14 ∧ zwV 40 0 [some (.ref a2), some (.int v3)] [] σ2 (fun σ5 => zK σ5 a0 = 13 ∧ ∃ b7 : Nat, zR σ5 a0 1 = some b7 ∧ zK σ5 a1 = 18 ∧ ∃ b10 : Nat, zR σ5 a1 8 = some b10 ∧ zK σ5 b10 = 1 ∧ zx_in x6 (zN σ5 b10) = true ∧ zK σ5 b7 = 1 ∧ zx_in (zI σ5 b10 (Int32.toNatClampNeg x6)) (zN σ5 b7) = true ∧ zK σ5 a2 = 14 ∧ zwV 40 0 [some (.ref a2), some (.int (zI σ5 b7 (Int32.toNatClampNeg (zI σ5 b10 (Int32.toNatClampNeg x6)))))] [] σ5 (fun σ17 => zwV 14 36 [some (.ref a0), some (.ref a1), some (.ref a2), some (.int x3), none, some (.int x5), some (.int (x6 + Int32.ofInt 1))] [] σ17 K)))))) : zwV 14 36 [some (.ref a0), some (.ref a1), some (.ref a2), some (.int x3), none, some (.int x5), some (.int x6)] [] σ K := by
  refine zw_go (pc1 := 38) (L1 := [some (.ref a0), some (.ref a1), some (.ref a2), some (.int x3), none, some (.int x5), some (.int x6)]) (st1 := [.int x6]) (σ1 := σ) zM_X0_putFolders dX0_putFolders_36 rfl rfl rfl rfl ?_
  refine zw_go (pc1 := 40) (L1 := [some (.ref a0), some (.ref a1), some (.ref a2), some (.int x3), none, some (.int x5), some (.int x6)]) (st1 := [.int x5, .int x6]) (σ1 := σ) zM_X0_putFolders dX0_putFolders_38 rfl rfl rfl rfl ?_
  refine zw_icmp_ge (tgt := 75) zM_X0_putFolders dX0_putFolders_40 rfl rfl (fun q => ?_) (fun q => ?_)
  · replace h := h.1 q
    refine zw_go (pc1 := 78) (L1 := [some (.ref a0), some (.ref a1), some (.ref a2), some (.int (x3 + Int32.ofInt 1)), none, some (.int x5), some (.int x6)]) (st1 := []) (σ1 := σ) zM_X0_putFolders dX0_putFolders_75 rfl rfl rfl rfl ?_
    refine zw_goto (tgt := 2) zM_X0_putFolders dX0_putFolders_78 rfl ?_
    exact zw_weak2 h ⟨rfl, rfl, rfl, rfl, trivial⟩
  · replace h := h.2 q
    refine zw_go (pc1 := 44) (L1 := [some (.ref a0), some (.ref a1), some (.ref a2), some (.int x3), none, some (.int x5), some (.int x6)]) (st1 := [.ref a2]) (σ1 := σ) zM_X0_putFolders dX0_putFolders_43 rfl rfl rfl rfl ?_
    refine zw_go (pc1 := 45) (L1 := [some (.ref a0), some (.ref a1), some (.ref a2), some (.int x3), none, some (.int x5), some (.int x6)]) (st1 := [.ref a1, .ref a2]) (σ1 := σ) zM_X0_putFolders dX0_putFolders_44 rfl rfl rfl rfl ?_
    refine zw_go (pc1 := 47) (L1 := [some (.ref a0), some (.ref a1), some (.ref a2), some (.int x3), none, some (.int x5), some (.int x6)]) (st1 := [.int x6, .ref a1, .ref a2]) (σ1 := σ) zM_X0_putFolders dX0_putFolders_45 rfl rfl rfl rfl ?_
    obtain ⟨hk1, h⟩ := h
    refine zw_callI (as := [.ref a1, .int x6]) (rest := [.ref a2]) zM_X0_putFolders dX0_putFolders_47 (zx_calV zC_0_188) zM_X5_nameAt rfl rfl rfl rfl rfl (zx_args0 hk1 rfl) rfl h (fun v3 σ2 h => ?_)
    obtain ⟨hk4, h⟩ := h
    refine zw_callV (as := [.ref a2, .int v3]) (rest := []) zM_X0_putFolders dX0_putFolders_50 (zx_calV zC_0_130) zM_X1_putWord rfl rfl rfl rfl rfl (zx_args0 hk4 rfl) rfl h (fun σ5 h => ?_)
    refine zw_go (pc1 := 54) (L1 := [some (.ref a0), some (.ref a1), some (.ref a2), some (.int x3), none, some (.int x5), some (.int x6)]) (st1 := [.ref a2]) (σ1 := σ5) zM_X0_putFolders dX0_putFolders_53 rfl rfl rfl rfl ?_
    refine zw_go (pc1 := 55) (L1 := [some (.ref a0), some (.ref a1), some (.ref a2), some (.int x3), none, some (.int x5), some (.int x6)]) (st1 := [.ref a0, .ref a2]) (σ1 := σ5) zM_X0_putFolders dX0_putFolders_54 rfl rfl rfl rfl ?_
    obtain ⟨hk6, h⟩ := h
    obtain ⟨b7, hr8, h⟩ := h
    refine zw_getR (a := b7) zM_X0_putFolders dX0_putFolders_55 zF_0_18 rfl hk6 hr8 ?_
    refine zw_go (pc1 := 59) (L1 := [some (.ref a0), some (.ref a1), some (.ref a2), some (.int x3), none, some (.int x5), some (.int x6)]) (st1 := [.ref a1, .ref b7, .ref a2]) (σ1 := σ5) zM_X0_putFolders dX0_putFolders_58 rfl rfl rfl rfl ?_
    obtain ⟨hk9, h⟩ := h
    obtain ⟨b10, hr11, h⟩ := h
    refine zw_getR (a := b10) zM_X0_putFolders dX0_putFolders_59 zF_0_123 rfl hk9 hr11 ?_
    refine zw_go (pc1 := 64) (L1 := [some (.ref a0), some (.ref a1), some (.ref a2), some (.int x3), none, some (.int x5), some (.int x6)]) (st1 := [.int x6, .ref b10, .ref b7, .ref a2]) (σ1 := σ5) zM_X0_putFolders dX0_putFolders_62 rfl rfl rfl rfl ?_
    obtain ⟨hk12, h⟩ := h
    obtain ⟨hi13, h⟩ := h
    refine zw_iald zM_X0_putFolders dX0_putFolders_64 ⟨Or.inl hk12, hi13⟩ ?_
    obtain ⟨hk14, h⟩ := h
    obtain ⟨hi15, h⟩ := h
    refine zw_iald zM_X0_putFolders dX0_putFolders_65 ⟨Or.inl hk14, hi15⟩ ?_
    obtain ⟨hk16, h⟩ := h
    refine zw_callV (as := [.ref a2, .int (zI σ5 b7 (Int32.toNatClampNeg (zI σ5 b10 (Int32.toNatClampNeg x6))))]) (rest := []) zM_X0_putFolders dX0_putFolders_66 (zx_calV zC_0_130) zM_X1_putWord rfl rfl rfl rfl rfl (zx_args0 hk16 rfl) rfl h (fun σ17 h => ?_)
    refine zw_go (pc1 := 72) (L1 := [some (.ref a0), some (.ref a1), some (.ref a2), some (.int x3), none, some (.int x5), some (.int (x6 + Int32.ofInt 1))]) (st1 := []) (σ1 := σ17) zM_X0_putFolders dX0_putFolders_69 rfl rfl rfl rfl ?_
    refine zw_goto (tgt := 36) zM_X0_putFolders dX0_putFolders_72 rfl ?_
    exact zw_weak2 h ⟨rfl, rfl, rfl, rfl, rfl, rfl, trivial⟩
set_option maxHeartbeats 4000000 in
set_option maxRecDepth 100000 in
theorem vc_X0_putHead_0 (a0 : Nat) (x1 : Int32) (a2 : Nat) (σ : zx_S) (K : zx_S → Prop) (h : zK σ a2 = 14 ∧ ∀ σ2 : zx_S, σ2 = zx_pI σ a2 1 0 → zwV 38 0 [some (.ref a2), some (.int 84)] [] σ2 (fun σ4 => zK σ4 a2 = 14 ∧ zwV 38 0 [some (.ref a2), some (.int 73)] [] σ4 (fun σ6 => zK σ6 a2 = 14 ∧ zwV 38 0 [some (.ref a2), some (.int x1)] [] σ6 (fun σ8 => zK σ8 a2 = 14 ∧ zwV 38 0 [some (.ref a2), some (.int 0)] [] σ8 (fun σ10 => zK σ10 a0 = 13 ∧ zK σ10 a2 = 14 ∧ zwV 40 0 [some (.ref a2), some (.int (zI σ10 a0 13))] [] σ10 (fun σ13 => zwV 15 38 [none, none, some (.ref a2), some (.int 6)] [] σ13 K)))))) : zwV 15 0 [some (.ref a0), some (.int x1), some (.ref a2), none] [] σ K := by
  refine zw_go (pc1 := 1) (L1 := [some (.ref a0), some (.int x1), some (.ref a2), none]) (st1 := [.ref a2]) (σ1 := σ) zM_X0_putHead dX0_putHead_0 rfl rfl rfl rfl ?_
  refine zw_iconst (v := 0) zM_X0_putHead dX0_putHead_1 (by decide) ?_
  obtain ⟨hk1, h⟩ := h
  obtain ⟨σ2, e3⟩ : ∃ z9 : zx_S, z9 = zx_pI σ a2 1 0 := ⟨_, rfl⟩
  replace h := h σ2 e3
  refine zw_putI zM_X0_putHead dX0_putHead_2 zF_0_70 rfl rfl hk1 e3 ?_
  refine zw_go (pc1 := 6) (L1 := [some (.ref a0), some (.int x1), some (.ref a2), none]) (st1 := [.ref a2]) (σ1 := σ2) zM_X0_putHead dX0_putHead_5 rfl rfl rfl rfl ?_
  refine zw_bipush (v := 84) zM_X0_putHead dX0_putHead_6 (by decide) ?_
  refine zw_callV (as := [.ref a2, .int 84]) (rest := []) zM_X0_putHead dX0_putHead_8 (zx_calV zC_0_126) zM_X1_putByte rfl rfl rfl rfl rfl (zx_args0 (by rw [e3]; exact hk1) rfl) rfl h (fun σ4 h => ?_)
  refine zw_go (pc1 := 12) (L1 := [some (.ref a0), some (.int x1), some (.ref a2), none]) (st1 := [.ref a2]) (σ1 := σ4) zM_X0_putHead dX0_putHead_11 rfl rfl rfl rfl ?_
  refine zw_bipush (v := 73) zM_X0_putHead dX0_putHead_12 (by decide) ?_
  obtain ⟨hk5, h⟩ := h
  refine zw_callV (as := [.ref a2, .int 73]) (rest := []) zM_X0_putHead dX0_putHead_14 (zx_calV zC_0_126) zM_X1_putByte rfl rfl rfl rfl rfl (zx_args0 hk5 rfl) rfl h (fun σ6 h => ?_)
  refine zw_go (pc1 := 18) (L1 := [some (.ref a0), some (.int x1), some (.ref a2), none]) (st1 := [.ref a2]) (σ1 := σ6) zM_X0_putHead dX0_putHead_17 rfl rfl rfl rfl ?_
  refine zw_go (pc1 := 19) (L1 := [some (.ref a0), some (.int x1), some (.ref a2), none]) (st1 := [.int x1, .ref a2]) (σ1 := σ6) zM_X0_putHead dX0_putHead_18 rfl rfl rfl rfl ?_
  obtain ⟨hk7, h⟩ := h
  refine zw_callV (as := [.ref a2, .int x1]) (rest := []) zM_X0_putHead dX0_putHead_19 (zx_calV zC_0_126) zM_X1_putByte rfl rfl rfl rfl rfl (zx_args0 hk7 rfl) rfl h (fun σ8 h => ?_)
  refine zw_go (pc1 := 23) (L1 := [some (.ref a0), some (.int x1), some (.ref a2), none]) (st1 := [.ref a2]) (σ1 := σ8) zM_X0_putHead dX0_putHead_22 rfl rfl rfl rfl ?_
  refine zw_iconst (v := 0) zM_X0_putHead dX0_putHead_23 (by decide) ?_
  obtain ⟨hk9, h⟩ := h
  refine zw_callV (as := [.ref a2, .int 0]) (rest := []) zM_X0_putHead dX0_putHead_24 (zx_calV zC_0_126) zM_X1_putByte rfl rfl rfl rfl rfl (zx_args0 hk9 rfl) rfl h (fun σ10 h => ?_)
  refine zw_go (pc1 := 28) (L1 := [some (.ref a0), some (.int x1), some (.ref a2), none]) (st1 := [.ref a2]) (σ1 := σ10) zM_X0_putHead dX0_putHead_27 rfl rfl rfl rfl ?_
  refine zw_go (pc1 := 29) (L1 := [some (.ref a0), some (.int x1), some (.ref a2), none]) (st1 := [.ref a0, .ref a2]) (σ1 := σ10) zM_X0_putHead dX0_putHead_28 rfl rfl rfl rfl ?_
  obtain ⟨hk11, h⟩ := h
  refine zw_getI zM_X0_putHead dX0_putHead_29 zF_0_107 rfl hk11 ?_
  obtain ⟨hk12, h⟩ := h
  refine zw_callV (as := [.ref a2, .int (zI σ10 a0 13)]) (rest := []) zM_X0_putHead dX0_putHead_32 (zx_calV zC_0_130) zM_X1_putWord rfl rfl rfl rfl rfl (zx_args0 hk12 rfl) rfl h (fun σ13 h => ?_)
  refine zw_bipush (v := 6) zM_X0_putHead dX0_putHead_35 (by decide) ?_
  refine zw_go (pc1 := 38) (L1 := [some (.ref a0), some (.int x1), some (.ref a2), some (.int 6)]) (st1 := []) (σ1 := σ13) zM_X0_putHead dX0_putHead_37 rfl rfl rfl rfl ?_
  exact zw_weak2 h ⟨rfl, rfl, trivial⟩
set_option maxHeartbeats 4000000 in
set_option maxRecDepth 100000 in
theorem vc_X0_putHead_38 (a2 : Nat) (x3 : Int32) (σ : zx_S) (K : zx_S → Prop) (h : (((18 : Int32) ≤ x3 → K σ) ∧ (¬ (18 : Int32) ≤ x3 → zK σ a2 = 14 ∧ zwV 40 0 [some (.ref a2), some (.int 0)] [] σ (fun σ2 => zwV 15 38 [none, none, some (.ref a2), some (.int (x3 + Int32.ofInt 2))] [] σ2 K)))) : zwV 15 38 [none, none, some (.ref a2), some (.int x3)] [] σ K := by
  refine zw_go (pc1 := 39) (L1 := [none, none, some (.ref a2), some (.int x3)]) (st1 := [.int x3]) (σ1 := σ) zM_X0_putHead dX0_putHead_38 rfl rfl rfl rfl ?_
  refine zw_bipush (v := 18) zM_X0_putHead dX0_putHead_39 (by decide) ?_
  refine zw_icmp_ge (tgt := 55) zM_X0_putHead dX0_putHead_41 rfl rfl (fun q => ?_) (fun q => ?_)
  · replace h := h.1 q
    exact zw_retv zM_X0_putHead dX0_putHead_55 rfl h
  · replace h := h.2 q
    refine zw_go (pc1 := 45) (L1 := [none, none, some (.ref a2), some (.int x3)]) (st1 := [.ref a2]) (σ1 := σ) zM_X0_putHead dX0_putHead_44 rfl rfl rfl rfl ?_
    refine zw_iconst (v := 0) zM_X0_putHead dX0_putHead_45 (by decide) ?_
    obtain ⟨hk1, h⟩ := h
    refine zw_callV (as := [.ref a2, .int 0]) (rest := []) zM_X0_putHead dX0_putHead_46 (zx_calV zC_0_130) zM_X1_putWord rfl rfl rfl rfl rfl (zx_args0 hk1 rfl) rfl h (fun σ2 h => ?_)
    refine zw_go (pc1 := 52) (L1 := [none, none, some (.ref a2), some (.int (x3 + Int32.ofInt 2))]) (st1 := []) (σ1 := σ2) zM_X0_putHead dX0_putHead_49 rfl rfl rfl rfl ?_
    refine zw_goto (tgt := 38) zM_X0_putHead dX0_putHead_52 rfl ?_
    exact zw_weak2 h ⟨rfl, rfl, trivial⟩
