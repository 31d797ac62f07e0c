set_option maxHeartbeats 4000000 in
set_option maxRecDepth 100000 in
theorem vd_X6_addBelow_0 (x1 : Int) (r_x1 : jW x1) (x2 : Int) (r_x2 : jW x2) (x3 : Int) (r_x3 : jW x3) (E : jE) (A : jA) (K : Int → jA → Prop) (h : jrI 101 0 [some (.ref 2), some (.int (jI x1))] [] E A (fun v3 A1 => ((¬ v3 = (0 : Int) → jrI 124 0 [some (.int (jI x2))] [] E A1 (fun v7 A5 => ((¬ v7 = (0 : Int) → jrI 107 0 [some (.ref 2), some (.int (jI x1)), some (.int (jI x2)), none, none] [] E A5 (fun v11 A9 => ((¬ v11 = (0 : Int) → (((A9 2 9) < (32 : Int) → jrI 97 0 [some (.ref 2), some (.int (jI x1)), some (.int (jI x2)), some (.int (jI x3)), none] [] E A9 (fun v15 A13 => K v15 A13)) ∧ ((32 : Int) ≤ (A9 2 9) → K (-4) A9))) ∧ (v11 = (0 : Int) → K (-3) A9)))) ∧ (v7 = (0 : Int) → K (-2) A5)))) ∧ (v3 = (0 : Int) → K (-1) A1)))) : jrI 108 0 [some (.ref 1), some (.int (jI x1)), some (.int (jI x2)), some (.int (jI x3))] [] E A K := by
  intro hA
  refine zw_go (pc1 := 1) (L1 := [some (.ref 1), some (.int (jI x1)), some (.int (jI x2)), some (.int (jI x3))]) (st1 := [.ref 1]) (σ1 := js E A) zM_X6_addBelow dX6_addBelow_0 rfl rfl rfl rfl ?_
  refine jw_getR (a := 2) zM_X6_addBelow dX6_addBelow_1 zF_6_12 rfl rfl rfl ?_
  refine zw_go (pc1 := 5) (L1 := [some (.ref 1), some (.int (jI x1)), some (.int (jI x2)), some (.int (jI x3))]) (st1 := [.int (jI x1), .ref 2]) (σ1 := js E A) zM_X6_addBelow dX6_addBelow_4 rfl rfl rfl rfl ?_
  refine jw_callI (as := [.ref 2, .int (jI x1)]) (rest := []) zM_X6_addBelow dX6_addBelow_5 (zx_calV zC_6_54) zM_X5_hasNode rfl rfl rfl rfl rfl (j_args0 rfl rfl) rfl hA h (fun v3 A1 rv4 hA2 h => ?_)
  refine jw_if_ne (tgt := 13) zM_X6_addBelow dX6_addBelow_8 rfl rv4 (fun q => ?_) (fun q => ?_)
  · replace h := h.1 q
    refine zw_go (pc1 := 14) (L1 := [some (.ref 1), some (.int (jI x1)), some (.int (jI x2)), some (.int (jI x3))]) (st1 := [.int (jI x2)]) (σ1 := js E A1) zM_X6_addBelow dX6_addBelow_13 rfl rfl rfl rfl ?_
    refine jw_callI (as := [.int (jI x2)]) (rest := []) zM_X6_addBelow dX6_addBelow_14 (zx_calS zC_6_58) zM_X6_isName rfl rfl rfl rfl rfl rfl rfl hA2 h (fun v7 A5 rv8 hA6 h => ?_)
    refine jw_if_ne (tgt := 23) zM_X6_addBelow dX6_addBelow_17 rfl rv8 (fun q => ?_) (fun q => ?_)
    · replace h := h.1 q
      refine zw_go (pc1 := 24) (L1 := [some (.ref 1), some (.int (jI x1)), some (.int (jI x2)), some (.int (jI x3))]) (st1 := [.ref 1]) (σ1 := js E A5) zM_X6_addBelow dX6_addBelow_23 rfl rfl rfl rfl ?_
      refine jw_getR (a := 2) zM_X6_addBelow dX6_addBelow_24 zF_6_12 rfl rfl rfl ?_
      refine zw_go (pc1 := 28) (L1 := [some (.ref 1), some (.int (jI x1)), some (.int (jI x2)), some (.int (jI x3))]) (st1 := [.int (jI x1), .ref 2]) (σ1 := js E A5) zM_X6_addBelow dX6_addBelow_27 rfl rfl rfl rfl ?_
      refine zw_go (pc1 := 29) (L1 := [some (.ref 1), some (.int (jI x1)), some (.int (jI x2)), some (.int (jI x3))]) (st1 := [.int (jI x2), .int (jI x1), .ref 2]) (σ1 := js E A5) zM_X6_addBelow dX6_addBelow_28 rfl rfl rfl rfl ?_
      refine jw_callI (as := [.ref 2, .int (jI x1), .int (jI x2)]) (rest := []) zM_X6_addBelow dX6_addBelow_29 (zx_calV zC_6_61) zM_X5_takesName rfl rfl rfl rfl rfl (j_args0 rfl rfl) rfl hA6 h (fun v11 A9 rv12 hA10 h => ?_)
      refine jw_if_ne (tgt := 38) zM_X6_addBelow dX6_addBelow_32 rfl rv12 (fun q => ?_) (fun q => ?_)
      · replace h := h.1 q
        refine zw_go (pc1 := 39) (L1 := [some (.ref 1), some (.int (jI x1)), some (.int (jI x2)), some (.int (jI x3))]) (st1 := [.ref 1]) (σ1 := js E A9) zM_X6_addBelow dX6_addBelow_38 rfl rfl rfl rfl ?_
        refine jw_getR (a := 2) zM_X6_addBelow dX6_addBelow_39 zF_6_12 rfl rfl rfl ?_
        refine jw_getI zM_X6_addBelow dX6_addBelow_42 zF_6_90 rfl rfl rfl ?_
        refine jw_bipush (v := 32) zM_X6_addBelow dX6_addBelow_45 (by decide) ?_
        refine jw_icmp_lt (tgt := 53) zM_X6_addBelow dX6_addBelow_47 rfl (hA10 2 9) (show jW 32 from ⟨by decide, by decide⟩) (fun q => ?_) (fun q => ?_)
        · replace h := h.1 q
          refine zw_go (pc1 := 54) (L1 := [some (.ref 1), some (.int (jI x1)), some (.int (jI x2)), some (.int (jI x3))]) (st1 := [.ref 1]) (σ1 := js E A9) zM_X6_addBelow dX6_addBelow_53 rfl rfl rfl rfl ?_
          refine jw_getR (a := 2) zM_X6_addBelow dX6_addBelow_54 zF_6_12 rfl rfl rfl ?_
          refine zw_go (pc1 := 58) (L1 := [some (.ref 1), some (.int (jI x1)), some (.int (jI x2)), some (.int (jI x3))]) (st1 := [.int (jI x1), .ref 2]) (σ1 := js E A9) zM_X6_addBelow dX6_addBelow_57 rfl rfl rfl rfl ?_
          refine zw_go (pc1 := 59) (L1 := [some (.ref 1), some (.int (jI x1)), some (.int (jI x2)), some (.int (jI x3))]) (st1 := [.int (jI x2), .int (jI x1), .ref 2]) (σ1 := js E A9) zM_X6_addBelow dX6_addBelow_58 rfl rfl rfl rfl ?_
          refine zw_go (pc1 := 60) (L1 := [some (.ref 1), some (.int (jI x1)), some (.int (jI x2)), some (.int (jI x3))]) (st1 := [.int (jI x3), .int (jI x2), .int (jI x1), .ref 2]) (σ1 := js E A9) zM_X6_addBelow dX6_addBelow_59 rfl rfl rfl rfl ?_
          refine jw_callI (as := [.ref 2, .int (jI x1), .int (jI x2), .int (jI x3)]) (rest := []) zM_X6_addBelow dX6_addBelow_60 (zx_calV zC_6_208) zM_X5_addNode rfl rfl rfl rfl rfl (j_args0 rfl rfl) rfl hA10 h (fun v15 A13 rv16 hA14 h => ?_)
          exact jw_reti zM_X6_addBelow dX6_addBelow_63 rfl rv16 hA14 h
        · replace h := h.2 q
          refine jw_bipush (v := (-4)) zM_X6_addBelow dX6_addBelow_50 (by decide) ?_
          exact jw_reti zM_X6_addBelow dX6_addBelow_52 rfl (show jW (-4) from ⟨by decide, by decide⟩) hA10 h
      · replace h := h.2 q
        refine jw_bipush (v := (-3)) zM_X6_addBelow dX6_addBelow_35 (by decide) ?_
        exact jw_reti zM_X6_addBelow dX6_addBelow_37 rfl (show jW (-3) from ⟨by decide, by decide⟩) hA10 h
    · replace h := h.2 q
      refine jw_bipush (v := (-2)) zM_X6_addBelow dX6_addBelow_20 (by decide) ?_
      exact jw_reti zM_X6_addBelow dX6_addBelow_22 rfl (show jW (-2) from ⟨by decide, by decide⟩) hA6 h
  · replace h := h.2 q
    refine jw_iconst (v := (-1)) zM_X6_addBelow dX6_addBelow_11 rfl ?_
    exact jw_reti zM_X6_addBelow dX6_addBelow_12 rfl (show jW (-1) from ⟨by decide, by decide⟩) hA2 h
set_option maxHeartbeats 4000000 in
set_option maxRecDepth 100000 in
theorem vd_X6_bare_0  (E : jE) (A : jA) (K : Int → jA → Prop) (h : jrI 86 0 [some (.ref 38), none] [] E A (fun v3 A1 => K v3 A1)) : jrI 109 0 [some (.ref 1)] [] E A K := by
  intro hA
  refine zw_go (pc1 := 1) (L1 := [some (.ref 1)]) (st1 := [.ref 1]) (σ1 := js E A) zM_X6_bare dX6_bare_0 rfl rfl rfl rfl ?_
  refine jw_getR (a := 38) zM_X6_bare dX6_bare_1 zF_6_46 rfl rfl rfl ?_
  refine jw_callI (as := [.ref 38]) (rest := []) zM_X6_bare dX6_bare_4 (zx_calV zC_6_173) zM_X3_takeAway rfl rfl rfl rfl rfl (j_args0 rfl rfl) rfl hA h (fun v3 A1 rv4 hA2 h => ?_)
  exact jw_reti zM_X6_bare dX6_bare_7 rfl rv4 hA2 h
set_option maxHeartbeats 4000000 in
set_option maxRecDepth 100000 in
theorem vd_X6_build_0 (x1 : Int) (r_x1 : jW x1) (E : jE) (A : jA) (K : Int → jA → Prop) (h : jrI 123 0 [some (.int (jI x1))] [] E A (fun v3 A1 => ((¬ v3 = (0 : Int) → (((A1 1 6) < (3 : Int) → (0 ≤ (A1 1 6) ∧ (A1 1 6) < 3) ∧ jrV 3 0 [some (.ref 21), some (.ref 2), some (.int (jI x1)), some (.ref (13 + 2 * (A1 1 6).toNat))] [] E A1 (fun A6 => jW ((A6 1 6) + 1) ∧ ∀ A9 : jA, A9 = jup A6 1 6 ((A6 1 6) + 1) → jW ((A9 1 6) - 1) ∧ K ((A9 1 6) - 1) A9)) ∧ ((3 : Int) ≤ (A1 1 6) → K (-4) A1))) ∧ (v3 = (0 : Int) → K (-2) A1)))) : jrI 110 0 [some (.ref 1), some (.int (jI x1))] [] E A K := by
  intro hA
  refine zw_go (pc1 := 1) (L1 := [some (.ref 1), some (.int (jI x1))]) (st1 := [.int (jI x1)]) (σ1 := js E A) zM_X6_build dX6_build_0 rfl rfl rfl rfl ?_
  refine jw_callI (as := [.int (jI x1)]) (rest := []) zM_X6_build dX6_build_1 (zx_calS zC_6_97) zM_X6_isBlock rfl rfl rfl rfl rfl rfl rfl hA h (fun v3 A1 rv4 hA2 h => ?_)
  refine jw_if_ne (tgt := 10) zM_X6_build dX6_build_4 rfl rv4 (fun q => ?_) (fun q => ?_)
  · replace h := h.1 q
    refine zw_go (pc1 := 11) (L1 := [some (.ref 1), some (.int (jI x1))]) (st1 := [.ref 1]) (σ1 := js E A1) zM_X6_build dX6_build_10 rfl rfl rfl rfl ?_
    refine jw_getI zM_X6_build dX6_build_11 zF_6_100 rfl rfl rfl ?_
    refine jw_iconst (v := 3) zM_X6_build dX6_build_14 rfl ?_
    refine jw_icmp_lt (tgt := 21) zM_X6_build dX6_build_15 rfl (hA2 1 6) (show jW 3 from ⟨by decide, by decide⟩) (fun q => ?_) (fun q => ?_)
    · replace h := h.1 q
      refine zw_go (pc1 := 22) (L1 := [some (.ref 1), some (.int (jI x1))]) (st1 := [.ref 1]) (σ1 := js E A1) zM_X6_build dX6_build_21 rfl rfl rfl rfl ?_
      refine jw_getR (a := 21) zM_X6_build dX6_build_22 zF_6_32 rfl rfl rfl ?_
      refine zw_go (pc1 := 26) (L1 := [some (.ref 1), some (.int (jI x1))]) (st1 := [.ref 1, .ref 21]) (σ1 := js E A1) zM_X6_build dX6_build_25 rfl rfl rfl rfl ?_
      refine jw_getR (a := 2) zM_X6_build dX6_build_26 zF_6_12 rfl rfl rfl ?_
      refine zw_go (pc1 := 30) (L1 := [some (.ref 1), some (.int (jI x1))]) (st1 := [.int (jI x1), .ref 2, .ref 21]) (σ1 := js E A1) zM_X6_build dX6_build_29 rfl rfl rfl rfl ?_
      refine zw_go (pc1 := 31) (L1 := [some (.ref 1), some (.int (jI x1))]) (st1 := [.ref 1, .int (jI x1), .ref 2, .ref 21]) (σ1 := js E A1) zM_X6_build dX6_build_30 rfl rfl rfl rfl ?_
      refine jw_getR (a := 12) zM_X6_build dX6_build_31 zF_6_18 rfl rfl rfl ?_
      refine zw_go (pc1 := 35) (L1 := [some (.ref 1), some (.int (jI x1))]) (st1 := [.ref 1, .ref 12, .int (jI x1), .ref 2, .ref 21]) (σ1 := js E A1) zM_X6_build dX6_build_34 rfl rfl rfl rfl ?_
      refine jw_getI zM_X6_build dX6_build_35 zF_6_100 rfl rfl rfl ?_
      obtain ⟨hi5, h⟩ := h
      refine jw_aald zM_X6_build dX6_build_38 hi5 ?_
      refine jw_callV (as := [.ref 21, .ref 2, .int (jI x1), .ref (13 + 2 * (A1 1 6).toNat)]) (rest := []) zM_X6_build dX6_build_39 (zx_calV zC_6_103) zM_X0_become rfl rfl rfl rfl rfl (j_args0 rfl rfl) rfl hA2 h (fun A6 hA7 h => ?_)
      refine zw_go (pc1 := 43) (L1 := [some (.ref 1), some (.int (jI x1))]) (st1 := [.ref 1]) (σ1 := js E A6) zM_X6_build dX6_build_42 rfl rfl rfl rfl ?_
      refine zw_go (pc1 := 44) (L1 := [some (.ref 1), some (.int (jI x1))]) (st1 := [.ref 1, .ref 1]) (σ1 := js E A6) zM_X6_build dX6_build_43 rfl rfl rfl rfl ?_
      refine jw_getI zM_X6_build dX6_build_44 zF_6_100 rfl rfl rfl ?_
      refine jw_iconst (v := 1) zM_X6_build dX6_build_47 rfl ?_
      refine jw_add zM_X6_build dX6_build_48 ?_
      obtain ⟨hw8, h⟩ := h
      obtain ⟨A9, e10⟩ : ∃ z9 : jA, z9 = jup A6 1 6 ((A6 1 6) + 1) := ⟨_, rfl⟩
      replace h := h A9 e10
      have hA11 : jOK A9 := jOK.up hA7 hw8 e10
      refine jw_putI zM_X6_build dX6_build_49 zF_6_100 rfl rfl rfl rfl e10 ?_
      refine zw_go (pc1 := 53) (L1 := [some (.ref 1), some (.int (jI x1))]) (st1 := [.ref 1]) (σ1 := js E A9) zM_X6_build dX6_build_52 rfl rfl rfl rfl ?_
      refine jw_getI zM_X6_build dX6_build_53 zF_6_100 rfl rfl rfl ?_
      refine jw_iconst (v := 1) zM_X6_build dX6_build_56 rfl ?_
      refine jw_sub zM_X6_build dX6_build_57 ?_
      obtain ⟨hw12, h⟩ := h
      exact jw_reti zM_X6_build dX6_build_58 rfl hw12 hA11 h
    · replace h := h.2 q
      refine jw_bipush (v := (-4)) zM_X6_build dX6_build_18 (by decide) ?_
      exact jw_reti zM_X6_build dX6_build_20 rfl (show jW (-4) from ⟨by decide, by decide⟩) hA2 h
  · replace h := h.2 q
    refine jw_bipush (v := (-2)) zM_X6_build dX6_build_7 (by decide) ?_
    exact jw_reti zM_X6_build dX6_build_9 rfl (show jW (-2) from ⟨by decide, by decide⟩) hA2 h
set_option maxHeartbeats 4000000 in
set_option maxRecDepth 100000 in
theorem vd_X6_clear_0  (E : jE) (A : jA) (K : Int → jA → Prop) (h : jrV 105 0 [some (.ref 2)] [] E A (fun A1 => K (A 2 9) A1)) : jrI 111 0 [some (.ref 1), none] [] E A K := by
  intro hA
  refine zw_go (pc1 := 1) (L1 := [some (.ref 1), none]) (st1 := [.ref 1]) (σ1 := js E A) zM_X6_clear dX6_clear_0 rfl rfl rfl rfl ?_
  refine jw_getR (a := 2) zM_X6_clear dX6_clear_1 zF_6_12 rfl rfl rfl ?_
  refine jw_getI zM_X6_clear dX6_clear_4 zF_6_90 rfl rfl rfl ?_
  refine zw_go (pc1 := 8) (L1 := [some (.ref 1), some (.int (jI (A 2 9)))]) (st1 := []) (σ1 := js E A) zM_X6_clear dX6_clear_7 rfl rfl rfl rfl ?_
  refine zw_go (pc1 := 9) (L1 := [some (.ref 1), some (.int (jI (A 2 9)))]) (st1 := [.ref 1]) (σ1 := js E A) zM_X6_clear dX6_clear_8 rfl rfl rfl rfl ?_
  refine jw_getR (a := 2) zM_X6_clear dX6_clear_9 zF_6_12 rfl rfl rfl ?_
  refine jw_callV (as := [.ref 2]) (rest := []) zM_X6_clear dX6_clear_12 (zx_calV zC_6_94) zM_X5_reset rfl rfl rfl rfl rfl (j_args0 rfl rfl) rfl hA h (fun A1 hA2 h => ?_)
  refine zw_go (pc1 := 16) (L1 := [some (.ref 1), some (.int (jI (A 2 9)))]) (st1 := [.int (jI (A 2 9))]) (σ1 := js E A1) zM_X6_clear dX6_clear_15 rfl rfl rfl rfl ?_
  exact jw_reti zM_X6_clear dX6_clear_16 rfl (hA 2 9) hA2 h
set_option maxHeartbeats 4000000 in
set_option maxRecDepth 100000 in
theorem vd_X6_count_0 (x1 : Int) (r_x1 : jW x1) (E : jE) (A : jA) (K : Int → jA → Prop) (h : ((x1 = 0 → K (A 2 9) A) ∧ (¬ x1 = 0 → ((x1 = 1 → K (A 1 6) A) ∧ (¬ x1 = 1 → ((x1 = 2 → K (A 38 10) A) ∧ (¬ x1 = 2 → ((x1 = 3 → K (A 38 11) A) ∧ (¬ x1 = 3 → ((x1 = 4 → K (A 19 1) A) ∧ (¬ x1 = 4 → K (-2) A))))))))))) : jrI 112 0 [some (.ref 1), some (.int (jI x1))] [] E A K := by
  intro hA
  refine zw_go (pc1 := 1) (L1 := [some (.ref 1), some (.int (jI x1))]) (st1 := [.int (jI x1)]) (σ1 := js E A) zM_X6_count dX6_count_0 rfl rfl rfl rfl ?_
  by_cases hs1 : x1 = 0
  · replace h := h.1 hs1
    refine zw_sw (tgt := 36) zM_X6_count dX6_count_1 (j_sw_in hs1 rfl) rfl ?_
    refine zw_go (pc1 := 37) (L1 := [some (.ref 1), some (.int (jI x1))]) (st1 := [.ref 1]) (σ1 := js E A) zM_X6_count dX6_count_36 rfl rfl rfl rfl ?_
    refine jw_getR (a := 2) zM_X6_count dX6_count_37 zF_6_12 rfl rfl rfl ?_
    refine jw_getI zM_X6_count dX6_count_40 zF_6_90 rfl rfl rfl ?_
    exact jw_reti zM_X6_count dX6_count_43 rfl (hA 2 9) hA h
  · replace h := h.2 hs1
    by_cases hs2 : x1 = 1
    · replace h := h.1 hs2
      refine zw_sw (tgt := 44) zM_X6_count dX6_count_1 (j_sw_in hs2 rfl) rfl ?_
      refine zw_go (pc1 := 45) (L1 := [some (.ref 1), some (.int (jI x1))]) (st1 := [.ref 1]) (σ1 := js E A) zM_X6_count dX6_count_44 rfl rfl rfl rfl ?_
      refine jw_getI zM_X6_count dX6_count_45 zF_6_100 rfl rfl rfl ?_
      exact jw_reti zM_X6_count dX6_count_48 rfl (hA 1 6) hA h
    · replace h := h.2 hs2
      by_cases hs3 : x1 = 2
      · replace h := h.1 hs3
        refine zw_sw (tgt := 49) zM_X6_count dX6_count_1 (j_sw_in hs3 rfl) rfl ?_
        refine zw_go (pc1 := 50) (L1 := [some (.ref 1), some (.int (jI x1))]) (st1 := [.ref 1]) (σ1 := js E A) zM_X6_count dX6_count_49 rfl rfl rfl rfl ?_
        refine jw_getR (a := 38) zM_X6_count dX6_count_50 zF_6_46 rfl rfl rfl ?_
        refine jw_getI zM_X6_count dX6_count_53 zF_6_202 rfl rfl rfl ?_
        exact jw_reti zM_X6_count dX6_count_56 rfl (hA 38 10) hA h
      · replace h := h.2 hs3
        by_cases hs4 : x1 = 3
        · replace h := h.1 hs4
          refine zw_sw (tgt := 57) zM_X6_count dX6_count_1 (j_sw_in hs4 rfl) rfl ?_
          refine zw_go (pc1 := 58) (L1 := [some (.ref 1), some (.int (jI x1))]) (st1 := [.ref 1]) (σ1 := js E A) zM_X6_count dX6_count_57 rfl rfl rfl rfl ?_
          refine jw_getR (a := 38) zM_X6_count dX6_count_58 zF_6_46 rfl rfl rfl ?_
          refine jw_getI zM_X6_count dX6_count_61 zF_6_205 rfl rfl rfl ?_
          exact jw_reti zM_X6_count dX6_count_64 rfl (hA 38 11) hA h
        · replace h := h.2 hs4
          by_cases hs5 : x1 = 4
          · replace h := h.1 hs5
            refine zw_sw (tgt := 65) zM_X6_count dX6_count_1 (j_sw_in hs5 rfl) rfl ?_
            refine zw_go (pc1 := 66) (L1 := [some (.ref 1), some (.int (jI x1))]) (st1 := [.ref 1]) (σ1 := js E A) zM_X6_count dX6_count_65 rfl rfl rfl rfl ?_
            refine jw_getR (a := 19) zM_X6_count dX6_count_66 zF_6_25 rfl rfl rfl ?_
            refine jw_getI zM_X6_count dX6_count_69 zF_6_107 rfl rfl rfl ?_
            exact jw_reti zM_X6_count dX6_count_72 rfl (hA 19 1) hA h
          · replace h := h.2 hs5
            refine zw_sw (tgt := 73) zM_X6_count dX6_count_1 (j_sw_out r_x1 (by omega)) rfl ?_
            refine jw_bipush (v := (-2)) zM_X6_count dX6_count_73 (by decide) ?_
            exact jw_reti zM_X6_count dX6_count_75 rfl (show jW (-2) from ⟨by decide, by decide⟩) hA h
set_option maxHeartbeats 4000000 in
set_option maxRecDepth 100000 in
theorem vd_X6_data_0 (x1 : Int) (r_x1 : jW x1) (x2 : Int) (r_x2 : jW x2) (x3 : Int) (r_x3 : jW x3) (E : jE) (A : jA) (K : Int → jA → Prop) (h : jrI 101 0 [some (.ref 2), some (.int (jI x1))] [] E A (fun v3 A1 => ((¬ v3 = (0 : Int) → ((x2 < (0 : Int) → K (-2) A1) ∧ ((0 : Int) ≤ x2 → (((255 : Int) < x2 → K (-2) A1) ∧ (x2 ≤ (255 : Int) → ((x3 < (1 : Int) → K (-2) A1) ∧ ((1 : Int) ≤ x3 → ((x3 ≤ (100 : Int) → (0 ≤ x1 ∧ x1 < 32) ∧ (((A1 3 x1) = (2 : Int) → (0 ≤ x1 ∧ x1 < 32) ∧ jW ((A1 8 x1) + x3) ∧ ((((A1 8 x1) + x3) ≤ (100 : Int) → jrI 98 0 [some (.ref 2), some (.int (jI x1)), some (.int (jI x2)), some (.int (jI x3)), none] [] E A1 (fun v10 A8 => K v10 A8)) ∧ ((100 : Int) < ((A1 8 x1) + x3) → K (-4) A1))) ∧ (¬ (A1 3 x1) = (2 : Int) → K (-3) A1))) ∧ ((100 : Int) < x3 → K (-2) A1))))))))) ∧ (v3 = (0 : Int) → K (-1) A1)))) : jrI 113 0 [some (.ref 1), some (.int (jI x1)), some (.int (jI x2)), some (.int (jI x3))] [] E A K := by
  intro hA
  refine zw_go (pc1 := 1) (L1 := [some (.ref 1), some (.int (jI x1)), some (.int (jI x2)), some (.int (jI x3))]) (st1 := [.ref 1]) (σ1 := js E A) zM_X6_data dX6_data_0 rfl rfl rfl rfl ?_
  refine jw_getR (a := 2) zM_X6_data dX6_data_1 zF_6_12 rfl rfl rfl ?_
  refine zw_go (pc1 := 5) (L1 := [some (.ref 1), some (.int (jI x1)), some (.int (jI x2)), some (.int (jI x3))]) (st1 := [.int (jI x1), .ref 2]) (σ1 := js E A) zM_X6_data dX6_data_4 rfl rfl rfl rfl ?_
  refine jw_callI (as := [.ref 2, .int (jI x1)]) (rest := []) zM_X6_data dX6_data_5 (zx_calV zC_6_54) zM_X5_hasNode rfl rfl rfl rfl rfl (j_args0 rfl rfl) rfl hA h (fun v3 A1 rv4 hA2 h => ?_)
  refine jw_if_ne (tgt := 13) zM_X6_data dX6_data_8 rfl rv4 (fun q => ?_) (fun q => ?_)
  · replace h := h.1 q
    refine zw_go (pc1 := 14) (L1 := [some (.ref 1), some (.int (jI x1)), some (.int (jI x2)), some (.int (jI x3))]) (st1 := [.int (jI x2)]) (σ1 := js E A1) zM_X6_data dX6_data_13 rfl rfl rfl rfl ?_
    refine jw_if_lt (tgt := 35) zM_X6_data dX6_data_14 rfl r_x2 (fun q => ?_) (fun q => ?_)
    · replace h := h.1 q
      refine jw_bipush (v := (-2)) zM_X6_data dX6_data_35 (by decide) ?_
      exact jw_reti zM_X6_data dX6_data_37 rfl (show jW (-2) from ⟨by decide, by decide⟩) hA2 h
    · replace h := h.2 q
      refine zw_go (pc1 := 18) (L1 := [some (.ref 1), some (.int (jI x1)), some (.int (jI x2)), some (.int (jI x3))]) (st1 := [.int (jI x2)]) (σ1 := js E A1) zM_X6_data dX6_data_17 rfl rfl rfl rfl ?_
      refine jw_sipush (v := 255) zM_X6_data dX6_data_18 (by decide) ?_
      refine jw_icmp_gt (tgt := 35) zM_X6_data dX6_data_21 rfl r_x2 (show jW 255 from ⟨by decide, by decide⟩) (fun q => ?_) (fun q => ?_)
      · replace h := h.1 q
        refine jw_bipush (v := (-2)) zM_X6_data dX6_data_35 (by decide) ?_
        exact jw_reti zM_X6_data dX6_data_37 rfl (show jW (-2) from ⟨by decide, by decide⟩) hA2 h
      · replace h := h.2 q
        refine zw_go (pc1 := 25) (L1 := [some (.ref 1), some (.int (jI x1)), some (.int (jI x2)), some (.int (jI x3))]) (st1 := [.int (jI x3)]) (σ1 := js E A1) zM_X6_data dX6_data_24 rfl rfl rfl rfl ?_
        refine jw_iconst (v := 1) zM_X6_data dX6_data_25 rfl ?_
        refine jw_icmp_lt (tgt := 35) zM_X6_data dX6_data_26 rfl r_x3 (show jW 1 from ⟨by decide, by decide⟩) (fun q => ?_) (fun q => ?_)
        · replace h := h.1 q
          refine jw_bipush (v := (-2)) zM_X6_data dX6_data_35 (by decide) ?_
          exact jw_reti zM_X6_data dX6_data_37 rfl (show jW (-2) from ⟨by decide, by decide⟩) hA2 h
        · replace h := h.2 q
          refine zw_go (pc1 := 30) (L1 := [some (.ref 1), some (.int (jI x1)), some (.int (jI x2)), some (.int (jI x3))]) (st1 := [.int (jI x3)]) (σ1 := js E A1) zM_X6_data dX6_data_29 rfl rfl rfl rfl ?_
          refine jw_bipush (v := 100) zM_X6_data dX6_data_30 (by decide) ?_
          refine jw_icmp_le (tgt := 38) zM_X6_data dX6_data_32 rfl r_x3 (show jW 100 from ⟨by decide, by decide⟩) (fun q => ?_) (fun q => ?_)
          · replace h := h.1 q
            refine zw_go (pc1 := 39) (L1 := [some (.ref 1), some (.int (jI x1)), some (.int (jI x2)), some (.int (jI x3))]) (st1 := [.ref 1]) (σ1 := js E A1) zM_X6_data dX6_data_38 rfl rfl rfl rfl ?_
            refine jw_getR (a := 2) zM_X6_data dX6_data_39 zF_6_12 rfl rfl rfl ?_
            refine jw_getR (a := 3) zM_X6_data dX6_data_42 zF_6_65 rfl rfl rfl ?_
            refine zw_go (pc1 := 46) (L1 := [some (.ref 1), some (.int (jI x1)), some (.int (jI x2)), some (.int (jI x3))]) (st1 := [.int (jI x1), .ref 3]) (σ1 := js E A1) zM_X6_data dX6_data_45 rfl rfl rfl rfl ?_
            obtain ⟨hi5, h⟩ := h
            refine jw_iald zM_X6_data dX6_data_46 rfl rfl hi5 ?_
            refine jw_iconst (v := 2) zM_X6_data dX6_data_47 rfl ?_
            refine jw_icmp_eq (tgt := 54) zM_X6_data dX6_data_48 rfl (hA2 3 x1) (show jW 2 from ⟨by decide, by decide⟩) (fun q => ?_) (fun q => ?_)
            · replace h := h.1 q
              refine zw_go (pc1 := 55) (L1 := [some (.ref 1), some (.int (jI x1)), some (.int (jI x2)), some (.int (jI x3))]) (st1 := [.ref 1]) (σ1 := js E A1) zM_X6_data dX6_data_54 rfl rfl rfl rfl ?_
              refine jw_getR (a := 2) zM_X6_data dX6_data_55 zF_6_12 rfl rfl rfl ?_
              refine jw_getR (a := 8) zM_X6_data dX6_data_58 zF_6_75 rfl rfl rfl ?_
              refine zw_go (pc1 := 62) (L1 := [some (.ref 1), some (.int (jI x1)), some (.int (jI x2)), some (.int (jI x3))]) (st1 := [.int (jI x1), .ref 8]) (σ1 := js E A1) zM_X6_data dX6_data_61 rfl rfl rfl rfl ?_
              obtain ⟨hi6, h⟩ := h
              refine jw_iald zM_X6_data dX6_data_62 rfl rfl hi6 ?_
              refine zw_go (pc1 := 64) (L1 := [some (.ref 1), some (.int (jI x1)), some (.int (jI x2)), some (.int (jI x3))]) (st1 := [.int (jI x3), .int (jI (A1 8 x1))]) (σ1 := js E A1) zM_X6_data dX6_data_63 rfl rfl rfl rfl ?_
              refine jw_add zM_X6_data dX6_data_64 ?_
              refine jw_bipush (v := 100) zM_X6_data dX6_data_65 (by decide) ?_
              obtain ⟨hw7, h⟩ := h
              refine jw_icmp_le (tgt := 73) zM_X6_data dX6_data_67 rfl hw7 (show jW 100 from ⟨by decide, by decide⟩) (fun q => ?_) (fun q => ?_)
              · replace h := h.1 q
                refine zw_go (pc1 := 74) (L1 := [some (.ref 1), some (.int (jI x1)), some (.int (jI x2)), some (.int (jI x3))]) (st1 := [.ref 1]) (σ1 := js E A1) zM_X6_data dX6_data_73 rfl rfl rfl rfl ?_
                refine jw_getR (a := 2) zM_X6_data dX6_data_74 zF_6_12 rfl rfl rfl ?_
                refine zw_go (pc1 := 78) (L1 := [some (.ref 1), some (.int (jI x1)), some (.int (jI x2)), some (.int (jI x3))]) (st1 := [.int (jI x1), .ref 2]) (σ1 := js E A1) zM_X6_data dX6_data_77 rfl rfl rfl rfl ?_
                refine zw_go (pc1 := 79) (L1 := [some (.ref 1), some (.int (jI x1)), some (.int (jI x2)), some (.int (jI x3))]) (st1 := [.int (jI x2), .int (jI x1), .ref 2]) (σ1 := js E A1) zM_X6_data dX6_data_78 rfl rfl rfl rfl ?_
                refine zw_go (pc1 := 80) (L1 := [some (.ref 1), some (.int (jI x1)), some (.int (jI x2)), some (.int (jI x3))]) (st1 := [.int (jI x3), .int (jI x2), .int (jI x1), .ref 2]) (σ1 := js E A1) zM_X6_data dX6_data_79 rfl rfl rfl rfl ?_
                refine jw_callI (as := [.ref 2, .int (jI x1), .int (jI x2), .int (jI x3)]) (rest := []) zM_X6_data dX6_data_80 (zx_calV zC_6_78) zM_X5_append rfl rfl rfl rfl rfl (j_args0 rfl rfl) rfl hA2 h (fun v10 A8 rv11 hA9 h => ?_)
                exact jw_reti zM_X6_data dX6_data_83 rfl rv11 hA9 h
              · replace h := h.2 q
                refine jw_bipush (v := (-4)) zM_X6_data dX6_data_70 (by decide) ?_
                exact jw_reti zM_X6_data dX6_data_72 rfl (show jW (-4) from ⟨by decide, by decide⟩) hA2 h
            · replace h := h.2 q
              refine jw_bipush (v := (-3)) zM_X6_data dX6_data_51 (by decide) ?_
              exact jw_reti zM_X6_data dX6_data_53 rfl (show jW (-3) from ⟨by decide, by decide⟩) hA2 h
          · replace h := h.2 q
            refine jw_bipush (v := (-2)) zM_X6_data dX6_data_35 (by decide) ?_
            exact jw_reti zM_X6_data dX6_data_37 rfl (show jW (-2) from ⟨by decide, by decide⟩) hA2 h
  · replace h := h.2 q
    refine jw_iconst (v := (-1)) zM_X6_data dX6_data_11 rfl ?_
    exact jw_reti zM_X6_data dX6_data_12 rfl (show jW (-1) from ⟨by decide, by decide⟩) hA2 h
set_option maxHeartbeats 4000000 in
set_option maxRecDepth 100000 in
theorem vd_X6_drop_0  (E : jE) (A : jA) (K : Int → jA → Prop) (h : (((A 1 6) = (0 : Int) → K (-3) A) ∧ (¬ (A 1 6) = (0 : Int) → jrI 74 0 [some (.ref 38), some (.int (jI ((A 1 6) - 1))), none] [] E A (fun v3 A1 => ((v3 = (0 : Int) → jW ((A1 1 6) - 1) ∧ ∀ A6 : jA, A6 = jup A1 1 6 ((A1 1 6) - 1) → K (A6 1 6) A6) ∧ (¬ v3 = (0 : Int) → K (-3) A1)))))) : jrI 114 0 [some (.ref 1)] [] E A K := by
  intro hA
  refine zw_go (pc1 := 1) (L1 := [some (.ref 1)]) (st1 := [.ref 1]) (σ1 := js E A) zM_X6_drop dX6_drop_0 rfl rfl rfl rfl ?_
  refine jw_getI zM_X6_drop dX6_drop_1 zF_6_100 rfl rfl rfl ?_
  refine jw_if_eq (tgt := 23) zM_X6_drop dX6_drop_4 rfl (hA 1 6) (fun q => ?_) (fun q => ?_)
  · replace h := h.1 q
    refine jw_bipush (v := (-3)) zM_X6_drop dX6_drop_23 (by decide) ?_
    exact jw_reti zM_X6_drop dX6_drop_25 rfl (show jW (-3) from ⟨by decide, by decide⟩) hA h
  · replace h := h.2 q
    refine zw_go (pc1 := 8) (L1 := [some (.ref 1)]) (st1 := [.ref 1]) (σ1 := js E A) zM_X6_drop dX6_drop_7 rfl rfl rfl rfl ?_
    refine jw_getR (a := 38) zM_X6_drop dX6_drop_8 zF_6_46 rfl rfl rfl ?_
    refine zw_go (pc1 := 12) (L1 := [some (.ref 1)]) (st1 := [.ref 1, .ref 38]) (σ1 := js E A) zM_X6_drop dX6_drop_11 rfl rfl rfl rfl ?_
    refine jw_getI zM_X6_drop dX6_drop_12 zF_6_100 rfl rfl rfl ?_
    refine jw_iconst (v := 1) zM_X6_drop dX6_drop_15 rfl ?_
    refine jw_sub zM_X6_drop dX6_drop_16 ?_
    refine jw_callI (as := [.ref 38, .int (jI ((A 1 6) - 1))]) (rest := []) zM_X6_drop dX6_drop_17 (zx_calV zC_6_121) zM_X3_isLaid rfl rfl rfl rfl rfl (j_args0 rfl rfl) rfl hA h (fun v3 A1 rv4 hA2 h => ?_)
    refine jw_if_eq (tgt := 26) zM_X6_drop dX6_drop_20 rfl rv4 (fun q => ?_) (fun q => ?_)
    · replace h := h.1 q
      refine zw_go (pc1 := 27) (L1 := [some (.ref 1)]) (st1 := [.ref 1]) (σ1 := js E A1) zM_X6_drop dX6_drop_26 rfl rfl rfl rfl ?_
      refine zw_go (pc1 := 28) (L1 := [some (.ref 1)]) (st1 := [.ref 1, .ref 1]) (σ1 := js E A1) zM_X6_drop dX6_drop_27 rfl rfl rfl rfl ?_
      refine jw_getI zM_X6_drop dX6_drop_28 zF_6_100 rfl rfl rfl ?_
      refine jw_iconst (v := 1) zM_X6_drop dX6_drop_31 rfl ?_
      refine jw_sub zM_X6_drop dX6_drop_32 ?_
      obtain ⟨hw5, h⟩ := h
      obtain ⟨A6, e7⟩ : ∃ z9 : jA, z9 = jup A1 1 6 ((A1 1 6) - 1) := ⟨_, rfl⟩
      replace h := h A6 e7
      have hA8 : jOK A6 := jOK.up hA2 hw5 e7
      refine jw_putI zM_X6_drop dX6_drop_33 zF_6_100 rfl rfl rfl rfl e7 ?_
      refine zw_go (pc1 := 37) (L1 := [some (.ref 1)]) (st1 := [.ref 1]) (σ1 := js E A6) zM_X6_drop dX6_drop_36 rfl rfl rfl rfl ?_
      refine jw_getI zM_X6_drop dX6_drop_37 zF_6_100 rfl rfl rfl ?_
      exact jw_reti zM_X6_drop dX6_drop_40 rfl (hA8 1 6) hA8 h
    · replace h := h.2 q
      refine jw_bipush (v := (-3)) zM_X6_drop dX6_drop_23 (by decide) ?_
      exact jw_reti zM_X6_drop dX6_drop_25 rfl (show jW (-3) from ⟨by decide, by decide⟩) hA2 h
set_option maxHeartbeats 4000000 in
set_option maxRecDepth 100000 in
theorem vd_X6_end_0 (x1 : Int) (r_x1 : jW x1) (E : jE) (A : jA) (K : Int → jA → Prop) (h : ((x1 < (0 : Int) → K (-2) A) ∧ ((0 : Int) ≤ x1 → ((x1 ≤ (A 19 1) → ∀ A1 : jA, A1 = jup A 19 1 x1 → K x1 A1) ∧ ((A 19 1) < x1 → K (-2) A))))) : jrI 115 0 [some (.ref 1), some (.int (jI x1))] [] E A K := by
  intro hA
  refine zw_go (pc1 := 1) (L1 := [some (.ref 1), some (.int (jI x1))]) (st1 := [.int (jI x1)]) (σ1 := js E A) zM_X6_end dX6_end_0 rfl rfl rfl rfl ?_
  refine jw_if_lt (tgt := 15) zM_X6_end dX6_end_1 rfl r_x1 (fun q => ?_) (fun q => ?_)
  · replace h := h.1 q
    refine jw_bipush (v := (-2)) zM_X6_end dX6_end_15 (by decide) ?_
    exact jw_reti zM_X6_end dX6_end_17 rfl (show jW (-2) from ⟨by decide, by decide⟩) hA h
  · replace h := h.2 q
    refine zw_go (pc1 := 5) (L1 := [some (.ref 1), some (.int (jI x1))]) (st1 := [.int (jI x1)]) (σ1 := js E A) zM_X6_end dX6_end_4 rfl rfl rfl rfl ?_
    refine zw_go (pc1 := 6) (L1 := [some (.ref 1), some (.int (jI x1))]) (st1 := [.ref 1, .int (jI x1)]) (σ1 := js E A) zM_X6_end dX6_end_5 rfl rfl rfl rfl ?_
    refine jw_getR (a := 19) zM_X6_end dX6_end_6 zF_6_25 rfl rfl rfl ?_
    refine jw_getI zM_X6_end dX6_end_9 zF_6_107 rfl rfl rfl ?_
    refine jw_icmp_le (tgt := 18) zM_X6_end dX6_end_12 rfl r_x1 (hA 19 1) (fun q => ?_) (fun q => ?_)
    · replace h := h.1 q
      refine zw_go (pc1 := 19) (L1 := [some (.ref 1), some (.int (jI x1))]) (st1 := [.ref 1]) (σ1 := js E A) zM_X6_end dX6_end_18 rfl rfl rfl rfl ?_
      refine jw_getR (a := 19) zM_X6_end dX6_end_19 zF_6_25 rfl rfl rfl ?_
      refine zw_go (pc1 := 23) (L1 := [some (.ref 1), some (.int (jI x1))]) (st1 := [.int (jI x1), .ref 19]) (σ1 := js E A) zM_X6_end dX6_end_22 rfl rfl rfl rfl ?_
      obtain ⟨A1, e2⟩ : ∃ z9 : jA, z9 = jup A 19 1 x1 := ⟨_, rfl⟩
      replace h := h A1 e2
      have hA3 : jOK A1 := jOK.up hA r_x1 e2
      refine jw_putI zM_X6_end dX6_end_23 zF_6_107 rfl rfl rfl rfl e2 ?_
      refine zw_go (pc1 := 27) (L1 := [some (.ref 1), some (.int (jI x1))]) (st1 := [.int (jI x1)]) (σ1 := js E A1) zM_X6_end dX6_end_26 rfl rfl rfl rfl ?_
      exact jw_reti zM_X6_end dX6_end_27 rfl r_x1 hA3 h
    · replace h := h.2 q
      refine jw_bipush (v := (-2)) zM_X6_end dX6_end_15 (by decide) ?_
      exact jw_reti zM_X6_end dX6_end_17 rfl (show jW (-2) from ⟨by decide, by decide⟩) hA h
set_option maxHeartbeats 4000000 in
set_option maxRecDepth 100000 in
theorem vd_X6_feed_0 (x1 : Int) (r_x1 : jW x1) (x2 : Int) (r_x2 : jW x2) (x3 : Int) (r_x3 : jW x3) (x4 : Int) (r_x4 : jW x4) (x5 : Int) (r_x5 : jW x5) (E : jE) (A : jA) (K : Int → jA → Prop) (h : jW ((A 19 1) + 20) ∧ ((((A 19 1) + 20) ≤ (4000 : Int) → jrV 39 0 [some (.ref 19), some (.int (jI x1))] [] E A (fun A2 => jrV 39 0 [some (.ref 19), some (.int (jI x2))] [] E A2 (fun A4 => jrV 39 0 [some (.ref 19), some (.int (jI x3))] [] E A4 (fun A6 => jrV 39 0 [some (.ref 19), some (.int (jI x4))] [] E A6 (fun A8 => jrV 39 0 [some (.ref 19), some (.int (jI x5))] [] E A8 (fun A10 => K (A10 19 1) A10)))))) ∧ ((4000 : Int) < ((A 19 1) + 20) → K (-4) A))) : jrI 116 0 [some (.ref 1), some (.int (jI x1)), some (.int (jI x2)), some (.int (jI x3)), some (.int (jI x4)), some (.int (jI x5))] [] E A K := by
  intro hA
  refine zw_go (pc1 := 1) (L1 := [some (.ref 1), some (.int (jI x1)), some (.int (jI x2)), some (.int (jI x3)), some (.int (jI x4)), some (.int (jI x5))]) (st1 := [.ref 1]) (σ1 := js E A) zM_X6_feed dX6_feed_0 rfl rfl rfl rfl ?_
  refine jw_getR (a := 19) zM_X6_feed dX6_feed_1 zF_6_25 rfl rfl rfl ?_
  refine jw_getI zM_X6_feed dX6_feed_4 zF_6_107 rfl rfl rfl ?_
  refine jw_bipush (v := 20) zM_X6_feed dX6_feed_7 (by decide) ?_
  refine jw_add zM_X6_feed dX6_feed_9 ?_
  refine jw_sipush (v := 4000) zM_X6_feed dX6_feed_10 (by decide) ?_
  obtain ⟨hw1, h⟩ := h
  refine jw_icmp_le (tgt := 19) zM_X6_feed dX6_feed_13 rfl hw1 (show jW 4000 from ⟨by decide, by decide⟩) (fun q => ?_) (fun q => ?_)
  · replace h := h.1 q
    refine zw_go (pc1 := 20) (L1 := [some (.ref 1), some (.int (jI x1)), some (.int (jI x2)), some (.int (jI x3)), some (.int (jI x4)), some (.int (jI x5))]) (st1 := [.ref 1]) (σ1 := js E A) zM_X6_feed dX6_feed_19 rfl rfl rfl rfl ?_
    refine jw_getR (a := 19) zM_X6_feed dX6_feed_20 zF_6_25 rfl rfl rfl ?_
    refine zw_go (pc1 := 24) (L1 := [some (.ref 1), some (.int (jI x1)), some (.int (jI x2)), some (.int (jI x3)), some (.int (jI x4)), some (.int (jI x5))]) (st1 := [.int (jI x1), .ref 19]) (σ1 := js E A) zM_X6_feed dX6_feed_23 rfl rfl rfl rfl ?_
    refine jw_callV (as := [.ref 19, .int (jI x1)]) (rest := []) zM_X6_feed dX6_feed_24 (zx_calV zC_6_110) zM_X1_putInt rfl rfl rfl rfl rfl (j_args0 rfl rfl) rfl hA h (fun A2 hA3 h => ?_)
    refine zw_go (pc1 := 28) (L1 := [some (.ref 1), some (.int (jI x1)), some (.int (jI x2)), some (.int (jI x3)), some (.int (jI x4)), some (.int (jI x5))]) (st1 := [.ref 1]) (σ1 := js E A2) zM_X6_feed dX6_feed_27 rfl rfl rfl rfl ?_
    refine jw_getR (a := 19) zM_X6_feed dX6_feed_28 zF_6_25 rfl rfl rfl ?_
    refine zw_go (pc1 := 32) (L1 := [some (.ref 1), some (.int (jI x1)), some (.int (jI x2)), some (.int (jI x3)), some (.int (jI x4)), some (.int (jI x5))]) (st1 := [.int (jI x2), .ref 19]) (σ1 := js E A2) zM_X6_feed dX6_feed_31 rfl rfl rfl rfl ?_
    refine jw_callV (as := [.ref 19, .int (jI x2)]) (rest := []) zM_X6_feed dX6_feed_32 (zx_calV zC_6_110) zM_X1_putInt rfl rfl rfl rfl rfl (j_args0 rfl rfl) rfl hA3 h (fun A4 hA5 h => ?_)
    refine zw_go (pc1 := 36) (L1 := [some (.ref 1), some (.int (jI x1)), some (.int (jI x2)), some (.int (jI x3)), some (.int (jI x4)), some (.int (jI x5))]) (st1 := [.ref 1]) (σ1 := js E A4) zM_X6_feed dX6_feed_35 rfl rfl rfl rfl ?_
    refine jw_getR (a := 19) zM_X6_feed dX6_feed_36 zF_6_25 rfl rfl rfl ?_
    refine zw_go (pc1 := 40) (L1 := [some (.ref 1), some (.int (jI x1)), some (.int (jI x2)), some (.int (jI x3)), some (.int (jI x4)), some (.int (jI x5))]) (st1 := [.int (jI x3), .ref 19]) (σ1 := js E A4) zM_X6_feed dX6_feed_39 rfl rfl rfl rfl ?_
    refine jw_callV (as := [.ref 19, .int (jI x3)]) (rest := []) zM_X6_feed dX6_feed_40 (zx_calV zC_6_110) zM_X1_putInt rfl rfl rfl rfl rfl (j_args0 rfl rfl) rfl hA5 h (fun A6 hA7 h => ?_)
    refine zw_go (pc1 := 44) (L1 := [some (.ref 1), some (.int (jI x1)), some (.int (jI x2)), some (.int (jI x3)), some (.int (jI x4)), some (.int (jI x5))]) (st1 := [.ref 1]) (σ1 := js E A6) zM_X6_feed dX6_feed_43 rfl rfl rfl rfl ?_
    refine jw_getR (a := 19) zM_X6_feed dX6_feed_44 zF_6_25 rfl rfl rfl ?_
    refine zw_go (pc1 := 49) (L1 := [some (.ref 1), some (.int (jI x1)), some (.int (jI x2)), some (.int (jI x3)), some (.int (jI x4)), some (.int (jI x5))]) (st1 := [.int (jI x4), .ref 19]) (σ1 := js E A6) zM_X6_feed dX6_feed_47 rfl rfl rfl rfl ?_
    refine jw_callV (as := [.ref 19, .int (jI x4)]) (rest := []) zM_X6_feed dX6_feed_49 (zx_calV zC_6_110) zM_X1_putInt rfl rfl rfl rfl rfl (j_args0 rfl rfl) rfl hA7 h (fun A8 hA9 h => ?_)
    refine zw_go (pc1 := 53) (L1 := [some (.ref 1), some (.int (jI x1)), some (.int (jI x2)), some (.int (jI x3)), some (.int (jI x4)), some (.int (jI x5))]) (st1 := [.ref 1]) (σ1 := js E A8) zM_X6_feed dX6_feed_52 rfl rfl rfl rfl ?_
    refine jw_getR (a := 19) zM_X6_feed dX6_feed_53 zF_6_25 rfl rfl rfl ?_
    refine zw_go (pc1 := 58) (L1 := [some (.ref 1), some (.int (jI x1)), some (.int (jI x2)), some (.int (jI x3)), some (.int (jI x4)), some (.int (jI x5))]) (st1 := [.int (jI x5), .ref 19]) (σ1 := js E A8) zM_X6_feed dX6_feed_56 rfl rfl rfl rfl ?_
    refine jw_callV (as := [.ref 19, .int (jI x5)]) (rest := []) zM_X6_feed dX6_feed_58 (zx_calV zC_6_110) zM_X1_putInt rfl rfl rfl rfl rfl (j_args0 rfl rfl) rfl hA9 h (fun A10 hA11 h => ?_)
    refine zw_go (pc1 := 62) (L1 := [some (.ref 1), some (.int (jI x1)), some (.int (jI x2)), some (.int (jI x3)), some (.int (jI x4)), some (.int (jI x5))]) (st1 := [.ref 1]) (σ1 := js E A10) zM_X6_feed dX6_feed_61 rfl rfl rfl rfl ?_
    refine jw_getR (a := 19) zM_X6_feed dX6_feed_62 zF_6_25 rfl rfl rfl ?_
    refine jw_getI zM_X6_feed dX6_feed_65 zF_6_107 rfl rfl rfl ?_
    exact jw_reti zM_X6_feed dX6_feed_68 rfl (hA11 19 1) hA11 h
  · replace h := h.2 q
    refine jw_bipush (v := (-4)) zM_X6_feed dX6_feed_16 (by decide) ?_
    exact jw_reti zM_X6_feed dX6_feed_18 rfl (show jW (-4) from ⟨by decide, by decide⟩) hA h
set_option maxHeartbeats 4000000 in
set_option maxRecDepth 100000 in
theorem vd_X6_file_0 (x1 : Int) (r_x1 : jW x1) (x2 : Int) (r_x2 : jW x2) (E : jE) (A : jA) (K : Int → jA → Prop) (h : jrI 108 0 [some (.ref 1), some (.int (jI x1)), some (.int (jI x2)), some (.int (jI 2))] [] E A (fun v3 A1 => K v3 A1)) : jrI 117 0 [some (.ref 1), some (.int (jI x1)), some (.int (jI x2))] [] E A K := by
  intro hA
  refine zw_go (pc1 := 1) (L1 := [some (.ref 1), some (.int (jI x1)), some (.int (jI x2))]) (st1 := [.ref 1]) (σ1 := js E A) zM_X6_file dX6_file_0 rfl rfl rfl rfl ?_
  refine zw_go (pc1 := 2) (L1 := [some (.ref 1), some (.int (jI x1)), some (.int (jI x2))]) (st1 := [.int (jI x1), .ref 1]) (σ1 := js E A) zM_X6_file dX6_file_1 rfl rfl rfl rfl ?_
  refine zw_go (pc1 := 3) (L1 := [some (.ref 1), some (.int (jI x1)), some (.int (jI x2))]) (st1 := [.int (jI x2), .int (jI x1), .ref 1]) (σ1 := js E A) zM_X6_file dX6_file_2 rfl rfl rfl rfl ?_
  refine jw_iconst (v := 2) zM_X6_file dX6_file_3 rfl ?_
  refine jw_callI (as := [.ref 1, .int (jI x1), .int (jI x2), .int (jI 2)]) (rest := []) zM_X6_file dX6_file_4 (zx_calV zC_6_50) zM_X6_addBelow rfl rfl rfl rfl rfl (j_args0 rfl rfl) rfl hA h (fun v3 A1 rv4 hA2 h => ?_)
  exact jw_reti zM_X6_file dX6_file_7 rfl rv4 hA2 h
set_option maxHeartbeats 4000000 in
set_option maxRecDepth 100000 in
theorem vd_X6_folder_0 (x1 : Int) (r_x1 : jW x1) (x2 : Int) (r_x2 : jW x2) (E : jE) (A : jA) (K : Int → jA → Prop) (h : jrI 108 0 [some (.ref 1), some (.int (jI x1)), some (.int (jI x2)), some (.int (jI 1))] [] E A (fun v3 A1 => K v3 A1)) : jrI 118 0 [some (.ref 1), some (.int (jI x1)), some (.int (jI x2))] [] E A K := by
  intro hA
  refine zw_go (pc1 := 1) (L1 := [some (.ref 1), some (.int (jI x1)), some (.int (jI x2))]) (st1 := [.ref 1]) (σ1 := js E A) zM_X6_folder dX6_folder_0 rfl rfl rfl rfl ?_
  refine zw_go (pc1 := 2) (L1 := [some (.ref 1), some (.int (jI x1)), some (.int (jI x2))]) (st1 := [.int (jI x1), .ref 1]) (σ1 := js E A) zM_X6_folder dX6_folder_1 rfl rfl rfl rfl ?_
  refine zw_go (pc1 := 3) (L1 := [some (.ref 1), some (.int (jI x1)), some (.int (jI x2))]) (st1 := [.int (jI x2), .int (jI x1), .ref 1]) (σ1 := js E A) zM_X6_folder dX6_folder_2 rfl rfl rfl rfl ?_
  refine jw_iconst (v := 1) zM_X6_folder dX6_folder_3 rfl ?_
  refine jw_callI (as := [.ref 1, .int (jI x1), .int (jI x2), .int (jI 1)]) (rest := []) zM_X6_folder dX6_folder_4 (zx_calV zC_6_50) zM_X6_addBelow rfl rfl rfl rfl rfl (j_args0 rfl rfl) rfl hA h (fun v3 A1 rv4 hA2 h => ?_)
  exact jw_reti zM_X6_folder dX6_folder_7 rfl rv4 hA2 h
set_option maxHeartbeats 4000000 in
set_option maxRecDepth 100000 in
theorem vd_X6_hasImage_0 (x1 : Int) (r_x1 : jW x1) (E : jE) (A : jA) (K : Int → jA → Prop) (h : ((x1 < (0 : Int) → K 0 A) ∧ ((0 : Int) ≤ x1 → (((A 1 6) ≤ x1 → K 0 A) ∧ (x1 < (A 1 6) → K 1 A))))) : jrI 119 0 [some (.ref 1), some (.int (jI x1))] [] E A K := by
  intro hA
  refine zw_go (pc1 := 1) (L1 := [some (.ref 1), some (.int (jI x1))]) (st1 := [.int (jI x1)]) (σ1 := js E A) zM_X6_hasImage dX6_hasImage_0 rfl rfl rfl rfl ?_
  refine jw_if_lt (tgt := 16) zM_X6_hasImage dX6_hasImage_1 rfl r_x1 (fun q => ?_) (fun q => ?_)
  · replace h := h.1 q
    refine jw_iconst (v := 0) zM_X6_hasImage dX6_hasImage_16 rfl ?_
    exact jw_retz zM_X6_hasImage dX6_hasImage_17 rfl (Or.inl rfl) hA h
  · replace h := h.2 q
    refine zw_go (pc1 := 5) (L1 := [some (.ref 1), some (.int (jI x1))]) (st1 := [.int (jI x1)]) (σ1 := js E A) zM_X6_hasImage dX6_hasImage_4 rfl rfl rfl rfl ?_
    refine zw_go (pc1 := 6) (L1 := [some (.ref 1), some (.int (jI x1))]) (st1 := [.ref 1, .int (jI x1)]) (σ1 := js E A) zM_X6_hasImage dX6_hasImage_5 rfl rfl rfl rfl ?_
    refine jw_getI zM_X6_hasImage dX6_hasImage_6 zF_6_100 rfl rfl rfl ?_
    refine jw_icmp_ge (tgt := 16) zM_X6_hasImage dX6_hasImage_9 rfl r_x1 (hA 1 6) (fun q => ?_) (fun q => ?_)
    · replace h := h.1 q
      refine jw_iconst (v := 0) zM_X6_hasImage dX6_hasImage_16 rfl ?_
      exact jw_retz zM_X6_hasImage dX6_hasImage_17 rfl (Or.inl rfl) hA h
    · replace h := h.2 q
      refine jw_iconst (v := 1) zM_X6_hasImage dX6_hasImage_12 rfl ?_
      refine zw_goto (tgt := 17) zM_X6_hasImage dX6_hasImage_13 rfl ?_
      exact jw_retz zM_X6_hasImage dX6_hasImage_17 rfl (Or.inr rfl) hA h
set_option maxHeartbeats 4000000 in
set_option maxRecDepth 100000 in
theorem vd_X6_hide_0 (x1 : Int) (r_x1 : jW x1) (x2 : Int) (r_x2 : jW x2) (E : jE) (A : jA) (K : Int → jA → Prop) (h : jrI 108 0 [some (.ref 1), some (.int (jI x1)), some (.int (jI x2)), some (.int (jI 3))] [] E A (fun v3 A1 => K v3 A1)) : jrI 120 0 [some (.ref 1), some (.int (jI x1)), some (.int (jI x2))] [] E A K := by
  intro hA
  refine zw_go (pc1 := 1) (L1 := [some (.ref 1), some (.int (jI x1)), some (.int (jI x2))]) (st1 := [.ref 1]) (σ1 := js E A) zM_X6_hide dX6_hide_0 rfl rfl rfl rfl ?_
  refine zw_go (pc1 := 2) (L1 := [some (.ref 1), some (.int (jI x1)), some (.int (jI x2))]) (st1 := [.int (jI x1), .ref 1]) (σ1 := js E A) zM_X6_hide dX6_hide_1 rfl rfl rfl rfl ?_
  refine zw_go (pc1 := 3) (L1 := [some (.ref 1), some (.int (jI x1)), some (.int (jI x2))]) (st1 := [.int (jI x2), .int (jI x1), .ref 1]) (σ1 := js E A) zM_X6_hide dX6_hide_2 rfl rfl rfl rfl ?_
  refine jw_iconst (v := 3) zM_X6_hide dX6_hide_3 rfl ?_
  refine jw_callI (as := [.ref 1, .int (jI x1), .int (jI x2), .int (jI 3)]) (rest := []) zM_X6_hide dX6_hide_4 (zx_calV zC_6_50) zM_X6_addBelow rfl rfl rfl rfl rfl (j_args0 rfl rfl) rfl hA h (fun v3 A1 rv4 hA2 h => ?_)
  exact jw_reti zM_X6_hide dX6_hide_7 rfl rv4 hA2 h
set_option maxHeartbeats 4000000 in
set_option maxRecDepth 100000 in
theorem vd_X6_image_0 (x1 : Int) (r_x1 : jW x1) (x2 : Int) (r_x2 : jW x2) (E : jE) (A : jA) (K : Int → jA → Prop) (h : jrI 119 0 [some (.ref 1), some (.int (jI x1))] [] E A (fun v3 A1 => ((¬ v3 = (0 : Int) → (0 ≤ x1 ∧ x1 < 3) ∧ ((x2 = 0 → K (A1 (13 + 2 * x1.toNat) 1) A1) ∧ (¬ x2 = 0 → ((x2 = 1 → K (A1 (13 + 2 * x1.toNat) 2) A1) ∧ (¬ x2 = 1 → ((x2 = 2 → K (A1 (13 + 2 * x1.toNat) 3) A1) ∧ (¬ x2 = 2 → ((x2 = 3 → jrI 47 0 [some (.ref (13 + 2 * x1.toNat))] [] E A1 (fun v11 A9 => K v11 A9)) ∧ (¬ x2 = 3 → ((x2 = 4 → jW ((A1 (13 + 2 * x1.toNat) 4) - 18) ∧ K ((A1 (13 + 2 * x1.toNat) 4) - 18) A1) ∧ (¬ x2 = 4 → K (-2) A1))))))))))) ∧ (v3 = (0 : Int) → K (-1) A1)))) : jrI 121 0 [some (.ref 1), some (.int (jI x1)), some (.int (jI x2)), none] [] E A K := by
  intro hA
  refine zw_go (pc1 := 1) (L1 := [some (.ref 1), some (.int (jI x1)), some (.int (jI x2)), none]) (st1 := [.ref 1]) (σ1 := js E A) zM_X6_image dX6_image_0 rfl rfl rfl rfl ?_
  refine zw_go (pc1 := 2) (L1 := [some (.ref 1), some (.int (jI x1)), some (.int (jI x2)), none]) (st1 := [.int (jI x1), .ref 1]) (σ1 := js E A) zM_X6_image dX6_image_1 rfl rfl rfl rfl ?_
  refine jw_callI (as := [.ref 1, .int (jI x1)]) (rest := []) zM_X6_image dX6_image_2 (zx_calV zC_6_124) zM_X6_hasImage rfl rfl rfl rfl rfl (j_args0 rfl rfl) rfl hA h (fun v3 A1 rv4 hA2 h => ?_)
  refine jw_if_ne (tgt := 10) zM_X6_image dX6_image_5 rfl rv4 (fun q => ?_) (fun q => ?_)
  · replace h := h.1 q
    refine zw_go (pc1 := 11) (L1 := [some (.ref 1), some (.int (jI x1)), some (.int (jI x2)), none]) (st1 := [.ref 1]) (σ1 := js E A1) zM_X6_image dX6_image_10 rfl rfl rfl rfl ?_
    refine jw_getR (a := 12) zM_X6_image dX6_image_11 zF_6_18 rfl rfl rfl ?_
    refine zw_go (pc1 := 15) (L1 := [some (.ref 1), some (.int (jI x1)), some (.int (jI x2)), none]) (st1 := [.int (jI x1), .ref 12]) (σ1 := js E A1) zM_X6_image dX6_image_14 rfl rfl rfl rfl ?_
    obtain ⟨hi5, h⟩ := h
    refine jw_aald zM_X6_image dX6_image_15 hi5 ?_
    refine zw_go (pc1 := 17) (L1 := [some (.ref 1), some (.int (jI x1)), some (.int (jI x2)), some (.ref (13 + 2 * x1.toNat))]) (st1 := []) (σ1 := js E A1) zM_X6_image dX6_image_16 rfl rfl rfl rfl ?_
    refine zw_go (pc1 := 18) (L1 := [some (.ref 1), some (.int (jI x1)), some (.int (jI x2)), some (.ref (13 + 2 * x1.toNat))]) (st1 := [.int (jI x2)]) (σ1 := js E A1) zM_X6_image dX6_image_17 rfl rfl rfl rfl ?_
    by_cases hs6 : x2 = 0
    · replace h := h.1 hs6
      refine zw_sw (tgt := 52) zM_X6_image dX6_image_18 (j_sw_in hs6 rfl) rfl ?_
      refine zw_go (pc1 := 53) (L1 := [some (.ref 1), some (.int (jI x1)), some (.int (jI x2)), some (.ref (13 + 2 * x1.toNat))]) (st1 := [.ref (13 + 2 * x1.toNat)]) (σ1 := js E A1) zM_X6_image dX6_image_52 rfl rfl rfl rfl ?_
      refine jw_getI zM_X6_image dX6_image_53 zF_6_107 rfl rfl (jim.K (jim_at hi5.1 hi5.2)) ?_
      exact jw_reti zM_X6_image dX6_image_56 rfl (hA2 (13 + 2 * x1.toNat) 1) hA2 h
    · replace h := h.2 hs6
      by_cases hs7 : x2 = 1
      · replace h := h.1 hs7
        refine zw_sw (tgt := 57) zM_X6_image dX6_image_18 (j_sw_in hs7 rfl) rfl ?_
        refine zw_go (pc1 := 58) (L1 := [some (.ref 1), some (.int (jI x1)), some (.int (jI x2)), some (.ref (13 + 2 * x1.toNat))]) (st1 := [.ref (13 + 2 * x1.toNat)]) (σ1 := js E A1) zM_X6_image dX6_image_57 rfl rfl rfl rfl ?_
        refine jw_getI zM_X6_image dX6_image_58 zF_6_134 rfl rfl (jim.K (jim_at hi5.1 hi5.2)) ?_
        exact jw_reti zM_X6_image dX6_image_61 rfl (hA2 (13 + 2 * x1.toNat) 2) hA2 h
      · replace h := h.2 hs7
        by_cases hs8 : x2 = 2
        · replace h := h.1 hs8
          refine zw_sw (tgt := 62) zM_X6_image dX6_image_18 (j_sw_in hs8 rfl) rfl ?_
          refine zw_go (pc1 := 63) (L1 := [some (.ref 1), some (.int (jI x1)), some (.int (jI x2)), some (.ref (13 + 2 * x1.toNat))]) (st1 := [.ref (13 + 2 * x1.toNat)]) (σ1 := js E A1) zM_X6_image dX6_image_62 rfl rfl rfl rfl ?_
          refine jw_getI zM_X6_image dX6_image_63 zF_6_137 rfl rfl (jim.K (jim_at hi5.1 hi5.2)) ?_
          exact jw_reti zM_X6_image dX6_image_66 rfl (hA2 (13 + 2 * x1.toNat) 3) hA2 h
        · replace h := h.2 hs8
          by_cases hs13 : x2 = 3
          · replace h := h.1 hs13
            refine zw_sw (tgt := 67) zM_X6_image dX6_image_18 (j_sw_in hs13 rfl) rfl ?_
            refine zw_go (pc1 := 68) (L1 := [some (.ref 1), some (.int (jI x1)), some (.int (jI x2)), some (.ref (13 + 2 * x1.toNat))]) (st1 := [.ref (13 + 2 * x1.toNat)]) (σ1 := js E A1) zM_X6_image dX6_image_67 rfl rfl rfl rfl ?_
            refine jw_callI (as := [.ref (13 + 2 * x1.toNat)]) (rest := []) zM_X6_image dX6_image_68 (zx_calV zC_6_140) zM_X1_tailBlocks rfl rfl rfl rfl rfl (j_args0 (jim.K (jim_at hi5.1 hi5.2)) rfl) rfl hA2 h (fun v11 A9 rv12 hA10 h => ?_)
            exact jw_reti zM_X6_image dX6_image_71 rfl rv12 hA10 h
          · replace h := h.2 hs13
            by_cases hs15 : x2 = 4
            · replace h := h.1 hs15
              refine zw_sw (tgt := 72) zM_X6_image dX6_image_18 (j_sw_in hs15 rfl) rfl ?_
              refine zw_go (pc1 := 73) (L1 := [some (.ref 1), some (.int (jI x1)), some (.int (jI x2)), some (.ref (13 + 2 * x1.toNat))]) (st1 := [.ref (13 + 2 * x1.toNat)]) (σ1 := js E A1) zM_X6_image dX6_image_72 rfl rfl rfl rfl ?_
              refine jw_getI zM_X6_image dX6_image_73 zF_6_144 rfl rfl (jim.K (jim_at hi5.1 hi5.2)) ?_
              refine jw_bipush (v := 18) zM_X6_image dX6_image_76 (by decide) ?_
              refine jw_sub zM_X6_image dX6_image_78 ?_
              obtain ⟨hw14, h⟩ := h
              exact jw_reti zM_X6_image dX6_image_79 rfl hw14 hA2 h
            · replace h := h.2 hs15
              refine zw_sw (tgt := 80) zM_X6_image dX6_image_18 (j_sw_out r_x2 (by omega)) rfl ?_
              refine jw_bipush (v := (-2)) zM_X6_image dX6_image_80 (by decide) ?_
              exact jw_reti zM_X6_image dX6_image_82 rfl (show jW (-2) from ⟨by decide, by decide⟩) hA2 h
  · replace h := h.2 q
    refine jw_iconst (v := (-1)) zM_X6_image dX6_image_8 rfl ?_
    exact jw_reti zM_X6_image dX6_image_9 rfl (show jW (-1) from ⟨by decide, by decide⟩) hA2 h
set_option maxHeartbeats 4000000 in
set_option maxRecDepth 100000 in
theorem vd_X6_isBlock_0 (x0 : Int) (r_x0 : jW x0) (E : jE) (A : jA) (K : Int → jA → Prop) (h : ((x0 = (8 : Int) → K 1 A) ∧ (¬ x0 = (8 : Int) → ((x0 = (16 : Int) → K 1 A) ∧ (¬ x0 = (16 : Int) → ((¬ x0 = (32 : Int) → K 0 A) ∧ (x0 = (32 : Int) → K 1 A))))))) : jrI 123 0 [some (.int (jI x0))] [] E A K := by
  intro hA
  refine zw_go (pc1 := 1) (L1 := [some (.int (jI x0))]) (st1 := [.int (jI x0)]) (σ1 := js E A) zM_X6_isBlock dX6_isBlock_0 rfl rfl rfl rfl ?_
  refine jw_bipush (v := 8) zM_X6_isBlock dX6_isBlock_1 (by decide) ?_
  refine jw_icmp_eq (tgt := 18) zM_X6_isBlock dX6_isBlock_3 rfl r_x0 (show jW 8 from ⟨by decide, by decide⟩) (fun q => ?_) (fun q => ?_)
  · replace h := h.1 q
    refine jw_iconst (v := 1) zM_X6_isBlock dX6_isBlock_18 rfl ?_
    refine zw_goto (tgt := 23) zM_X6_isBlock dX6_isBlock_19 rfl ?_
    exact jw_retz zM_X6_isBlock dX6_isBlock_23 rfl (Or.inr rfl) hA h
  · replace h := h.2 q
    refine zw_go (pc1 := 7) (L1 := [some (.int (jI x0))]) (st1 := [.int (jI x0)]) (σ1 := js E A) zM_X6_isBlock dX6_isBlock_6 rfl rfl rfl rfl ?_
    refine jw_bipush (v := 16) zM_X6_isBlock dX6_isBlock_7 (by decide) ?_
    refine jw_icmp_eq (tgt := 18) zM_X6_isBlock dX6_isBlock_9 rfl r_x0 (show jW 16 from ⟨by decide, by decide⟩) (fun q => ?_) (fun q => ?_)
    · replace h := h.1 q
      refine jw_iconst (v := 1) zM_X6_isBlock dX6_isBlock_18 rfl ?_
      refine zw_goto (tgt := 23) zM_X6_isBlock dX6_isBlock_19 rfl ?_
      exact jw_retz zM_X6_isBlock dX6_isBlock_23 rfl (Or.inr rfl) hA h
    · replace h := h.2 q
      refine zw_go (pc1 := 13) (L1 := [some (.int (jI x0))]) (st1 := [.int (jI x0)]) (σ1 := js E A) zM_X6_isBlock dX6_isBlock_12 rfl rfl rfl rfl ?_
      refine jw_bipush (v := 32) zM_X6_isBlock dX6_isBlock_13 (by decide) ?_
      refine jw_icmp_ne (tgt := 22) zM_X6_isBlock dX6_isBlock_15 rfl r_x0 (show jW 32 from ⟨by decide, by decide⟩) (fun q => ?_) (fun q => ?_)
      · replace h := h.1 q
        refine jw_iconst (v := 0) zM_X6_isBlock dX6_isBlock_22 rfl ?_
        exact jw_retz zM_X6_isBlock dX6_isBlock_23 rfl (Or.inl rfl) hA h
      · replace h := h.2 q
        refine jw_iconst (v := 1) zM_X6_isBlock dX6_isBlock_18 rfl ?_
        refine zw_goto (tgt := 23) zM_X6_isBlock dX6_isBlock_19 rfl ?_
        exact jw_retz zM_X6_isBlock dX6_isBlock_23 rfl (Or.inr rfl) hA h
set_option maxHeartbeats 4000000 in
set_option maxRecDepth 100000 in
theorem vd_X6_isName_0 (x0 : Int) (r_x0 : jW x0) (E : jE) (A : jA) (K : Int → jA → Prop) (h : ((x0 < (1 : Int) → K 0 A) ∧ ((1 : Int) ≤ x0 → (((999 : Int) < x0 → K 0 A) ∧ (x0 ≤ (999 : Int) → K 1 A))))) : jrI 124 0 [some (.int (jI x0))] [] E A K := by
  intro hA
  refine zw_go (pc1 := 1) (L1 := [some (.int (jI x0))]) (st1 := [.int (jI x0)]) (σ1 := js E A) zM_X6_isName dX6_isName_0 rfl rfl rfl rfl ?_
  refine jw_iconst (v := 1) zM_X6_isName dX6_isName_1 rfl ?_
  refine jw_icmp_lt (tgt := 16) zM_X6_isName dX6_isName_2 rfl r_x0 (show jW 1 from ⟨by decide, by decide⟩) (fun q => ?_) (fun q => ?_)
  · replace h := h.1 q
    refine jw_iconst (v := 0) zM_X6_isName dX6_isName_16 rfl ?_
    exact jw_retz zM_X6_isName dX6_isName_17 rfl (Or.inl rfl) hA h
  · replace h := h.2 q
    refine zw_go (pc1 := 6) (L1 := [some (.int (jI x0))]) (st1 := [.int (jI x0)]) (σ1 := js E A) zM_X6_isName dX6_isName_5 rfl rfl rfl rfl ?_
    refine jw_sipush (v := 999) zM_X6_isName dX6_isName_6 (by decide) ?_
    refine jw_icmp_gt (tgt := 16) zM_X6_isName dX6_isName_9 rfl r_x0 (show jW 999 from ⟨by decide, by decide⟩) (fun q => ?_) (fun q => ?_)
    · replace h := h.1 q
      refine jw_iconst (v := 0) zM_X6_isName dX6_isName_16 rfl ?_
      exact jw_retz zM_X6_isName dX6_isName_17 rfl (Or.inl rfl) hA h
    · replace h := h.2 q
      refine jw_iconst (v := 1) zM_X6_isName dX6_isName_12 rfl ?_
      refine zw_goto (tgt := 17) zM_X6_isName dX6_isName_13 rfl ?_
      exact jw_retz zM_X6_isName dX6_isName_17 rfl (Or.inr rfl) hA h
set_option maxHeartbeats 4000000 in
set_option maxRecDepth 100000 in
theorem vd_X6_isWord_0 (x0 : Int) (r_x0 : jW x0) (E : jE) (A : jA) (K : Int → jA → Prop) (h : ((x0 < (0 : Int) → K 0 A) ∧ ((0 : Int) ≤ x0 → (((65535 : Int) < x0 → K 0 A) ∧ (x0 ≤ (65535 : Int) → K 1 A))))) : jrI 125 0 [some (.int (jI x0))] [] E A K := by
  intro hA
  refine zw_go (pc1 := 1) (L1 := [some (.int (jI x0))]) (st1 := [.int (jI x0)]) (σ1 := js E A) zM_X6_isWord dX6_isWord_0 rfl rfl rfl rfl ?_
  refine jw_if_lt (tgt := 14) zM_X6_isWord dX6_isWord_1 rfl r_x0 (fun q => ?_) (fun q => ?_)
  · replace h := h.1 q
    refine jw_iconst (v := 0) zM_X6_isWord dX6_isWord_14 rfl ?_
    exact jw_retz zM_X6_isWord dX6_isWord_15 rfl (Or.inl rfl) hA h
  · replace h := h.2 q
    refine zw_go (pc1 := 5) (L1 := [some (.int (jI x0))]) (st1 := [.int (jI x0)]) (σ1 := js E A) zM_X6_isWord dX6_isWord_4 rfl rfl rfl rfl ?_
    refine jw_ldc (w := 65535) zM_X6_isWord dX6_isWord_5 zK_6_211 (by decide) ?_
    refine jw_icmp_gt (tgt := 14) zM_X6_isWord dX6_isWord_7 rfl r_x0 (show jW 65535 from ⟨by decide, by decide⟩) (fun q => ?_) (fun q => ?_)
    · replace h := h.1 q
      refine jw_iconst (v := 0) zM_X6_isWord dX6_isWord_14 rfl ?_
      exact jw_retz zM_X6_isWord dX6_isWord_15 rfl (Or.inl rfl) hA h
    · replace h := h.2 q
      refine jw_iconst (v := 1) zM_X6_isWord dX6_isWord_10 rfl ?_
      refine zw_goto (tgt := 15) zM_X6_isWord dX6_isWord_11 rfl ?_
      exact jw_retz zM_X6_isWord dX6_isWord_15 rfl (Or.inr rfl) hA h
set_option maxHeartbeats 4000000 in
set_option maxRecDepth 100000 in
theorem vd_X6_link_0 (x1 : Int) (r_x1 : jW x1) (x2 : Int) (r_x2 : jW x2) (x3 : Int) (r_x3 : jW x3) (E : jE) (A : jA) (K : Int → jA → Prop) (h : jrI 101 0 [some (.ref 2), some (.int (jI x1))] [] E A (fun v3 A1 => ((v3 = (0 : Int) → K (-1) A1) ∧ (¬ v3 = (0 : Int) → jrI 101 0 [some (.ref 2), some (.int (jI x3))] [] E A1 (fun v7 A5 => ((¬ v7 = (0 : Int) → jrI 124 0 [some (.int (jI x2))] [] E A5 (fun v11 A9 => ((¬ v11 = (0 : Int) → jrI 107 0 [some (.ref 2), some (.int (jI x1)), some (.int (jI x2)), none, none] [] E A9 (fun v15 A13 => ((v15 = (0 : Int) → K (-3) A13) ∧ (¬ v15 = (0 : Int) → (0 ≤ x3 ∧ x3 < 32) ∧ (((A13 3 x3) = (2 : Int) → (0 ≤ x3 ∧ x3 < 32) ∧ (((A13 6 x3) < (9 : Int) → jrI 96 0 [some (.ref 2), some (.int (jI x1)), some (.int (jI x2)), some (.int (jI x3)), none, none, none] [] E A13 (fun v21 A19 => K v21 A19)) ∧ ((9 : Int) ≤ (A13 6 x3) → K (-4) A13))) ∧ (¬ (A13 3 x3) = (2 : Int) → K (-3) A13)))))) ∧ (v11 = (0 : Int) → K (-2) A9)))) ∧ (v7 = (0 : Int) → K (-1) A5))))))) : jrI 126 0 [some (.ref 1), some (.int (jI x1)), some (.int (jI x2)), some (.int (jI x3))] [] E A K := by
  intro hA
  refine zw_go (pc1 := 1) (L1 := [some (.ref 1), some (.int (jI x1)), some (.int (jI x2)), some (.int (jI x3))]) (st1 := [.ref 1]) (σ1 := js E A) zM_X6_link dX6_link_0 rfl rfl rfl rfl ?_
  refine jw_getR (a := 2) zM_X6_link dX6_link_1 zF_6_12 rfl rfl rfl ?_
  refine zw_go (pc1 := 5) (L1 := [some (.ref 1), some (.int (jI x1)), some (.int (jI x2)), some (.int (jI x3))]) (st1 := [.int (jI x1), .ref 2]) (σ1 := js E A) zM_X6_link dX6_link_4 rfl rfl rfl rfl ?_
  refine jw_callI (as := [.ref 2, .int (jI x1)]) (rest := []) zM_X6_link dX6_link_5 (zx_calV zC_6_54) zM_X5_hasNode rfl rfl rfl rfl rfl (j_args0 rfl rfl) rfl hA h (fun v3 A1 rv4 hA2 h => ?_)
  refine jw_if_eq (tgt := 22) zM_X6_link dX6_link_8 rfl rv4 (fun q => ?_) (fun q => ?_)
  · replace h := h.1 q
    refine jw_iconst (v := (-1)) zM_X6_link dX6_link_22 rfl ?_
    exact jw_reti zM_X6_link dX6_link_23 rfl (show jW (-1) from ⟨by decide, by decide⟩) hA2 h
  · replace h := h.2 q
    refine zw_go (pc1 := 12) (L1 := [some (.ref 1), some (.int (jI x1)), some (.int (jI x2)), some (.int (jI x3))]) (st1 := [.ref 1]) (σ1 := js E A1) zM_X6_link dX6_link_11 rfl rfl rfl rfl ?_
    refine jw_getR (a := 2) zM_X6_link dX6_link_12 zF_6_12 rfl rfl rfl ?_
    refine zw_go (pc1 := 16) (L1 := [some (.ref 1), some (.int (jI x1)), some (.int (jI x2)), some (.int (jI x3))]) (st1 := [.int (jI x3), .ref 2]) (σ1 := js E A1) zM_X6_link dX6_link_15 rfl rfl rfl rfl ?_
    refine jw_callI (as := [.ref 2, .int (jI x3)]) (rest := []) zM_X6_link dX6_link_16 (zx_calV zC_6_54) zM_X5_hasNode rfl rfl rfl rfl rfl (j_args0 rfl rfl) rfl hA2 h (fun v7 A5 rv8 hA6 h => ?_)
    refine jw_if_ne (tgt := 24) zM_X6_link dX6_link_19 rfl rv8 (fun q => ?_) (fun q => ?_)
    · replace h := h.1 q
      refine zw_go (pc1 := 25) (L1 := [some (.ref 1), some (.int (jI x1)), some (.int (jI x2)), some (.int (jI x3))]) (st1 := [.int (jI x2)]) (σ1 := js E A5) zM_X6_link dX6_link_24 rfl rfl rfl rfl ?_
      refine jw_callI (as := [.int (jI x2)]) (rest := []) zM_X6_link dX6_link_25 (zx_calS zC_6_58) zM_X6_isName rfl rfl rfl rfl rfl rfl rfl hA6 h (fun v11 A9 rv12 hA10 h => ?_)
      refine jw_if_ne (tgt := 34) zM_X6_link dX6_link_28 rfl rv12 (fun q => ?_) (fun q => ?_)
      · replace h := h.1 q
        refine zw_go (pc1 := 35) (L1 := [some (.ref 1), some (.int (jI x1)), some (.int (jI x2)), some (.int (jI x3))]) (st1 := [.ref 1]) (σ1 := js E A9) zM_X6_link dX6_link_34 rfl rfl rfl rfl ?_
        refine jw_getR (a := 2) zM_X6_link dX6_link_35 zF_6_12 rfl rfl rfl ?_
        refine zw_go (pc1 := 39) (L1 := [some (.ref 1), some (.int (jI x1)), some (.int (jI x2)), some (.int (jI x3))]) (st1 := [.int (jI x1), .ref 2]) (σ1 := js E A9) zM_X6_link dX6_link_38 rfl rfl rfl rfl ?_
        refine zw_go (pc1 := 40) (L1 := [some (.ref 1), some (.int (jI x1)), some (.int (jI x2)), some (.int (jI x3))]) (st1 := [.int (jI x2), .int (jI x1), .ref 2]) (σ1 := js E A9) zM_X6_link dX6_link_39 rfl rfl rfl rfl ?_
        refine jw_callI (as := [.ref 2, .int (jI x1), .int (jI x2)]) (rest := []) zM_X6_link dX6_link_40 (zx_calV zC_6_61) zM_X5_takesName rfl rfl rfl rfl rfl (j_args0 rfl rfl) rfl hA10 h (fun v15 A13 rv16 hA14 h => ?_)
        refine jw_if_eq (tgt := 59) zM_X6_link dX6_link_43 rfl rv16 (fun q => ?_) (fun q => ?_)
        · replace h := h.1 q
          refine jw_bipush (v := (-3)) zM_X6_link dX6_link_59 (by decide) ?_
          exact jw_reti zM_X6_link dX6_link_61 rfl (show jW (-3) from ⟨by decide, by decide⟩) hA14 h
        · replace h := h.2 q
          refine zw_go (pc1 := 47) (L1 := [some (.ref 1), some (.int (jI x1)), some (.int (jI x2)), some (.int (jI x3))]) (st1 := [.ref 1]) (σ1 := js E A13) zM_X6_link dX6_link_46 rfl rfl rfl rfl ?_
          refine jw_getR (a := 2) zM_X6_link dX6_link_47 zF_6_12 rfl rfl rfl ?_
          refine jw_getR (a := 3) zM_X6_link dX6_link_50 zF_6_65 rfl rfl rfl ?_
          refine zw_go (pc1 := 54) (L1 := [some (.ref 1), some (.int (jI x1)), some (.int (jI x2)), some (.int (jI x3))]) (st1 := [.int (jI x3), .ref 3]) (σ1 := js E A13) zM_X6_link dX6_link_53 rfl rfl rfl rfl ?_
          obtain ⟨hi17, h⟩ := h
          refine jw_iald zM_X6_link dX6_link_54 rfl rfl hi17 ?_
          refine jw_iconst (v := 2) zM_X6_link dX6_link_55 rfl ?_
          refine jw_icmp_eq (tgt := 62) zM_X6_link dX6_link_56 rfl (hA14 3 x3) (show jW 2 from ⟨by decide, by decide⟩) (fun q => ?_) (fun q => ?_)
          · replace h := h.1 q
            refine zw_go (pc1 := 63) (L1 := [some (.ref 1), some (.int (jI x1)), some (.int (jI x2)), some (.int (jI x3))]) (st1 := [.ref 1]) (σ1 := js E A13) zM_X6_link dX6_link_62 rfl rfl rfl rfl ?_
            refine jw_getR (a := 2) zM_X6_link dX6_link_63 zF_6_12 rfl rfl rfl ?_
            refine jw_getR (a := 6) zM_X6_link dX6_link_66 zF_6_69 rfl rfl rfl ?_
            refine zw_go (pc1 := 70) (L1 := [some (.ref 1), some (.int (jI x1)), some (.int (jI x2)), some (.int (jI x3))]) (st1 := [.int (jI x3), .ref 6]) (σ1 := js E A13) zM_X6_link dX6_link_69 rfl rfl rfl rfl ?_
            obtain ⟨hi18, h⟩ := h
            refine jw_iald zM_X6_link dX6_link_70 rfl rfl hi18 ?_
            refine jw_bipush (v := 9) zM_X6_link dX6_link_71 (by decide) ?_
            refine jw_icmp_lt (tgt := 79) zM_X6_link dX6_link_73 rfl (hA14 6 x3) (show jW 9 from ⟨by decide, by decide⟩) (fun q => ?_) (fun q => ?_)
            · replace h := h.1 q
              refine zw_go (pc1 := 80) (L1 := [some (.ref 1), some (.int (jI x1)), some (.int (jI x2)), some (.int (jI x3))]) (st1 := [.ref 1]) (σ1 := js E A13) zM_X6_link dX6_link_79 rfl rfl rfl rfl ?_
              refine jw_getR (a := 2) zM_X6_link dX6_link_80 zF_6_12 rfl rfl rfl ?_
              refine zw_go (pc1 := 84) (L1 := [some (.ref 1), some (.int (jI x1)), some (.int (jI x2)), some (.int (jI x3))]) (st1 := [.int (jI x1), .ref 2]) (σ1 := js E A13) zM_X6_link dX6_link_83 rfl rfl rfl rfl ?_
              refine zw_go (pc1 := 85) (L1 := [some (.ref 1), some (.int (jI x1)), some (.int (jI x2)), some (.int (jI x3))]) (st1 := [.int (jI x2), .int (jI x1), .ref 2]) (σ1 := js E A13) zM_X6_link dX6_link_84 rfl rfl rfl rfl ?_
              refine zw_go (pc1 := 86) (L1 := [some (.ref 1), some (.int (jI x1)), some (.int (jI x2)), some (.int (jI x3))]) (st1 := [.int (jI x3), .int (jI x2), .int (jI x1), .ref 2]) (σ1 := js E A13) zM_X6_link dX6_link_85 rfl rfl rfl rfl ?_
              refine jw_callI (as := [.ref 2, .int (jI x1), .int (jI x2), .int (jI x3)]) (rest := []) zM_X6_link dX6_link_86 (zx_calV zC_6_72) zM_X5_addName rfl rfl rfl rfl rfl (j_args0 rfl rfl) rfl hA14 h (fun v21 A19 rv22 hA20 h => ?_)
              exact jw_reti zM_X6_link dX6_link_89 rfl rv22 hA20 h
            · replace h := h.2 q
              refine jw_bipush (v := (-4)) zM_X6_link dX6_link_76 (by decide) ?_
              exact jw_reti zM_X6_link dX6_link_78 rfl (show jW (-4) from ⟨by decide, by decide⟩) hA14 h
          · replace h := h.2 q
            refine jw_bipush (v := (-3)) zM_X6_link dX6_link_59 (by decide) ?_
            exact jw_reti zM_X6_link dX6_link_61 rfl (show jW (-3) from ⟨by decide, by decide⟩) hA14 h
      · replace h := h.2 q
        refine jw_bipush (v := (-2)) zM_X6_link dX6_link_31 (by decide) ?_
        exact jw_reti zM_X6_link dX6_link_33 rfl (show jW (-2) from ⟨by decide, by decide⟩) hA10 h
    · replace h := h.2 q
      refine jw_iconst (v := (-1)) zM_X6_link dX6_link_22 rfl ?_
      exact jw_reti zM_X6_link dX6_link_23 rfl (show jW (-1) from ⟨by decide, by decide⟩) hA6 h
set_option maxHeartbeats 4000000 in
set_option maxRecDepth 100000 in
theorem vd_X6_list_0 (x1 : Int) (r_x1 : jW x1) (x2 : Int) (r_x2 : jW x2) (E : jE) (A : jA) (K : Int → jA → Prop) (h : jrI 71 0 [some (.ref 38), some (.int (jI x1))] [] E A (fun v3 A1 => ((¬ v3 = (0 : Int) → (((0 : Int) ≤ x2 → jrI 75 0 [some (.ref 38), some (.int (jI x1))] [] E A1 (fun v7 A5 => ((v7 = (1 : Int) → jrI 79 0 [some (.ref 38), some (.int (jI x1)), some (.int (jI x2)), none, none] [] E A5 (fun v11 A9 => K v11 A9)) ∧ (¬ v7 = (1 : Int) → K (-3) A5)))) ∧ (x2 < (0 : Int) → K (-2) A1))) ∧ (v3 = (0 : Int) → K (-1) A1)))) : jrI 127 0 [some (.ref 1), some (.int (jI x1)), some (.int (jI x2))] [] E A K := by
  intro hA
  refine zw_go (pc1 := 1) (L1 := [some (.ref 1), some (.int (jI x1)), some (.int (jI x2))]) (st1 := [.ref 1]) (σ1 := js E A) zM_X6_list dX6_list_0 rfl rfl rfl rfl ?_
  refine jw_getR (a := 38) zM_X6_list dX6_list_1 zF_6_46 rfl rfl rfl ?_
  refine zw_go (pc1 := 5) (L1 := [some (.ref 1), some (.int (jI x1)), some (.int (jI x2))]) (st1 := [.int (jI x1), .ref 38]) (σ1 := js E A) zM_X6_list dX6_list_4 rfl rfl rfl rfl ?_
  refine jw_callI (as := [.ref 38, .int (jI x1)]) (rest := []) zM_X6_list dX6_list_5 (zx_calV zC_6_176) zM_X3_hasView rfl rfl rfl rfl rfl (j_args0 rfl rfl) rfl hA h (fun v3 A1 rv4 hA2 h => ?_)
  refine jw_if_ne (tgt := 13) zM_X6_list dX6_list_8 rfl rv4 (fun q => ?_) (fun q => ?_)
  · replace h := h.1 q
    refine zw_go (pc1 := 14) (L1 := [some (.ref 1), some (.int (jI x1)), some (.int (jI x2))]) (st1 := [.int (jI x2)]) (σ1 := js E A1) zM_X6_list dX6_list_13 rfl rfl rfl rfl ?_
    refine jw_if_ge (tgt := 20) zM_X6_list dX6_list_14 rfl r_x2 (fun q => ?_) (fun q => ?_)
    · replace h := h.1 q
      refine zw_go (pc1 := 21) (L1 := [some (.ref 1), some (.int (jI x1)), some (.int (jI x2))]) (st1 := [.ref 1]) (σ1 := js E A1) zM_X6_list dX6_list_20 rfl rfl rfl rfl ?_
      refine jw_getR (a := 38) zM_X6_list dX6_list_21 zF_6_46 rfl rfl rfl ?_
      refine zw_go (pc1 := 25) (L1 := [some (.ref 1), some (.int (jI x1)), some (.int (jI x2))]) (st1 := [.int (jI x1), .ref 38]) (σ1 := js E A1) zM_X6_list dX6_list_24 rfl rfl rfl rfl ?_
      refine jw_callI (as := [.ref 38, .int (jI x1)]) (rest := []) zM_X6_list dX6_list_25 (zx_calV zC_6_179) zM_X3_kindOf rfl rfl rfl rfl rfl (j_args0 rfl rfl) rfl hA2 h (fun v7 A5 rv8 hA6 h => ?_)
      refine jw_iconst (v := 1) zM_X6_list dX6_list_28 rfl ?_
      refine jw_icmp_eq (tgt := 35) zM_X6_list dX6_list_29 rfl rv8 (show jW 1 from ⟨by decide, by decide⟩) (fun q => ?_) (fun q => ?_)
      · replace h := h.1 q
        refine zw_go (pc1 := 36) (L1 := [some (.ref 1), some (.int (jI x1)), some (.int (jI x2))]) (st1 := [.ref 1]) (σ1 := js E A5) zM_X6_list dX6_list_35 rfl rfl rfl rfl ?_
        refine jw_getR (a := 38) zM_X6_list dX6_list_36 zF_6_46 rfl rfl rfl ?_
        refine zw_go (pc1 := 40) (L1 := [some (.ref 1), some (.int (jI x1)), some (.int (jI x2))]) (st1 := [.int (jI x1), .ref 38]) (σ1 := js E A5) zM_X6_list dX6_list_39 rfl rfl rfl rfl ?_
        refine zw_go (pc1 := 41) (L1 := [some (.ref 1), some (.int (jI x1)), some (.int (jI x2))]) (st1 := [.int (jI x2), .int (jI x1), .ref 38]) (σ1 := js E A5) zM_X6_list dX6_list_40 rfl rfl rfl rfl ?_
        refine jw_callI (as := [.ref 38, .int (jI x1), .int (jI x2)]) (rest := []) zM_X6_list dX6_list_41 (zx_calV zC_6_184) zM_X3_nameBelow rfl rfl rfl rfl rfl (j_args0 rfl rfl) rfl hA6 h (fun v11 A9 rv12 hA10 h => ?_)
        exact jw_reti zM_X6_list dX6_list_44 rfl rv12 hA10 h
      · replace h := h.2 q
        refine jw_bipush (v := (-3)) zM_X6_list dX6_list_32 (by decide) ?_
        exact jw_reti zM_X6_list dX6_list_34 rfl (show jW (-3) from ⟨by decide, by decide⟩) hA6 h
    · replace h := h.2 q
      refine jw_bipush (v := (-2)) zM_X6_list dX6_list_17 (by decide) ?_
      exact jw_reti zM_X6_list dX6_list_19 rfl (show jW (-2) from ⟨by decide, by decide⟩) hA2 h
  · replace h := h.2 q
    refine jw_iconst (v := (-1)) zM_X6_list dX6_list_11 rfl ?_
    exact jw_reti zM_X6_list dX6_list_12 rfl (show jW (-1) from ⟨by decide, by decide⟩) hA2 h
set_option maxHeartbeats 4000000 in
set_option maxRecDepth 100000 in
theorem vd_X6_load_0  (E : jE) (A : jA) (K : Int → jA → Prop) (h : (((A 1 6) < (3 : Int) → jrI 59 0 [some (.ref 36), some (.ref 19)] [] E A (fun v3 A1 => ((¬ v3 = (0 : Int) → jrI 128 53 [some (.ref 1), some (.int (jI v3))] [] E A1 K) ∧ (v3 = (0 : Int) → (0 ≤ (A1 1 6) ∧ (A1 1 6) < 3) ∧ jrV 23 0 [some (.ref (13 + 2 * (A1 1 6).toNat)), some (.ref 19)] [] E A1 (fun A6 => jW ((A6 1 6) + 1) ∧ ∀ A9 : jA, A9 = jup A6 1 6 ((A6 1 6) + 1) → jrI 128 53 [some (.ref 1), some (.int (jI v3))] [] E A9 K))))) ∧ ((3 : Int) ≤ (A 1 6) → K (-4) A))) : jrI 128 0 [some (.ref 1), none] [] E A K := by
  intro hA
  refine zw_go (pc1 := 1) (L1 := [some (.ref 1), none]) (st1 := [.ref 1]) (σ1 := js E A) zM_X6_load dX6_load_0 rfl rfl rfl rfl ?_
  refine jw_getI zM_X6_load dX6_load_1 zF_6_100 rfl rfl rfl ?_
  refine jw_iconst (v := 3) zM_X6_load dX6_load_4 rfl ?_
  refine jw_icmp_lt (tgt := 11) zM_X6_load dX6_load_5 rfl (hA 1 6) (show jW 3 from ⟨by decide, by decide⟩) (fun q => ?_) (fun q => ?_)
  · replace h := h.1 q
    refine zw_go (pc1 := 12) (L1 := [some (.ref 1), none]) (st1 := [.ref 1]) (σ1 := js E A) zM_X6_load dX6_load_11 rfl rfl rfl rfl ?_
    refine jw_getR (a := 36) zM_X6_load dX6_load_12 zF_6_39 rfl rfl rfl ?_
    refine zw_go (pc1 := 16) (L1 := [some (.ref 1), none]) (st1 := [.ref 1, .ref 36]) (σ1 := js E A) zM_X6_load dX6_load_15 rfl rfl rfl rfl ?_
    refine jw_getR (a := 19) zM_X6_load dX6_load_16 zF_6_25 rfl rfl rfl ?_
    refine jw_callI (as := [.ref 36, .ref 19]) (rest := []) zM_X6_load dX6_load_19 (zx_calV zC_6_113) zM_X2_firstFault rfl rfl rfl rfl rfl (j_args0 rfl rfl) rfl hA h (fun v3 A1 rv4 hA2 h => ?_)
    refine zw_go (pc1 := 23) (L1 := [some (.ref 1), some (.int (jI v3))]) (st1 := []) (σ1 := js E A1) zM_X6_load dX6_load_22 rfl rfl rfl rfl ?_
    refine zw_go (pc1 := 24) (L1 := [some (.ref 1), some (.int (jI v3))]) (st1 := [.int (jI v3)]) (σ1 := js E A1) zM_X6_load dX6_load_23 rfl rfl rfl rfl ?_
    refine jw_if_ne (tgt := 53) zM_X6_load dX6_load_24 rfl rv4 (fun q => ?_) (fun q => ?_)
    · replace h := h.1 q
      exact zw_weak2 (h hA2) ⟨rfl, rfl, trivial⟩
    · replace h := h.2 q
      refine zw_go (pc1 := 28) (L1 := [some (.ref 1), some (.int (jI v3))]) (st1 := [.ref 1]) (σ1 := js E A1) zM_X6_load dX6_load_27 rfl rfl rfl rfl ?_
      refine jw_getR (a := 12) zM_X6_load dX6_load_28 zF_6_18 rfl rfl rfl ?_
      refine zw_go (pc1 := 32) (L1 := [some (.ref 1), some (.int (jI v3))]) (st1 := [.ref 1, .ref 12]) (σ1 := js E A1) zM_X6_load dX6_load_31 rfl rfl rfl rfl ?_
      refine jw_getI zM_X6_load dX6_load_32 zF_6_100 rfl rfl rfl ?_
      obtain ⟨hi5, h⟩ := h
      refine jw_aald zM_X6_load dX6_load_35 hi5 ?_
      refine zw_go (pc1 := 37) (L1 := [some (.ref 1), some (.int (jI v3))]) (st1 := [.ref 1, .ref (13 + 2 * (A1 1 6).toNat)]) (σ1 := js E A1) zM_X6_load dX6_load_36 rfl rfl rfl rfl ?_
      refine jw_getR (a := 19) zM_X6_load dX6_load_37 zF_6_25 rfl rfl rfl ?_
      refine jw_callV (as := [.ref (13 + 2 * (A1 1 6).toNat), .ref 19]) (rest := []) zM_X6_load dX6_load_40 (zx_calV zC_6_117) zM_X1_copyFrom rfl rfl rfl rfl rfl (j_args0 (jim.K (jim_at hi5.1 hi5.2)) rfl) rfl hA2 h (fun A6 hA7 h => ?_)
      refine zw_go (pc1 := 44) (L1 := [some (.ref 1), some (.int (jI v3))]) (st1 := [.ref 1]) (σ1 := js E A6) zM_X6_load dX6_load_43 rfl rfl rfl rfl ?_
      refine zw_go (pc1 := 45) (L1 := [some (.ref 1), some (.int (jI v3))]) (st1 := [.ref 1, .ref 1]) (σ1 := js E A6) zM_X6_load dX6_load_44 rfl rfl rfl rfl ?_
      refine jw_getI zM_X6_load dX6_load_45 zF_6_100 rfl rfl rfl ?_
      refine jw_iconst (v := 1) zM_X6_load dX6_load_48 rfl ?_
      refine jw_add zM_X6_load dX6_load_49 ?_
      obtain ⟨hw8, h⟩ := h
      obtain ⟨A9, e10⟩ : ∃ z9 : jA, z9 = jup A6 1 6 ((A6 1 6) + 1) := ⟨_, rfl⟩
      replace h := h A9 e10
      have hA11 : jOK A9 := jOK.up hA7 hw8 e10
      refine jw_putI zM_X6_load dX6_load_50 zF_6_100 rfl rfl rfl rfl e10 ?_
      exact zw_weak2 (h hA11) ⟨rfl, rfl, trivial⟩
  · replace h := h.2 q
    refine jw_bipush (v := (-4)) zM_X6_load dX6_load_8 (by decide) ?_
    exact jw_reti zM_X6_load dX6_load_10 rfl (show jW (-4) from ⟨by decide, by decide⟩) hA h
set_option maxHeartbeats 4000000 in
set_option maxRecDepth 100000 in
theorem vd_X6_load_53 (x1 : Int) (r_x1 : jW x1) (E : jE) (A : jA) (K : Int → jA → Prop) (h : ∀ A1 : jA, A1 = jup A 19 1 0 → ((¬ x1 = (0 : Int) → jW ((-10) - x1) ∧ K ((-10) - x1) A1) ∧ (x1 = (0 : Int) → jW ((A1 1 6) - 1) ∧ K ((A1 1 6) - 1) A1))) : jrI 128 53 [some (.ref 1), some (.int (jI x1))] [] E A K := by
  intro hA
  refine zw_go (pc1 := 54) (L1 := [some (.ref 1), some (.int (jI x1))]) (st1 := [.ref 1]) (σ1 := js E A) zM_X6_load dX6_load_53 rfl rfl rfl rfl ?_
  refine jw_getR (a := 19) zM_X6_load dX6_load_54 zF_6_25 rfl rfl rfl ?_
  refine jw_iconst (v := 0) zM_X6_load dX6_load_57 rfl ?_
  obtain ⟨A1, e2⟩ : ∃ z9 : jA, z9 = jup A 19 1 0 := ⟨_, rfl⟩
  replace h := h A1 e2
  have hA3 : jOK A1 := jOK.up hA (show jW 0 from ⟨by decide, by decide⟩) e2
  refine jw_putI zM_X6_load dX6_load_58 zF_6_107 rfl rfl rfl rfl e2 ?_
  refine zw_go (pc1 := 62) (L1 := [some (.ref 1), some (.int (jI x1))]) (st1 := [.int (jI x1)]) (σ1 := js E A1) zM_X6_load dX6_load_61 rfl rfl rfl rfl ?_
  refine jw_if_ne (tgt := 74) zM_X6_load dX6_load_62 rfl r_x1 (fun q => ?_) (fun q => ?_)
  · replace h := h.1 q
    refine jw_bipush (v := (-10)) zM_X6_load dX6_load_74 (by decide) ?_
    refine zw_go (pc1 := 77) (L1 := [some (.ref 1), some (.int (jI x1))]) (st1 := [.int (jI x1), .int (jI (-10))]) (σ1 := js E A1) zM_X6_load dX6_load_76 rfl rfl rfl rfl ?_
    refine jw_sub zM_X6_load dX6_load_77 ?_
    obtain ⟨hw4, h⟩ := h
    exact jw_reti zM_X6_load dX6_load_78 rfl hw4 hA3 h
  · replace h := h.2 q
    refine zw_go (pc1 := 66) (L1 := [some (.ref 1), some (.int (jI x1))]) (st1 := [.ref 1]) (σ1 := js E A1) zM_X6_load dX6_load_65 rfl rfl rfl rfl ?_
    refine jw_getI zM_X6_load dX6_load_66 zF_6_100 rfl rfl rfl ?_
    refine jw_iconst (v := 1) zM_X6_load dX6_load_69 rfl ?_
    refine jw_sub zM_X6_load dX6_load_70 ?_
    refine zw_goto (tgt := 78) zM_X6_load dX6_load_71 rfl ?_
    obtain ⟨hw5, h⟩ := h
    exact jw_reti zM_X6_load dX6_load_78 rfl hw5 hA3 h
set_option maxHeartbeats 4000000 in
set_option maxRecDepth 100000 in
theorem vd_X6_look_0 (x1 : Int) (r_x1 : jW x1) (x2 : Int) (r_x2 : jW x2) (E : jE) (A : jA) (K : Int → jA → Prop) (h : jrI 71 0 [some (.ref 38), some (.int (jI x1))] [] E A (fun v3 A1 => ((¬ v3 = (0 : Int) → jrI 124 0 [some (.int (jI x2))] [] E A1 (fun v7 A5 => ((¬ v7 = (0 : Int) → jrI 75 0 [some (.ref 38), some (.int (jI x1))] [] E A5 (fun v11 A9 => ((v11 = (1 : Int) → jrI 77 0 [some (.ref 38), some (.int (jI x1)), some (.int (jI x2)), none] [] E A9 (fun v15 A13 => K v15 A13)) ∧ (¬ v11 = (1 : Int) → K (-3) A9)))) ∧ (v7 = (0 : Int) → K (-2) A5)))) ∧ (v3 = (0 : Int) → K (-1) A1)))) : jrI 129 0 [some (.ref 1), some (.int (jI x1)), some (.int (jI x2))] [] E A K := by
  intro hA
  refine zw_go (pc1 := 1) (L1 := [some (.ref 1), some (.int (jI x1)), some (.int (jI x2))]) (st1 := [.ref 1]) (σ1 := js E A) zM_X6_look dX6_look_0 rfl rfl rfl rfl ?_
  refine jw_getR (a := 38) zM_X6_look dX6_look_1 zF_6_46 rfl rfl rfl ?_
  refine zw_go (pc1 := 5) (L1 := [some (.ref 1), some (.int (jI x1)), some (.int (jI x2))]) (st1 := [.int (jI x1), .ref 38]) (σ1 := js E A) zM_X6_look dX6_look_4 rfl rfl rfl rfl ?_
  refine jw_callI (as := [.ref 38, .int (jI x1)]) (rest := []) zM_X6_look dX6_look_5 (zx_calV zC_6_176) zM_X3_hasView rfl rfl rfl rfl rfl (j_args0 rfl rfl) rfl hA h (fun v3 A1 rv4 hA2 h => ?_)
  refine jw_if_ne (tgt := 13) zM_X6_look dX6_look_8 rfl rv4 (fun q => ?_) (fun q => ?_)
  · replace h := h.1 q
    refine zw_go (pc1 := 14) (L1 := [some (.ref 1), some (.int (jI x1)), some (.int (jI x2))]) (st1 := [.int (jI x2)]) (σ1 := js E A1) zM_X6_look dX6_look_13 rfl rfl rfl rfl ?_
    refine jw_callI (as := [.int (jI x2)]) (rest := []) zM_X6_look dX6_look_14 (zx_calS zC_6_58) zM_X6_isName rfl rfl rfl rfl rfl rfl rfl hA2 h (fun v7 A5 rv8 hA6 h => ?_)
    refine jw_if_ne (tgt := 23) zM_X6_look dX6_look_17 rfl rv8 (fun q => ?_) (fun q => ?_)
    · replace h := h.1 q
      refine zw_go (pc1 := 24) (L1 := [some (.ref 1), some (.int (jI x1)), some (.int (jI x2))]) (st1 := [.ref 1]) (σ1 := js E A5) zM_X6_look dX6_look_23 rfl rfl rfl rfl ?_
      refine jw_getR (a := 38) zM_X6_look dX6_look_24 zF_6_46 rfl rfl rfl ?_
      refine zw_go (pc1 := 28) (L1 := [some (.ref 1), some (.int (jI x1)), some (.int (jI x2))]) (st1 := [.int (jI x1), .ref 38]) (σ1 := js E A5) zM_X6_look dX6_look_27 rfl rfl rfl rfl ?_
      refine jw_callI (as := [.ref 38, .int (jI x1)]) (rest := []) zM_X6_look dX6_look_28 (zx_calV zC_6_179) zM_X3_kindOf rfl rfl rfl rfl rfl (j_args0 rfl rfl) rfl hA6 h (fun v11 A9 rv12 hA10 h => ?_)
      refine jw_iconst (v := 1) zM_X6_look dX6_look_31 rfl ?_
      refine jw_icmp_eq (tgt := 38) zM_X6_look dX6_look_32 rfl rv12 (show jW 1 from ⟨by decide, by decide⟩) (fun q => ?_) (fun q => ?_)
      · replace h := h.1 q
        refine zw_go (pc1 := 39) (L1 := [some (.ref 1), some (.int (jI x1)), some (.int (jI x2))]) (st1 := [.ref 1]) (σ1 := js E A9) zM_X6_look dX6_look_38 rfl rfl rfl rfl ?_
        refine jw_getR (a := 38) zM_X6_look dX6_look_39 zF_6_46 rfl rfl rfl ?_
        refine zw_go (pc1 := 43) (L1 := [some (.ref 1), some (.int (jI x1)), some (.int (jI x2))]) (st1 := [.int (jI x1), .ref 38]) (σ1 := js E A9) zM_X6_look dX6_look_42 rfl rfl rfl rfl ?_
        refine zw_go (pc1 := 44) (L1 := [some (.ref 1), some (.int (jI x1)), some (.int (jI x2))]) (st1 := [.int (jI x2), .int (jI x1), .ref 38]) (σ1 := js E A9) zM_X6_look dX6_look_43 rfl rfl rfl rfl ?_
        refine jw_callI (as := [.ref 38, .int (jI x1), .int (jI x2)]) (rest := []) zM_X6_look dX6_look_44 (zx_calV zC_6_180) zM_X3_lead rfl rfl rfl rfl rfl (j_args0 rfl rfl) rfl hA10 h (fun v15 A13 rv16 hA14 h => ?_)
        exact jw_reti zM_X6_look dX6_look_47 rfl rv16 hA14 h
      · replace h := h.2 q
        refine jw_bipush (v := (-3)) zM_X6_look dX6_look_35 (by decide) ?_
        exact jw_reti zM_X6_look dX6_look_37 rfl (show jW (-3) from ⟨by decide, by decide⟩) hA10 h
    · replace h := h.2 q
      refine jw_bipush (v := (-2)) zM_X6_look dX6_look_20 (by decide) ?_
      exact jw_reti zM_X6_look dX6_look_22 rfl (show jW (-2) from ⟨by decide, by decide⟩) hA6 h
  · replace h := h.2 q
    refine jw_iconst (v := (-1)) zM_X6_look dX6_look_11 rfl ?_
    exact jw_reti zM_X6_look dX6_look_12 rfl (show jW (-1) from ⟨by decide, by decide⟩) hA2 h
set_option maxHeartbeats 4000000 in
set_option maxRecDepth 100000 in
theorem vd_X6_node_0 (x1 : Int) (r_x1 : jW x1) (x2 : Int) (r_x2 : jW x2) (x3 : Int) (r_x3 : jW x3) (E : jE) (A : jA) (K : Int → jA → Prop) (h : jrI 119 0 [some (.ref 1), some (.int (jI x1))] [] E A (fun v3 A1 => ((¬ v3 = (0 : Int) → (0 ≤ x1 ∧ x1 < 3) ∧ jrI 27 0 [some (.ref (13 + 2 * x1.toNat)), some (.int (jI x2))] [] E A1 (fun v8 A6 => ((¬ v8 = (0 : Int) → ((x3 = 0 → jrI 30 0 [some (.ref (13 + 2 * x1.toNat)), some (.int (jI x2))] [] E A6 (fun v12 A10 => K v12 A10)) ∧ (¬ x3 = 0 → ((x3 = 1 → jrI 31 0 [some (.ref (13 + 2 * x1.toNat)), some (.int (jI x2))] [] E A6 (fun v17 A15 => K v17 A15)) ∧ (¬ x3 = 1 → ((x3 = 2 → jrI 36 0 [some (.ref (13 + 2 * x1.toNat)), some (.int (jI x2))] [] E A6 (fun v22 A20 => K v22 A20)) ∧ (¬ x3 = 2 → ((x3 = 3 → jrI 32 0 [some (.ref (13 + 2 * x1.toNat)), some (.int (jI x2))] [] E A6 (fun v27 A25 => K v27 A25)) ∧ (¬ x3 = 3 → ((x3 = 4 → jrI 44 0 [some (.ref (13 + 2 * x1.toNat)), some (.int (jI x2)), none, none] [] E A6 (fun v32 A30 => K v32 A30)) ∧ (¬ x3 = 4 → K (-2) A6))))))))))) ∧ (v8 = (0 : Int) → K (-2) A6)))) ∧ (v3 = (0 : Int) → K (-1) A1)))) : jrI 130 0 [some (.ref 1), some (.int (jI x1)), some (.int (jI x2)), some (.int (jI x3)), none] [] E A K := by
  intro hA
  refine zw_go (pc1 := 1) (L1 := [some (.ref 1), some (.int (jI x1)), some (.int (jI x2)), some (.int (jI x3)), none]) (st1 := [.ref 1]) (σ1 := js E A) zM_X6_node dX6_node_0 rfl rfl rfl rfl ?_
  refine zw_go (pc1 := 2) (L1 := [some (.ref 1), some (.int (jI x1)), some (.int (jI x2)), some (.int (jI x3)), none]) (st1 := [.int (jI x1), .ref 1]) (σ1 := js E A) zM_X6_node dX6_node_1 rfl rfl rfl rfl ?_
  refine jw_callI (as := [.ref 1, .int (jI x1)]) (rest := []) zM_X6_node dX6_node_2 (zx_calV zC_6_124) zM_X6_hasImage rfl rfl rfl rfl rfl (j_args0 rfl rfl) rfl hA h (fun v3 A1 rv4 hA2 h => ?_)
  refine jw_if_ne (tgt := 10) zM_X6_node dX6_node_5 rfl rv4 (fun q => ?_) (fun q => ?_)
  · replace h := h.1 q
    refine zw_go (pc1 := 11) (L1 := [some (.ref 1), some (.int (jI x1)), some (.int (jI x2)), some (.int (jI x3)), none]) (st1 := [.ref 1]) (σ1 := js E A1) zM_X6_node dX6_node_10 rfl rfl rfl rfl ?_
    refine jw_getR (a := 12) zM_X6_node dX6_node_11 zF_6_18 rfl rfl rfl ?_
    refine zw_go (pc1 := 15) (L1 := [some (.ref 1), some (.int (jI x1)), some (.int (jI x2)), some (.int (jI x3)), none]) (st1 := [.int (jI x1), .ref 12]) (σ1 := js E A1) zM_X6_node dX6_node_14 rfl rfl rfl rfl ?_
    obtain ⟨hi5, h⟩ := h
    refine jw_aald zM_X6_node dX6_node_15 hi5 ?_
    refine zw_go (pc1 := 18) (L1 := [some (.ref 1), some (.int (jI x1)), some (.int (jI x2)), some (.int (jI x3)), some (.ref (13 + 2 * x1.toNat))]) (st1 := []) (σ1 := js E A1) zM_X6_node dX6_node_16 rfl rfl rfl rfl ?_
    refine zw_go (pc1 := 20) (L1 := [some (.ref 1), some (.int (jI x1)), some (.int (jI x2)), some (.int (jI x3)), some (.ref (13 + 2 * x1.toNat))]) (st1 := [.ref (13 + 2 * x1.toNat)]) (σ1 := js E A1) zM_X6_node dX6_node_18 rfl rfl rfl rfl ?_
    refine zw_go (pc1 := 21) (L1 := [some (.ref 1), some (.int (jI x1)), some (.int (jI x2)), some (.int (jI x3)), some (.ref (13 + 2 * x1.toNat))]) (st1 := [.int (jI x2), .ref (13 + 2 * x1.toNat)]) (σ1 := js E A1) zM_X6_node dX6_node_20 rfl rfl rfl rfl ?_
    refine jw_callI (as := [.ref (13 + 2 * x1.toNat), .int (jI x2)]) (rest := []) zM_X6_node dX6_node_21 (zx_calV zC_6_151) zM_X1_hasNumber rfl rfl rfl rfl rfl (j_args0 (jim.K (jim_at hi5.1 hi5.2)) rfl) rfl hA2 h (fun v8 A6 rv9 hA7 h => ?_)
    refine jw_if_ne (tgt := 30) zM_X6_node dX6_node_24 rfl rv9 (fun q => ?_) (fun q => ?_)
    · replace h := h.1 q
      refine zw_go (pc1 := 31) (L1 := [some (.ref 1), some (.int (jI x1)), some (.int (jI x2)), some (.int (jI x3)), some (.ref (13 + 2 * x1.toNat))]) (st1 := [.int (jI x3)]) (σ1 := js E A6) zM_X6_node dX6_node_30 rfl rfl rfl rfl ?_
      by_cases hs14 : x3 = 0
      · replace h := h.1 hs14
        refine zw_sw (tgt := 64) zM_X6_node dX6_node_31 (j_sw_in hs14 rfl) rfl ?_
        refine zw_go (pc1 := 66) (L1 := [some (.ref 1), some (.int (jI x1)), some (.int (jI x2)), some (.int (jI x3)), some (.ref (13 + 2 * x1.toNat))]) (st1 := [.ref (13 + 2 * x1.toNat)]) (σ1 := js E A6) zM_X6_node dX6_node_64 rfl rfl rfl rfl ?_
        refine zw_go (pc1 := 67) (L1 := [some (.ref 1), some (.int (jI x1)), some (.int (jI x2)), some (.int (jI x3)), some (.ref (13 + 2 * x1.toNat))]) (st1 := [.int (jI x2), .ref (13 + 2 * x1.toNat)]) (σ1 := js E A6) zM_X6_node dX6_node_66 rfl rfl rfl rfl ?_
        refine jw_callI (as := [.ref (13 + 2 * x1.toNat), .int (jI x2)]) (rest := []) zM_X6_node dX6_node_67 (zx_calV zC_6_154) zM_X1_kindOf rfl rfl rfl rfl rfl (j_args0 (jim.K (jim_at hi5.1 hi5.2)) rfl) rfl hA7 h (fun v12 A10 rv13 hA11 h => ?_)
        exact jw_reti zM_X6_node dX6_node_70 rfl rv13 hA11 h
      · replace h := h.2 hs14
        by_cases hs19 : x3 = 1
        · replace h := h.1 hs19
          refine zw_sw (tgt := 71) zM_X6_node dX6_node_31 (j_sw_in hs19 rfl) rfl ?_
          refine zw_go (pc1 := 73) (L1 := [some (.ref 1), some (.int (jI x1)), some (.int (jI x2)), some (.int (jI x3)), some (.ref (13 + 2 * x1.toNat))]) (st1 := [.ref (13 + 2 * x1.toNat)]) (σ1 := js E A6) zM_X6_node dX6_node_71 rfl rfl rfl rfl ?_
          refine zw_go (pc1 := 74) (L1 := [some (.ref 1), some (.int (jI x1)), some (.int (jI x2)), some (.int (jI x3)), some (.ref (13 + 2 * x1.toNat))]) (st1 := [.int (jI x2), .ref (13 + 2 * x1.toNat)]) (σ1 := js E A6) zM_X6_node dX6_node_73 rfl rfl rfl rfl ?_
          refine jw_callI (as := [.ref (13 + 2 * x1.toNat), .int (jI x2)]) (rest := []) zM_X6_node dX6_node_74 (zx_calV zC_6_157) zM_X1_modeOf rfl rfl rfl rfl rfl (j_args0 (jim.K (jim_at hi5.1 hi5.2)) rfl) rfl hA7 h (fun v17 A15 rv18 hA16 h => ?_)
          exact jw_reti zM_X6_node dX6_node_77 rfl rv18 hA16 h
        · replace h := h.2 hs19
          by_cases hs24 : x3 = 2
          · replace h := h.1 hs24
            refine zw_sw (tgt := 78) zM_X6_node dX6_node_31 (j_sw_in hs24 rfl) rfl ?_
            refine zw_go (pc1 := 80) (L1 := [some (.ref 1), some (.int (jI x1)), some (.int (jI x2)), some (.int (jI x3)), some (.ref (13 + 2 * x1.toNat))]) (st1 := [.ref (13 + 2 * x1.toNat)]) (σ1 := js E A6) zM_X6_node dX6_node_78 rfl rfl rfl rfl ?_
            refine zw_go (pc1 := 81) (L1 := [some (.ref 1), some (.int (jI x1)), some (.int (jI x2)), some (.int (jI x3)), some (.ref (13 + 2 * x1.toNat))]) (st1 := [.int (jI x2), .ref (13 + 2 * x1.toNat)]) (σ1 := js E A6) zM_X6_node dX6_node_80 rfl rfl rfl rfl ?_
            refine jw_callI (as := [.ref (13 + 2 * x1.toNat), .int (jI x2)]) (rest := []) zM_X6_node dX6_node_81 (zx_calV zC_6_160) zM_X1_ownerOf rfl rfl rfl rfl rfl (j_args0 (jim.K (jim_at hi5.1 hi5.2)) rfl) rfl hA7 h (fun v22 A20 rv23 hA21 h => ?_)
            exact jw_reti zM_X6_node dX6_node_84 rfl rv23 hA21 h
          · replace h := h.2 hs24
            by_cases hs29 : x3 = 3
            · replace h := h.1 hs29
              refine zw_sw (tgt := 85) zM_X6_node dX6_node_31 (j_sw_in hs29 rfl) rfl ?_
              refine zw_go (pc1 := 87) (L1 := [some (.ref 1), some (.int (jI x1)), some (.int (jI x2)), some (.int (jI x3)), some (.ref (13 + 2 * x1.toNat))]) (st1 := [.ref (13 + 2 * x1.toNat)]) (σ1 := js E A6) zM_X6_node dX6_node_85 rfl rfl rfl rfl ?_
              refine zw_go (pc1 := 88) (L1 := [some (.ref 1), some (.int (jI x1)), some (.int (jI x2)), some (.int (jI x3)), some (.ref (13 + 2 * x1.toNat))]) (st1 := [.int (jI x2), .ref (13 + 2 * x1.toNat)]) (σ1 := js E A6) zM_X6_node dX6_node_87 rfl rfl rfl rfl ?_
              refine jw_callI (as := [.ref (13 + 2 * x1.toNat), .int (jI x2)]) (rest := []) zM_X6_node dX6_node_88 (zx_calV zC_6_163) zM_X1_namesOf rfl rfl rfl rfl rfl (j_args0 (jim.K (jim_at hi5.1 hi5.2)) rfl) rfl hA7 h (fun v27 A25 rv28 hA26 h => ?_)
              exact jw_reti zM_X6_node dX6_node_91 rfl rv28 hA26 h
            · replace h := h.2 hs29
              by_cases hs34 : x3 = 4
              · replace h := h.1 hs34
                refine zw_sw (tgt := 92) zM_X6_node dX6_node_31 (j_sw_in hs34 rfl) rfl ?_
                refine zw_go (pc1 := 94) (L1 := [some (.ref 1), some (.int (jI x1)), some (.int (jI x2)), some (.int (jI x3)), some (.ref (13 + 2 * x1.toNat))]) (st1 := [.ref (13 + 2 * x1.toNat)]) (σ1 := js E A6) zM_X6_node dX6_node_92 rfl rfl rfl rfl ?_
                refine zw_go (pc1 := 95) (L1 := [some (.ref 1), some (.int (jI x1)), some (.int (jI x2)), some (.int (jI x3)), some (.ref (13 + 2 * x1.toNat))]) (st1 := [.int (jI x2), .ref (13 + 2 * x1.toNat)]) (σ1 := js E A6) zM_X6_node dX6_node_94 rfl rfl rfl rfl ?_
                refine jw_callI (as := [.ref (13 + 2 * x1.toNat), .int (jI x2)]) (rest := []) zM_X6_node dX6_node_95 (zx_calV zC_6_166) zM_X1_sizeOf rfl rfl rfl rfl rfl (j_args0 (jim.K (jim_at hi5.1 hi5.2)) rfl) rfl hA7 h (fun v32 A30 rv33 hA31 h => ?_)
                exact jw_reti zM_X6_node dX6_node_98 rfl rv33 hA31 h
              · replace h := h.2 hs34
                refine zw_sw (tgt := 99) zM_X6_node dX6_node_31 (j_sw_out r_x3 (by omega)) rfl ?_
                refine jw_bipush (v := (-2)) zM_X6_node dX6_node_99 (by decide) ?_
                exact jw_reti zM_X6_node dX6_node_101 rfl (show jW (-2) from ⟨by decide, by decide⟩) hA7 h
    · replace h := h.2 q
      refine jw_bipush (v := (-2)) zM_X6_node dX6_node_27 (by decide) ?_
      exact jw_reti zM_X6_node dX6_node_29 rfl (show jW (-2) from ⟨by decide, by decide⟩) hA7 h
  · replace h := h.2 q
    refine jw_iconst (v := (-1)) zM_X6_node dX6_node_8 rfl ?_
    exact jw_reti zM_X6_node dX6_node_9 rfl (show jW (-1) from ⟨by decide, by decide⟩) hA2 h
set_option maxHeartbeats 4000000 in
set_option maxRecDepth 100000 in
theorem vd_X6_owner_0 (x1 : Int) (r_x1 : jW x1) (x2 : Int) (r_x2 : jW x2) (x3 : Int) (r_x3 : jW x3) (E : jE) (A : jA) (K : Int → jA → Prop) (h : jrI 101 0 [some (.ref 2), some (.int (jI x1))] [] E A (fun v3 A1 => ((¬ v3 = (0 : Int) → jrI 125 0 [some (.int (jI x2))] [] E A1 (fun v7 A5 => ((v7 = (0 : Int) → K (-2) A5) ∧ (¬ v7 = (0 : Int) → jrI 125 0 [some (.int (jI x3))] [] E A5 (fun v11 A9 => ((¬ v11 = (0 : Int) → (0 ≤ x1 ∧ x1 < 32) ∧ ∀ A14 : jA, A14 = jup A9 4 x1 x2 → (0 ≤ x1 ∧ x1 < 32) ∧ ∀ A18 : jA, A18 = jup A14 5 x1 x3 → K 1 A18) ∧ (v11 = (0 : Int) → K (-2) A9))))))) ∧ (v3 = (0 : Int) → K (-1) A1)))) : jrI 133 0 [some (.ref 1), some (.int (jI x1)), some (.int (jI x2)), some (.int (jI x3))] [] E A K := by
  intro hA
  refine zw_go (pc1 := 1) (L1 := [some (.ref 1), some (.int (jI x1)), some (.int (jI x2)), some (.int (jI x3))]) (st1 := [.ref 1]) (σ1 := js E A) zM_X6_owner dX6_owner_0 rfl rfl rfl rfl ?_
  refine jw_getR (a := 2) zM_X6_owner dX6_owner_1 zF_6_12 rfl rfl rfl ?_
  refine zw_go (pc1 := 5) (L1 := [some (.ref 1), some (.int (jI x1)), some (.int (jI x2)), some (.int (jI x3))]) (st1 := [.int (jI x1), .ref 2]) (σ1 := js E A) zM_X6_owner dX6_owner_4 rfl rfl rfl rfl ?_
  refine jw_callI (as := [.ref 2, .int (jI x1)]) (rest := []) zM_X6_owner dX6_owner_5 (zx_calV zC_6_54) zM_X5_hasNode rfl rfl rfl rfl rfl (j_args0 rfl rfl) rfl hA h (fun v3 A1 rv4 hA2 h => ?_)
  refine jw_if_ne (tgt := 13) zM_X6_owner dX6_owner_8 rfl rv4 (fun q => ?_) (fun q => ?_)
  · replace h := h.1 q
    refine zw_go (pc1 := 14) (L1 := [some (.ref 1), some (.int (jI x1)), some (.int (jI x2)), some (.int (jI x3))]) (st1 := [.int (jI x2)]) (σ1 := js E A1) zM_X6_owner dX6_owner_13 rfl rfl rfl rfl ?_
    refine jw_callI (as := [.int (jI x2)]) (rest := []) zM_X6_owner dX6_owner_14 (zx_calS zC_6_81) zM_X6_isWord rfl rfl rfl rfl rfl rfl rfl hA2 h (fun v7 A5 rv8 hA6 h => ?_)
    refine jw_if_eq (tgt := 27) zM_X6_owner dX6_owner_17 rfl rv8 (fun q => ?_) (fun q => ?_)
    · replace h := h.1 q
      refine jw_bipush (v := (-2)) zM_X6_owner dX6_owner_27 (by decide) ?_
      exact jw_reti zM_X6_owner dX6_owner_29 rfl (show jW (-2) from ⟨by decide, by decide⟩) hA6 h
    · replace h := h.2 q
      refine zw_go (pc1 := 21) (L1 := [some (.ref 1), some (.int (jI x1)), some (.int (jI x2)), some (.int (jI x3))]) (st1 := [.int (jI x3)]) (σ1 := js E A5) zM_X6_owner dX6_owner_20 rfl rfl rfl rfl ?_
      refine jw_callI (as := [.int (jI x3)]) (rest := []) zM_X6_owner dX6_owner_21 (zx_calS zC_6_81) zM_X6_isWord rfl rfl rfl rfl rfl rfl rfl hA6 h (fun v11 A9 rv12 hA10 h => ?_)
      refine jw_if_ne (tgt := 30) zM_X6_owner dX6_owner_24 rfl rv12 (fun q => ?_) (fun q => ?_)
      · replace h := h.1 q
        refine zw_go (pc1 := 31) (L1 := [some (.ref 1), some (.int (jI x1)), some (.int (jI x2)), some (.int (jI x3))]) (st1 := [.ref 1]) (σ1 := js E A9) zM_X6_owner dX6_owner_30 rfl rfl rfl rfl ?_
        refine jw_getR (a := 2) zM_X6_owner dX6_owner_31 zF_6_12 rfl rfl rfl ?_
        refine jw_getR (a := 4) zM_X6_owner dX6_owner_34 zF_6_84 rfl rfl rfl ?_
        refine zw_go (pc1 := 38) (L1 := [some (.ref 1), some (.int (jI x1)), some (.int (jI x2)), some (.int (jI x3))]) (st1 := [.int (jI x1), .ref 4]) (σ1 := js E A9) zM_X6_owner dX6_owner_37 rfl rfl rfl rfl ?_
        refine zw_go (pc1 := 39) (L1 := [some (.ref 1), some (.int (jI x1)), some (.int (jI x2)), some (.int (jI x3))]) (st1 := [.int (jI x2), .int (jI x1), .ref 4]) (σ1 := js E A9) zM_X6_owner dX6_owner_38 rfl rfl rfl rfl ?_
        obtain ⟨hi13, h⟩ := h
        obtain ⟨A14, e15⟩ : ∃ z9 : jA, z9 = jup A9 4 x1 x2 := ⟨_, rfl⟩
        replace h := h A14 e15
        have hA16 : jOK A14 := jOK.up hA10 r_x2 e15
        refine jw_iast zM_X6_owner dX6_owner_39 rfl rfl hi13 e15 ?_
        refine zw_go (pc1 := 41) (L1 := [some (.ref 1), some (.int (jI x1)), some (.int (jI x2)), some (.int (jI x3))]) (st1 := [.ref 1]) (σ1 := js E A14) zM_X6_owner dX6_owner_40 rfl rfl rfl rfl ?_
        refine jw_getR (a := 2) zM_X6_owner dX6_owner_41 zF_6_12 rfl rfl rfl ?_
        refine jw_getR (a := 5) zM_X6_owner dX6_owner_44 zF_6_87 rfl rfl rfl ?_
        refine zw_go (pc1 := 48) (L1 := [some (.ref 1), some (.int (jI x1)), some (.int (jI x2)), some (.int (jI x3))]) (st1 := [.int (jI x1), .ref 5]) (σ1 := js E A14) zM_X6_owner dX6_owner_47 rfl rfl rfl rfl ?_
        refine zw_go (pc1 := 49) (L1 := [some (.ref 1), some (.int (jI x1)), some (.int (jI x2)), some (.int (jI x3))]) (st1 := [.int (jI x3), .int (jI x1), .ref 5]) (σ1 := js E A14) zM_X6_owner dX6_owner_48 rfl rfl rfl rfl ?_
        obtain ⟨hi17, h⟩ := h
        obtain ⟨A18, e19⟩ : ∃ z9 : jA, z9 = jup A14 5 x1 x3 := ⟨_, rfl⟩
        replace h := h A18 e19
        have hA20 : jOK A18 := jOK.up hA16 r_x3 e19
        refine jw_iast zM_X6_owner dX6_owner_49 rfl rfl hi17 e19 ?_
        refine jw_iconst (v := 1) zM_X6_owner dX6_owner_50 rfl ?_
        exact jw_reti zM_X6_owner dX6_owner_51 rfl (show jW 1 from ⟨by decide, by decide⟩) hA20 h
      · replace h := h.2 q
        refine jw_bipush (v := (-2)) zM_X6_owner dX6_owner_27 (by decide) ?_
        exact jw_reti zM_X6_owner dX6_owner_29 rfl (show jW (-2) from ⟨by decide, by decide⟩) hA10 h
  · replace h := h.2 q
    refine jw_iconst (v := (-1)) zM_X6_owner dX6_owner_11 rfl ?_
    exact jw_reti zM_X6_owner dX6_owner_12 rfl (show jW (-1) from ⟨by decide, by decide⟩) hA2 h
set_option maxHeartbeats 4000000 in
set_option maxRecDepth 100000 in
theorem vd_X6_read_0 (x1 : Int) (r_x1 : jW x1) (x2 : Int) (r_x2 : jW x2) (E : jE) (A : jA) (K : Int → jA → Prop) (h : jrI 71 0 [some (.ref 38), some (.int (jI x1))] [] E A (fun v3 A1 => ((¬ v3 = (0 : Int) → (((0 : Int) ≤ x2 → jrI 75 0 [some (.ref 38), some (.int (jI x1))] [] E A1 (fun v7 A5 => ((v7 = (2 : Int) → jrI 84 0 [some (.ref 38), some (.int (jI x1))] [] E A5 (fun v11 A9 => ((x2 < v11 → jrI 68 0 [some (.ref 38), some (.int (jI x1)), some (.int (jI x2))] [] E A9 (fun v15 A13 => K v15 A13)) ∧ (v11 ≤ x2 → K (-2) A9)))) ∧ (¬ v7 = (2 : Int) → K (-3) A5)))) ∧ (x2 < (0 : Int) → K (-2) A1))) ∧ (v3 = (0 : Int) → K (-1) A1)))) : jrI 134 0 [some (.ref 1), some (.int (jI x1)), some (.int (jI x2))] [] E A K := by
  intro hA
  refine zw_go (pc1 := 1) (L1 := [some (.ref 1), some (.int (jI x1)), some (.int (jI x2))]) (st1 := [.ref 1]) (σ1 := js E A) zM_X6_read dX6_read_0 rfl rfl rfl rfl ?_
  refine jw_getR (a := 38) zM_X6_read dX6_read_1 zF_6_46 rfl rfl rfl ?_
  refine zw_go (pc1 := 5) (L1 := [some (.ref 1), some (.int (jI x1)), some (.int (jI x2))]) (st1 := [.int (jI x1), .ref 38]) (σ1 := js E A) zM_X6_read dX6_read_4 rfl rfl rfl rfl ?_
  refine jw_callI (as := [.ref 38, .int (jI x1)]) (rest := []) zM_X6_read dX6_read_5 (zx_calV zC_6_176) zM_X3_hasView rfl rfl rfl rfl rfl (j_args0 rfl rfl) rfl hA h (fun v3 A1 rv4 hA2 h => ?_)
  refine jw_if_ne (tgt := 13) zM_X6_read dX6_read_8 rfl rv4 (fun q => ?_) (fun q => ?_)
  · replace h := h.1 q
    refine zw_go (pc1 := 14) (L1 := [some (.ref 1), some (.int (jI x1)), some (.int (jI x2))]) (st1 := [.int (jI x2)]) (σ1 := js E A1) zM_X6_read dX6_read_13 rfl rfl rfl rfl ?_
    refine jw_if_ge (tgt := 20) zM_X6_read dX6_read_14 rfl r_x2 (fun q => ?_) (fun q => ?_)
    · replace h := h.1 q
      refine zw_go (pc1 := 21) (L1 := [some (.ref 1), some (.int (jI x1)), some (.int (jI x2))]) (st1 := [.ref 1]) (σ1 := js E A1) zM_X6_read dX6_read_20 rfl rfl rfl rfl ?_
      refine jw_getR (a := 38) zM_X6_read dX6_read_21 zF_6_46 rfl rfl rfl ?_
      refine zw_go (pc1 := 25) (L1 := [some (.ref 1), some (.int (jI x1)), some (.int (jI x2))]) (st1 := [.int (jI x1), .ref 38]) (σ1 := js E A1) zM_X6_read dX6_read_24 rfl rfl rfl rfl ?_
      refine jw_callI (as := [.ref 38, .int (jI x1)]) (rest := []) zM_X6_read dX6_read_25 (zx_calV zC_6_179) zM_X3_kindOf rfl rfl rfl rfl rfl (j_args0 rfl rfl) rfl hA2 h (fun v7 A5 rv8 hA6 h => ?_)
      refine jw_iconst (v := 2) zM_X6_read dX6_read_28 rfl ?_
      refine jw_icmp_eq (tgt := 35) zM_X6_read dX6_read_29 rfl rv8 (show jW 2 from ⟨by decide, by decide⟩) (fun q => ?_) (fun q => ?_)
      · replace h := h.1 q
        refine zw_go (pc1 := 36) (L1 := [some (.ref 1), some (.int (jI x1)), some (.int (jI x2))]) (st1 := [.int (jI x2)]) (σ1 := js E A5) zM_X6_read dX6_read_35 rfl rfl rfl rfl ?_
        refine zw_go (pc1 := 37) (L1 := [some (.ref 1), some (.int (jI x1)), some (.int (jI x2))]) (st1 := [.ref 1, .int (jI x2)]) (σ1 := js E A5) zM_X6_read dX6_read_36 rfl rfl rfl rfl ?_
        refine jw_getR (a := 38) zM_X6_read dX6_read_37 zF_6_46 rfl rfl rfl ?_
        refine zw_go (pc1 := 41) (L1 := [some (.ref 1), some (.int (jI x1)), some (.int (jI x2))]) (st1 := [.int (jI x1), .ref 38, .int (jI x2)]) (σ1 := js E A5) zM_X6_read dX6_read_40 rfl rfl rfl rfl ?_
        refine jw_callI (as := [.ref 38, .int (jI x1)]) (rest := [.int (jI x2)]) zM_X6_read dX6_read_41 (zx_calV zC_6_193) zM_X3_sizeOf rfl rfl rfl rfl rfl (j_args0 rfl rfl) rfl hA6 h (fun v11 A9 rv12 hA10 h => ?_)
        refine jw_icmp_lt (tgt := 50) zM_X6_read dX6_read_44 rfl r_x2 rv12 (fun q => ?_) (fun q => ?_)
        · replace h := h.1 q
          refine zw_go (pc1 := 51) (L1 := [some (.ref 1), some (.int (jI x1)), some (.int (jI x2))]) (st1 := [.ref 1]) (σ1 := js E A9) zM_X6_read dX6_read_50 rfl rfl rfl rfl ?_
          refine jw_getR (a := 38) zM_X6_read dX6_read_51 zF_6_46 rfl rfl rfl ?_
          refine zw_go (pc1 := 55) (L1 := [some (.ref 1), some (.int (jI x1)), some (.int (jI x2))]) (st1 := [.int (jI x1), .ref 38]) (σ1 := js E A9) zM_X6_read dX6_read_54 rfl rfl rfl rfl ?_
          refine zw_go (pc1 := 56) (L1 := [some (.ref 1), some (.int (jI x1)), some (.int (jI x2))]) (st1 := [.int (jI x2), .int (jI x1), .ref 38]) (σ1 := js E A9) zM_X6_read dX6_read_55 rfl rfl rfl rfl ?_
          refine jw_callI (as := [.ref 38, .int (jI x1), .int (jI x2)]) (rest := []) zM_X6_read dX6_read_56 (zx_calV zC_6_199) zM_X3_byteOf rfl rfl rfl rfl rfl (j_args0 rfl rfl) rfl hA10 h (fun v15 A13 rv16 hA14 h => ?_)
          exact jw_reti zM_X6_read dX6_read_59 rfl rv16 hA14 h
        · replace h := h.2 q
          refine jw_bipush (v := (-2)) zM_X6_read dX6_read_47 (by decide) ?_
          exact jw_reti zM_X6_read dX6_read_49 rfl (show jW (-2) from ⟨by decide, by decide⟩) hA10 h
      · replace h := h.2 q
        refine jw_bipush (v := (-3)) zM_X6_read dX6_read_32 (by decide) ?_
        exact jw_reti zM_X6_read dX6_read_34 rfl (show jW (-3) from ⟨by decide, by decide⟩) hA6 h
    · replace h := h.2 q
      refine jw_bipush (v := (-2)) zM_X6_read dX6_read_17 (by decide) ?_
      exact jw_reti zM_X6_read dX6_read_19 rfl (show jW (-2) from ⟨by decide, by decide⟩) hA2 h
  · replace h := h.2 q
    refine jw_iconst (v := (-1)) zM_X6_read dX6_read_11 rfl ?_
    exact jw_reti zM_X6_read dX6_read_12 rfl (show jW (-1) from ⟨by decide, by decide⟩) hA2 h
set_option maxHeartbeats 4000000 in
set_option maxRecDepth 100000 in
theorem vd_X6_same_0 (x1 : Int) (r_x1 : jW x1) (x2 : Int) (r_x2 : jW x2) (E : jE) (A : jA) (K : Int → jA → Prop) (h : jrI 119 0 [some (.ref 1), some (.int (jI x1))] [] E A (fun v3 A1 => ((v3 = (0 : Int) → K (-1) A1) ∧ (¬ v3 = (0 : Int) → jrI 119 0 [some (.ref 1), some (.int (jI x2))] [] E A1 (fun v7 A5 => ((¬ v7 = (0 : Int) → (0 ≤ x1 ∧ x1 < 3) ∧ (0 ≤ x2 ∧ x2 < 3) ∧ jrI 26 0 [some (.ref (13 + 2 * x1.toNat)), some (.ref (13 + 2 * x2.toNat)), none] [] E A5 (fun v13 A11 => ((v13 = (0 : Int) → K 0 A11) ∧ (¬ v13 = (0 : Int) → K 1 A11)))) ∧ (v7 = (0 : Int) → K (-1) A5))))))) : jrI 135 0 [some (.ref 1), some (.int (jI x1)), some (.int (jI x2))] [] E A K := by
  intro hA
  refine zw_go (pc1 := 1) (L1 := [some (.ref 1), some (.int (jI x1)), some (.int (jI x2))]) (st1 := [.ref 1]) (σ1 := js E A) zM_X6_same dX6_same_0 rfl rfl rfl rfl ?_
  refine zw_go (pc1 := 2) (L1 := [some (.ref 1), some (.int (jI x1)), some (.int (jI x2))]) (st1 := [.int (jI x1), .ref 1]) (σ1 := js E A) zM_X6_same dX6_same_1 rfl rfl rfl rfl ?_
  refine jw_callI (as := [.ref 1, .int (jI x1)]) (rest := []) zM_X6_same dX6_same_2 (zx_calV zC_6_124) zM_X6_hasImage rfl rfl rfl rfl rfl (j_args0 rfl rfl) rfl hA h (fun v3 A1 rv4 hA2 h => ?_)
  refine jw_if_eq (tgt := 16) zM_X6_same dX6_same_5 rfl rv4 (fun q => ?_) (fun q => ?_)
  · replace h := h.1 q
    refine jw_iconst (v := (-1)) zM_X6_same dX6_same_16 rfl ?_
    exact jw_reti zM_X6_same dX6_same_17 rfl (show jW (-1) from ⟨by decide, by decide⟩) hA2 h
  · replace h := h.2 q
    refine zw_go (pc1 := 9) (L1 := [some (.ref 1), some (.int (jI x1)), some (.int (jI x2))]) (st1 := [.ref 1]) (σ1 := js E A1) zM_X6_same dX6_same_8 rfl rfl rfl rfl ?_
    refine zw_go (pc1 := 10) (L1 := [some (.ref 1), some (.int (jI x1)), some (.int (jI x2))]) (st1 := [.int (jI x2), .ref 1]) (σ1 := js E A1) zM_X6_same dX6_same_9 rfl rfl rfl rfl ?_
    refine jw_callI (as := [.ref 1, .int (jI x2)]) (rest := []) zM_X6_same dX6_same_10 (zx_calV zC_6_124) zM_X6_hasImage rfl rfl rfl rfl rfl (j_args0 rfl rfl) rfl hA2 h (fun v7 A5 rv8 hA6 h => ?_)
    refine jw_if_ne (tgt := 18) zM_X6_same dX6_same_13 rfl rv8 (fun q => ?_) (fun q => ?_)
    · replace h := h.1 q
      refine zw_go (pc1 := 19) (L1 := [some (.ref 1), some (.int (jI x1)), some (.int (jI x2))]) (st1 := [.ref 1]) (σ1 := js E A5) zM_X6_same dX6_same_18 rfl rfl rfl rfl ?_
      refine jw_getR (a := 12) zM_X6_same dX6_same_19 zF_6_18 rfl rfl rfl ?_
      refine zw_go (pc1 := 23) (L1 := [some (.ref 1), some (.int (jI x1)), some (.int (jI x2))]) (st1 := [.int (jI x1), .ref 12]) (σ1 := js E A5) zM_X6_same dX6_same_22 rfl rfl rfl rfl ?_
      obtain ⟨hi9, h⟩ := h
      refine jw_aald zM_X6_same dX6_same_23 hi9 ?_
      refine zw_go (pc1 := 25) (L1 := [some (.ref 1), some (.int (jI x1)), some (.int (jI x2))]) (st1 := [.ref 1, .ref (13 + 2 * x1.toNat)]) (σ1 := js E A5) zM_X6_same dX6_same_24 rfl rfl rfl rfl ?_
      refine jw_getR (a := 12) zM_X6_same dX6_same_25 zF_6_18 rfl rfl rfl ?_
      refine zw_go (pc1 := 29) (L1 := [some (.ref 1), some (.int (jI x1)), some (.int (jI x2))]) (st1 := [.int (jI x2), .ref 12, .ref (13 + 2 * x1.toNat)]) (σ1 := js E A5) zM_X6_same dX6_same_28 rfl rfl rfl rfl ?_
      obtain ⟨hi10, h⟩ := h
      refine jw_aald zM_X6_same dX6_same_29 hi10 ?_
      refine jw_callI (as := [.ref (13 + 2 * x1.toNat), .ref (13 + 2 * x2.toNat)]) (rest := []) zM_X6_same dX6_same_30 (zx_calV zC_6_147) zM_X1_hasBytesOf rfl rfl rfl rfl rfl (j_args0 (jim.K (jim_at hi9.1 hi9.2)) rfl) rfl hA6 h (fun v13 A11 rv14 hA12 h => ?_)
      refine jw_if_eq (tgt := 40) zM_X6_same dX6_same_33 rfl rv14 (fun q => ?_) (fun q => ?_)
      · replace h := h.1 q
        refine jw_iconst (v := 0) zM_X6_same dX6_same_40 rfl ?_
        exact jw_reti zM_X6_same dX6_same_41 rfl (show jW 0 from ⟨by decide, by decide⟩) hA12 h
      · replace h := h.2 q
        refine jw_iconst (v := 1) zM_X6_same dX6_same_36 rfl ?_
        refine zw_goto (tgt := 41) zM_X6_same dX6_same_37 rfl ?_
        exact jw_reti zM_X6_same dX6_same_41 rfl (show jW 1 from ⟨by decide, by decide⟩) hA12 h
    · replace h := h.2 q
      refine jw_iconst (v := (-1)) zM_X6_same dX6_same_16 rfl ?_
      exact jw_reti zM_X6_same dX6_same_17 rfl (show jW (-1) from ⟨by decide, by decide⟩) hA6 h
set_option maxHeartbeats 4000000 in
set_option maxRecDepth 100000 in
theorem vd_X6_view_0 (x1 : Int) (r_x1 : jW x1) (x2 : Int) (r_x2 : jW x2) (E : jE) (A : jA) (K : Int → jA → Prop) (h : jrI 71 0 [some (.ref 38), some (.int (jI x1))] [] E A (fun v3 A1 => ((¬ v3 = (0 : Int) → ((x2 = 0 → jrI 75 0 [some (.ref 38), some (.int (jI x1))] [] E A1 (fun v7 A5 => K v7 A5)) ∧ (¬ x2 = 0 → ((x2 = 1 → jrI 72 0 [some (.ref 38), some (.int (jI x1))] [] E A1 (fun v12 A10 => K v12 A10)) ∧ (¬ x2 = 1 → ((x2 = 2 → jrI 81 0 [some (.ref 38), some (.int (jI x1))] [] E A1 (fun v17 A15 => K v17 A15)) ∧ (¬ x2 = 2 → ((x2 = 3 → jrI 84 0 [some (.ref 38), some (.int (jI x1))] [] E A1 (fun v22 A20 => K v22 A20)) ∧ (¬ x2 = 3 → ((x2 = 4 → jrI 78 0 [some (.ref 38), some (.int (jI x1))] [] E A1 (fun v27 A25 => K v27 A25)) ∧ (¬ x2 = 4 → ((x2 = 5 → jrI 82 0 [some (.ref 38), some (.int (jI x1))] [] E A1 (fun v32 A30 => K v32 A30)) ∧ (¬ x2 = 5 → ((x2 = 6 → jrI 69 0 [some (.ref 38), some (.int (jI x1))] [] E A1 (fun v37 A35 => K v37 A35)) ∧ (¬ x2 = 6 → K (-2) A1))))))))))))))) ∧ (v3 = (0 : Int) → K (-1) A1)))) : jrI 136 0 [some (.ref 1), some (.int (jI x1)), some (.int (jI x2))] [] E A K := by
  intro hA
  refine zw_go (pc1 := 1) (L1 := [some (.ref 1), some (.int (jI x1)), some (.int (jI x2))]) (st1 := [.ref 1]) (σ1 := js E A) zM_X6_view dX6_view_0 rfl rfl rfl rfl ?_
  refine jw_getR (a := 38) zM_X6_view dX6_view_1 zF_6_46 rfl rfl rfl ?_
  refine zw_go (pc1 := 5) (L1 := [some (.ref 1), some (.int (jI x1)), some (.int (jI x2))]) (st1 := [.int (jI x1), .ref 38]) (σ1 := js E A) zM_X6_view dX6_view_4 rfl rfl rfl rfl ?_
  refine jw_callI (as := [.ref 38, .int (jI x1)]) (rest := []) zM_X6_view dX6_view_5 (zx_calV zC_6_176) zM_X3_hasView rfl rfl rfl rfl rfl (j_args0 rfl rfl) rfl hA h (fun v3 A1 rv4 hA2 h => ?_)
  refine jw_if_ne (tgt := 13) zM_X6_view dX6_view_8 rfl rv4 (fun q => ?_) (fun q => ?_)
  · replace h := h.1 q
    refine zw_go (pc1 := 14) (L1 := [some (.ref 1), some (.int (jI x1)), some (.int (jI x2))]) (st1 := [.int (jI x2)]) (σ1 := js E A1) zM_X6_view dX6_view_13 rfl rfl rfl rfl ?_
    by_cases hs9 : x2 = 0
    · replace h := h.1 hs9
      refine zw_sw (tgt := 56) zM_X6_view dX6_view_14 (j_sw_in hs9 rfl) rfl ?_
      refine zw_go (pc1 := 57) (L1 := [some (.ref 1), some (.int (jI x1)), some (.int (jI x2))]) (st1 := [.ref 1]) (σ1 := js E A1) zM_X6_view dX6_view_56 rfl rfl rfl rfl ?_
      refine jw_getR (a := 38) zM_X6_view dX6_view_57 zF_6_46 rfl rfl rfl ?_
      refine zw_go (pc1 := 61) (L1 := [some (.ref 1), some (.int (jI x1)), some (.int (jI x2))]) (st1 := [.int (jI x1), .ref 38]) (σ1 := js E A1) zM_X6_view dX6_view_60 rfl rfl rfl rfl ?_
      refine jw_callI (as := [.ref 38, .int (jI x1)]) (rest := []) zM_X6_view dX6_view_61 (zx_calV zC_6_179) zM_X3_kindOf rfl rfl rfl rfl rfl (j_args0 rfl rfl) rfl hA2 h (fun v7 A5 rv8 hA6 h => ?_)
      exact jw_reti zM_X6_view dX6_view_64 rfl rv8 hA6 h
    · replace h := h.2 hs9
      by_cases hs14 : x2 = 1
      · replace h := h.1 hs14
        refine zw_sw (tgt := 65) zM_X6_view dX6_view_14 (j_sw_in hs14 rfl) rfl ?_
        refine zw_go (pc1 := 66) (L1 := [some (.ref 1), some (.int (jI x1)), some (.int (jI x2))]) (st1 := [.ref 1]) (σ1 := js E A1) zM_X6_view dX6_view_65 rfl rfl rfl rfl ?_
        refine jw_getR (a := 38) zM_X6_view dX6_view_66 zF_6_46 rfl rfl rfl ?_
        refine zw_go (pc1 := 70) (L1 := [some (.ref 1), some (.int (jI x1)), some (.int (jI x2))]) (st1 := [.int (jI x1), .ref 38]) (σ1 := js E A1) zM_X6_view dX6_view_69 rfl rfl rfl rfl ?_
        refine jw_callI (as := [.ref 38, .int (jI x1)]) (rest := []) zM_X6_view dX6_view_70 (zx_calV zC_6_187) zM_X3_imageOf rfl rfl rfl rfl rfl (j_args0 rfl rfl) rfl hA2 h (fun v12 A10 rv13 hA11 h => ?_)
        exact jw_reti zM_X6_view dX6_view_73 rfl rv13 hA11 h
      · replace h := h.2 hs14
        by_cases hs19 : x2 = 2
        · replace h := h.1 hs19
          refine zw_sw (tgt := 74) zM_X6_view dX6_view_14 (j_sw_in hs19 rfl) rfl ?_
          refine zw_go (pc1 := 75) (L1 := [some (.ref 1), some (.int (jI x1)), some (.int (jI x2))]) (st1 := [.ref 1]) (σ1 := js E A1) zM_X6_view dX6_view_74 rfl rfl rfl rfl ?_
          refine jw_getR (a := 38) zM_X6_view dX6_view_75 zF_6_46 rfl rfl rfl ?_
          refine zw_go (pc1 := 79) (L1 := [some (.ref 1), some (.int (jI x1)), some (.int (jI x2))]) (st1 := [.int (jI x1), .ref 38]) (σ1 := js E A1) zM_X6_view dX6_view_78 rfl rfl rfl rfl ?_
          refine jw_callI (as := [.ref 38, .int (jI x1)]) (rest := []) zM_X6_view dX6_view_79 (zx_calV zC_6_190) zM_X3_numberOf rfl rfl rfl rfl rfl (j_args0 rfl rfl) rfl hA2 h (fun v17 A15 rv18 hA16 h => ?_)
          exact jw_reti zM_X6_view dX6_view_82 rfl rv18 hA16 h
        · replace h := h.2 hs19
          by_cases hs24 : x2 = 3
          · replace h := h.1 hs24
            refine zw_sw (tgt := 83) zM_X6_view dX6_view_14 (j_sw_in hs24 rfl) rfl ?_
            refine zw_go (pc1 := 84) (L1 := [some (.ref 1), some (.int (jI x1)), some (.int (jI x2))]) (st1 := [.ref 1]) (σ1 := js E A1) zM_X6_view dX6_view_83 rfl rfl rfl rfl ?_
            refine jw_getR (a := 38) zM_X6_view dX6_view_84 zF_6_46 rfl rfl rfl ?_
            refine zw_go (pc1 := 88) (L1 := [some (.ref 1), some (.int (jI x1)), some (.int (jI x2))]) (st1 := [.int (jI x1), .ref 38]) (σ1 := js E A1) zM_X6_view dX6_view_87 rfl rfl rfl rfl ?_
            refine jw_callI (as := [.ref 38, .int (jI x1)]) (rest := []) zM_X6_view dX6_view_88 (zx_calV zC_6_193) zM_X3_sizeOf rfl rfl rfl rfl rfl (j_args0 rfl rfl) rfl hA2 h (fun v22 A20 rv23 hA21 h => ?_)
            exact jw_reti zM_X6_view dX6_view_91 rfl rv23 hA21 h
          · replace h := h.2 hs24
            by_cases hs29 : x2 = 4
            · replace h := h.1 hs29
              refine zw_sw (tgt := 92) zM_X6_view dX6_view_14 (j_sw_in hs29 rfl) rfl ?_
              refine zw_go (pc1 := 93) (L1 := [some (.ref 1), some (.int (jI x1)), some (.int (jI x2))]) (st1 := [.ref 1]) (σ1 := js E A1) zM_X6_view dX6_view_92 rfl rfl rfl rfl ?_
              refine jw_getR (a := 38) zM_X6_view dX6_view_93 zF_6_46 rfl rfl rfl ?_
              refine zw_go (pc1 := 97) (L1 := [some (.ref 1), some (.int (jI x1)), some (.int (jI x2))]) (st1 := [.int (jI x1), .ref 38]) (σ1 := js E A1) zM_X6_view dX6_view_96 rfl rfl rfl rfl ?_
              refine jw_callI (as := [.ref 38, .int (jI x1)]) (rest := []) zM_X6_view dX6_view_97 (zx_calV zC_6_194) zM_X3_modeOf rfl rfl rfl rfl rfl (j_args0 rfl rfl) rfl hA2 h (fun v27 A25 rv28 hA26 h => ?_)
              exact jw_reti zM_X6_view dX6_view_100 rfl rv28 hA26 h
            · replace h := h.2 hs29
              by_cases hs34 : x2 = 5
              · replace h := h.1 hs34
                refine zw_sw (tgt := 101) zM_X6_view dX6_view_14 (j_sw_in hs34 rfl) rfl ?_
                refine zw_go (pc1 := 102) (L1 := [some (.ref 1), some (.int (jI x1)), some (.int (jI x2))]) (st1 := [.ref 1]) (σ1 := js E A1) zM_X6_view dX6_view_101 rfl rfl rfl rfl ?_
                refine jw_getR (a := 38) zM_X6_view dX6_view_102 zF_6_46 rfl rfl rfl ?_
                refine zw_go (pc1 := 106) (L1 := [some (.ref 1), some (.int (jI x1)), some (.int (jI x2))]) (st1 := [.int (jI x1), .ref 38]) (σ1 := js E A1) zM_X6_view dX6_view_105 rfl rfl rfl rfl ?_
                refine jw_callI (as := [.ref 38, .int (jI x1)]) (rest := []) zM_X6_view dX6_view_106 (zx_calV zC_6_195) zM_X3_ownerOf rfl rfl rfl rfl rfl (j_args0 rfl rfl) rfl hA2 h (fun v32 A30 rv33 hA31 h => ?_)
                exact jw_reti zM_X6_view dX6_view_109 rfl rv33 hA31 h
              · replace h := h.2 hs34
                by_cases hs39 : x2 = 6
                · replace h := h.1 hs39
                  refine zw_sw (tgt := 110) zM_X6_view dX6_view_14 (j_sw_in hs39 rfl) rfl ?_
                  refine zw_go (pc1 := 111) (L1 := [some (.ref 1), some (.int (jI x1)), some (.int (jI x2))]) (st1 := [.ref 1]) (σ1 := js E A1) zM_X6_view dX6_view_110 rfl rfl rfl rfl ?_
                  refine jw_getR (a := 38) zM_X6_view dX6_view_111 zF_6_46 rfl rfl rfl ?_
                  refine zw_go (pc1 := 115) (L1 := [some (.ref 1), some (.int (jI x1)), some (.int (jI x2))]) (st1 := [.int (jI x1), .ref 38]) (σ1 := js E A1) zM_X6_view dX6_view_114 rfl rfl rfl rfl ?_
                  refine jw_callI (as := [.ref 38, .int (jI x1)]) (rest := []) zM_X6_view dX6_view_115 (zx_calV zC_6_196) zM_X3_depthOf rfl rfl rfl rfl rfl (j_args0 rfl rfl) rfl hA2 h (fun v37 A35 rv38 hA36 h => ?_)
                  exact jw_reti zM_X6_view dX6_view_118 rfl rv38 hA36 h
                · replace h := h.2 hs39
                  refine zw_sw (tgt := 119) zM_X6_view dX6_view_14 (j_sw_out r_x2 (by omega)) rfl ?_
                  refine jw_bipush (v := (-2)) zM_X6_view dX6_view_119 (by decide) ?_
                  exact jw_reti zM_X6_view dX6_view_121 rfl (show jW (-2) from ⟨by decide, by decide⟩) hA2 h
  · replace h := h.2 q
    refine jw_iconst (v := (-1)) zM_X6_view dX6_view_11 rfl ?_
    exact jw_reti zM_X6_view dX6_view_12 rfl (show jW (-1) from ⟨by decide, by decide⟩) hA2 h
