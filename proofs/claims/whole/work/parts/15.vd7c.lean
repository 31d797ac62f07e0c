set_option maxHeartbeats 4000000 in
set_option maxRecDepth 100000 in
theorem vd_X7_comes_0 (x1 : Int) (r_x1 : jW x1) (x2 : Int) (r_x2 : jW x2) (x3 : Int) (r_x3 : jW x3) (E : jE) (A : jA) (K : Int → jA → Prop) (h : ∀ A1 : jA, A1 = jup A 49 0 0 → jrI 167 0 [some (.ref 49), some (.int (jI x2))] [] E A1 (fun v6 A4 => ((¬ v6 = (0 : Int) → jrI 160 0 [some (.int (jI x3)), some (.int (jI 1)), some (.int (jI 999))] [] E A4 (fun v10 A8 => ((¬ v10 = (0 : Int) → (0 ≤ x2 ∧ x2 < 32) ∧ ((¬ (A8 50 x2) = (1 : Int) → K (-3) A8) ∧ ((A8 50 x2) = (1 : Int) → jrI 169 0 [some (.ref 49), some (.int (jI x2)), some (.int (jI x3)), none, none] [] E A8 (fun v15 A13 => ((v15 = (0 : Int) → ((¬ (A13 49 1) = (32 : Int) → (0 ≤ (A13 49 1) ∧ (A13 49 1) < 32) ∧ ∀ A18 : jA, A18 = jup A13 50 (A13 49 1) x1 → (0 ≤ (A18 49 1) ∧ (A18 49 1) < 32) ∧ ∀ A22 : jA, A22 = jup A18 51 (A18 49 1) 0 → (0 ≤ (A22 49 1) ∧ (A22 49 1) < 32) ∧ ∀ A26 : jA, A26 = jup A22 52 (A22 49 1) 0 → (0 ≤ (A26 49 1) ∧ (A26 49 1) < 32) ∧ ∀ A30 : jA, A30 = jup A26 53 (A26 49 1) 0 → jrV 182 0 [some (.ref 49), some (.int (jI x2)), some (.int (jI x3)), some (.int (jI (A30 49 1)))] [] E A30 (fun A33 => jW ((A33 49 1) + 1) ∧ ∀ A36 : jA, A36 = jup A33 49 1 ((A33 49 1) + 1) → jW ((A36 49 1) - 1) ∧ K ((A36 49 1) - 1) A36)) ∧ ((A13 49 1) = (32 : Int) → K (-4) A13))) ∧ (¬ v15 = (0 : Int) → K (-3) A13)))))) ∧ (v10 = (0 : Int) → K (-2) A8)))) ∧ (v6 = (0 : Int) → K (-1) A4)))) : jrI 147 0 [some (.ref 49), some (.int (jI x1)), some (.int (jI x2)), some (.int (jI x3))] [] E A K := by
  intro hA
  refine zw_go (pc1 := 1) (L1 := [some (.ref 49), some (.int (jI x1)), some (.int (jI x2)), some (.int (jI x3))]) (st1 := [.ref 49]) (σ1 := js E A) zM_X7_comes dX7_comes_0 rfl rfl rfl rfl ?_
  refine jw_iconst (v := 0) zM_X7_comes dX7_comes_1 rfl ?_
  obtain ⟨A1, e2⟩ : ∃ z9 : jA, z9 = jup A 49 0 0 := ⟨_, rfl⟩
  replace h := h A1 e2
  have hA3 : jOK A1 := jOK.up hA (show jW 0 from ⟨by decide, by decide⟩) e2
  refine jw_putI zM_X7_comes dX7_comes_2 zF_7_98 rfl rfl rfl rfl e2 ?_
  refine zw_go (pc1 := 6) (L1 := [some (.ref 49), some (.int (jI x1)), some (.int (jI x2)), some (.int (jI x3))]) (st1 := [.ref 49]) (σ1 := js E A1) zM_X7_comes dX7_comes_5 rfl rfl rfl rfl ?_
  refine zw_go (pc1 := 7) (L1 := [some (.ref 49), some (.int (jI x1)), some (.int (jI x2)), some (.int (jI x3))]) (st1 := [.int (jI x2), .ref 49]) (σ1 := js E A1) zM_X7_comes dX7_comes_6 rfl rfl rfl rfl ?_
  refine jw_callI (as := [.ref 49, .int (jI x2)]) (rest := []) zM_X7_comes dX7_comes_7 (zx_calV zC_7_108) zM_X7_isNode rfl rfl rfl rfl rfl (j_args0 rfl rfl) rfl hA3 h (fun v6 A4 rv7 hA5 h => ?_)
  refine jw_if_ne (tgt := 15) zM_X7_comes dX7_comes_10 rfl rv7 (fun q => ?_) (fun q => ?_)
  · replace h := h.1 q
    refine zw_go (pc1 := 16) (L1 := [some (.ref 49), some (.int (jI x1)), some (.int (jI x2)), some (.int (jI x3))]) (st1 := [.int (jI x3)]) (σ1 := js E A4) zM_X7_comes dX7_comes_15 rfl rfl rfl rfl ?_
    refine jw_iconst (v := 1) zM_X7_comes dX7_comes_16 rfl ?_
    refine jw_sipush (v := 999) zM_X7_comes dX7_comes_17 (by decide) ?_
    refine jw_callI (as := [.int (jI x3), .int (jI 1), .int (jI 999)]) (rest := []) zM_X7_comes dX7_comes_20 (zx_calS zC_7_101) zM_X7_in rfl rfl rfl rfl rfl rfl rfl hA5 h (fun v10 A8 rv11 hA9 h => ?_)
    refine jw_if_ne (tgt := 29) zM_X7_comes dX7_comes_23 rfl rv11 (fun q => ?_) (fun q => ?_)
    · replace h := h.1 q
      refine zw_go (pc1 := 30) (L1 := [some (.ref 49), some (.int (jI x1)), some (.int (jI x2)), some (.int (jI x3))]) (st1 := [.ref 49]) (σ1 := js E A8) zM_X7_comes dX7_comes_29 rfl rfl rfl rfl ?_
      refine jw_getR (a := 50) zM_X7_comes dX7_comes_30 zF_7_7 rfl rfl rfl ?_
      refine zw_go (pc1 := 34) (L1 := [some (.ref 49), some (.int (jI x1)), some (.int (jI x2)), some (.int (jI x3))]) (st1 := [.int (jI x2), .ref 50]) (σ1 := js E A8) zM_X7_comes dX7_comes_33 rfl rfl rfl rfl ?_
      obtain ⟨hi12, h⟩ := h
      refine jw_iald zM_X7_comes dX7_comes_34 rfl rfl hi12 ?_
      refine jw_iconst (v := 1) zM_X7_comes dX7_comes_35 rfl ?_
      refine jw_icmp_ne (tgt := 48) zM_X7_comes dX7_comes_36 rfl (hA9 50 x2) (show jW 1 from ⟨by decide, by decide⟩) (fun q => ?_) (fun q => ?_)
      · replace h := h.1 q
        refine jw_bipush (v := (-3)) zM_X7_comes dX7_comes_48 (by decide) ?_
        exact jw_reti zM_X7_comes dX7_comes_50 rfl (show jW (-3) from ⟨by decide, by decide⟩) hA9 h
      · replace h := h.2 q
        refine zw_go (pc1 := 40) (L1 := [some (.ref 49), some (.int (jI x1)), some (.int (jI x2)), some (.int (jI x3))]) (st1 := [.ref 49]) (σ1 := js E A8) zM_X7_comes dX7_comes_39 rfl rfl rfl rfl ?_
        refine zw_go (pc1 := 41) (L1 := [some (.ref 49), some (.int (jI x1)), some (.int (jI x2)), some (.int (jI x3))]) (st1 := [.int (jI x2), .ref 49]) (σ1 := js E A8) zM_X7_comes dX7_comes_40 rfl rfl rfl rfl ?_
        refine zw_go (pc1 := 42) (L1 := [some (.ref 49), some (.int (jI x1)), some (.int (jI x2)), some (.int (jI x3))]) (st1 := [.int (jI x3), .int (jI x2), .ref 49]) (σ1 := js E A8) zM_X7_comes dX7_comes_41 rfl rfl rfl rfl ?_
        refine jw_callI (as := [.ref 49, .int (jI x2), .int (jI x3)]) (rest := []) zM_X7_comes dX7_comes_42 (zx_calV zC_7_112) zM_X7_isThere rfl rfl rfl rfl rfl (j_args0 rfl rfl) rfl hA9 h (fun v15 A13 rv16 hA14 h => ?_)
        refine jw_if_eq (tgt := 51) zM_X7_comes dX7_comes_45 rfl rv16 (fun q => ?_) (fun q => ?_)
        · replace h := h.1 q
          refine zw_go (pc1 := 52) (L1 := [some (.ref 49), some (.int (jI x1)), some (.int (jI x2)), some (.int (jI x3))]) (st1 := [.ref 49]) (σ1 := js E A13) zM_X7_comes dX7_comes_51 rfl rfl rfl rfl ?_
          refine jw_getI zM_X7_comes dX7_comes_52 zF_7_94 rfl rfl rfl ?_
          refine jw_bipush (v := 32) zM_X7_comes dX7_comes_55 (by decide) ?_
          refine jw_icmp_ne (tgt := 63) zM_X7_comes dX7_comes_57 rfl (hA14 49 1) (show jW 32 from ⟨by decide, by decide⟩) (fun q => ?_) (fun q => ?_)
          · replace h := h.1 q
            refine zw_go (pc1 := 64) (L1 := [some (.ref 49), some (.int (jI x1)), some (.int (jI x2)), some (.int (jI x3))]) (st1 := [.ref 49]) (σ1 := js E A13) zM_X7_comes dX7_comes_63 rfl rfl rfl rfl ?_
            refine jw_getR (a := 50) zM_X7_comes dX7_comes_64 zF_7_7 rfl rfl rfl ?_
            refine zw_go (pc1 := 68) (L1 := [some (.ref 49), some (.int (jI x1)), some (.int (jI x2)), some (.int (jI x3))]) (st1 := [.ref 49, .ref 50]) (σ1 := js E A13) zM_X7_comes dX7_comes_67 rfl rfl rfl rfl ?_
            refine jw_getI zM_X7_comes dX7_comes_68 zF_7_94 rfl rfl rfl ?_
            refine zw_go (pc1 := 72) (L1 := [some (.ref 49), some (.int (jI x1)), some (.int (jI x2)), some (.int (jI x3))]) (st1 := [.int (jI x1), .int (jI (A13 49 1)), .ref 50]) (σ1 := js E A13) zM_X7_comes dX7_comes_71 rfl rfl rfl rfl ?_
            obtain ⟨hi17, h⟩ := h
            obtain ⟨A18, e19⟩ : ∃ z9 : jA, z9 = jup A13 50 (A13 49 1) x1 := ⟨_, rfl⟩
            replace h := h A18 e19
            have hA20 : jOK A18 := jOK.up hA14 r_x1 e19
            refine jw_iast zM_X7_comes dX7_comes_72 rfl rfl hi17 e19 ?_
            refine zw_go (pc1 := 74) (L1 := [some (.ref 49), some (.int (jI x1)), some (.int (jI x2)), some (.int (jI x3))]) (st1 := [.ref 49]) (σ1 := js E A18) zM_X7_comes dX7_comes_73 rfl rfl rfl rfl ?_
            refine jw_getR (a := 51) zM_X7_comes dX7_comes_74 zF_7_13 rfl rfl rfl ?_
            refine zw_go (pc1 := 78) (L1 := [some (.ref 49), some (.int (jI x1)), some (.int (jI x2)), some (.int (jI x3))]) (st1 := [.ref 49, .ref 51]) (σ1 := js E A18) zM_X7_comes dX7_comes_77 rfl rfl rfl rfl ?_
            refine jw_getI zM_X7_comes dX7_comes_78 zF_7_94 rfl rfl rfl ?_
            refine jw_iconst (v := 0) zM_X7_comes dX7_comes_81 rfl ?_
            obtain ⟨hi21, h⟩ := h
            obtain ⟨A22, e23⟩ : ∃ z9 : jA, z9 = jup A18 51 (A18 49 1) 0 := ⟨_, rfl⟩
            replace h := h A22 e23
            have hA24 : jOK A22 := jOK.up hA20 (show jW 0 from ⟨by decide, by decide⟩) e23
            refine jw_iast zM_X7_comes dX7_comes_82 rfl rfl hi21 e23 ?_
            refine zw_go (pc1 := 84) (L1 := [some (.ref 49), some (.int (jI x1)), some (.int (jI x2)), some (.int (jI x3))]) (st1 := [.ref 49]) (σ1 := js E A22) zM_X7_comes dX7_comes_83 rfl rfl rfl rfl ?_
            refine jw_getR (a := 52) zM_X7_comes dX7_comes_84 zF_7_16 rfl rfl rfl ?_
            refine zw_go (pc1 := 88) (L1 := [some (.ref 49), some (.int (jI x1)), some (.int (jI x2)), some (.int (jI x3))]) (st1 := [.ref 49, .ref 52]) (σ1 := js E A22) zM_X7_comes dX7_comes_87 rfl rfl rfl rfl ?_
            refine jw_getI zM_X7_comes dX7_comes_88 zF_7_94 rfl rfl rfl ?_
            refine jw_iconst (v := 0) zM_X7_comes dX7_comes_91 rfl ?_
            obtain ⟨hi25, h⟩ := h
            obtain ⟨A26, e27⟩ : ∃ z9 : jA, z9 = jup A22 52 (A22 49 1) 0 := ⟨_, rfl⟩
            replace h := h A26 e27
            have hA28 : jOK A26 := jOK.up hA24 (show jW 0 from ⟨by decide, by decide⟩) e27
            refine jw_iast zM_X7_comes dX7_comes_92 rfl rfl hi25 e27 ?_
            refine zw_go (pc1 := 94) (L1 := [some (.ref 49), some (.int (jI x1)), some (.int (jI x2)), some (.int (jI x3))]) (st1 := [.ref 49]) (σ1 := js E A26) zM_X7_comes dX7_comes_93 rfl rfl rfl rfl ?_
            refine jw_getR (a := 53) zM_X7_comes dX7_comes_94 zF_7_19 rfl rfl rfl ?_
            refine zw_go (pc1 := 98) (L1 := [some (.ref 49), some (.int (jI x1)), some (.int (jI x2)), some (.int (jI x3))]) (st1 := [.ref 49, .ref 53]) (σ1 := js E A26) zM_X7_comes dX7_comes_97 rfl rfl rfl rfl ?_
            refine jw_getI zM_X7_comes dX7_comes_98 zF_7_94 rfl rfl rfl ?_
            refine jw_iconst (v := 0) zM_X7_comes dX7_comes_101 rfl ?_
            obtain ⟨hi29, h⟩ := h
            obtain ⟨A30, e31⟩ : ∃ z9 : jA, z9 = jup A26 53 (A26 49 1) 0 := ⟨_, rfl⟩
            replace h := h A30 e31
            have hA32 : jOK A30 := jOK.up hA28 (show jW 0 from ⟨by decide, by decide⟩) e31
            refine jw_iast zM_X7_comes dX7_comes_102 rfl rfl hi29 e31 ?_
            refine zw_go (pc1 := 104) (L1 := [some (.ref 49), some (.int (jI x1)), some (.int (jI x2)), some (.int (jI x3))]) (st1 := [.ref 49]) (σ1 := js E A30) zM_X7_comes dX7_comes_103 rfl rfl rfl rfl ?_
            refine zw_go (pc1 := 105) (L1 := [some (.ref 49), some (.int (jI x1)), some (.int (jI x2)), some (.int (jI x3))]) (st1 := [.int (jI x2), .ref 49]) (σ1 := js E A30) zM_X7_comes dX7_comes_104 rfl rfl rfl rfl ?_
            refine zw_go (pc1 := 106) (L1 := [some (.ref 49), some (.int (jI x1)), some (.int (jI x2)), some (.int (jI x3))]) (st1 := [.int (jI x3), .int (jI x2), .ref 49]) (σ1 := js E A30) zM_X7_comes dX7_comes_105 rfl rfl rfl rfl ?_
            refine zw_go (pc1 := 107) (L1 := [some (.ref 49), some (.int (jI x1)), some (.int (jI x2)), some (.int (jI x3))]) (st1 := [.ref 49, .int (jI x3), .int (jI x2), .ref 49]) (σ1 := js E A30) zM_X7_comes dX7_comes_106 rfl rfl rfl rfl ?_
            refine jw_getI zM_X7_comes dX7_comes_107 zF_7_94 rfl rfl rfl ?_
            refine jw_callV (as := [.ref 49, .int (jI x2), .int (jI x3), .int (jI (A30 49 1))]) (rest := []) zM_X7_comes dX7_comes_110 (zx_calV zC_7_116) zM_X7_nameIt rfl rfl rfl rfl rfl (j_args0 rfl rfl) rfl hA32 h (fun A33 hA34 h => ?_)
            refine zw_go (pc1 := 114) (L1 := [some (.ref 49), some (.int (jI x1)), some (.int (jI x2)), some (.int (jI x3))]) (st1 := [.ref 49]) (σ1 := js E A33) zM_X7_comes dX7_comes_113 rfl rfl rfl rfl ?_
            refine zw_go (pc1 := 115) (L1 := [some (.ref 49), some (.int (jI x1)), some (.int (jI x2)), some (.int (jI x3))]) (st1 := [.ref 49, .ref 49]) (σ1 := js E A33) zM_X7_comes dX7_comes_114 rfl rfl rfl rfl ?_
            refine jw_getI zM_X7_comes dX7_comes_115 zF_7_94 rfl rfl rfl ?_
            refine jw_iconst (v := 1) zM_X7_comes dX7_comes_118 rfl ?_
            refine jw_add zM_X7_comes dX7_comes_119 ?_
            obtain ⟨hw35, h⟩ := h
            obtain ⟨A36, e37⟩ : ∃ z9 : jA, z9 = jup A33 49 1 ((A33 49 1) + 1) := ⟨_, rfl⟩
            replace h := h A36 e37
            have hA38 : jOK A36 := jOK.up hA34 hw35 e37
            refine jw_putI zM_X7_comes dX7_comes_120 zF_7_94 rfl rfl rfl rfl e37 ?_
            refine zw_go (pc1 := 124) (L1 := [some (.ref 49), some (.int (jI x1)), some (.int (jI x2)), some (.int (jI x3))]) (st1 := [.ref 49]) (σ1 := js E A36) zM_X7_comes dX7_comes_123 rfl rfl rfl rfl ?_
            refine jw_getI zM_X7_comes dX7_comes_124 zF_7_94 rfl rfl rfl ?_
            refine jw_iconst (v := 1) zM_X7_comes dX7_comes_127 rfl ?_
            refine jw_sub zM_X7_comes dX7_comes_128 ?_
            obtain ⟨hw39, h⟩ := h
            exact jw_reti zM_X7_comes dX7_comes_129 rfl hw39 hA38 h
          · replace h := h.2 q
            refine jw_bipush (v := (-4)) zM_X7_comes dX7_comes_60 (by decide) ?_
            exact jw_reti zM_X7_comes dX7_comes_62 rfl (show jW (-4) from ⟨by decide, by decide⟩) hA14 h
        · replace h := h.2 q
          refine jw_bipush (v := (-3)) zM_X7_comes dX7_comes_48 (by decide) ?_
          exact jw_reti zM_X7_comes dX7_comes_50 rfl (show jW (-3) from ⟨by decide, by decide⟩) hA14 h
    · replace h := h.2 q
      refine jw_bipush (v := (-2)) zM_X7_comes dX7_comes_26 (by decide) ?_
      exact jw_reti zM_X7_comes dX7_comes_28 rfl (show jW (-2) from ⟨by decide, by decide⟩) hA9 h
  · replace h := h.2 q
    refine jw_iconst (v := (-1)) zM_X7_comes dX7_comes_13 rfl ?_
    exact jw_reti zM_X7_comes dX7_comes_14 rfl (show jW (-1) from ⟨by decide, by decide⟩) hA5 h
set_option maxHeartbeats 4000000 in
set_option maxRecDepth 100000 in
theorem vd_X7_count_0 (x1 : Int) (r_x1 : jW x1) (E : jE) (A : jA) (K : Int → jA → Prop) (h : ∀ A1 : jA, A1 = jup A 49 0 0 → ((x1 = 0 → K (A1 49 1) A1) ∧ (¬ x1 = 0 → ((x1 = 1 → K (A1 49 11) A1) ∧ (¬ x1 = 1 → ((x1 = 2 → K (A1 49 35) A1) ∧ (¬ x1 = 2 → ((x1 = 3 → K (A1 49 37) A1) ∧ (¬ x1 = 3 → ((x1 = 4 → K (A1 49 34) A1) ∧ (¬ x1 = 4 → K (-2) A1))))))))))) : jrI 148 0 [some (.ref 49), some (.int (jI x1))] [] E A K := by
  intro hA
  refine zw_go (pc1 := 1) (L1 := [some (.ref 49), some (.int (jI x1))]) (st1 := [.ref 49]) (σ1 := js E A) zM_X7_count dX7_count_0 rfl rfl rfl rfl ?_
  refine jw_iconst (v := 0) zM_X7_count dX7_count_1 rfl ?_
  obtain ⟨A1, e2⟩ : ∃ z9 : jA, z9 = jup A 49 0 0 := ⟨_, rfl⟩
  replace h := h A1 e2
  have hA3 : jOK A1 := jOK.up hA (show jW 0 from ⟨by decide, by decide⟩) e2
  refine jw_putI zM_X7_count dX7_count_2 zF_7_98 rfl rfl rfl rfl e2 ?_
  refine zw_go (pc1 := 6) (L1 := [some (.ref 49), some (.int (jI x1))]) (st1 := [.int (jI x1)]) (σ1 := js E A1) zM_X7_count dX7_count_5 rfl rfl rfl rfl ?_
  by_cases hs4 : x1 = 0
  · replace h := h.1 hs4
    refine zw_sw (tgt := 40) zM_X7_count dX7_count_6 (j_sw_in hs4 rfl) rfl ?_
    refine zw_go (pc1 := 41) (L1 := [some (.ref 49), some (.int (jI x1))]) (st1 := [.ref 49]) (σ1 := js E A1) zM_X7_count dX7_count_40 rfl rfl rfl rfl ?_
    refine jw_getI zM_X7_count dX7_count_41 zF_7_94 rfl rfl rfl ?_
    exact jw_reti zM_X7_count dX7_count_44 rfl (hA3 49 1) hA3 h
  · replace h := h.2 hs4
    by_cases hs5 : x1 = 1
    · replace h := h.1 hs5
      refine zw_sw (tgt := 45) zM_X7_count dX7_count_6 (j_sw_in hs5 rfl) rfl ?_
      refine zw_go (pc1 := 46) (L1 := [some (.ref 49), some (.int (jI x1))]) (st1 := [.ref 49]) (σ1 := js E A1) zM_X7_count dX7_count_45 rfl rfl rfl rfl ?_
      refine jw_getI zM_X7_count dX7_count_46 zF_7_168 rfl rfl rfl ?_
      exact jw_reti zM_X7_count dX7_count_49 rfl (hA3 49 11) hA3 h
    · replace h := h.2 hs5
      by_cases hs6 : x1 = 2
      · replace h := h.1 hs6
        refine zw_sw (tgt := 50) zM_X7_count dX7_count_6 (j_sw_in hs6 rfl) rfl ?_
        refine zw_go (pc1 := 51) (L1 := [some (.ref 49), some (.int (jI x1))]) (st1 := [.ref 49]) (σ1 := js E A1) zM_X7_count dX7_count_50 rfl rfl rfl rfl ?_
        refine jw_getI zM_X7_count dX7_count_51 zF_7_257 rfl rfl rfl ?_
        exact jw_reti zM_X7_count dX7_count_54 rfl (hA3 49 35) hA3 h
      · replace h := h.2 hs6
        by_cases hs7 : x1 = 3
        · replace h := h.1 hs7
          refine zw_sw (tgt := 55) zM_X7_count dX7_count_6 (j_sw_in hs7 rfl) rfl ?_
          refine zw_go (pc1 := 56) (L1 := [some (.ref 49), some (.int (jI x1))]) (st1 := [.ref 49]) (σ1 := js E A1) zM_X7_count dX7_count_55 rfl rfl rfl rfl ?_
          refine jw_getI zM_X7_count dX7_count_56 zF_7_269 rfl rfl rfl ?_
          exact jw_reti zM_X7_count dX7_count_59 rfl (hA3 49 37) hA3 h
        · replace h := h.2 hs7
          by_cases hs8 : x1 = 4
          · replace h := h.1 hs8
            refine zw_sw (tgt := 60) zM_X7_count dX7_count_6 (j_sw_in hs8 rfl) rfl ?_
            refine zw_go (pc1 := 61) (L1 := [some (.ref 49), some (.int (jI x1))]) (st1 := [.ref 49]) (σ1 := js E A1) zM_X7_count dX7_count_60 rfl rfl rfl rfl ?_
            refine jw_getI zM_X7_count dX7_count_61 zF_7_195 rfl rfl rfl ?_
            exact jw_reti zM_X7_count dX7_count_64 rfl (hA3 49 34) hA3 h
          · replace h := h.2 hs8
            refine zw_sw (tgt := 65) zM_X7_count dX7_count_6 (j_sw_out r_x1 (by omega)) rfl ?_
            refine jw_bipush (v := (-2)) zM_X7_count dX7_count_65 (by decide) ?_
            exact jw_reti zM_X7_count dX7_count_67 rfl (show jW (-2) from ⟨by decide, by decide⟩) hA3 h
set_option maxHeartbeats 4000000 in
set_option maxRecDepth 100000 in
theorem vd_X7_data_0 (x1 : Int) (r_x1 : jW x1) (x2 : Int) (r_x2 : jW x2) (x3 : Int) (r_x3 : jW x3) (E : jE) (A : jA) (K : Int → jA → Prop) (h : ∀ A1 : jA, A1 = jup A 49 0 0 → jrI 167 0 [some (.ref 49), some (.int (jI x1))] [] E A1 (fun v6 A4 => ((¬ v6 = (0 : Int) → jrI 160 0 [some (.int (jI x2)), some (.int (jI 0)), some (.int (jI 255))] [] E A4 (fun v10 A8 => ((v10 = (0 : Int) → K (-2) A8) ∧ (¬ v10 = (0 : Int) → jrI 160 0 [some (.int (jI x3)), some (.int (jI 1)), some (.int (jI 100))] [] E A8 (fun v14 A12 => ((¬ v14 = (0 : Int) → (0 ≤ x1 ∧ x1 < 32) ∧ (((A12 50 x1) = (2 : Int) → (0 ≤ x1 ∧ x1 < 32) ∧ jW ((A12 53 x1) + x3) ∧ ((((A12 53 x1) + x3) ≤ (100 : Int) → jrI 149 71 [some (.ref 49), some (.int (jI x1)), some (.int (jI x2)), some (.int (jI x3)), some (.int (jI 0))] [] E A12 K) ∧ ((100 : Int) < ((A12 53 x1) + x3) → K (-4) A12))) ∧ (¬ (A12 50 x1) = (2 : Int) → K (-3) A12))) ∧ (v14 = (0 : Int) → K (-2) A12))))))) ∧ (v6 = (0 : Int) → K (-1) A4)))) : jrI 149 0 [some (.ref 49), some (.int (jI x1)), some (.int (jI x2)), some (.int (jI x3)), none] [] E A K := by
  intro hA
  refine zw_go (pc1 := 1) (L1 := [some (.ref 49), some (.int (jI x1)), some (.int (jI x2)), some (.int (jI x3)), none]) (st1 := [.ref 49]) (σ1 := js E A) zM_X7_data dX7_data_0 rfl rfl rfl rfl ?_
  refine jw_iconst (v := 0) zM_X7_data dX7_data_1 rfl ?_
  obtain ⟨A1, e2⟩ : ∃ z9 : jA, z9 = jup A 49 0 0 := ⟨_, rfl⟩
  replace h := h A1 e2
  have hA3 : jOK A1 := jOK.up hA (show jW 0 from ⟨by decide, by decide⟩) e2
  refine jw_putI zM_X7_data dX7_data_2 zF_7_98 rfl rfl rfl rfl e2 ?_
  refine zw_go (pc1 := 6) (L1 := [some (.ref 49), some (.int (jI x1)), some (.int (jI x2)), some (.int (jI x3)), none]) (st1 := [.ref 49]) (σ1 := js E A1) zM_X7_data dX7_data_5 rfl rfl rfl rfl ?_
  refine zw_go (pc1 := 7) (L1 := [some (.ref 49), some (.int (jI x1)), some (.int (jI x2)), some (.int (jI x3)), none]) (st1 := [.int (jI x1), .ref 49]) (σ1 := js E A1) zM_X7_data dX7_data_6 rfl rfl rfl rfl ?_
  refine jw_callI (as := [.ref 49, .int (jI x1)]) (rest := []) zM_X7_data dX7_data_7 (zx_calV zC_7_108) zM_X7_isNode rfl rfl rfl rfl rfl (j_args0 rfl rfl) rfl hA3 h (fun v6 A4 rv7 hA5 h => ?_)
  refine jw_if_ne (tgt := 15) zM_X7_data dX7_data_10 rfl rv7 (fun q => ?_) (fun q => ?_)
  · replace h := h.1 q
    refine zw_go (pc1 := 16) (L1 := [some (.ref 49), some (.int (jI x1)), some (.int (jI x2)), some (.int (jI x3)), none]) (st1 := [.int (jI x2)]) (σ1 := js E A4) zM_X7_data dX7_data_15 rfl rfl rfl rfl ?_
    refine jw_iconst (v := 0) zM_X7_data dX7_data_16 rfl ?_
    refine jw_sipush (v := 255) zM_X7_data dX7_data_17 (by decide) ?_
    refine jw_callI (as := [.int (jI x2), .int (jI 0), .int (jI 255)]) (rest := []) zM_X7_data dX7_data_20 (zx_calS zC_7_101) zM_X7_in rfl rfl rfl rfl rfl rfl rfl hA5 h (fun v10 A8 rv11 hA9 h => ?_)
    refine jw_if_eq (tgt := 36) zM_X7_data dX7_data_23 rfl rv11 (fun q => ?_) (fun q => ?_)
    · replace h := h.1 q
      refine jw_bipush (v := (-2)) zM_X7_data dX7_data_36 (by decide) ?_
      exact jw_reti zM_X7_data dX7_data_38 rfl (show jW (-2) from ⟨by decide, by decide⟩) hA9 h
    · replace h := h.2 q
      refine zw_go (pc1 := 27) (L1 := [some (.ref 49), some (.int (jI x1)), some (.int (jI x2)), some (.int (jI x3)), none]) (st1 := [.int (jI x3)]) (σ1 := js E A8) zM_X7_data dX7_data_26 rfl rfl rfl rfl ?_
      refine jw_iconst (v := 1) zM_X7_data dX7_data_27 rfl ?_
      refine jw_bipush (v := 100) zM_X7_data dX7_data_28 (by decide) ?_
      refine jw_callI (as := [.int (jI x3), .int (jI 1), .int (jI 100)]) (rest := []) zM_X7_data dX7_data_30 (zx_calS zC_7_101) zM_X7_in rfl rfl rfl rfl rfl rfl rfl hA9 h (fun v14 A12 rv15 hA13 h => ?_)
      refine jw_if_ne (tgt := 39) zM_X7_data dX7_data_33 rfl rv15 (fun q => ?_) (fun q => ?_)
      · replace h := h.1 q
        refine zw_go (pc1 := 40) (L1 := [some (.ref 49), some (.int (jI x1)), some (.int (jI x2)), some (.int (jI x3)), none]) (st1 := [.ref 49]) (σ1 := js E A12) zM_X7_data dX7_data_39 rfl rfl rfl rfl ?_
        refine jw_getR (a := 50) zM_X7_data dX7_data_40 zF_7_7 rfl rfl rfl ?_
        refine zw_go (pc1 := 44) (L1 := [some (.ref 49), some (.int (jI x1)), some (.int (jI x2)), some (.int (jI x3)), none]) (st1 := [.int (jI x1), .ref 50]) (σ1 := js E A12) zM_X7_data dX7_data_43 rfl rfl rfl rfl ?_
        obtain ⟨hi16, h⟩ := h
        refine jw_iald zM_X7_data dX7_data_44 rfl rfl hi16 ?_
        refine jw_iconst (v := 2) zM_X7_data dX7_data_45 rfl ?_
        refine jw_icmp_eq (tgt := 52) zM_X7_data dX7_data_46 rfl (hA13 50 x1) (show jW 2 from ⟨by decide, by decide⟩) (fun q => ?_) (fun q => ?_)
        · replace h := h.1 q
          refine zw_go (pc1 := 53) (L1 := [some (.ref 49), some (.int (jI x1)), some (.int (jI x2)), some (.int (jI x3)), none]) (st1 := [.ref 49]) (σ1 := js E A12) zM_X7_data dX7_data_52 rfl rfl rfl rfl ?_
          refine jw_getR (a := 53) zM_X7_data dX7_data_53 zF_7_19 rfl rfl rfl ?_
          refine zw_go (pc1 := 57) (L1 := [some (.ref 49), some (.int (jI x1)), some (.int (jI x2)), some (.int (jI x3)), none]) (st1 := [.int (jI x1), .ref 53]) (σ1 := js E A12) zM_X7_data dX7_data_56 rfl rfl rfl rfl ?_
          obtain ⟨hi17, h⟩ := h
          refine jw_iald zM_X7_data dX7_data_57 rfl rfl hi17 ?_
          refine zw_go (pc1 := 59) (L1 := [some (.ref 49), some (.int (jI x1)), some (.int (jI x2)), some (.int (jI x3)), none]) (st1 := [.int (jI x3), .int (jI (A12 53 x1))]) (σ1 := js E A12) zM_X7_data dX7_data_58 rfl rfl rfl rfl ?_
          refine jw_add zM_X7_data dX7_data_59 ?_
          refine jw_bipush (v := 100) zM_X7_data dX7_data_60 (by decide) ?_
          obtain ⟨hw18, h⟩ := h
          refine jw_icmp_le (tgt := 68) zM_X7_data dX7_data_62 rfl hw18 (show jW 100 from ⟨by decide, by decide⟩) (fun q => ?_) (fun q => ?_)
          · replace h := h.1 q
            refine jw_iconst (v := 0) zM_X7_data dX7_data_68 rfl ?_
            refine zw_go (pc1 := 71) (L1 := [some (.ref 49), some (.int (jI x1)), some (.int (jI x2)), some (.int (jI x3)), some (.int (jI 0))]) (st1 := []) (σ1 := js E A12) zM_X7_data dX7_data_69 rfl rfl rfl rfl ?_
            exact zw_weak2 (h hA13) ⟨rfl, rfl, rfl, rfl, rfl, trivial⟩
          · replace h := h.2 q
            refine jw_bipush (v := (-4)) zM_X7_data dX7_data_65 (by decide) ?_
            exact jw_reti zM_X7_data dX7_data_67 rfl (show jW (-4) from ⟨by decide, by decide⟩) hA13 h
        · replace h := h.2 q
          refine jw_bipush (v := (-3)) zM_X7_data dX7_data_49 (by decide) ?_
          exact jw_reti zM_X7_data dX7_data_51 rfl (show jW (-3) from ⟨by decide, by decide⟩) hA13 h
      · replace h := h.2 q
        refine jw_bipush (v := (-2)) zM_X7_data dX7_data_36 (by decide) ?_
        exact jw_reti zM_X7_data dX7_data_38 rfl (show jW (-2) from ⟨by decide, by decide⟩) hA13 h
  · replace h := h.2 q
    refine jw_iconst (v := (-1)) zM_X7_data dX7_data_13 rfl ?_
    exact jw_reti zM_X7_data dX7_data_14 rfl (show jW (-1) from ⟨by decide, by decide⟩) hA5 h
set_option maxHeartbeats 4000000 in
set_option maxRecDepth 100000 in
theorem vd_X7_data_71 (x1 : Int) (r_x1 : jW x1) (x2 : Int) (r_x2 : jW x2) (x3 : Int) (r_x3 : jW x3) (x4 : Int) (r_x4 : jW x4) (E : jE) (A : jA) (K : Int → jA → Prop) (h : ((x3 ≤ x4 → (0 ≤ x1 ∧ x1 < 32) ∧ K (A 53 x1) A) ∧ (x4 < x3 → (0 ≤ x1 ∧ x1 < 32) ∧ (0 ≤ ((100 * x1) + (A 53 x1)) ∧ ((100 * x1) + (A 53 x1)) < 3200) ∧ ∀ A4 : jA, A4 = jup A 54 ((100 * x1) + (A 53 x1)) x2 → (0 ≤ x1 ∧ x1 < 32) ∧ jW ((A4 53 x1) + 1) ∧ (0 ≤ x1 ∧ x1 < 32) ∧ ∀ A10 : jA, A10 = jup A4 53 x1 ((A4 53 x1) + 1) → jrI 149 71 [some (.ref 49), some (.int (jI x1)), some (.int (jI x2)), some (.int (jI x3)), some (.int (jI (x4 + 1)))] [] E A10 K))) : jrI 149 71 [some (.ref 49), some (.int (jI x1)), some (.int (jI x2)), some (.int (jI x3)), some (.int (jI x4))] [] E A K := by
  intro hA
  refine zw_go (pc1 := 73) (L1 := [some (.ref 49), some (.int (jI x1)), some (.int (jI x2)), some (.int (jI x3)), some (.int (jI x4))]) (st1 := [.int (jI x4)]) (σ1 := js E A) zM_X7_data dX7_data_71 rfl rfl rfl rfl ?_
  refine zw_go (pc1 := 74) (L1 := [some (.ref 49), some (.int (jI x1)), some (.int (jI x2)), some (.int (jI x3)), some (.int (jI x4))]) (st1 := [.int (jI x3), .int (jI x4)]) (σ1 := js E A) zM_X7_data dX7_data_73 rfl rfl rfl rfl ?_
  refine jw_icmp_ge (tgt := 110) zM_X7_data dX7_data_74 rfl r_x4 r_x3 (fun q => ?_) (fun q => ?_)
  · replace h := h.1 q
    refine zw_go (pc1 := 111) (L1 := [some (.ref 49), some (.int (jI x1)), some (.int (jI x2)), some (.int (jI x3)), some (.int (jI x4))]) (st1 := [.ref 49]) (σ1 := js E A) zM_X7_data dX7_data_110 rfl rfl rfl rfl ?_
    refine jw_getR (a := 53) zM_X7_data dX7_data_111 zF_7_19 rfl rfl rfl ?_
    refine zw_go (pc1 := 115) (L1 := [some (.ref 49), some (.int (jI x1)), some (.int (jI x2)), some (.int (jI x3)), some (.int (jI x4))]) (st1 := [.int (jI x1), .ref 53]) (σ1 := js E A) zM_X7_data dX7_data_114 rfl rfl rfl rfl ?_
    obtain ⟨hi1, h⟩ := h
    refine jw_iald zM_X7_data dX7_data_115 rfl rfl hi1 ?_
    exact jw_reti zM_X7_data dX7_data_116 rfl (hA 53 x1) hA h
  · replace h := h.2 q
    refine zw_go (pc1 := 78) (L1 := [some (.ref 49), some (.int (jI x1)), some (.int (jI x2)), some (.int (jI x3)), some (.int (jI x4))]) (st1 := [.ref 49]) (σ1 := js E A) zM_X7_data dX7_data_77 rfl rfl rfl rfl ?_
    refine jw_getR (a := 54) zM_X7_data dX7_data_78 zF_7_22 rfl rfl rfl ?_
    refine jw_bipush (v := 100) zM_X7_data dX7_data_81 (by decide) ?_
    refine zw_go (pc1 := 84) (L1 := [some (.ref 49), some (.int (jI x1)), some (.int (jI x2)), some (.int (jI x3)), some (.int (jI x4))]) (st1 := [.int (jI x1), .int (jI 100), .ref 54]) (σ1 := js E A) zM_X7_data dX7_data_83 rfl rfl rfl rfl ?_
    refine jw_mul zM_X7_data dX7_data_84 ?_
    refine zw_go (pc1 := 86) (L1 := [some (.ref 49), some (.int (jI x1)), some (.int (jI x2)), some (.int (jI x3)), some (.int (jI x4))]) (st1 := [.ref 49, .int (jI (100 * x1)), .ref 54]) (σ1 := js E A) zM_X7_data dX7_data_85 rfl rfl rfl rfl ?_
    refine jw_getR (a := 53) zM_X7_data dX7_data_86 zF_7_19 rfl rfl rfl ?_
    refine zw_go (pc1 := 90) (L1 := [some (.ref 49), some (.int (jI x1)), some (.int (jI x2)), some (.int (jI x3)), some (.int (jI x4))]) (st1 := [.int (jI x1), .ref 53, .int (jI (100 * x1)), .ref 54]) (σ1 := js E A) zM_X7_data dX7_data_89 rfl rfl rfl rfl ?_
    obtain ⟨hi2, h⟩ := h
    refine jw_iald zM_X7_data dX7_data_90 rfl rfl hi2 ?_
    refine jw_add zM_X7_data dX7_data_91 ?_
    refine zw_go (pc1 := 93) (L1 := [some (.ref 49), some (.int (jI x1)), some (.int (jI x2)), some (.int (jI x3)), some (.int (jI x4))]) (st1 := [.int (jI x2), .int (jI ((100 * x1) + (A 53 x1))), .ref 54]) (σ1 := js E A) zM_X7_data dX7_data_92 rfl rfl rfl rfl ?_
    obtain ⟨hi3, h⟩ := h
    obtain ⟨A4, e5⟩ : ∃ z9 : jA, z9 = jup A 54 ((100 * x1) + (A 53 x1)) x2 := ⟨_, rfl⟩
    replace h := h A4 e5
    have hA6 : jOK A4 := jOK.up hA r_x2 e5
    refine jw_iast zM_X7_data dX7_data_93 rfl rfl hi3 e5 ?_
    refine zw_go (pc1 := 95) (L1 := [some (.ref 49), some (.int (jI x1)), some (.int (jI x2)), some (.int (jI x3)), some (.int (jI x4))]) (st1 := [.ref 49]) (σ1 := js E A4) zM_X7_data dX7_data_94 rfl rfl rfl rfl ?_
    refine jw_getR (a := 53) zM_X7_data dX7_data_95 zF_7_19 rfl rfl rfl ?_
    refine zw_go (pc1 := 99) (L1 := [some (.ref 49), some (.int (jI x1)), some (.int (jI x2)), some (.int (jI x3)), some (.int (jI x4))]) (st1 := [.int (jI x1), .ref 53]) (σ1 := js E A4) zM_X7_data dX7_data_98 rfl rfl rfl rfl ?_
    refine zw_go (pc1 := 100) (L1 := [some (.ref 49), some (.int (jI x1)), some (.int (jI x2)), some (.int (jI x3)), some (.int (jI x4))]) (st1 := [.int (jI x1), .ref 53, .int (jI x1), .ref 53]) (σ1 := js E A4) zM_X7_data dX7_data_99 rfl rfl rfl rfl ?_
    obtain ⟨hi7, h⟩ := h
    refine jw_iald zM_X7_data dX7_data_100 rfl rfl hi7 ?_
    refine jw_iconst (v := 1) zM_X7_data dX7_data_101 rfl ?_
    refine jw_add zM_X7_data dX7_data_102 ?_
    obtain ⟨hw8, h⟩ := h
    obtain ⟨hi9, h⟩ := h
    obtain ⟨A10, e11⟩ : ∃ z9 : jA, z9 = jup A4 53 x1 ((A4 53 x1) + 1) := ⟨_, rfl⟩
    replace h := h A10 e11
    have hA12 : jOK A10 := jOK.up hA6 hw8 e11
    refine jw_iast zM_X7_data dX7_data_103 rfl rfl hi9 e11 ?_
    refine jw_iinc (x := x4) (L1 := [some (.ref 49), some (.int (jI x1)), some (.int (jI x2)), some (.int (jI x3)), some (.int (jI (x4 + 1)))]) zM_X7_data dX7_data_104 rfl (show 4 < 5 by decide) rfl ?_
    refine zw_goto (tgt := 71) zM_X7_data dX7_data_107 rfl ?_
    exact zw_weak2 (h hA12) ⟨rfl, rfl, rfl, rfl, rfl, trivial⟩
set_option maxHeartbeats 4000000 in
set_option maxRecDepth 100000 in
theorem vd_X7_drop_0  (E : jE) (A : jA) (K : Int → jA → Prop) (h : ∀ A1 : jA, A1 = jup A 49 0 0 → (((A1 49 11) = (0 : Int) → K (-3) A1) ∧ (¬ (A1 49 11) = (0 : Int) → jrI 166 0 [some (.ref 49), some (.int (jI ((A1 49 11) - 1))), none, none] [] E A1 (fun v6 A4 => ((v6 = (0 : Int) → jW ((A4 49 11) - 1) ∧ ∀ A9 : jA, A9 = jup A4 49 11 ((A4 49 11) - 1) → K (A9 49 11) A9) ∧ (¬ v6 = (0 : Int) → K (-3) A4)))))) : jrI 150 0 [some (.ref 49)] [] E A K := by
  intro hA
  refine zw_go (pc1 := 1) (L1 := [some (.ref 49)]) (st1 := [.ref 49]) (σ1 := js E A) zM_X7_drop dX7_drop_0 rfl rfl rfl rfl ?_
  refine jw_iconst (v := 0) zM_X7_drop dX7_drop_1 rfl ?_
  obtain ⟨A1, e2⟩ : ∃ z9 : jA, z9 = jup A 49 0 0 := ⟨_, rfl⟩
  replace h := h A1 e2
  have hA3 : jOK A1 := jOK.up hA (show jW 0 from ⟨by decide, by decide⟩) e2
  refine jw_putI zM_X7_drop dX7_drop_2 zF_7_98 rfl rfl rfl rfl e2 ?_
  refine zw_go (pc1 := 6) (L1 := [some (.ref 49)]) (st1 := [.ref 49]) (σ1 := js E A1) zM_X7_drop dX7_drop_5 rfl rfl rfl rfl ?_
  refine jw_getI zM_X7_drop dX7_drop_6 zF_7_168 rfl rfl rfl ?_
  refine jw_if_eq (tgt := 25) zM_X7_drop dX7_drop_9 rfl (hA3 49 11) (fun q => ?_) (fun q => ?_)
  · replace h := h.1 q
    refine jw_bipush (v := (-3)) zM_X7_drop dX7_drop_25 (by decide) ?_
    exact jw_reti zM_X7_drop dX7_drop_27 rfl (show jW (-3) from ⟨by decide, by decide⟩) hA3 h
  · replace h := h.2 q
    refine zw_go (pc1 := 13) (L1 := [some (.ref 49)]) (st1 := [.ref 49]) (σ1 := js E A1) zM_X7_drop dX7_drop_12 rfl rfl rfl rfl ?_
    refine zw_go (pc1 := 14) (L1 := [some (.ref 49)]) (st1 := [.ref 49, .ref 49]) (σ1 := js E A1) zM_X7_drop dX7_drop_13 rfl rfl rfl rfl ?_
    refine jw_getI zM_X7_drop dX7_drop_14 zF_7_168 rfl rfl rfl ?_
    refine jw_iconst (v := 1) zM_X7_drop dX7_drop_17 rfl ?_
    refine jw_sub zM_X7_drop dX7_drop_18 ?_
    refine jw_callI (as := [.ref 49, .int (jI ((A1 49 11) - 1))]) (rest := []) zM_X7_drop dX7_drop_19 (zx_calV zC_7_260) zM_X7_isLaid rfl rfl rfl rfl rfl (j_args0 rfl rfl) rfl hA3 h (fun v6 A4 rv7 hA5 h => ?_)
    refine jw_if_eq (tgt := 28) zM_X7_drop dX7_drop_22 rfl rv7 (fun q => ?_) (fun q => ?_)
    · replace h := h.1 q
      refine zw_go (pc1 := 29) (L1 := [some (.ref 49)]) (st1 := [.ref 49]) (σ1 := js E A4) zM_X7_drop dX7_drop_28 rfl rfl rfl rfl ?_
      refine zw_go (pc1 := 30) (L1 := [some (.ref 49)]) (st1 := [.ref 49, .ref 49]) (σ1 := js E A4) zM_X7_drop dX7_drop_29 rfl rfl rfl rfl ?_
      refine jw_getI zM_X7_drop dX7_drop_30 zF_7_168 rfl rfl rfl ?_
      refine jw_iconst (v := 1) zM_X7_drop dX7_drop_33 rfl ?_
      refine jw_sub zM_X7_drop dX7_drop_34 ?_
      obtain ⟨hw8, h⟩ := h
      obtain ⟨A9, e10⟩ : ∃ z9 : jA, z9 = jup A4 49 11 ((A4 49 11) - 1) := ⟨_, rfl⟩
      replace h := h A9 e10
      have hA11 : jOK A9 := jOK.up hA5 hw8 e10
      refine jw_putI zM_X7_drop dX7_drop_35 zF_7_168 rfl rfl rfl rfl e10 ?_
      refine zw_go (pc1 := 39) (L1 := [some (.ref 49)]) (st1 := [.ref 49]) (σ1 := js E A9) zM_X7_drop dX7_drop_38 rfl rfl rfl rfl ?_
      refine jw_getI zM_X7_drop dX7_drop_39 zF_7_168 rfl rfl rfl ?_
      exact jw_reti zM_X7_drop dX7_drop_42 rfl (hA11 49 11) hA11 h
    · replace h := h.2 q
      refine jw_bipush (v := (-3)) zM_X7_drop dX7_drop_25 (by decide) ?_
      exact jw_reti zM_X7_drop dX7_drop_27 rfl (show jW (-3) from ⟨by decide, by decide⟩) hA5 h
set_option maxHeartbeats 4000000 in
set_option maxRecDepth 100000 in
theorem vd_X7_end_0 (x1 : Int) (r_x1 : jW x1) (E : jE) (A : jA) (K : Int → jA → Prop) (h : ∀ A1 : jA, A1 = jup A 49 0 0 → jrI 160 0 [some (.int (jI x1)), some (.int (jI 0)), some (.int (jI (A1 49 34)))] [] E A1 (fun v6 A4 => ((¬ v6 = (0 : Int) → ∀ A8 : jA, A8 = jup A4 49 34 x1 → K x1 A8) ∧ (v6 = (0 : Int) → K (-2) A4)))) : jrI 151 0 [some (.ref 49), some (.int (jI x1))] [] E A K := by
  intro hA
  refine zw_go (pc1 := 1) (L1 := [some (.ref 49), some (.int (jI x1))]) (st1 := [.ref 49]) (σ1 := js E A) zM_X7_end dX7_end_0 rfl rfl rfl rfl ?_
  refine jw_iconst (v := 0) zM_X7_end dX7_end_1 rfl ?_
  obtain ⟨A1, e2⟩ : ∃ z9 : jA, z9 = jup A 49 0 0 := ⟨_, rfl⟩
  replace h := h A1 e2
  have hA3 : jOK A1 := jOK.up hA (show jW 0 from ⟨by decide, by decide⟩) e2
  refine jw_putI zM_X7_end dX7_end_2 zF_7_98 rfl rfl rfl rfl e2 ?_
  refine zw_go (pc1 := 6) (L1 := [some (.ref 49), some (.int (jI x1))]) (st1 := [.int (jI x1)]) (σ1 := js E A1) zM_X7_end dX7_end_5 rfl rfl rfl rfl ?_
  refine jw_iconst (v := 0) zM_X7_end dX7_end_6 rfl ?_
  refine zw_go (pc1 := 8) (L1 := [some (.ref 49), some (.int (jI x1))]) (st1 := [.ref 49, .int (jI 0), .int (jI x1)]) (σ1 := js E A1) zM_X7_end dX7_end_7 rfl rfl rfl rfl ?_
  refine jw_getI zM_X7_end dX7_end_8 zF_7_195 rfl rfl rfl ?_
  refine jw_callI (as := [.int (jI x1), .int (jI 0), .int (jI (A1 49 34))]) (rest := []) zM_X7_end dX7_end_11 (zx_calS zC_7_101) zM_X7_in rfl rfl rfl rfl rfl rfl rfl hA3 h (fun v6 A4 rv7 hA5 h => ?_)
  refine jw_if_ne (tgt := 20) zM_X7_end dX7_end_14 rfl rv7 (fun q => ?_) (fun q => ?_)
  · replace h := h.1 q
    refine zw_go (pc1 := 21) (L1 := [some (.ref 49), some (.int (jI x1))]) (st1 := [.ref 49]) (σ1 := js E A4) zM_X7_end dX7_end_20 rfl rfl rfl rfl ?_
    refine zw_go (pc1 := 22) (L1 := [some (.ref 49), some (.int (jI x1))]) (st1 := [.int (jI x1), .ref 49]) (σ1 := js E A4) zM_X7_end dX7_end_21 rfl rfl rfl rfl ?_
    obtain ⟨A8, e9⟩ : ∃ z9 : jA, z9 = jup A4 49 34 x1 := ⟨_, rfl⟩
    replace h := h A8 e9
    have hA10 : jOK A8 := jOK.up hA5 r_x1 e9
    refine jw_putI zM_X7_end dX7_end_22 zF_7_195 rfl rfl rfl rfl e9 ?_
    refine zw_go (pc1 := 26) (L1 := [some (.ref 49), some (.int (jI x1))]) (st1 := [.int (jI x1)]) (σ1 := js E A8) zM_X7_end dX7_end_25 rfl rfl rfl rfl ?_
    exact jw_reti zM_X7_end dX7_end_26 rfl r_x1 hA10 h
  · replace h := h.2 q
    refine jw_bipush (v := (-2)) zM_X7_end dX7_end_17 (by decide) ?_
    exact jw_reti zM_X7_end dX7_end_19 rfl (show jW (-2) from ⟨by decide, by decide⟩) hA5 h
set_option maxHeartbeats 4000000 in
set_option maxRecDepth 100000 in
theorem vd_X7_feed_0 (x1 : Int) (r_x1 : jW x1) (x2 : Int) (r_x2 : jW x2) (x3 : Int) (r_x3 : jW x3) (x4 : Int) (r_x4 : jW x4) (x5 : Int) (r_x5 : jW x5) (E : jE) (A : jA) (K : Int → jA → Prop) (h : ∀ A1 : jA, A1 = jup A 49 0 0 → jW ((A1 49 34) + 20) ∧ ((((A1 49 34) + 20) ≤ (4000 : Int) → jrI 152 24 [some (.ref 49), some (.int (jI x1)), some (.int (jI x2)), some (.int (jI x3)), some (.int (jI x4)), some (.int (jI x5)), some (.int (jI 0)), none] [] E A1 K) ∧ ((4000 : Int) < ((A1 49 34) + 20) → K (-4) A1))) : jrI 152 0 [some (.ref 49), some (.int (jI x1)), some (.int (jI x2)), some (.int (jI x3)), some (.int (jI x4)), some (.int (jI x5)), none, none] [] E A K := by
  intro hA
  refine zw_go (pc1 := 1) (L1 := [some (.ref 49), some (.int (jI x1)), some (.int (jI x2)), some (.int (jI x3)), some (.int (jI x4)), some (.int (jI x5)), none, none]) (st1 := [.ref 49]) (σ1 := js E A) zM_X7_feed dX7_feed_0 rfl rfl rfl rfl ?_
  refine jw_iconst (v := 0) zM_X7_feed dX7_feed_1 rfl ?_
  obtain ⟨A1, e2⟩ : ∃ z9 : jA, z9 = jup A 49 0 0 := ⟨_, rfl⟩
  replace h := h A1 e2
  have hA3 : jOK A1 := jOK.up hA (show jW 0 from ⟨by decide, by decide⟩) e2
  refine jw_putI zM_X7_feed dX7_feed_2 zF_7_98 rfl rfl rfl rfl e2 ?_
  refine zw_go (pc1 := 6) (L1 := [some (.ref 49), some (.int (jI x1)), some (.int (jI x2)), some (.int (jI x3)), some (.int (jI x4)), some (.int (jI x5)), none, none]) (st1 := [.ref 49]) (σ1 := js E A1) zM_X7_feed dX7_feed_5 rfl rfl rfl rfl ?_
  refine jw_getI zM_X7_feed dX7_feed_6 zF_7_195 rfl rfl rfl ?_
  refine jw_bipush (v := 20) zM_X7_feed dX7_feed_9 (by decide) ?_
  refine jw_add zM_X7_feed dX7_feed_11 ?_
  refine jw_sipush (v := 4000) zM_X7_feed dX7_feed_12 (by decide) ?_
  obtain ⟨hw4, h⟩ := h
  refine jw_icmp_le (tgt := 21) zM_X7_feed dX7_feed_15 rfl hw4 (show jW 4000 from ⟨by decide, by decide⟩) (fun q => ?_) (fun q => ?_)
  · replace h := h.1 q
    refine jw_iconst (v := 0) zM_X7_feed dX7_feed_21 rfl ?_
    refine zw_go (pc1 := 24) (L1 := [some (.ref 49), some (.int (jI x1)), some (.int (jI x2)), some (.int (jI x3)), some (.int (jI x4)), some (.int (jI x5)), some (.int (jI 0)), none]) (st1 := []) (σ1 := js E A1) zM_X7_feed dX7_feed_22 rfl rfl rfl rfl ?_
    exact zw_weak2 (h hA3) ⟨rfl, rfl, rfl, rfl, rfl, rfl, rfl, trivial⟩
  · replace h := h.2 q
    refine jw_bipush (v := (-4)) zM_X7_feed dX7_feed_18 (by decide) ?_
    exact jw_reti zM_X7_feed dX7_feed_20 rfl (show jW (-4) from ⟨by decide, by decide⟩) hA3 h
set_option maxHeartbeats 4000000 in
set_option maxRecDepth 100000 in
theorem vd_X7_feed_24 (x1 : Int) (r_x1 : jW x1) (x2 : Int) (r_x2 : jW x2) (x3 : Int) (r_x3 : jW x3) (x4 : Int) (r_x4 : jW x4) (x5 : Int) (r_x5 : jW x5) (x6 : Int) (r_x6 : jW x6) (E : jE) (A : jA) (K : Int → jA → Prop) (h : (((20 : Int) ≤ x6 → K (A 49 34) A) ∧ (x6 < (20 : Int) → (((4 : Int) ≤ x6 → (((8 : Int) ≤ x6 → (((12 : Int) ≤ x6 → (((16 : Int) ≤ x6 → jrI 152 77 [some (.ref 49), some (.int (jI x1)), some (.int (jI x2)), some (.int (jI x3)), some (.int (jI x4)), some (.int (jI x5)), some (.int (jI x6)), none] [.int (jI x5)] E A K) ∧ (x6 < (16 : Int) → jrI 152 77 [some (.ref 49), some (.int (jI x1)), some (.int (jI x2)), some (.int (jI x3)), some (.int (jI x4)), some (.int (jI x5)), some (.int (jI x6)), none] [.int (jI x4)] E A K))) ∧ (x6 < (12 : Int) → jrI 152 77 [some (.ref 49), some (.int (jI x1)), some (.int (jI x2)), some (.int (jI x3)), some (.int (jI x4)), some (.int (jI x5)), some (.int (jI x6)), none] [.int (jI x3)] E A K))) ∧ (x6 < (8 : Int) → jrI 152 77 [some (.ref 49), some (.int (jI x1)), some (.int (jI x2)), some (.int (jI x3)), some (.int (jI x4)), some (.int (jI x5)), some (.int (jI x6)), none] [.int (jI x2)] E A K))) ∧ (x6 < (4 : Int) → jrI 152 77 [some (.ref 49), some (.int (jI x1)), some (.int (jI x2)), some (.int (jI x3)), some (.int (jI x4)), some (.int (jI x5)), some (.int (jI x6)), none] [.int (jI x1)] E A K))))) : jrI 152 24 [some (.ref 49), some (.int (jI x1)), some (.int (jI x2)), some (.int (jI x3)), some (.int (jI x4)), some (.int (jI x5)), some (.int (jI x6)), none] [] E A K := by
  intro hA
  refine zw_go (pc1 := 26) (L1 := [some (.ref 49), some (.int (jI x1)), some (.int (jI x2)), some (.int (jI x3)), some (.int (jI x4)), some (.int (jI x5)), some (.int (jI x6)), none]) (st1 := [.int (jI x6)]) (σ1 := js E A) zM_X7_feed dX7_feed_24 rfl rfl rfl rfl ?_
  refine jw_bipush (v := 20) zM_X7_feed dX7_feed_26 (by decide) ?_
  refine jw_icmp_ge (tgt := 121) zM_X7_feed dX7_feed_28 rfl r_x6 (show jW 20 from ⟨by decide, by decide⟩) (fun q => ?_) (fun q => ?_)
  · replace h := h.1 q
    refine zw_go (pc1 := 122) (L1 := [some (.ref 49), some (.int (jI x1)), some (.int (jI x2)), some (.int (jI x3)), some (.int (jI x4)), some (.int (jI x5)), some (.int (jI x6)), none]) (st1 := [.ref 49]) (σ1 := js E A) zM_X7_feed dX7_feed_121 rfl rfl rfl rfl ?_
    refine jw_getI zM_X7_feed dX7_feed_122 zF_7_195 rfl rfl rfl ?_
    exact jw_reti zM_X7_feed dX7_feed_125 rfl (hA 49 34) hA h
  · replace h := h.2 q
    refine zw_go (pc1 := 33) (L1 := [some (.ref 49), some (.int (jI x1)), some (.int (jI x2)), some (.int (jI x3)), some (.int (jI x4)), some (.int (jI x5)), some (.int (jI x6)), none]) (st1 := [.int (jI x6)]) (σ1 := js E A) zM_X7_feed dX7_feed_31 rfl rfl rfl rfl ?_
    refine jw_iconst (v := 4) zM_X7_feed dX7_feed_33 rfl ?_
    refine jw_icmp_ge (tgt := 41) zM_X7_feed dX7_feed_34 rfl r_x6 (show jW 4 from ⟨by decide, by decide⟩) (fun q => ?_) (fun q => ?_)
    · replace h := h.1 q
      refine zw_go (pc1 := 43) (L1 := [some (.ref 49), some (.int (jI x1)), some (.int (jI x2)), some (.int (jI x3)), some (.int (jI x4)), some (.int (jI x5)), some (.int (jI x6)), none]) (st1 := [.int (jI x6)]) (σ1 := js E A) zM_X7_feed dX7_feed_41 rfl rfl rfl rfl ?_
      refine jw_bipush (v := 8) zM_X7_feed dX7_feed_43 (by decide) ?_
      refine jw_icmp_ge (tgt := 52) zM_X7_feed dX7_feed_45 rfl r_x6 (show jW 8 from ⟨by decide, by decide⟩) (fun q => ?_) (fun q => ?_)
      · replace h := h.1 q
        refine zw_go (pc1 := 54) (L1 := [some (.ref 49), some (.int (jI x1)), some (.int (jI x2)), some (.int (jI x3)), some (.int (jI x4)), some (.int (jI x5)), some (.int (jI x6)), none]) (st1 := [.int (jI x6)]) (σ1 := js E A) zM_X7_feed dX7_feed_52 rfl rfl rfl rfl ?_
        refine jw_bipush (v := 12) zM_X7_feed dX7_feed_54 (by decide) ?_
        refine jw_icmp_ge (tgt := 63) zM_X7_feed dX7_feed_56 rfl r_x6 (show jW 12 from ⟨by decide, by decide⟩) (fun q => ?_) (fun q => ?_)
        · replace h := h.1 q
          refine zw_go (pc1 := 65) (L1 := [some (.ref 49), some (.int (jI x1)), some (.int (jI x2)), some (.int (jI x3)), some (.int (jI x4)), some (.int (jI x5)), some (.int (jI x6)), none]) (st1 := [.int (jI x6)]) (σ1 := js E A) zM_X7_feed dX7_feed_63 rfl rfl rfl rfl ?_
          refine jw_bipush (v := 16) zM_X7_feed dX7_feed_65 (by decide) ?_
          refine jw_icmp_ge (tgt := 75) zM_X7_feed dX7_feed_67 rfl r_x6 (show jW 16 from ⟨by decide, by decide⟩) (fun q => ?_) (fun q => ?_)
          · replace h := h.1 q
            refine zw_go (pc1 := 77) (L1 := [some (.ref 49), some (.int (jI x1)), some (.int (jI x2)), some (.int (jI x3)), some (.int (jI x4)), some (.int (jI x5)), some (.int (jI x6)), none]) (st1 := [.int (jI x5)]) (σ1 := js E A) zM_X7_feed dX7_feed_75 rfl rfl rfl rfl ?_
            exact zw_weak2 (h hA) ⟨rfl, rfl, rfl, rfl, rfl, rfl, rfl, trivial⟩
          · replace h := h.2 q
            refine zw_go (pc1 := 72) (L1 := [some (.ref 49), some (.int (jI x1)), some (.int (jI x2)), some (.int (jI x3)), some (.int (jI x4)), some (.int (jI x5)), some (.int (jI x6)), none]) (st1 := [.int (jI x4)]) (σ1 := js E A) zM_X7_feed dX7_feed_70 rfl rfl rfl rfl ?_
            refine zw_goto (tgt := 77) zM_X7_feed dX7_feed_72 rfl ?_
            exact zw_weak2 (h hA) ⟨rfl, rfl, rfl, rfl, rfl, rfl, rfl, trivial⟩
        · replace h := h.2 q
          refine zw_go (pc1 := 60) (L1 := [some (.ref 49), some (.int (jI x1)), some (.int (jI x2)), some (.int (jI x3)), some (.int (jI x4)), some (.int (jI x5)), some (.int (jI x6)), none]) (st1 := [.int (jI x3)]) (σ1 := js E A) zM_X7_feed dX7_feed_59 rfl rfl rfl rfl ?_
          refine zw_goto (tgt := 77) zM_X7_feed dX7_feed_60 rfl ?_
          exact zw_weak2 (h hA) ⟨rfl, rfl, rfl, rfl, rfl, rfl, rfl, trivial⟩
      · replace h := h.2 q
        refine zw_go (pc1 := 49) (L1 := [some (.ref 49), some (.int (jI x1)), some (.int (jI x2)), some (.int (jI x3)), some (.int (jI x4)), some (.int (jI x5)), some (.int (jI x6)), none]) (st1 := [.int (jI x2)]) (σ1 := js E A) zM_X7_feed dX7_feed_48 rfl rfl rfl rfl ?_
        refine zw_goto (tgt := 77) zM_X7_feed dX7_feed_49 rfl ?_
        exact zw_weak2 (h hA) ⟨rfl, rfl, rfl, rfl, rfl, rfl, rfl, trivial⟩
    · replace h := h.2 q
      refine zw_go (pc1 := 38) (L1 := [some (.ref 49), some (.int (jI x1)), some (.int (jI x2)), some (.int (jI x3)), some (.int (jI x4)), some (.int (jI x5)), some (.int (jI x6)), none]) (st1 := [.int (jI x1)]) (σ1 := js E A) zM_X7_feed dX7_feed_37 rfl rfl rfl rfl ?_
      refine zw_goto (tgt := 77) zM_X7_feed dX7_feed_38 rfl ?_
      exact zw_weak2 (h hA) ⟨rfl, rfl, rfl, rfl, rfl, rfl, rfl, trivial⟩
set_option maxHeartbeats 4000000 in
set_option maxRecDepth 100000 in
theorem vd_X7_feed_77 (x1 : Int) (r_x1 : jW x1) (x2 : Int) (r_x2 : jW x2) (x3 : Int) (r_x3 : jW x3) (x4 : Int) (r_x4 : jW x4) (x5 : Int) (r_x5 : jW x5) (x6 : Int) (r_x6 : jW x6) (y0 : Int) (r_y0 : jW y0) (E : jE) (A : jA) (K : Int → jA → Prop) (h : 0 ≤ x6 ∧ (0 ≤ (24 - (8 * (x6 % 4))) ∧ (24 - (8 * (x6 % 4))) < 32) ∧ (0 ≤ (A 49 34) ∧ (A 49 34) < 4000) ∧ ∀ A4 : jA, A4 = jup A 73 (A 49 34) ((y0 / 2 ^ (24 - (8 * (x6 % 4))).toNat) % 256) → jW ((A4 49 34) + 1) ∧ ∀ A8 : jA, A8 = jup A4 49 34 ((A4 49 34) + 1) → jrI 152 24 [some (.ref 49), some (.int (jI x1)), some (.int (jI x2)), some (.int (jI x3)), some (.int (jI x4)), some (.int (jI x5)), some (.int (jI (x6 + 1))), none] [] E A8 K) : jrI 152 77 [some (.ref 49), some (.int (jI x1)), some (.int (jI x2)), some (.int (jI x3)), some (.int (jI x4)), some (.int (jI x5)), some (.int (jI x6)), none] [.int (jI y0)] E A K := by
  intro hA
  refine zw_go (pc1 := 79) (L1 := [some (.ref 49), some (.int (jI x1)), some (.int (jI x2)), some (.int (jI x3)), some (.int (jI x4)), some (.int (jI x5)), some (.int (jI x6)), some (.int (jI y0))]) (st1 := []) (σ1 := js E A) zM_X7_feed dX7_feed_77 rfl rfl rfl rfl ?_
  refine zw_go (pc1 := 80) (L1 := [some (.ref 49), some (.int (jI x1)), some (.int (jI x2)), some (.int (jI x3)), some (.int (jI x4)), some (.int (jI x5)), some (.int (jI x6)), some (.int (jI y0))]) (st1 := [.ref 49]) (σ1 := js E A) zM_X7_feed dX7_feed_79 rfl rfl rfl rfl ?_
  refine jw_getR (a := 73) zM_X7_feed dX7_feed_80 zF_7_79 rfl rfl rfl ?_
  refine zw_go (pc1 := 84) (L1 := [some (.ref 49), some (.int (jI x1)), some (.int (jI x2)), some (.int (jI x3)), some (.int (jI x4)), some (.int (jI x5)), some (.int (jI x6)), some (.int (jI y0))]) (st1 := [.ref 49, .ref 73]) (σ1 := js E A) zM_X7_feed dX7_feed_83 rfl rfl rfl rfl ?_
  refine jw_getI zM_X7_feed dX7_feed_84 zF_7_195 rfl rfl rfl ?_
  refine zw_go (pc1 := 89) (L1 := [some (.ref 49), some (.int (jI x1)), some (.int (jI x2)), some (.int (jI x3)), some (.int (jI x4)), some (.int (jI x5)), some (.int (jI x6)), some (.int (jI y0))]) (st1 := [.int (jI y0), .int (jI (A 49 34)), .ref 73]) (σ1 := js E A) zM_X7_feed dX7_feed_87 rfl rfl rfl rfl ?_
  refine jw_bipush (v := 24) zM_X7_feed dX7_feed_89 (by decide) ?_
  refine jw_bipush (v := 8) zM_X7_feed dX7_feed_91 (by decide) ?_
  refine zw_go (pc1 := 95) (L1 := [some (.ref 49), some (.int (jI x1)), some (.int (jI x2)), some (.int (jI x3)), some (.int (jI x4)), some (.int (jI x5)), some (.int (jI x6)), some (.int (jI y0))]) (st1 := [.int (jI x6), .int (jI 8), .int (jI 24), .int (jI y0), .int (jI (A 49 34)), .ref 73]) (σ1 := js E A) zM_X7_feed dX7_feed_93 rfl rfl rfl rfl ?_
  refine jw_iconst (v := 4) zM_X7_feed dX7_feed_95 rfl ?_
  obtain ⟨hz1, h⟩ := h
  refine jw_rem zM_X7_feed dX7_feed_96 r_x6 (show jW 4 from ⟨by decide, by decide⟩) hz1 (by decide) ?_
  refine jw_mul zM_X7_feed dX7_feed_97 ?_
  refine jw_sub zM_X7_feed dX7_feed_98 ?_
  obtain ⟨hs2, h⟩ := h
  refine jw_shr zM_X7_feed dX7_feed_99 r_y0 hs2 ?_
  refine jw_sipush (v := 255) zM_X7_feed dX7_feed_100 (by decide) ?_
  refine jw_and zM_X7_feed dX7_feed_103 rfl ?_
  obtain ⟨hi3, h⟩ := h
  obtain ⟨A4, e5⟩ : ∃ z9 : jA, z9 = jup A 73 (A 49 34) ((y0 / 2 ^ (24 - (8 * (x6 % 4))).toNat) % 256) := ⟨_, rfl⟩
  replace h := h A4 e5
  have hA6 : jOK A4 := jOK.up hA (show jW ((y0 / 2 ^ (24 - (8 * (x6 % 4))).toNat) % 256) from ⟨by omega, by omega⟩) e5
  refine jw_iast zM_X7_feed dX7_feed_104 rfl rfl hi3 e5 ?_
  refine zw_go (pc1 := 106) (L1 := [some (.ref 49), some (.int (jI x1)), some (.int (jI x2)), some (.int (jI x3)), some (.int (jI x4)), some (.int (jI x5)), some (.int (jI x6)), some (.int (jI y0))]) (st1 := [.ref 49]) (σ1 := js E A4) zM_X7_feed dX7_feed_105 rfl rfl rfl rfl ?_
  refine zw_go (pc1 := 107) (L1 := [some (.ref 49), some (.int (jI x1)), some (.int (jI x2)), some (.int (jI x3)), some (.int (jI x4)), some (.int (jI x5)), some (.int (jI x6)), some (.int (jI y0))]) (st1 := [.ref 49, .ref 49]) (σ1 := js E A4) zM_X7_feed dX7_feed_106 rfl rfl rfl rfl ?_
  refine jw_getI zM_X7_feed dX7_feed_107 zF_7_195 rfl rfl rfl ?_
  refine jw_iconst (v := 1) zM_X7_feed dX7_feed_110 rfl ?_
  refine jw_add zM_X7_feed dX7_feed_111 ?_
  obtain ⟨hw7, h⟩ := h
  obtain ⟨A8, e9⟩ : ∃ z9 : jA, z9 = jup A4 49 34 ((A4 49 34) + 1) := ⟨_, rfl⟩
  replace h := h A8 e9
  have hA10 : jOK A8 := jOK.up hA6 hw7 e9
  refine jw_putI zM_X7_feed dX7_feed_112 zF_7_195 rfl rfl rfl rfl e9 ?_
  refine jw_iinc (x := x6) (L1 := [some (.ref 49), some (.int (jI x1)), some (.int (jI x2)), some (.int (jI x3)), some (.int (jI x4)), some (.int (jI x5)), some (.int (jI (x6 + 1))), some (.int (jI y0))]) zM_X7_feed dX7_feed_115 rfl (show 6 < 8 by decide) rfl ?_
  refine zw_goto (tgt := 24) zM_X7_feed dX7_feed_118 rfl ?_
  exact zw_weak2 (h hA10) ⟨rfl, rfl, rfl, rfl, rfl, rfl, rfl, trivial⟩
set_option maxHeartbeats 4000000 in
set_option maxRecDepth 100000 in
theorem vd_X7_file_0 (x1 : Int) (r_x1 : jW x1) (x2 : Int) (r_x2 : jW x2) (E : jE) (A : jA) (K : Int → jA → Prop) (h : jrI 147 0 [some (.ref 49), some (.int (jI 2)), some (.int (jI x1)), some (.int (jI x2))] [] E A (fun v3 A1 => K v3 A1)) : jrI 153 0 [some (.ref 49), some (.int (jI x1)), some (.int (jI x2))] [] E A K := by
  intro hA
  refine zw_go (pc1 := 1) (L1 := [some (.ref 49), some (.int (jI x1)), some (.int (jI x2))]) (st1 := [.ref 49]) (σ1 := js E A) zM_X7_file dX7_file_0 rfl rfl rfl rfl ?_
  refine jw_iconst (v := 2) zM_X7_file dX7_file_1 rfl ?_
  refine zw_go (pc1 := 3) (L1 := [some (.ref 49), some (.int (jI x1)), some (.int (jI x2))]) (st1 := [.int (jI x1), .int (jI 2), .ref 49]) (σ1 := js E A) zM_X7_file dX7_file_2 rfl rfl rfl rfl ?_
  refine zw_go (pc1 := 4) (L1 := [some (.ref 49), some (.int (jI x1)), some (.int (jI x2))]) (st1 := [.int (jI x2), .int (jI x1), .int (jI 2), .ref 49]) (σ1 := js E A) zM_X7_file dX7_file_3 rfl rfl rfl rfl ?_
  refine jw_callI (as := [.ref 49, .int (jI 2), .int (jI x1), .int (jI x2)]) (rest := []) zM_X7_file dX7_file_4 (zx_calV zC_7_120) zM_X7_comes rfl rfl rfl rfl rfl (j_args0 rfl rfl) rfl hA h (fun v3 A1 rv4 hA2 h => ?_)
  exact jw_reti zM_X7_file dX7_file_7 rfl rv4 hA2 h
set_option maxHeartbeats 4000000 in
set_option maxRecDepth 100000 in
theorem vd_X7_first_0  (E : jE) (A : jA) (K : jA → Prop) (h : ((¬ (A 49 35) = (0 : Int) → jrV 154 13 [some (.ref 49), none] [.int (jI 1), .ref 49] E A K) ∧ ((A 49 35) = (0 : Int) → jrV 154 13 [some (.ref 49), none] [.int (jI 0), .ref 49] E A K))) : jrV 154 0 [some (.ref 49), none] [] E A K := by
  intro hA
  refine zw_go (pc1 := 1) (L1 := [some (.ref 49), none]) (st1 := [.ref 49]) (σ1 := js E A) zM_X7_first dX7_first_0 rfl rfl rfl rfl ?_
  refine zw_go (pc1 := 2) (L1 := [some (.ref 49), none]) (st1 := [.ref 49, .ref 49]) (σ1 := js E A) zM_X7_first dX7_first_1 rfl rfl rfl rfl ?_
  refine jw_getI zM_X7_first dX7_first_2 zF_7_257 rfl rfl rfl ?_
  refine jw_if_ne (tgt := 12) zM_X7_first dX7_first_5 rfl (hA 49 35) (fun q => ?_) (fun q => ?_)
  · replace h := h.1 q
    refine jw_iconst (v := 1) zM_X7_first dX7_first_12 rfl ?_
    exact zw_weak2 (h hA) ⟨rfl, trivial⟩
  · replace h := h.2 q
    refine jw_iconst (v := 0) zM_X7_first dX7_first_8 rfl ?_
    refine zw_goto (tgt := 13) zM_X7_first dX7_first_9 rfl ?_
    exact zw_weak2 (h hA) ⟨rfl, trivial⟩
set_option maxHeartbeats 4000000 in
set_option maxRecDepth 100000 in
theorem vd_X7_first_13 (y0 : Int) (r_y0 : jW y0) (E : jE) (A : jA) (K : jA → Prop) (h : ∀ A1 : jA, A1 = jup A 49 37 y0 → ∀ A5 : jA, A5 = jup A1 75 0 (A1 49 35) → jrV 154 28 [some (.ref 49), some (.int (jI 0))] [] E A5 K) : jrV 154 13 [some (.ref 49), none] [.int (jI y0), .ref 49] E A K := by
  intro hA
  obtain ⟨A1, e2⟩ : ∃ z9 : jA, z9 = jup A 49 37 y0 := ⟨_, rfl⟩
  replace h := h A1 e2
  have hA3 : jOK A1 := jOK.up hA r_y0 e2
  refine jw_putI zM_X7_first dX7_first_13 zF_7_269 rfl rfl rfl rfl e2 ?_
  refine zw_go (pc1 := 17) (L1 := [some (.ref 49), none]) (st1 := [.ref 49]) (σ1 := js E A1) zM_X7_first dX7_first_16 rfl rfl rfl rfl ?_
  refine jw_getR (a := 75) zM_X7_first dX7_first_17 zF_7_85 rfl rfl rfl ?_
  refine jw_iconst (v := 0) zM_X7_first dX7_first_20 rfl ?_
  refine zw_go (pc1 := 22) (L1 := [some (.ref 49), none]) (st1 := [.ref 49, .int (jI 0), .ref 75]) (σ1 := js E A1) zM_X7_first dX7_first_21 rfl rfl rfl rfl ?_
  refine jw_getI zM_X7_first dX7_first_22 zF_7_257 rfl rfl rfl ?_
  obtain ⟨A5, e6⟩ : ∃ z9 : jA, z9 = jup A1 75 0 (A1 49 35) := ⟨_, rfl⟩
  replace h := h A5 e6
  have hA7 : jOK A5 := jOK.up hA3 (hA3 49 35) e6
  refine jw_iast zM_X7_first dX7_first_25 rfl rfl ⟨by decide, by decide⟩ e6 ?_
  refine jw_iconst (v := 0) zM_X7_first dX7_first_26 rfl ?_
  refine zw_go (pc1 := 28) (L1 := [some (.ref 49), some (.int (jI 0))]) (st1 := []) (σ1 := js E A5) zM_X7_first dX7_first_27 rfl rfl rfl rfl ?_
  exact zw_weak2 (h hA7) ⟨rfl, rfl, trivial⟩
set_option maxHeartbeats 4000000 in
set_option maxRecDepth 100000 in
theorem vd_X7_first_28 (x1 : Int) (r_x1 : jW x1) (E : jE) (A : jA) (K : jA → Prop) (h : (((A 49 35) ≤ x1 → K A) ∧ (x1 < (A 49 35) → (0 ≤ (((A 49 35) - 1) - x1) ∧ (((A 49 35) - 1) - x1) < 3) ∧ (0 ≤ x1 ∧ x1 < 183) ∧ ∀ A3 : jA, A3 = jup A 76 x1 (A 74 (((A 49 35) - 1) - x1)) → (0 ≤ x1 ∧ x1 < 183) ∧ ∀ A7 : jA, A7 = jup A3 77 x1 1 → jrV 154 28 [some (.ref 49), some (.int (jI (x1 + 1)))] [] E A7 K))) : jrV 154 28 [some (.ref 49), some (.int (jI x1))] [] E A K := by
  intro hA
  refine zw_go (pc1 := 29) (L1 := [some (.ref 49), some (.int (jI x1))]) (st1 := [.int (jI x1)]) (σ1 := js E A) zM_X7_first dX7_first_28 rfl rfl rfl rfl ?_
  refine zw_go (pc1 := 30) (L1 := [some (.ref 49), some (.int (jI x1))]) (st1 := [.ref 49, .int (jI x1)]) (σ1 := js E A) zM_X7_first dX7_first_29 rfl rfl rfl rfl ?_
  refine jw_getI zM_X7_first dX7_first_30 zF_7_257 rfl rfl rfl ?_
  refine jw_icmp_ge (tgt := 68) zM_X7_first dX7_first_33 rfl r_x1 (hA 49 35) (fun q => ?_) (fun q => ?_)
  · replace h := h.1 q
    exact jw_retv zM_X7_first dX7_first_68 rfl hA h
  · replace h := h.2 q
    refine zw_go (pc1 := 37) (L1 := [some (.ref 49), some (.int (jI x1))]) (st1 := [.ref 49]) (σ1 := js E A) zM_X7_first dX7_first_36 rfl rfl rfl rfl ?_
    refine jw_getR (a := 76) zM_X7_first dX7_first_37 zF_7_88 rfl rfl rfl ?_
    refine zw_go (pc1 := 41) (L1 := [some (.ref 49), some (.int (jI x1))]) (st1 := [.int (jI x1), .ref 76]) (σ1 := js E A) zM_X7_first dX7_first_40 rfl rfl rfl rfl ?_
    refine zw_go (pc1 := 42) (L1 := [some (.ref 49), some (.int (jI x1))]) (st1 := [.ref 49, .int (jI x1), .ref 76]) (σ1 := js E A) zM_X7_first dX7_first_41 rfl rfl rfl rfl ?_
    refine jw_getR (a := 74) zM_X7_first dX7_first_42 zF_7_82 rfl rfl rfl ?_
    refine zw_go (pc1 := 46) (L1 := [some (.ref 49), some (.int (jI x1))]) (st1 := [.ref 49, .ref 74, .int (jI x1), .ref 76]) (σ1 := js E A) zM_X7_first dX7_first_45 rfl rfl rfl rfl ?_
    refine jw_getI zM_X7_first dX7_first_46 zF_7_257 rfl rfl rfl ?_
    refine jw_iconst (v := 1) zM_X7_first dX7_first_49 rfl ?_
    refine jw_sub zM_X7_first dX7_first_50 ?_
    refine zw_go (pc1 := 52) (L1 := [some (.ref 49), some (.int (jI x1))]) (st1 := [.int (jI x1), .int (jI ((A 49 35) - 1)), .ref 74, .int (jI x1), .ref 76]) (σ1 := js E A) zM_X7_first dX7_first_51 rfl rfl rfl rfl ?_
    refine jw_sub zM_X7_first dX7_first_52 ?_
    obtain ⟨hi1, h⟩ := h
    refine jw_iald zM_X7_first dX7_first_53 rfl rfl hi1 ?_
    obtain ⟨hi2, h⟩ := h
    obtain ⟨A3, e4⟩ : ∃ z9 : jA, z9 = jup A 76 x1 (A 74 (((A 49 35) - 1) - x1)) := ⟨_, rfl⟩
    replace h := h A3 e4
    have hA5 : jOK A3 := jOK.up hA (hA 74 (((A 49 35) - 1) - x1)) e4
    refine jw_iast zM_X7_first dX7_first_54 rfl rfl hi2 e4 ?_
    refine zw_go (pc1 := 56) (L1 := [some (.ref 49), some (.int (jI x1))]) (st1 := [.ref 49]) (σ1 := js E A3) zM_X7_first dX7_first_55 rfl rfl rfl rfl ?_
    refine jw_getR (a := 77) zM_X7_first dX7_first_56 zF_7_91 rfl rfl rfl ?_
    refine zw_go (pc1 := 60) (L1 := [some (.ref 49), some (.int (jI x1))]) (st1 := [.int (jI x1), .ref 77]) (σ1 := js E A3) zM_X7_first dX7_first_59 rfl rfl rfl rfl ?_
    refine jw_iconst (v := 1) zM_X7_first dX7_first_60 rfl ?_
    obtain ⟨hi6, h⟩ := h
    obtain ⟨A7, e8⟩ : ∃ z9 : jA, z9 = jup A3 77 x1 1 := ⟨_, rfl⟩
    replace h := h A7 e8
    have hA9 : jOK A7 := jOK.up hA5 (show jW 1 from ⟨by decide, by decide⟩) e8
    refine jw_iast zM_X7_first dX7_first_61 rfl rfl hi6 e8 ?_
    refine jw_iinc (x := x1) (L1 := [some (.ref 49), some (.int (jI (x1 + 1)))]) zM_X7_first dX7_first_62 rfl (show 1 < 2 by decide) rfl ?_
    refine zw_goto (tgt := 28) zM_X7_first dX7_first_65 rfl ?_
    exact zw_weak2 (h hA9) ⟨rfl, rfl, trivial⟩
set_option maxHeartbeats 4000000 in
set_option maxRecDepth 100000 in
theorem vd_X7_firstLike_0 (x1 : Int) (r_x1 : jW x1) (E : jE) (A : jA) (K : Int → jA → Prop) (h : (0 ≤ x1 ∧ x1 < 33) ∧ jrI 155 9 [some (.ref 49), some (.int (jI x1)), some (.int (jI (A 61 x1))), some (.int (jI 1))] [] E A K) : jrI 155 0 [some (.ref 49), some (.int (jI x1)), none, none] [] E A K := by
  intro hA
  refine zw_go (pc1 := 1) (L1 := [some (.ref 49), some (.int (jI x1)), none, none]) (st1 := [.ref 49]) (σ1 := js E A) zM_X7_firstLike dX7_firstLike_0 rfl rfl rfl rfl ?_
  refine jw_getR (a := 61) zM_X7_firstLike dX7_firstLike_1 zF_7_43 rfl rfl rfl ?_
  refine zw_go (pc1 := 5) (L1 := [some (.ref 49), some (.int (jI x1)), none, none]) (st1 := [.int (jI x1), .ref 61]) (σ1 := js E A) zM_X7_firstLike dX7_firstLike_4 rfl rfl rfl rfl ?_
  obtain ⟨hi1, h⟩ := h
  refine jw_iald zM_X7_firstLike dX7_firstLike_5 rfl rfl hi1 ?_
  refine zw_go (pc1 := 7) (L1 := [some (.ref 49), some (.int (jI x1)), some (.int (jI (A 61 x1))), none]) (st1 := []) (σ1 := js E A) zM_X7_firstLike dX7_firstLike_6 rfl rfl rfl rfl ?_
  refine jw_iconst (v := 1) zM_X7_firstLike dX7_firstLike_7 rfl ?_
  refine zw_go (pc1 := 9) (L1 := [some (.ref 49), some (.int (jI x1)), some (.int (jI (A 61 x1))), some (.int (jI 1))]) (st1 := []) (σ1 := js E A) zM_X7_firstLike dX7_firstLike_8 rfl rfl rfl rfl ?_
  exact zw_weak2 (h hA) ⟨rfl, rfl, rfl, rfl, trivial⟩
set_option maxHeartbeats 4000000 in
set_option maxRecDepth 100000 in
theorem vd_X7_firstLike_9 (x1 : Int) (r_x1 : jW x1) (x2 : Int) (r_x2 : jW x2) (x3 : Int) (r_x3 : jW x3) (E : jE) (A : jA) (K : Int → jA → Prop) (h : ((x1 ≤ x3 → K x1 A) ∧ (x3 < x1 → (0 ≤ x2 ∧ x2 < 32) ∧ (((A 53 x2) ≤ (0 : Int) → K x1 A) ∧ ((0 : Int) < (A 53 x2) → (0 ≤ x3 ∧ x3 < 33) ∧ (0 ≤ (A 61 x3) ∧ (A 61 x3) < 32) ∧ ((¬ (A 50 (A 61 x3)) = (2 : Int) → jrI 155 54 [some (.ref 49), some (.int (jI x1)), some (.int (jI x2)), some (.int (jI x3))] [] E A K) ∧ ((A 50 (A 61 x3)) = (2 : Int) → (0 ≤ x3 ∧ x3 < 33) ∧ jrI 168 0 [some (.ref 49), some (.int (jI (A 61 x3))), some (.int (jI x2)), none, none] [] E A (fun v7 A5 => ((v7 = (0 : Int) → jrI 155 54 [some (.ref 49), some (.int (jI x1)), some (.int (jI x2)), some (.int (jI x3))] [] E A5 K) ∧ (¬ v7 = (0 : Int) → K x3 A5)))))))))) : jrI 155 9 [some (.ref 49), some (.int (jI x1)), some (.int (jI x2)), some (.int (jI x3))] [] E A K := by
  intro hA
  refine zw_go (pc1 := 10) (L1 := [some (.ref 49), some (.int (jI x1)), some (.int (jI x2)), some (.int (jI x3))]) (st1 := [.int (jI x3)]) (σ1 := js E A) zM_X7_firstLike dX7_firstLike_9 rfl rfl rfl rfl ?_
  refine zw_go (pc1 := 11) (L1 := [some (.ref 49), some (.int (jI x1)), some (.int (jI x2)), some (.int (jI x3))]) (st1 := [.int (jI x1), .int (jI x3)]) (σ1 := js E A) zM_X7_firstLike dX7_firstLike_10 rfl rfl rfl rfl ?_
  refine jw_icmp_ge (tgt := 60) zM_X7_firstLike dX7_firstLike_11 rfl r_x3 r_x1 (fun q => ?_) (fun q => ?_)
  · replace h := h.1 q
    refine zw_go (pc1 := 61) (L1 := [some (.ref 49), some (.int (jI x1)), some (.int (jI x2)), some (.int (jI x3))]) (st1 := [.int (jI x1)]) (σ1 := js E A) zM_X7_firstLike dX7_firstLike_60 rfl rfl rfl rfl ?_
    exact jw_reti zM_X7_firstLike dX7_firstLike_61 rfl r_x1 hA h
  · replace h := h.2 q
    refine zw_go (pc1 := 15) (L1 := [some (.ref 49), some (.int (jI x1)), some (.int (jI x2)), some (.int (jI x3))]) (st1 := [.ref 49]) (σ1 := js E A) zM_X7_firstLike dX7_firstLike_14 rfl rfl rfl rfl ?_
    refine jw_getR (a := 53) zM_X7_firstLike dX7_firstLike_15 zF_7_19 rfl rfl rfl ?_
    refine zw_go (pc1 := 19) (L1 := [some (.ref 49), some (.int (jI x1)), some (.int (jI x2)), some (.int (jI x3))]) (st1 := [.int (jI x2), .ref 53]) (σ1 := js E A) zM_X7_firstLike dX7_firstLike_18 rfl rfl rfl rfl ?_
    obtain ⟨hi1, h⟩ := h
    refine jw_iald zM_X7_firstLike dX7_firstLike_19 rfl rfl hi1 ?_
    refine jw_if_le (tgt := 60) zM_X7_firstLike dX7_firstLike_20 rfl (hA 53 x2) (fun q => ?_) (fun q => ?_)
    · replace h := h.1 q
      refine zw_go (pc1 := 61) (L1 := [some (.ref 49), some (.int (jI x1)), some (.int (jI x2)), some (.int (jI x3))]) (st1 := [.int (jI x1)]) (σ1 := js E A) zM_X7_firstLike dX7_firstLike_60 rfl rfl rfl rfl ?_
      exact jw_reti zM_X7_firstLike dX7_firstLike_61 rfl r_x1 hA h
    · replace h := h.2 q
      refine zw_go (pc1 := 24) (L1 := [some (.ref 49), some (.int (jI x1)), some (.int (jI x2)), some (.int (jI x3))]) (st1 := [.ref 49]) (σ1 := js E A) zM_X7_firstLike dX7_firstLike_23 rfl rfl rfl rfl ?_
      refine jw_getR (a := 50) zM_X7_firstLike dX7_firstLike_24 zF_7_7 rfl rfl rfl ?_
      refine zw_go (pc1 := 28) (L1 := [some (.ref 49), some (.int (jI x1)), some (.int (jI x2)), some (.int (jI x3))]) (st1 := [.ref 49, .ref 50]) (σ1 := js E A) zM_X7_firstLike dX7_firstLike_27 rfl rfl rfl rfl ?_
      refine jw_getR (a := 61) zM_X7_firstLike dX7_firstLike_28 zF_7_43 rfl rfl rfl ?_
      refine zw_go (pc1 := 32) (L1 := [some (.ref 49), some (.int (jI x1)), some (.int (jI x2)), some (.int (jI x3))]) (st1 := [.int (jI x3), .ref 61, .ref 50]) (σ1 := js E A) zM_X7_firstLike dX7_firstLike_31 rfl rfl rfl rfl ?_
      obtain ⟨hi2, h⟩ := h
      refine jw_iald zM_X7_firstLike dX7_firstLike_32 rfl rfl hi2 ?_
      obtain ⟨hi3, h⟩ := h
      refine jw_iald zM_X7_firstLike dX7_firstLike_33 rfl rfl hi3 ?_
      refine jw_iconst (v := 2) zM_X7_firstLike dX7_firstLike_34 rfl ?_
      refine jw_icmp_ne (tgt := 54) zM_X7_firstLike dX7_firstLike_35 rfl (hA 50 (A 61 x3)) (show jW 2 from ⟨by decide, by decide⟩) (fun q => ?_) (fun q => ?_)
      · replace h := h.1 q
        exact zw_weak2 (h hA) ⟨rfl, rfl, rfl, rfl, trivial⟩
      · replace h := h.2 q
        refine zw_go (pc1 := 39) (L1 := [some (.ref 49), some (.int (jI x1)), some (.int (jI x2)), some (.int (jI x3))]) (st1 := [.ref 49]) (σ1 := js E A) zM_X7_firstLike dX7_firstLike_38 rfl rfl rfl rfl ?_
        refine zw_go (pc1 := 40) (L1 := [some (.ref 49), some (.int (jI x1)), some (.int (jI x2)), some (.int (jI x3))]) (st1 := [.ref 49, .ref 49]) (σ1 := js E A) zM_X7_firstLike dX7_firstLike_39 rfl rfl rfl rfl ?_
        refine jw_getR (a := 61) zM_X7_firstLike dX7_firstLike_40 zF_7_43 rfl rfl rfl ?_
        refine zw_go (pc1 := 44) (L1 := [some (.ref 49), some (.int (jI x1)), some (.int (jI x2)), some (.int (jI x3))]) (st1 := [.int (jI x3), .ref 61, .ref 49]) (σ1 := js E A) zM_X7_firstLike dX7_firstLike_43 rfl rfl rfl rfl ?_
        obtain ⟨hi4, h⟩ := h
        refine jw_iald zM_X7_firstLike dX7_firstLike_44 rfl rfl hi4 ?_
        refine zw_go (pc1 := 46) (L1 := [some (.ref 49), some (.int (jI x1)), some (.int (jI x2)), some (.int (jI x3))]) (st1 := [.int (jI x2), .int (jI (A 61 x3)), .ref 49]) (σ1 := js E A) zM_X7_firstLike dX7_firstLike_45 rfl rfl rfl rfl ?_
        refine jw_callI (as := [.ref 49, .int (jI (A 61 x3)), .int (jI x2)]) (rest := []) zM_X7_firstLike dX7_firstLike_46 (zx_calV zC_7_159) zM_X7_isSameFile rfl rfl rfl rfl rfl (j_args0 rfl rfl) rfl hA h (fun v7 A5 rv8 hA6 h => ?_)
        refine jw_if_eq (tgt := 54) zM_X7_firstLike dX7_firstLike_49 rfl rv8 (fun q => ?_) (fun q => ?_)
        · replace h := h.1 q
          exact zw_weak2 (h hA6) ⟨rfl, rfl, rfl, rfl, trivial⟩
        · replace h := h.2 q
          refine zw_go (pc1 := 53) (L1 := [some (.ref 49), some (.int (jI x1)), some (.int (jI x2)), some (.int (jI x3))]) (st1 := [.int (jI x3)]) (σ1 := js E A5) zM_X7_firstLike dX7_firstLike_52 rfl rfl rfl rfl ?_
          exact jw_reti zM_X7_firstLike dX7_firstLike_53 rfl r_x3 hA6 h
set_option maxHeartbeats 4000000 in
set_option maxRecDepth 100000 in
theorem vd_X7_firstLike_54 (x1 : Int) (r_x1 : jW x1) (x2 : Int) (r_x2 : jW x2) (x3 : Int) (r_x3 : jW x3) (E : jE) (A : jA) (K : Int → jA → Prop) (h : jrI 155 9 [some (.ref 49), some (.int (jI x1)), some (.int (jI x2)), some (.int (jI (x3 + 1)))] [] E A K) : jrI 155 54 [some (.ref 49), some (.int (jI x1)), some (.int (jI x2)), some (.int (jI x3))] [] E A K := by
  intro hA
  refine jw_iinc (x := x3) (L1 := [some (.ref 49), some (.int (jI x1)), some (.int (jI x2)), some (.int (jI (x3 + 1)))]) zM_X7_firstLike dX7_firstLike_54 rfl (show 3 < 4 by decide) rfl ?_
  refine zw_goto (tgt := 9) zM_X7_firstLike dX7_firstLike_57 rfl ?_
  exact zw_weak2 (h hA) ⟨rfl, rfl, rfl, rfl, trivial⟩
set_option maxHeartbeats 4000000 in
set_option maxRecDepth 100000 in
theorem vd_X7_firstOf_0 (x1 : Int) (r_x1 : jW x1) (x2 : Int) (r_x2 : jW x2) (E : jE) (A : jA) (K : Int → jA → Prop) (h : jrI 162 0 [some (.ref 49), some (.int (jI x1)), some (.int (jI x2))] [] E A (fun v3 A1 => jrI 210 0 [some (.ref 49), some (.int (jI x1)), some (.int (jI (v3 + 6)))] [] E A1 (fun v7 A5 => 0 ≤ v7 ∧ jW (v7 / 4) ∧ K (v7 / 4) A5))) : jrI 156 0 [some (.ref 49), some (.int (jI x1)), some (.int (jI x2))] [] E A K := by
  intro hA
  refine zw_go (pc1 := 1) (L1 := [some (.ref 49), some (.int (jI x1)), some (.int (jI x2))]) (st1 := [.ref 49]) (σ1 := js E A) zM_X7_firstOf dX7_firstOf_0 rfl rfl rfl rfl ?_
  refine zw_go (pc1 := 2) (L1 := [some (.ref 49), some (.int (jI x1)), some (.int (jI x2))]) (st1 := [.int (jI x1), .ref 49]) (σ1 := js E A) zM_X7_firstOf dX7_firstOf_1 rfl rfl rfl rfl ?_
  refine zw_go (pc1 := 3) (L1 := [some (.ref 49), some (.int (jI x1)), some (.int (jI x2))]) (st1 := [.ref 49, .int (jI x1), .ref 49]) (σ1 := js E A) zM_X7_firstOf dX7_firstOf_2 rfl rfl rfl rfl ?_
  refine zw_go (pc1 := 4) (L1 := [some (.ref 49), some (.int (jI x1)), some (.int (jI x2))]) (st1 := [.int (jI x1), .ref 49, .int (jI x1), .ref 49]) (σ1 := js E A) zM_X7_firstOf dX7_firstOf_3 rfl rfl rfl rfl ?_
  refine zw_go (pc1 := 5) (L1 := [some (.ref 49), some (.int (jI x1)), some (.int (jI x2))]) (st1 := [.int (jI x2), .int (jI x1), .ref 49, .int (jI x1), .ref 49]) (σ1 := js E A) zM_X7_firstOf dX7_firstOf_4 rfl rfl rfl rfl ?_
  refine jw_callI (as := [.ref 49, .int (jI x1), .int (jI x2)]) (rest := [.int (jI x1), .ref 49]) zM_X7_firstOf dX7_firstOf_5 (zx_calV zC_7_226) zM_X7_inode rfl rfl rfl rfl rfl (j_args0 rfl rfl) rfl hA h (fun v3 A1 rv4 hA2 h => ?_)
  refine jw_bipush (v := 6) zM_X7_firstOf dX7_firstOf_8 (by decide) ?_
  refine jw_add zM_X7_firstOf dX7_firstOf_10 ?_
  refine jw_callI (as := [.ref 49, .int (jI x1), .int (jI (v3 + 6))]) (rest := []) zM_X7_firstOf dX7_firstOf_11 (zx_calV zC_7_201) zM_X7_word rfl rfl rfl rfl rfl (j_args0 rfl rfl) rfl hA2 h (fun v7 A5 rv8 hA6 h => ?_)
  refine jw_iconst (v := 4) zM_X7_firstOf dX7_firstOf_14 rfl ?_
  obtain ⟨hz9, h⟩ := h
  refine jw_div zM_X7_firstOf dX7_firstOf_15 rv8 (show jW 4 from ⟨by decide, by decide⟩) hz9 (by decide) ?_
  obtain ⟨hw10, h⟩ := h
  exact jw_reti zM_X7_firstOf dX7_firstOf_16 rfl hw10 hA6 h
set_option maxHeartbeats 4000000 in
set_option maxRecDepth 100000 in
theorem vd_X7_folder_0 (x1 : Int) (r_x1 : jW x1) (x2 : Int) (r_x2 : jW x2) (E : jE) (A : jA) (K : Int → jA → Prop) (h : jrI 147 0 [some (.ref 49), some (.int (jI 1)), some (.int (jI x1)), some (.int (jI x2))] [] E A (fun v3 A1 => K v3 A1)) : jrI 157 0 [some (.ref 49), some (.int (jI x1)), some (.int (jI x2))] [] E A K := by
  intro hA
  refine zw_go (pc1 := 1) (L1 := [some (.ref 49), some (.int (jI x1)), some (.int (jI x2))]) (st1 := [.ref 49]) (σ1 := js E A) zM_X7_folder dX7_folder_0 rfl rfl rfl rfl ?_
  refine jw_iconst (v := 1) zM_X7_folder dX7_folder_1 rfl ?_
  refine zw_go (pc1 := 3) (L1 := [some (.ref 49), some (.int (jI x1)), some (.int (jI x2))]) (st1 := [.int (jI x1), .int (jI 1), .ref 49]) (σ1 := js E A) zM_X7_folder dX7_folder_2 rfl rfl rfl rfl ?_
  refine zw_go (pc1 := 4) (L1 := [some (.ref 49), some (.int (jI x1)), some (.int (jI x2))]) (st1 := [.int (jI x2), .int (jI x1), .int (jI 1), .ref 49]) (σ1 := js E A) zM_X7_folder dX7_folder_3 rfl rfl rfl rfl ?_
  refine jw_callI (as := [.ref 49, .int (jI 1), .int (jI x1), .int (jI x2)]) (rest := []) zM_X7_folder dX7_folder_4 (zx_calV zC_7_120) zM_X7_comes rfl rfl rfl rfl rfl (j_args0 rfl rfl) rfl hA h (fun v3 A1 rv4 hA2 h => ?_)
  exact jw_reti zM_X7_folder dX7_folder_7 rfl rv4 hA2 h
set_option maxHeartbeats 4000000 in
set_option maxRecDepth 100000 in
theorem vd_X7_hide_0 (x1 : Int) (r_x1 : jW x1) (x2 : Int) (r_x2 : jW x2) (E : jE) (A : jA) (K : Int → jA → Prop) (h : jrI 147 0 [some (.ref 49), some (.int (jI 3)), some (.int (jI x1)), some (.int (jI x2))] [] E A (fun v3 A1 => K v3 A1)) : jrI 158 0 [some (.ref 49), some (.int (jI x1)), some (.int (jI x2))] [] E A K := by
  intro hA
  refine zw_go (pc1 := 1) (L1 := [some (.ref 49), some (.int (jI x1)), some (.int (jI x2))]) (st1 := [.ref 49]) (σ1 := js E A) zM_X7_hide dX7_hide_0 rfl rfl rfl rfl ?_
  refine jw_iconst (v := 3) zM_X7_hide dX7_hide_1 rfl ?_
  refine zw_go (pc1 := 3) (L1 := [some (.ref 49), some (.int (jI x1)), some (.int (jI x2))]) (st1 := [.int (jI x1), .int (jI 3), .ref 49]) (σ1 := js E A) zM_X7_hide dX7_hide_2 rfl rfl rfl rfl ?_
  refine zw_go (pc1 := 4) (L1 := [some (.ref 49), some (.int (jI x1)), some (.int (jI x2))]) (st1 := [.int (jI x2), .int (jI x1), .int (jI 3), .ref 49]) (σ1 := js E A) zM_X7_hide dX7_hide_3 rfl rfl rfl rfl ?_
  refine jw_callI (as := [.ref 49, .int (jI 3), .int (jI x1), .int (jI x2)]) (rest := []) zM_X7_hide dX7_hide_4 (zx_calV zC_7_120) zM_X7_comes rfl rfl rfl rfl rfl (j_args0 rfl rfl) rfl hA h (fun v3 A1 rv4 hA2 h => ?_)
  exact jw_reti zM_X7_hide dX7_hide_7 rfl rv4 hA2 h
set_option maxHeartbeats 4000000 in
set_option maxRecDepth 100000 in
theorem vd_X7_image_0 (x1 : Int) (r_x1 : jW x1) (x2 : Int) (r_x2 : jW x2) (E : jE) (A : jA) (K : Int → jA → Prop) (h : ∀ A1 : jA, A1 = jup A 49 0 0 → jrI 165 0 [some (.ref 49), some (.int (jI x1))] [] E A1 (fun v6 A4 => ((¬ v6 = (0 : Int) → ((x2 = 0 → (0 ≤ x1 ∧ x1 < 3) ∧ K (A4 59 x1) A4) ∧ (¬ x2 = 0 → ((x2 = 1 → jrI 143 0 [some (.ref 49), some (.int (jI x1)), some (.int (jI 2))] [] E A4 (fun v12 A10 => K v12 A10)) ∧ (¬ x2 = 1 → ((x2 = 2 → jrI 191 0 [some (.ref 49), some (.int (jI x1))] [] E A4 (fun v17 A15 => K v17 A15)) ∧ (¬ x2 = 2 → ((x2 = 3 → jrI 202 0 [some (.ref 49), some (.int (jI x1))] [] E A4 (fun v22 A20 => K v22 A20)) ∧ (¬ x2 = 3 → ((x2 = 4 → jrI 210 0 [some (.ref 49), some (.int (jI x1)), some (.int (jI 6))] [] E A4 (fun v27 A25 => jW (v27 - 18) ∧ K (v27 - 18) A25)) ∧ (¬ x2 = 4 → K (-2) A4))))))))))) ∧ (v6 = (0 : Int) → K (-1) A4)))) : jrI 159 0 [some (.ref 49), some (.int (jI x1)), some (.int (jI x2))] [] E A K := by
  intro hA
  refine zw_go (pc1 := 1) (L1 := [some (.ref 49), some (.int (jI x1)), some (.int (jI x2))]) (st1 := [.ref 49]) (σ1 := js E A) zM_X7_image dX7_image_0 rfl rfl rfl rfl ?_
  refine jw_iconst (v := 0) zM_X7_image dX7_image_1 rfl ?_
  obtain ⟨A1, e2⟩ : ∃ z9 : jA, z9 = jup A 49 0 0 := ⟨_, rfl⟩
  replace h := h A1 e2
  have hA3 : jOK A1 := jOK.up hA (show jW 0 from ⟨by decide, by decide⟩) e2
  refine jw_putI zM_X7_image dX7_image_2 zF_7_98 rfl rfl rfl rfl e2 ?_
  refine zw_go (pc1 := 6) (L1 := [some (.ref 49), some (.int (jI x1)), some (.int (jI x2))]) (st1 := [.ref 49]) (σ1 := js E A1) zM_X7_image dX7_image_5 rfl rfl rfl rfl ?_
  refine zw_go (pc1 := 7) (L1 := [some (.ref 49), some (.int (jI x1)), some (.int (jI x2))]) (st1 := [.int (jI x1), .ref 49]) (σ1 := js E A1) zM_X7_image dX7_image_6 rfl rfl rfl rfl ?_
  refine jw_callI (as := [.ref 49, .int (jI x1)]) (rest := []) zM_X7_image dX7_image_7 (zx_calV zC_7_263) zM_X7_isImage rfl rfl rfl rfl rfl (j_args0 rfl rfl) rfl hA3 h (fun v6 A4 rv7 hA5 h => ?_)
  refine jw_if_ne (tgt := 15) zM_X7_image dX7_image_10 rfl rv7 (fun q => ?_) (fun q => ?_)
  · replace h := h.1 q
    refine zw_go (pc1 := 16) (L1 := [some (.ref 49), some (.int (jI x1)), some (.int (jI x2))]) (st1 := [.int (jI x2)]) (σ1 := js E A4) zM_X7_image dX7_image_15 rfl rfl rfl rfl ?_
    by_cases hs9 : x2 = 0
    · replace h := h.1 hs9
      refine zw_sw (tgt := 52) zM_X7_image dX7_image_16 (j_sw_in hs9 rfl) rfl ?_
      refine zw_go (pc1 := 53) (L1 := [some (.ref 49), some (.int (jI x1)), some (.int (jI x2))]) (st1 := [.ref 49]) (σ1 := js E A4) zM_X7_image dX7_image_52 rfl rfl rfl rfl ?_
      refine jw_getR (a := 59) zM_X7_image dX7_image_53 zF_7_37 rfl rfl rfl ?_
      refine zw_go (pc1 := 57) (L1 := [some (.ref 49), some (.int (jI x1)), some (.int (jI x2))]) (st1 := [.int (jI x1), .ref 59]) (σ1 := js E A4) zM_X7_image dX7_image_56 rfl rfl rfl rfl ?_
      obtain ⟨hi8, h⟩ := h
      refine jw_iald zM_X7_image dX7_image_57 rfl rfl hi8 ?_
      exact jw_reti zM_X7_image dX7_image_58 rfl (hA5 59 x1) hA5 h
    · replace h := h.2 hs9
      by_cases hs14 : x2 = 1
      · replace h := h.1 hs14
        refine zw_sw (tgt := 59) zM_X7_image dX7_image_16 (j_sw_in hs14 rfl) rfl ?_
        refine zw_go (pc1 := 60) (L1 := [some (.ref 49), some (.int (jI x1)), some (.int (jI x2))]) (st1 := [.ref 49]) (σ1 := js E A4) zM_X7_image dX7_image_59 rfl rfl rfl rfl ?_
        refine zw_go (pc1 := 61) (L1 := [some (.ref 49), some (.int (jI x1)), some (.int (jI x2))]) (st1 := [.int (jI x1), .ref 49]) (σ1 := js E A4) zM_X7_image dX7_image_60 rfl rfl rfl rfl ?_
        refine jw_iconst (v := 2) zM_X7_image dX7_image_61 rfl ?_
        refine jw_callI (as := [.ref 49, .int (jI x1), .int (jI 2)]) (rest := []) zM_X7_image dX7_image_62 (zx_calV zC_7_198) zM_X7_byteAt rfl rfl rfl rfl rfl (j_args0 rfl rfl) rfl hA5 h (fun v12 A10 rv13 hA11 h => ?_)
        exact jw_reti zM_X7_image dX7_image_65 rfl rv13 hA11 h
      · replace h := h.2 hs14
        by_cases hs19 : x2 = 2
        · replace h := h.1 hs19
          refine zw_sw (tgt := 66) zM_X7_image dX7_image_16 (j_sw_in hs19 rfl) rfl ?_
          refine zw_go (pc1 := 67) (L1 := [some (.ref 49), some (.int (jI x1)), some (.int (jI x2))]) (st1 := [.ref 49]) (σ1 := js E A4) zM_X7_image dX7_image_66 rfl rfl rfl rfl ?_
          refine zw_go (pc1 := 68) (L1 := [some (.ref 49), some (.int (jI x1)), some (.int (jI x2))]) (st1 := [.int (jI x1), .ref 49]) (σ1 := js E A4) zM_X7_image dX7_image_67 rfl rfl rfl rfl ?_
          refine jw_callI (as := [.ref 49, .int (jI x1)]) (rest := []) zM_X7_image dX7_image_68 (zx_calV zC_7_207) zM_X7_numbersIn rfl rfl rfl rfl rfl (j_args0 rfl rfl) rfl hA5 h (fun v17 A15 rv18 hA16 h => ?_)
          exact jw_reti zM_X7_image dX7_image_71 rfl rv18 hA16 h
        · replace h := h.2 hs19
          by_cases hs24 : x2 = 3
          · replace h := h.1 hs24
            refine zw_sw (tgt := 72) zM_X7_image dX7_image_16 (j_sw_in hs24 rfl) rfl ?_
            refine zw_go (pc1 := 73) (L1 := [some (.ref 49), some (.int (jI x1)), some (.int (jI x2))]) (st1 := [.ref 49]) (σ1 := js E A4) zM_X7_image dX7_image_72 rfl rfl rfl rfl ?_
            refine zw_go (pc1 := 74) (L1 := [some (.ref 49), some (.int (jI x1)), some (.int (jI x2))]) (st1 := [.int (jI x1), .ref 49]) (σ1 := js E A4) zM_X7_image dX7_image_73 rfl rfl rfl rfl ?_
            refine jw_callI (as := [.ref 49, .int (jI x1)]) (rest := []) zM_X7_image dX7_image_74 (zx_calV zC_7_232) zM_X7_tailsIn rfl rfl rfl rfl rfl (j_args0 rfl rfl) rfl hA5 h (fun v22 A20 rv23 hA21 h => ?_)
            exact jw_reti zM_X7_image dX7_image_77 rfl rv23 hA21 h
          · replace h := h.2 hs24
            by_cases hs30 : x2 = 4
            · replace h := h.1 hs30
              refine zw_sw (tgt := 78) zM_X7_image dX7_image_16 (j_sw_in hs30 rfl) rfl ?_
              refine zw_go (pc1 := 79) (L1 := [some (.ref 49), some (.int (jI x1)), some (.int (jI x2))]) (st1 := [.ref 49]) (σ1 := js E A4) zM_X7_image dX7_image_78 rfl rfl rfl rfl ?_
              refine zw_go (pc1 := 80) (L1 := [some (.ref 49), some (.int (jI x1)), some (.int (jI x2))]) (st1 := [.int (jI x1), .ref 49]) (σ1 := js E A4) zM_X7_image dX7_image_79 rfl rfl rfl rfl ?_
              refine jw_bipush (v := 6) zM_X7_image dX7_image_80 (by decide) ?_
              refine jw_callI (as := [.ref 49, .int (jI x1), .int (jI 6)]) (rest := []) zM_X7_image dX7_image_82 (zx_calV zC_7_201) zM_X7_word rfl rfl rfl rfl rfl (j_args0 rfl rfl) rfl hA5 h (fun v27 A25 rv28 hA26 h => ?_)
              refine jw_bipush (v := 18) zM_X7_image dX7_image_85 (by decide) ?_
              refine jw_sub zM_X7_image dX7_image_87 ?_
              obtain ⟨hw29, h⟩ := h
              exact jw_reti zM_X7_image dX7_image_88 rfl hw29 hA26 h
            · replace h := h.2 hs30
              refine zw_sw (tgt := 89) zM_X7_image dX7_image_16 (j_sw_out r_x2 (by omega)) rfl ?_
              refine jw_bipush (v := (-2)) zM_X7_image dX7_image_89 (by decide) ?_
              exact jw_reti zM_X7_image dX7_image_91 rfl (show jW (-2) from ⟨by decide, by decide⟩) hA5 h
  · replace h := h.2 q
    refine jw_iconst (v := (-1)) zM_X7_image dX7_image_13 rfl ?_
    exact jw_reti zM_X7_image dX7_image_14 rfl (show jW (-1) from ⟨by decide, by decide⟩) hA5 h
set_option maxHeartbeats 4000000 in
set_option maxRecDepth 100000 in
theorem vd_X7_in_0 (x0 : Int) (r_x0 : jW x0) (x1 : Int) (r_x1 : jW x1) (x2 : Int) (r_x2 : jW x2) (E : jE) (A : jA) (K : Int → jA → Prop) (h : ((x0 < x1 → K 0 A) ∧ (x1 ≤ x0 → ((x2 < x0 → K 0 A) ∧ (x0 ≤ x2 → K 1 A))))) : jrI 160 0 [some (.int (jI x0)), some (.int (jI x1)), some (.int (jI x2))] [] E A K := by
  intro hA
  refine zw_go (pc1 := 1) (L1 := [some (.int (jI x0)), some (.int (jI x1)), some (.int (jI x2))]) (st1 := [.int (jI x0)]) (σ1 := js E A) zM_X7_in dX7_in_0 rfl rfl rfl rfl ?_
  refine zw_go (pc1 := 2) (L1 := [some (.int (jI x0)), some (.int (jI x1)), some (.int (jI x2))]) (st1 := [.int (jI x1), .int (jI x0)]) (σ1 := js E A) zM_X7_in dX7_in_1 rfl rfl rfl rfl ?_
  refine jw_icmp_lt (tgt := 14) zM_X7_in dX7_in_2 rfl r_x0 r_x1 (fun q => ?_) (fun q => ?_)
  · replace h := h.1 q
    refine jw_iconst (v := 0) zM_X7_in dX7_in_14 rfl ?_
    exact jw_retz zM_X7_in dX7_in_15 rfl (Or.inl rfl) hA h
  · replace h := h.2 q
    refine zw_go (pc1 := 6) (L1 := [some (.int (jI x0)), some (.int (jI x1)), some (.int (jI x2))]) (st1 := [.int (jI x0)]) (σ1 := js E A) zM_X7_in dX7_in_5 rfl rfl rfl rfl ?_
    refine zw_go (pc1 := 7) (L1 := [some (.int (jI x0)), some (.int (jI x1)), some (.int (jI x2))]) (st1 := [.int (jI x2), .int (jI x0)]) (σ1 := js E A) zM_X7_in dX7_in_6 rfl rfl rfl rfl ?_
    refine jw_icmp_gt (tgt := 14) zM_X7_in dX7_in_7 rfl r_x0 r_x2 (fun q => ?_) (fun q => ?_)
    · replace h := h.1 q
      refine jw_iconst (v := 0) zM_X7_in dX7_in_14 rfl ?_
      exact jw_retz zM_X7_in dX7_in_15 rfl (Or.inl rfl) hA h
    · replace h := h.2 q
      refine jw_iconst (v := 1) zM_X7_in dX7_in_10 rfl ?_
      refine zw_goto (tgt := 15) zM_X7_in dX7_in_11 rfl ?_
      exact jw_retz zM_X7_in dX7_in_15 rfl (Or.inr rfl) hA h
set_option maxHeartbeats 4000000 in
set_option maxRecDepth 100000 in
theorem vd_X7_inode_0 (x1 : Int) (r_x1 : jW x1) (x2 : Int) (r_x2 : jW x2) (E : jE) (A : jA) (K : Int → jA → Prop) (h : jrI 210 0 [some (.ref 49), some (.int (jI x1)), some (.int (jI 6))] [] E A (fun v3 A1 => jrI 210 0 [some (.ref 49), some (.int (jI x1)), some (.int (jI 12))] [] E A1 (fun v7 A5 => jrI 210 0 [some (.ref 49), some (.int (jI x1)), some (.int (jI ((v7 + (2 * x2)) - 2)))] [] E A5 (fun v11 A9 => jW (v3 + v11) ∧ K (v3 + v11) A9)))) : jrI 162 0 [some (.ref 49), some (.int (jI x1)), some (.int (jI x2))] [] E A K := by
  intro hA
  refine zw_go (pc1 := 1) (L1 := [some (.ref 49), some (.int (jI x1)), some (.int (jI x2))]) (st1 := [.ref 49]) (σ1 := js E A) zM_X7_inode dX7_inode_0 rfl rfl rfl rfl ?_
  refine zw_go (pc1 := 2) (L1 := [some (.ref 49), some (.int (jI x1)), some (.int (jI x2))]) (st1 := [.int (jI x1), .ref 49]) (σ1 := js E A) zM_X7_inode dX7_inode_1 rfl rfl rfl rfl ?_
  refine jw_bipush (v := 6) zM_X7_inode dX7_inode_2 (by decide) ?_
  refine jw_callI (as := [.ref 49, .int (jI x1), .int (jI 6)]) (rest := []) zM_X7_inode dX7_inode_4 (zx_calV zC_7_201) zM_X7_word rfl rfl rfl rfl rfl (j_args0 rfl rfl) rfl hA h (fun v3 A1 rv4 hA2 h => ?_)
  refine zw_go (pc1 := 8) (L1 := [some (.ref 49), some (.int (jI x1)), some (.int (jI x2))]) (st1 := [.ref 49, .int (jI v3)]) (σ1 := js E A1) zM_X7_inode dX7_inode_7 rfl rfl rfl rfl ?_
  refine zw_go (pc1 := 9) (L1 := [some (.ref 49), some (.int (jI x1)), some (.int (jI x2))]) (st1 := [.int (jI x1), .ref 49, .int (jI v3)]) (σ1 := js E A1) zM_X7_inode dX7_inode_8 rfl rfl rfl rfl ?_
  refine zw_go (pc1 := 10) (L1 := [some (.ref 49), some (.int (jI x1)), some (.int (jI x2))]) (st1 := [.ref 49, .int (jI x1), .ref 49, .int (jI v3)]) (σ1 := js E A1) zM_X7_inode dX7_inode_9 rfl rfl rfl rfl ?_
  refine zw_go (pc1 := 11) (L1 := [some (.ref 49), some (.int (jI x1)), some (.int (jI x2))]) (st1 := [.int (jI x1), .ref 49, .int (jI x1), .ref 49, .int (jI v3)]) (σ1 := js E A1) zM_X7_inode dX7_inode_10 rfl rfl rfl rfl ?_
  refine jw_bipush (v := 12) zM_X7_inode dX7_inode_11 (by decide) ?_
  refine jw_callI (as := [.ref 49, .int (jI x1), .int (jI 12)]) (rest := [.int (jI x1), .ref 49, .int (jI v3)]) zM_X7_inode dX7_inode_13 (zx_calV zC_7_201) zM_X7_word rfl rfl rfl rfl rfl (j_args0 rfl rfl) rfl hA2 h (fun v7 A5 rv8 hA6 h => ?_)
  refine jw_iconst (v := 2) zM_X7_inode dX7_inode_16 rfl ?_
  refine zw_go (pc1 := 18) (L1 := [some (.ref 49), some (.int (jI x1)), some (.int (jI x2))]) (st1 := [.int (jI x2), .int (jI 2), .int (jI v7), .int (jI x1), .ref 49, .int (jI v3)]) (σ1 := js E A5) zM_X7_inode dX7_inode_17 rfl rfl rfl rfl ?_
  refine jw_mul zM_X7_inode dX7_inode_18 ?_
  refine jw_add zM_X7_inode dX7_inode_19 ?_
  refine jw_iconst (v := 2) zM_X7_inode dX7_inode_20 rfl ?_
  refine jw_sub zM_X7_inode dX7_inode_21 ?_
  refine jw_callI (as := [.ref 49, .int (jI x1), .int (jI ((v7 + (2 * x2)) - 2))]) (rest := [.int (jI v3)]) zM_X7_inode dX7_inode_22 (zx_calV zC_7_201) zM_X7_word rfl rfl rfl rfl rfl (j_args0 rfl rfl) rfl hA6 h (fun v11 A9 rv12 hA10 h => ?_)
  refine jw_add zM_X7_inode dX7_inode_25 ?_
  obtain ⟨hw13, h⟩ := h
  exact jw_reti zM_X7_inode dX7_inode_26 rfl hw13 hA10 h
