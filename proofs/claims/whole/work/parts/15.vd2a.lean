set_option maxHeartbeats 4000000 in
set_option maxRecDepth 100000 in
theorem vd_X2_areFoldersNamedAtHome_0  (E : jE) (A : jA) (K : Int → jA → Prop) (h : jrV 0 0 [some (.ref 37), some (.int (jI 0)), none, none] [] E A (fun A1 => jrI 52 10 [some (.ref 36), some (.ref 19), some (.int (jI 1)), none, none, none, none] [] E A1 K)) : jrI 52 0 [some (.ref 36), some (.ref 19), none, none, none, none, none] [] E A K := by
  intro hA
  refine zw_go (pc1 := 1) (L1 := [some (.ref 36), some (.ref 19), none, none, none, none, none]) (st1 := [.ref 36]) (σ1 := js E A) zM_X2_areFoldersNamedAtHome dX2_areFoldersNamedAtHome_0 rfl rfl rfl rfl ?_
  refine jw_getR (a := 37) zM_X2_areFoldersNamedAtHome dX2_areFoldersNamedAtHome_1 zF_2_9 rfl rfl rfl ?_
  refine jw_iconst (v := 0) zM_X2_areFoldersNamedAtHome dX2_areFoldersNamedAtHome_4 rfl ?_
  refine jw_callV (as := [.ref 37, .int (jI 0)]) (rest := []) zM_X2_areFoldersNamedAtHome dX2_areFoldersNamedAtHome_5 (zx_calS zC_2_134) zM_J7_fill_53178 rfl rfl rfl rfl rfl rfl rfl hA h (fun A1 hA2 h => ?_)
  refine jw_iconst (v := 1) zM_X2_areFoldersNamedAtHome dX2_areFoldersNamedAtHome_8 rfl ?_
  refine zw_go (pc1 := 10) (L1 := [some (.ref 36), some (.ref 19), some (.int (jI 1)), none, none, none, none]) (st1 := []) (σ1 := js E A1) zM_X2_areFoldersNamedAtHome dX2_areFoldersNamedAtHome_9 rfl rfl rfl rfl ?_
  exact zw_weak2 (h hA2) ⟨rfl, rfl, rfl, trivial⟩
set_option maxHeartbeats 4000000 in
set_option maxRecDepth 100000 in
theorem vd_X2_areFoldersNamedAtHome_10 (x2 : Int) (r_x2 : jW x2) (E : jE) (A : jA) (K : Int → jA → Prop) (h : (((A 19 3) < x2 → K 1 A) ∧ (x2 ≤ (A 19 3) → jrI 30 0 [some (.ref 19), some (.int (jI x2))] [] E A (fun v3 A1 => ((¬ v3 = (1 : Int) → jrI 52 36 [some (.ref 36), some (.ref 19), some (.int (jI x2)), none, none, none, none] [.int (jI 0)] E A1 K) ∧ (v3 = (1 : Int) → jrI 44 0 [some (.ref 19), some (.int (jI x2)), none, none] [] E A1 (fun v7 A5 => jrI 52 36 [some (.ref 36), some (.ref 19), some (.int (jI x2)), none, none, none, none] [.int (jI v7)] E A5 K))))))) : jrI 52 10 [some (.ref 36), some (.ref 19), some (.int (jI x2)), none, none, none, none] [] E A K := by
  intro hA
  refine zw_go (pc1 := 11) (L1 := [some (.ref 36), some (.ref 19), some (.int (jI x2)), none, none, none, none]) (st1 := [.int (jI x2)]) (σ1 := js E A) zM_X2_areFoldersNamedAtHome dX2_areFoldersNamedAtHome_10 rfl rfl rfl rfl ?_
  refine zw_go (pc1 := 12) (L1 := [some (.ref 36), some (.ref 19), some (.int (jI x2)), none, none, none, none]) (st1 := [.ref 19, .int (jI x2)]) (σ1 := js E A) zM_X2_areFoldersNamedAtHome dX2_areFoldersNamedAtHome_11 rfl rfl rfl rfl ?_
  refine jw_getI zM_X2_areFoldersNamedAtHome dX2_areFoldersNamedAtHome_12 zF_2_73 rfl rfl rfl ?_
  refine jw_icmp_gt (tgt := 131) zM_X2_areFoldersNamedAtHome dX2_areFoldersNamedAtHome_15 rfl r_x2 (hA 19 3) (fun q => ?_) (fun q => ?_)
  · replace h := h.1 q
    refine jw_iconst (v := 1) zM_X2_areFoldersNamedAtHome dX2_areFoldersNamedAtHome_131 rfl ?_
    exact jw_retz zM_X2_areFoldersNamedAtHome dX2_areFoldersNamedAtHome_132 rfl (Or.inr rfl) hA h
  · replace h := h.2 q
    refine zw_go (pc1 := 19) (L1 := [some (.ref 36), some (.ref 19), some (.int (jI x2)), none, none, none, none]) (st1 := [.ref 19]) (σ1 := js E A) zM_X2_areFoldersNamedAtHome dX2_areFoldersNamedAtHome_18 rfl rfl rfl rfl ?_
    refine zw_go (pc1 := 20) (L1 := [some (.ref 36), some (.ref 19), some (.int (jI x2)), none, none, none, none]) (st1 := [.int (jI x2), .ref 19]) (σ1 := js E A) zM_X2_areFoldersNamedAtHome dX2_areFoldersNamedAtHome_19 rfl rfl rfl rfl ?_
    refine jw_callI (as := [.ref 19, .int (jI x2)]) (rest := []) zM_X2_areFoldersNamedAtHome dX2_areFoldersNamedAtHome_20 (zx_calV zC_2_107) zM_X1_kindOf rfl rfl rfl rfl rfl (j_args0 rfl rfl) rfl hA h (fun v3 A1 rv4 hA2 h => ?_)
    refine jw_iconst (v := 1) zM_X2_areFoldersNamedAtHome dX2_areFoldersNamedAtHome_23 rfl ?_
    refine jw_icmp_ne (tgt := 35) zM_X2_areFoldersNamedAtHome dX2_areFoldersNamedAtHome_24 rfl rv4 (show jW 1 from ⟨by decide, by decide⟩) (fun q => ?_) (fun q => ?_)
    · replace h := h.1 q
      refine jw_iconst (v := 0) zM_X2_areFoldersNamedAtHome dX2_areFoldersNamedAtHome_35 rfl ?_
      exact zw_weak2 (h hA2) ⟨rfl, rfl, rfl, trivial⟩
    · replace h := h.2 q
      refine zw_go (pc1 := 28) (L1 := [some (.ref 36), some (.ref 19), some (.int (jI x2)), none, none, none, none]) (st1 := [.ref 19]) (σ1 := js E A1) zM_X2_areFoldersNamedAtHome dX2_areFoldersNamedAtHome_27 rfl rfl rfl rfl ?_
      refine zw_go (pc1 := 29) (L1 := [some (.ref 36), some (.ref 19), some (.int (jI x2)), none, none, none, none]) (st1 := [.int (jI x2), .ref 19]) (σ1 := js E A1) zM_X2_areFoldersNamedAtHome dX2_areFoldersNamedAtHome_28 rfl rfl rfl rfl ?_
      refine jw_callI (as := [.ref 19, .int (jI x2)]) (rest := []) zM_X2_areFoldersNamedAtHome dX2_areFoldersNamedAtHome_29 (zx_calV zC_2_110) zM_X1_sizeOf rfl rfl rfl rfl rfl (j_args0 rfl rfl) rfl hA2 h (fun v7 A5 rv8 hA6 h => ?_)
      refine zw_goto (tgt := 36) zM_X2_areFoldersNamedAtHome dX2_areFoldersNamedAtHome_32 rfl ?_
      exact zw_weak2 (h hA6) ⟨rfl, rfl, rfl, trivial⟩
set_option maxHeartbeats 4000000 in
set_option maxRecDepth 100000 in
theorem vd_X2_areFoldersNamedAtHome_36 (x2 : Int) (r_x2 : jW x2) (y0 : Int) (r_y0 : jW y0) (E : jE) (A : jA) (K : Int → jA → Prop) (h : ((¬ y0 = (0 : Int) → jrI 25 0 [some (.ref 19), some (.int (jI x2))] [] E A (fun v3 A1 => jrI 52 50 [some (.ref 36), some (.ref 19), some (.int (jI x2)), some (.int (jI y0)), none, none, none] [.int (jI v3)] E A1 K)) ∧ (y0 = (0 : Int) → jrI 52 50 [some (.ref 36), some (.ref 19), some (.int (jI x2)), some (.int (jI y0)), none, none, none] [.int (jI 0)] E A K))) : jrI 52 36 [some (.ref 36), some (.ref 19), some (.int (jI x2)), none, none, none, none] [.int (jI y0)] E A K := by
  intro hA
  refine zw_go (pc1 := 37) (L1 := [some (.ref 36), some (.ref 19), some (.int (jI x2)), some (.int (jI y0)), none, none, none]) (st1 := []) (σ1 := js E A) zM_X2_areFoldersNamedAtHome dX2_areFoldersNamedAtHome_36 rfl rfl rfl rfl ?_
  refine zw_go (pc1 := 38) (L1 := [some (.ref 36), some (.ref 19), some (.int (jI x2)), some (.int (jI y0)), none, none, none]) (st1 := [.int (jI y0)]) (σ1 := js E A) zM_X2_areFoldersNamedAtHome dX2_areFoldersNamedAtHome_37 rfl rfl rfl rfl ?_
  refine jw_if_ne (tgt := 45) zM_X2_areFoldersNamedAtHome dX2_areFoldersNamedAtHome_38 rfl r_y0 (fun q => ?_) (fun q => ?_)
  · replace h := h.1 q
    refine zw_go (pc1 := 46) (L1 := [some (.ref 36), some (.ref 19), some (.int (jI x2)), some (.int (jI y0)), none, none, none]) (st1 := [.ref 19]) (σ1 := js E A) zM_X2_areFoldersNamedAtHome dX2_areFoldersNamedAtHome_45 rfl rfl rfl rfl ?_
    refine zw_go (pc1 := 47) (L1 := [some (.ref 36), some (.ref 19), some (.int (jI x2)), some (.int (jI y0)), none, none, none]) (st1 := [.int (jI x2), .ref 19]) (σ1 := js E A) zM_X2_areFoldersNamedAtHome dX2_areFoldersNamedAtHome_46 rfl rfl rfl rfl ?_
    refine jw_callI (as := [.ref 19, .int (jI x2)]) (rest := []) zM_X2_areFoldersNamedAtHome dX2_areFoldersNamedAtHome_47 (zx_calV zC_2_113) zM_X1_firstNamePlace rfl rfl rfl rfl rfl (j_args0 rfl rfl) rfl hA h (fun v3 A1 rv4 hA2 h => ?_)
    exact zw_weak2 (h hA2) ⟨rfl, rfl, rfl, rfl, trivial⟩
  · replace h := h.2 q
    refine jw_iconst (v := 0) zM_X2_areFoldersNamedAtHome dX2_areFoldersNamedAtHome_41 rfl ?_
    refine zw_goto (tgt := 50) zM_X2_areFoldersNamedAtHome dX2_areFoldersNamedAtHome_42 rfl ?_
    exact zw_weak2 (h hA) ⟨rfl, rfl, rfl, rfl, trivial⟩
set_option maxHeartbeats 4000000 in
set_option maxRecDepth 100000 in
theorem vd_X2_areFoldersNamedAtHome_50 (x2 : Int) (r_x2 : jW x2) (x3 : Int) (r_x3 : jW x3) (y0 : Int) (r_y0 : jW y0) (E : jE) (A : jA) (K : Int → jA → Prop) (h : jrI 52 55 [some (.ref 36), some (.ref 19), some (.int (jI x2)), some (.int (jI x3)), some (.int (jI y0)), some (.int (jI 0)), none] [] E A K) : jrI 52 50 [some (.ref 36), some (.ref 19), some (.int (jI x2)), some (.int (jI x3)), none, none, none] [.int (jI y0)] E A K := by
  intro hA
  refine zw_go (pc1 := 52) (L1 := [some (.ref 36), some (.ref 19), some (.int (jI x2)), some (.int (jI x3)), some (.int (jI y0)), none, none]) (st1 := []) (σ1 := js E A) zM_X2_areFoldersNamedAtHome dX2_areFoldersNamedAtHome_50 rfl rfl rfl rfl ?_
  refine jw_iconst (v := 0) zM_X2_areFoldersNamedAtHome dX2_areFoldersNamedAtHome_52 rfl ?_
  refine zw_go (pc1 := 55) (L1 := [some (.ref 36), some (.ref 19), some (.int (jI x2)), some (.int (jI x3)), some (.int (jI y0)), some (.int (jI 0)), none]) (st1 := []) (σ1 := js E A) zM_X2_areFoldersNamedAtHome dX2_areFoldersNamedAtHome_53 rfl rfl rfl rfl ?_
  exact zw_weak2 (h hA) ⟨rfl, rfl, rfl, rfl, rfl, rfl, trivial⟩
set_option maxHeartbeats 4000000 in
set_option maxRecDepth 100000 in
theorem vd_X2_areFoldersNamedAtHome_55 (x2 : Int) (r_x2 : jW x2) (x3 : Int) (r_x3 : jW x3) (x4 : Int) (r_x4 : jW x4) (x5 : Int) (r_x5 : jW x5) (E : jE) (A : jA) (K : Int → jA → Prop) (h : ((x3 ≤ x5 → jrI 52 10 [some (.ref 36), some (.ref 19), some (.int (jI (x2 + 1))), none, none, none, none] [] E A K) ∧ (x5 < x3 → jrI 51 0 [some (.ref 19), some (.int (jI ((x4 + (4 * x5)) + 2)))] [] E A (fun v3 A1 => jrI 30 0 [some (.ref 19), some (.int (jI v3))] [] E A1 (fun v7 A5 => ((¬ v7 = (1 : Int) → jrI 52 98 [some (.ref 36), some (.ref 19), some (.int (jI x2)), some (.int (jI x3)), some (.int (jI x4)), some (.int (jI x5)), some (.int (jI v3))] [] E A5 K) ∧ (v7 = (1 : Int) → jrI 28 0 [some (.ref 19), some (.int (jI v3))] [] E A5 (fun v11 A9 => ((v11 = x2 → jrI 52 98 [some (.ref 36), some (.ref 19), some (.int (jI x2)), some (.int (jI x3)), some (.int (jI x4)), some (.int (jI x5)), some (.int (jI v3))] [] E A9 K) ∧ (¬ v11 = x2 → K 0 A9)))))))))) : jrI 52 55 [some (.ref 36), some (.ref 19), some (.int (jI x2)), some (.int (jI x3)), some (.int (jI x4)), some (.int (jI x5)), none] [] E A K := by
  intro hA
  refine zw_go (pc1 := 57) (L1 := [some (.ref 36), some (.ref 19), some (.int (jI x2)), some (.int (jI x3)), some (.int (jI x4)), some (.int (jI x5)), none]) (st1 := [.int (jI x5)]) (σ1 := js E A) zM_X2_areFoldersNamedAtHome dX2_areFoldersNamedAtHome_55 rfl rfl rfl rfl ?_
  refine zw_go (pc1 := 58) (L1 := [some (.ref 36), some (.ref 19), some (.int (jI x2)), some (.int (jI x3)), some (.int (jI x4)), some (.int (jI x5)), none]) (st1 := [.int (jI x3), .int (jI x5)]) (σ1 := js E A) zM_X2_areFoldersNamedAtHome dX2_areFoldersNamedAtHome_57 rfl rfl rfl rfl ?_
  refine jw_icmp_ge (tgt := 125) zM_X2_areFoldersNamedAtHome dX2_areFoldersNamedAtHome_58 rfl r_x5 r_x3 (fun q => ?_) (fun q => ?_)
  · replace h := h.1 q
    refine jw_iinc (x := x2) (L1 := [some (.ref 36), some (.ref 19), some (.int (jI (x2 + 1))), some (.int (jI x3)), some (.int (jI x4)), some (.int (jI x5)), none]) zM_X2_areFoldersNamedAtHome dX2_areFoldersNamedAtHome_125 rfl (show 2 < 7 by decide) rfl ?_
    refine zw_goto (tgt := 10) zM_X2_areFoldersNamedAtHome dX2_areFoldersNamedAtHome_128 rfl ?_
    exact zw_weak2 (h hA) ⟨rfl, rfl, rfl, trivial⟩
  · replace h := h.2 q
    refine zw_go (pc1 := 62) (L1 := [some (.ref 36), some (.ref 19), some (.int (jI x2)), some (.int (jI x3)), some (.int (jI x4)), some (.int (jI x5)), none]) (st1 := [.ref 19]) (σ1 := js E A) zM_X2_areFoldersNamedAtHome dX2_areFoldersNamedAtHome_61 rfl rfl rfl rfl ?_
    refine zw_go (pc1 := 64) (L1 := [some (.ref 36), some (.ref 19), some (.int (jI x2)), some (.int (jI x3)), some (.int (jI x4)), some (.int (jI x5)), none]) (st1 := [.int (jI x4), .ref 19]) (σ1 := js E A) zM_X2_areFoldersNamedAtHome dX2_areFoldersNamedAtHome_62 rfl rfl rfl rfl ?_
    refine jw_iconst (v := 4) zM_X2_areFoldersNamedAtHome dX2_areFoldersNamedAtHome_64 rfl ?_
    refine zw_go (pc1 := 67) (L1 := [some (.ref 36), some (.ref 19), some (.int (jI x2)), some (.int (jI x3)), some (.int (jI x4)), some (.int (jI x5)), none]) (st1 := [.int (jI x5), .int (jI 4), .int (jI x4), .ref 19]) (σ1 := js E A) zM_X2_areFoldersNamedAtHome dX2_areFoldersNamedAtHome_65 rfl rfl rfl rfl ?_
    refine jw_mul zM_X2_areFoldersNamedAtHome dX2_areFoldersNamedAtHome_67 ?_
    refine jw_add zM_X2_areFoldersNamedAtHome dX2_areFoldersNamedAtHome_68 ?_
    refine jw_iconst (v := 2) zM_X2_areFoldersNamedAtHome dX2_areFoldersNamedAtHome_69 rfl ?_
    refine jw_add zM_X2_areFoldersNamedAtHome dX2_areFoldersNamedAtHome_70 ?_
    refine jw_callI (as := [.ref 19, .int (jI ((x4 + (4 * x5)) + 2))]) (rest := []) zM_X2_areFoldersNamedAtHome dX2_areFoldersNamedAtHome_71 (zx_calV zC_2_27) zM_X1_wordAt rfl rfl rfl rfl rfl (j_args0 rfl rfl) rfl hA h (fun v3 A1 rv4 hA2 h => ?_)
    refine zw_go (pc1 := 76) (L1 := [some (.ref 36), some (.ref 19), some (.int (jI x2)), some (.int (jI x3)), some (.int (jI x4)), some (.int (jI x5)), some (.int (jI v3))]) (st1 := []) (σ1 := js E A1) zM_X2_areFoldersNamedAtHome dX2_areFoldersNamedAtHome_74 rfl rfl rfl rfl ?_
    refine zw_go (pc1 := 77) (L1 := [some (.ref 36), some (.ref 19), some (.int (jI x2)), some (.int (jI x3)), some (.int (jI x4)), some (.int (jI x5)), some (.int (jI v3))]) (st1 := [.ref 19]) (σ1 := js E A1) zM_X2_areFoldersNamedAtHome dX2_areFoldersNamedAtHome_76 rfl rfl rfl rfl ?_
    refine zw_go (pc1 := 79) (L1 := [some (.ref 36), some (.ref 19), some (.int (jI x2)), some (.int (jI x3)), some (.int (jI x4)), some (.int (jI x5)), some (.int (jI v3))]) (st1 := [.int (jI v3), .ref 19]) (σ1 := js E A1) zM_X2_areFoldersNamedAtHome dX2_areFoldersNamedAtHome_77 rfl rfl rfl rfl ?_
    refine jw_callI (as := [.ref 19, .int (jI v3)]) (rest := []) zM_X2_areFoldersNamedAtHome dX2_areFoldersNamedAtHome_79 (zx_calV zC_2_107) zM_X1_kindOf rfl rfl rfl rfl rfl (j_args0 rfl rfl) rfl hA2 h (fun v7 A5 rv8 hA6 h => ?_)
    refine jw_iconst (v := 1) zM_X2_areFoldersNamedAtHome dX2_areFoldersNamedAtHome_82 rfl ?_
    refine jw_icmp_ne (tgt := 98) zM_X2_areFoldersNamedAtHome dX2_areFoldersNamedAtHome_83 rfl rv8 (show jW 1 from ⟨by decide, by decide⟩) (fun q => ?_) (fun q => ?_)
    · replace h := h.1 q
      exact zw_weak2 (h hA6) ⟨rfl, rfl, rfl, rfl, rfl, rfl, rfl, trivial⟩
    · replace h := h.2 q
      refine zw_go (pc1 := 87) (L1 := [some (.ref 36), some (.ref 19), some (.int (jI x2)), some (.int (jI x3)), some (.int (jI x4)), some (.int (jI x5)), some (.int (jI v3))]) (st1 := [.ref 19]) (σ1 := js E A5) zM_X2_areFoldersNamedAtHome dX2_areFoldersNamedAtHome_86 rfl rfl rfl rfl ?_
      refine zw_go (pc1 := 89) (L1 := [some (.ref 36), some (.ref 19), some (.int (jI x2)), some (.int (jI x3)), some (.int (jI x4)), some (.int (jI x5)), some (.int (jI v3))]) (st1 := [.int (jI v3), .ref 19]) (σ1 := js E A5) zM_X2_areFoldersNamedAtHome dX2_areFoldersNamedAtHome_87 rfl rfl rfl rfl ?_
      refine jw_callI (as := [.ref 19, .int (jI v3)]) (rest := []) zM_X2_areFoldersNamedAtHome dX2_areFoldersNamedAtHome_89 (zx_calV zC_2_125) zM_X1_homeOf rfl rfl rfl rfl rfl (j_args0 rfl rfl) rfl hA6 h (fun v11 A9 rv12 hA10 h => ?_)
      refine zw_go (pc1 := 93) (L1 := [some (.ref 36), some (.ref 19), some (.int (jI x2)), some (.int (jI x3)), some (.int (jI x4)), some (.int (jI x5)), some (.int (jI v3))]) (st1 := [.int (jI x2), .int (jI v11)]) (σ1 := js E A9) zM_X2_areFoldersNamedAtHome dX2_areFoldersNamedAtHome_92 rfl rfl rfl rfl ?_
      refine jw_icmp_eq (tgt := 98) zM_X2_areFoldersNamedAtHome dX2_areFoldersNamedAtHome_93 rfl rv12 r_x2 (fun q => ?_) (fun q => ?_)
      · replace h := h.1 q
        exact zw_weak2 (h hA10) ⟨rfl, rfl, rfl, rfl, rfl, rfl, rfl, trivial⟩
      · replace h := h.2 q
        refine jw_iconst (v := 0) zM_X2_areFoldersNamedAtHome dX2_areFoldersNamedAtHome_96 rfl ?_
        exact jw_retz zM_X2_areFoldersNamedAtHome dX2_areFoldersNamedAtHome_97 rfl (Or.inl rfl) hA10 h
set_option maxHeartbeats 4000000 in
set_option maxRecDepth 100000 in
theorem vd_X2_areFoldersNamedAtHome_98 (x2 : Int) (r_x2 : jW x2) (x3 : Int) (r_x3 : jW x3) (x4 : Int) (r_x4 : jW x4) (x5 : Int) (r_x5 : jW x5) (x6 : Int) (r_x6 : jW x6) (E : jE) (A : jA) (K : Int → jA → Prop) (h : (((498 : Int) ≤ x6 → jrI 52 119 [some (.ref 36), some (.ref 19), some (.int (jI x2)), some (.int (jI x3)), some (.int (jI x4)), some (.int (jI x5)), none] [] E A K) ∧ (x6 < (498 : Int) → (0 ≤ x6 ∧ x6 < 498) ∧ jW ((A 37 x6) + 1) ∧ (0 ≤ x6 ∧ x6 < 498) ∧ ∀ A4 : jA, A4 = jup A 37 x6 ((A 37 x6) + 1) → jrI 52 119 [some (.ref 36), some (.ref 19), some (.int (jI x2)), some (.int (jI x3)), some (.int (jI x4)), some (.int (jI x5)), none] [] E A4 K))) : jrI 52 98 [some (.ref 36), some (.ref 19), some (.int (jI x2)), some (.int (jI x3)), some (.int (jI x4)), some (.int (jI x5)), some (.int (jI x6))] [] E A K := by
  intro hA
  refine zw_go (pc1 := 100) (L1 := [some (.ref 36), some (.ref 19), some (.int (jI x2)), some (.int (jI x3)), some (.int (jI x4)), some (.int (jI x5)), some (.int (jI x6))]) (st1 := [.int (jI x6)]) (σ1 := js E A) zM_X2_areFoldersNamedAtHome dX2_areFoldersNamedAtHome_98 rfl rfl rfl rfl ?_
  refine zw_go (pc1 := 101) (L1 := [some (.ref 36), some (.ref 19), some (.int (jI x2)), some (.int (jI x3)), some (.int (jI x4)), some (.int (jI x5)), some (.int (jI x6))]) (st1 := [.ref 36, .int (jI x6)]) (σ1 := js E A) zM_X2_areFoldersNamedAtHome dX2_areFoldersNamedAtHome_100 rfl rfl rfl rfl ?_
  refine jw_getR (a := 37) zM_X2_areFoldersNamedAtHome dX2_areFoldersNamedAtHome_101 zF_2_9 rfl rfl rfl ?_
  refine jw_alen zM_X2_areFoldersNamedAtHome dX2_areFoldersNamedAtHome_104 rfl rfl ?_
  refine jw_icmp_ge (tgt := 119) zM_X2_areFoldersNamedAtHome dX2_areFoldersNamedAtHome_105 rfl r_x6 (show jW 498 from ⟨by decide, by decide⟩) (fun q => ?_) (fun q => ?_)
  · replace h := h.1 q
    exact zw_weak2 (h hA) ⟨rfl, rfl, rfl, rfl, rfl, rfl, trivial⟩
  · replace h := h.2 q
    refine zw_go (pc1 := 109) (L1 := [some (.ref 36), some (.ref 19), some (.int (jI x2)), some (.int (jI x3)), some (.int (jI x4)), some (.int (jI x5)), some (.int (jI x6))]) (st1 := [.ref 36]) (σ1 := js E A) zM_X2_areFoldersNamedAtHome dX2_areFoldersNamedAtHome_108 rfl rfl rfl rfl ?_
    refine jw_getR (a := 37) zM_X2_areFoldersNamedAtHome dX2_areFoldersNamedAtHome_109 zF_2_9 rfl rfl rfl ?_
    refine zw_go (pc1 := 114) (L1 := [some (.ref 36), some (.ref 19), some (.int (jI x2)), some (.int (jI x3)), some (.int (jI x4)), some (.int (jI x5)), some (.int (jI x6))]) (st1 := [.int (jI x6), .ref 37]) (σ1 := js E A) zM_X2_areFoldersNamedAtHome dX2_areFoldersNamedAtHome_112 rfl rfl rfl rfl ?_
    refine zw_go (pc1 := 115) (L1 := [some (.ref 36), some (.ref 19), some (.int (jI x2)), some (.int (jI x3)), some (.int (jI x4)), some (.int (jI x5)), some (.int (jI x6))]) (st1 := [.int (jI x6), .ref 37, .int (jI x6), .ref 37]) (σ1 := js E A) zM_X2_areFoldersNamedAtHome dX2_areFoldersNamedAtHome_114 rfl rfl rfl rfl ?_
    obtain ⟨hi1, h⟩ := h
    refine jw_iald zM_X2_areFoldersNamedAtHome dX2_areFoldersNamedAtHome_115 rfl rfl hi1 ?_
    refine jw_iconst (v := 1) zM_X2_areFoldersNamedAtHome dX2_areFoldersNamedAtHome_116 rfl ?_
    refine jw_add zM_X2_areFoldersNamedAtHome dX2_areFoldersNamedAtHome_117 ?_
    obtain ⟨hw2, h⟩ := h
    obtain ⟨hi3, h⟩ := h
    obtain ⟨A4, e5⟩ : ∃ z9 : jA, z9 = jup A 37 x6 ((A 37 x6) + 1) := ⟨_, rfl⟩
    replace h := h A4 e5
    have hA6 : jOK A4 := jOK.up hA hw2 e5
    refine jw_iast zM_X2_areFoldersNamedAtHome dX2_areFoldersNamedAtHome_118 rfl rfl hi3 e5 ?_
    exact zw_weak2 (h hA6) ⟨rfl, rfl, rfl, rfl, rfl, rfl, trivial⟩
set_option maxHeartbeats 4000000 in
set_option maxRecDepth 100000 in
theorem vd_X2_areFoldersNamedAtHome_119 (x2 : Int) (r_x2 : jW x2) (x3 : Int) (r_x3 : jW x3) (x4 : Int) (r_x4 : jW x4) (x5 : Int) (r_x5 : jW x5) (E : jE) (A : jA) (K : Int → jA → Prop) (h : jrI 52 55 [some (.ref 36), some (.ref 19), some (.int (jI x2)), some (.int (jI x3)), some (.int (jI x4)), some (.int (jI (x5 + 1))), none] [] E A K) : jrI 52 119 [some (.ref 36), some (.ref 19), some (.int (jI x2)), some (.int (jI x3)), some (.int (jI x4)), some (.int (jI x5)), none] [] E A K := by
  intro hA
  refine jw_iinc (x := x5) (L1 := [some (.ref 36), some (.ref 19), some (.int (jI x2)), some (.int (jI x3)), some (.int (jI x4)), some (.int (jI (x5 + 1))), none]) zM_X2_areFoldersNamedAtHome dX2_areFoldersNamedAtHome_119 rfl (show 5 < 7 by decide) rfl ?_
  refine zw_goto (tgt := 55) zM_X2_areFoldersNamedAtHome dX2_areFoldersNamedAtHome_122 rfl ?_
  exact zw_weak2 (h hA) ⟨rfl, rfl, rfl, rfl, rfl, rfl, trivial⟩
set_option maxHeartbeats 4000000 in
set_option maxRecDepth 100000 in
theorem vd_X2_areFoldersRight_0  (E : jE) (A : jA) (K : Int → jA → Prop) (h : jrI 53 7 [some (.ref 19), some (.int (jI (A 19 5))), some (.int (jI 1)), none] [] E A K) : jrI 53 0 [some (.ref 19), none, none, none] [] E A K := by
  intro hA
  refine zw_go (pc1 := 1) (L1 := [some (.ref 19), none, none, none]) (st1 := [.ref 19]) (σ1 := js E A) zM_X2_areFoldersRight dX2_areFoldersRight_0 rfl rfl rfl rfl ?_
  refine jw_getI zM_X2_areFoldersRight dX2_areFoldersRight_1 zF_2_64 rfl rfl rfl ?_
  refine zw_go (pc1 := 5) (L1 := [some (.ref 19), some (.int (jI (A 19 5))), none, none]) (st1 := []) (σ1 := js E A) zM_X2_areFoldersRight dX2_areFoldersRight_4 rfl rfl rfl rfl ?_
  refine jw_iconst (v := 1) zM_X2_areFoldersRight dX2_areFoldersRight_5 rfl ?_
  refine zw_go (pc1 := 7) (L1 := [some (.ref 19), some (.int (jI (A 19 5))), some (.int (jI 1)), none]) (st1 := []) (σ1 := js E A) zM_X2_areFoldersRight dX2_areFoldersRight_6 rfl rfl rfl rfl ?_
  exact zw_weak2 (h hA) ⟨rfl, rfl, rfl, trivial⟩
set_option maxHeartbeats 4000000 in
set_option maxRecDepth 100000 in
theorem vd_X2_areFoldersRight_7 (x1 : Int) (r_x1 : jW x1) (x2 : Int) (r_x2 : jW x2) (E : jE) (A : jA) (K : Int → jA → Prop) (h : (((A 19 3) < x2 → ((¬ x1 = (A 19 6) → K 0 A) ∧ (x1 = (A 19 6) → K 1 A))) ∧ (x2 ≤ (A 19 3) → jrI 30 0 [some (.ref 19), some (.int (jI x2))] [] E A (fun v3 A1 => ((¬ v3 = (1 : Int) → jrI 53 68 [some (.ref 19), some (.int (jI x1)), some (.int (jI x2)), none] [] E A1 K) ∧ (v3 = (1 : Int) → jrI 44 0 [some (.ref 19), some (.int (jI x2)), none, none] [] E A1 (fun v7 A5 => jrI 25 0 [some (.ref 19), some (.int (jI x2))] [] E A5 (fun v11 A9 => ((¬ v11 = x1 → K 0 A9) ∧ (v11 = x1 → jW (x1 + (4 * v7)) ∧ (((A9 19 6) < (x1 + (4 * v7)) → K 0 A9) ∧ ((x1 + (4 * v7)) ≤ (A9 19 6) → jrI 55 0 [some (.ref 19), some (.int (jI x1)), some (.int (jI v7)), none, none, none] [] E A9 (fun v16 A14 => ((¬ v16 = (0 : Int) → jrI 53 68 [some (.ref 19), some (.int (jI (x1 + (4 * v7)))), some (.int (jI x2)), none] [] E A14 K) ∧ (v16 = (0 : Int) → K 0 A14))))))))))))))) : jrI 53 7 [some (.ref 19), some (.int (jI x1)), some (.int (jI x2)), none] [] E A K := by
  intro hA
  refine zw_go (pc1 := 8) (L1 := [some (.ref 19), some (.int (jI x1)), some (.int (jI x2)), none]) (st1 := [.int (jI x2)]) (σ1 := js E A) zM_X2_areFoldersRight dX2_areFoldersRight_7 rfl rfl rfl rfl ?_
  refine zw_go (pc1 := 9) (L1 := [some (.ref 19), some (.int (jI x1)), some (.int (jI x2)), none]) (st1 := [.ref 19, .int (jI x2)]) (σ1 := js E A) zM_X2_areFoldersRight dX2_areFoldersRight_8 rfl rfl rfl rfl ?_
  refine jw_getI zM_X2_areFoldersRight dX2_areFoldersRight_9 zF_2_73 rfl rfl rfl ?_
  refine jw_icmp_gt (tgt := 74) zM_X2_areFoldersRight dX2_areFoldersRight_12 rfl r_x2 (hA 19 3) (fun q => ?_) (fun q => ?_)
  · replace h := h.1 q
    refine zw_go (pc1 := 75) (L1 := [some (.ref 19), some (.int (jI x1)), some (.int (jI x2)), none]) (st1 := [.int (jI x1)]) (σ1 := js E A) zM_X2_areFoldersRight dX2_areFoldersRight_74 rfl rfl rfl rfl ?_
    refine zw_go (pc1 := 76) (L1 := [some (.ref 19), some (.int (jI x1)), some (.int (jI x2)), none]) (st1 := [.ref 19, .int (jI x1)]) (σ1 := js E A) zM_X2_areFoldersRight dX2_areFoldersRight_75 rfl rfl rfl rfl ?_
    refine jw_getI zM_X2_areFoldersRight dX2_areFoldersRight_76 zF_2_67 rfl rfl rfl ?_
    refine jw_icmp_ne (tgt := 86) zM_X2_areFoldersRight dX2_areFoldersRight_79 rfl r_x1 (hA 19 6) (fun q => ?_) (fun q => ?_)
    · replace h := h.1 q
      refine jw_iconst (v := 0) zM_X2_areFoldersRight dX2_areFoldersRight_86 rfl ?_
      exact jw_retz zM_X2_areFoldersRight dX2_areFoldersRight_87 rfl (Or.inl rfl) hA h
    · replace h := h.2 q
      refine jw_iconst (v := 1) zM_X2_areFoldersRight dX2_areFoldersRight_82 rfl ?_
      refine zw_goto (tgt := 87) zM_X2_areFoldersRight dX2_areFoldersRight_83 rfl ?_
      exact jw_retz zM_X2_areFoldersRight dX2_areFoldersRight_87 rfl (Or.inr rfl) hA h
  · replace h := h.2 q
    refine zw_go (pc1 := 16) (L1 := [some (.ref 19), some (.int (jI x1)), some (.int (jI x2)), none]) (st1 := [.ref 19]) (σ1 := js E A) zM_X2_areFoldersRight dX2_areFoldersRight_15 rfl rfl rfl rfl ?_
    refine zw_go (pc1 := 17) (L1 := [some (.ref 19), some (.int (jI x1)), some (.int (jI x2)), none]) (st1 := [.int (jI x2), .ref 19]) (σ1 := js E A) zM_X2_areFoldersRight dX2_areFoldersRight_16 rfl rfl rfl rfl ?_
    refine jw_callI (as := [.ref 19, .int (jI x2)]) (rest := []) zM_X2_areFoldersRight dX2_areFoldersRight_17 (zx_calV zC_2_107) zM_X1_kindOf rfl rfl rfl rfl rfl (j_args0 rfl rfl) rfl hA h (fun v3 A1 rv4 hA2 h => ?_)
    refine jw_iconst (v := 1) zM_X2_areFoldersRight dX2_areFoldersRight_20 rfl ?_
    refine jw_icmp_ne (tgt := 68) zM_X2_areFoldersRight dX2_areFoldersRight_21 rfl rv4 (show jW 1 from ⟨by decide, by decide⟩) (fun q => ?_) (fun q => ?_)
    · replace h := h.1 q
      exact zw_weak2 (h hA2) ⟨rfl, rfl, rfl, trivial⟩
    · replace h := h.2 q
      refine zw_go (pc1 := 25) (L1 := [some (.ref 19), some (.int (jI x1)), some (.int (jI x2)), none]) (st1 := [.ref 19]) (σ1 := js E A1) zM_X2_areFoldersRight dX2_areFoldersRight_24 rfl rfl rfl rfl ?_
      refine zw_go (pc1 := 26) (L1 := [some (.ref 19), some (.int (jI x1)), some (.int (jI x2)), none]) (st1 := [.int (jI x2), .ref 19]) (σ1 := js E A1) zM_X2_areFoldersRight dX2_areFoldersRight_25 rfl rfl rfl rfl ?_
      refine jw_callI (as := [.ref 19, .int (jI x2)]) (rest := []) zM_X2_areFoldersRight dX2_areFoldersRight_26 (zx_calV zC_2_110) zM_X1_sizeOf rfl rfl rfl rfl rfl (j_args0 rfl rfl) rfl hA2 h (fun v7 A5 rv8 hA6 h => ?_)
      refine zw_go (pc1 := 30) (L1 := [some (.ref 19), some (.int (jI x1)), some (.int (jI x2)), some (.int (jI v7))]) (st1 := []) (σ1 := js E A5) zM_X2_areFoldersRight dX2_areFoldersRight_29 rfl rfl rfl rfl ?_
      refine zw_go (pc1 := 31) (L1 := [some (.ref 19), some (.int (jI x1)), some (.int (jI x2)), some (.int (jI v7))]) (st1 := [.ref 19]) (σ1 := js E A5) zM_X2_areFoldersRight dX2_areFoldersRight_30 rfl rfl rfl rfl ?_
      refine zw_go (pc1 := 32) (L1 := [some (.ref 19), some (.int (jI x1)), some (.int (jI x2)), some (.int (jI v7))]) (st1 := [.int (jI x2), .ref 19]) (σ1 := js E A5) zM_X2_areFoldersRight dX2_areFoldersRight_31 rfl rfl rfl rfl ?_
      refine jw_callI (as := [.ref 19, .int (jI x2)]) (rest := []) zM_X2_areFoldersRight dX2_areFoldersRight_32 (zx_calV zC_2_113) zM_X1_firstNamePlace rfl rfl rfl rfl rfl (j_args0 rfl rfl) rfl hA6 h (fun v11 A9 rv12 hA10 h => ?_)
      refine zw_go (pc1 := 36) (L1 := [some (.ref 19), some (.int (jI x1)), some (.int (jI x2)), some (.int (jI v7))]) (st1 := [.int (jI x1), .int (jI v11)]) (σ1 := js E A9) zM_X2_areFoldersRight dX2_areFoldersRight_35 rfl rfl rfl rfl ?_
      refine jw_icmp_ne (tgt := 60) zM_X2_areFoldersRight dX2_areFoldersRight_36 rfl rv12 r_x1 (fun q => ?_) (fun q => ?_)
      · replace h := h.1 q
        refine jw_iconst (v := 0) zM_X2_areFoldersRight dX2_areFoldersRight_60 rfl ?_
        exact jw_retz zM_X2_areFoldersRight dX2_areFoldersRight_61 rfl (Or.inl rfl) hA10 h
      · replace h := h.2 q
        refine zw_go (pc1 := 40) (L1 := [some (.ref 19), some (.int (jI x1)), some (.int (jI x2)), some (.int (jI v7))]) (st1 := [.int (jI x1)]) (σ1 := js E A9) zM_X2_areFoldersRight dX2_areFoldersRight_39 rfl rfl rfl rfl ?_
        refine jw_iconst (v := 4) zM_X2_areFoldersRight dX2_areFoldersRight_40 rfl ?_
        refine zw_go (pc1 := 42) (L1 := [some (.ref 19), some (.int (jI x1)), some (.int (jI x2)), some (.int (jI v7))]) (st1 := [.int (jI v7), .int (jI 4), .int (jI x1)]) (σ1 := js E A9) zM_X2_areFoldersRight dX2_areFoldersRight_41 rfl rfl rfl rfl ?_
        refine jw_mul zM_X2_areFoldersRight dX2_areFoldersRight_42 ?_
        refine jw_add zM_X2_areFoldersRight dX2_areFoldersRight_43 ?_
        refine zw_go (pc1 := 45) (L1 := [some (.ref 19), some (.int (jI x1)), some (.int (jI x2)), some (.int (jI v7))]) (st1 := [.ref 19, .int (jI (x1 + (4 * v7)))]) (σ1 := js E A9) zM_X2_areFoldersRight dX2_areFoldersRight_44 rfl rfl rfl rfl ?_
        refine jw_getI zM_X2_areFoldersRight dX2_areFoldersRight_45 zF_2_67 rfl rfl rfl ?_
        obtain ⟨hw13, h⟩ := h
        refine jw_icmp_gt (tgt := 60) zM_X2_areFoldersRight dX2_areFoldersRight_48 rfl hw13 (hA10 19 6) (fun q => ?_) (fun q => ?_)
        · replace h := h.1 q
          refine jw_iconst (v := 0) zM_X2_areFoldersRight dX2_areFoldersRight_60 rfl ?_
          exact jw_retz zM_X2_areFoldersRight dX2_areFoldersRight_61 rfl (Or.inl rfl) hA10 h
        · replace h := h.2 q
          refine zw_go (pc1 := 52) (L1 := [some (.ref 19), some (.int (jI x1)), some (.int (jI x2)), some (.int (jI v7))]) (st1 := [.ref 19]) (σ1 := js E A9) zM_X2_areFoldersRight dX2_areFoldersRight_51 rfl rfl rfl rfl ?_
          refine zw_go (pc1 := 53) (L1 := [some (.ref 19), some (.int (jI x1)), some (.int (jI x2)), some (.int (jI v7))]) (st1 := [.int (jI x1), .ref 19]) (σ1 := js E A9) zM_X2_areFoldersRight dX2_areFoldersRight_52 rfl rfl rfl rfl ?_
          refine zw_go (pc1 := 54) (L1 := [some (.ref 19), some (.int (jI x1)), some (.int (jI x2)), some (.int (jI v7))]) (st1 := [.int (jI v7), .int (jI x1), .ref 19]) (σ1 := js E A9) zM_X2_areFoldersRight dX2_areFoldersRight_53 rfl rfl rfl rfl ?_
          refine jw_callI (as := [.ref 19, .int (jI x1), .int (jI v7)]) (rest := []) zM_X2_areFoldersRight dX2_areFoldersRight_54 (zx_calS zC_2_116) zM_X2_areNamesRight rfl rfl rfl rfl rfl rfl rfl hA10 h (fun v16 A14 rv17 hA15 h => ?_)
          refine jw_if_ne (tgt := 62) zM_X2_areFoldersRight dX2_areFoldersRight_57 rfl rv17 (fun q => ?_) (fun q => ?_)
          · replace h := h.1 q
            refine zw_go (pc1 := 63) (L1 := [some (.ref 19), some (.int (jI x1)), some (.int (jI x2)), some (.int (jI v7))]) (st1 := [.int (jI x1)]) (σ1 := js E A14) zM_X2_areFoldersRight dX2_areFoldersRight_62 rfl rfl rfl rfl ?_
            refine jw_iconst (v := 4) zM_X2_areFoldersRight dX2_areFoldersRight_63 rfl ?_
            refine zw_go (pc1 := 65) (L1 := [some (.ref 19), some (.int (jI x1)), some (.int (jI x2)), some (.int (jI v7))]) (st1 := [.int (jI v7), .int (jI 4), .int (jI x1)]) (σ1 := js E A14) zM_X2_areFoldersRight dX2_areFoldersRight_64 rfl rfl rfl rfl ?_
            refine jw_mul zM_X2_areFoldersRight dX2_areFoldersRight_65 ?_
            refine jw_add zM_X2_areFoldersRight dX2_areFoldersRight_66 ?_
            refine zw_go (pc1 := 68) (L1 := [some (.ref 19), some (.int (jI (x1 + (4 * v7)))), some (.int (jI x2)), some (.int (jI v7))]) (st1 := []) (σ1 := js E A14) zM_X2_areFoldersRight dX2_areFoldersRight_67 rfl rfl rfl rfl ?_
            exact zw_weak2 (h hA15) ⟨rfl, rfl, rfl, trivial⟩
          · replace h := h.2 q
            refine jw_iconst (v := 0) zM_X2_areFoldersRight dX2_areFoldersRight_60 rfl ?_
            exact jw_retz zM_X2_areFoldersRight dX2_areFoldersRight_61 rfl (Or.inl rfl) hA15 h
set_option maxHeartbeats 4000000 in
set_option maxRecDepth 100000 in
theorem vd_X2_areFoldersRight_68 (x1 : Int) (r_x1 : jW x1) (x2 : Int) (r_x2 : jW x2) (E : jE) (A : jA) (K : Int → jA → Prop) (h : jrI 53 7 [some (.ref 19), some (.int (jI x1)), some (.int (jI (x2 + 1))), none] [] E A K) : jrI 53 68 [some (.ref 19), some (.int (jI x1)), some (.int (jI x2)), none] [] E A K := by
  intro hA
  refine jw_iinc (x := x2) (L1 := [some (.ref 19), some (.int (jI x1)), some (.int (jI (x2 + 1))), none]) zM_X2_areFoldersRight dX2_areFoldersRight_68 rfl (show 2 < 4 by decide) rfl ?_
  refine zw_goto (tgt := 7) zM_X2_areFoldersRight dX2_areFoldersRight_71 rfl ?_
  exact zw_weak2 (h hA) ⟨rfl, rfl, rfl, trivial⟩
set_option maxHeartbeats 4000000 in
set_option maxRecDepth 100000 in
theorem vd_X2_areInodesRight_0  (E : jE) (A : jA) (K : Int → jA → Prop) (h : jrI 54 7 [some (.ref 19), some (.int (jI (A 19 4))), some (.int (jI 1)), none] [] E A K) : jrI 54 0 [some (.ref 19), none, none, none] [] E A K := by
  intro hA
  refine zw_go (pc1 := 1) (L1 := [some (.ref 19), none, none, none]) (st1 := [.ref 19]) (σ1 := js E A) zM_X2_areInodesRight dX2_areInodesRight_0 rfl rfl rfl rfl ?_
  refine jw_getI zM_X2_areInodesRight dX2_areInodesRight_1 zF_2_61 rfl rfl rfl ?_
  refine zw_go (pc1 := 5) (L1 := [some (.ref 19), some (.int (jI (A 19 4))), none, none]) (st1 := []) (σ1 := js E A) zM_X2_areInodesRight dX2_areInodesRight_4 rfl rfl rfl rfl ?_
  refine jw_iconst (v := 1) zM_X2_areInodesRight dX2_areInodesRight_5 rfl ?_
  refine zw_go (pc1 := 7) (L1 := [some (.ref 19), some (.int (jI (A 19 4))), some (.int (jI 1)), none]) (st1 := []) (σ1 := js E A) zM_X2_areInodesRight dX2_areInodesRight_6 rfl rfl rfl rfl ?_
  exact zw_weak2 (h hA) ⟨rfl, rfl, rfl, trivial⟩
set_option maxHeartbeats 4000000 in
set_option maxRecDepth 100000 in
theorem vd_X2_areInodesRight_7 (x1 : Int) (r_x1 : jW x1) (x2 : Int) (r_x2 : jW x2) (E : jE) (A : jA) (K : Int → jA → Prop) (h : (((A 19 3) < x2 → ((¬ x1 = (A 19 5) → K 0 A) ∧ (x1 = (A 19 5) → K 1 A))) ∧ (x2 ≤ (A 19 3) → jrI 65 0 [some (.ref 19), some (.int (jI x1))] [] E A (fun v3 A1 => jrI 42 0 [some (.ref 19), some (.int (jI x2))] [] E A1 (fun v7 A5 => ((¬ v7 = x1 → K 0 A5) ∧ (v7 = x1 → ((v3 = (0 : Int) → K 0 A5) ∧ (¬ v3 = (0 : Int) → jW (x1 + v3) ∧ (((x1 + v3) ≤ (A5 19 5) → jrI 21 0 [some (.ref 19), some (.int (jI x1))] [] E A5 (fun v12 A10 => ((¬ v12 = (2 : Int) → jrI 54 65 [some (.ref 19), some (.int (jI x1)), some (.int (jI x2)), some (.int (jI v3))] [] E A10 K) ∧ (v12 = (2 : Int) → jrI 61 0 [some (.ref 19), some (.int (jI x1)), none, none, none, none, none] [] E A10 (fun v16 A14 => ((¬ v16 = (0 : Int) → jrI 54 65 [some (.ref 19), some (.int (jI x1)), some (.int (jI x2)), some (.int (jI v3))] [] E A14 K) ∧ (v16 = (0 : Int) → K 0 A14))))))) ∧ ((A5 19 5) < (x1 + v3) → K 0 A5))))))))))) : jrI 54 7 [some (.ref 19), some (.int (jI x1)), some (.int (jI x2)), none] [] E A K := by
  intro hA
  refine zw_go (pc1 := 8) (L1 := [some (.ref 19), some (.int (jI x1)), some (.int (jI x2)), none]) (st1 := [.int (jI x2)]) (σ1 := js E A) zM_X2_areInodesRight dX2_areInodesRight_7 rfl rfl rfl rfl ?_
  refine zw_go (pc1 := 9) (L1 := [some (.ref 19), some (.int (jI x1)), some (.int (jI x2)), none]) (st1 := [.ref 19, .int (jI x2)]) (σ1 := js E A) zM_X2_areInodesRight dX2_areInodesRight_8 rfl rfl rfl rfl ?_
  refine jw_getI zM_X2_areInodesRight dX2_areInodesRight_9 zF_2_73 rfl rfl rfl ?_
  refine jw_icmp_gt (tgt := 75) zM_X2_areInodesRight dX2_areInodesRight_12 rfl r_x2 (hA 19 3) (fun q => ?_) (fun q => ?_)
  · replace h := h.1 q
    refine zw_go (pc1 := 76) (L1 := [some (.ref 19), some (.int (jI x1)), some (.int (jI x2)), none]) (st1 := [.int (jI x1)]) (σ1 := js E A) zM_X2_areInodesRight dX2_areInodesRight_75 rfl rfl rfl rfl ?_
    refine zw_go (pc1 := 77) (L1 := [some (.ref 19), some (.int (jI x1)), some (.int (jI x2)), none]) (st1 := [.ref 19, .int (jI x1)]) (σ1 := js E A) zM_X2_areInodesRight dX2_areInodesRight_76 rfl rfl rfl rfl ?_
    refine jw_getI zM_X2_areInodesRight dX2_areInodesRight_77 zF_2_64 rfl rfl rfl ?_
    refine jw_icmp_ne (tgt := 87) zM_X2_areInodesRight dX2_areInodesRight_80 rfl r_x1 (hA 19 5) (fun q => ?_) (fun q => ?_)
    · replace h := h.1 q
      refine jw_iconst (v := 0) zM_X2_areInodesRight dX2_areInodesRight_87 rfl ?_
      exact jw_retz zM_X2_areInodesRight dX2_areInodesRight_88 rfl (Or.inl rfl) hA h
    · replace h := h.2 q
      refine jw_iconst (v := 1) zM_X2_areInodesRight dX2_areInodesRight_83 rfl ?_
      refine zw_goto (tgt := 88) zM_X2_areInodesRight dX2_areInodesRight_84 rfl ?_
      exact jw_retz zM_X2_areInodesRight dX2_areInodesRight_88 rfl (Or.inr rfl) hA h
  · replace h := h.2 q
    refine zw_go (pc1 := 16) (L1 := [some (.ref 19), some (.int (jI x1)), some (.int (jI x2)), none]) (st1 := [.ref 19]) (σ1 := js E A) zM_X2_areInodesRight dX2_areInodesRight_15 rfl rfl rfl rfl ?_
    refine zw_go (pc1 := 17) (L1 := [some (.ref 19), some (.int (jI x1)), some (.int (jI x2)), none]) (st1 := [.int (jI x1), .ref 19]) (σ1 := js E A) zM_X2_areInodesRight dX2_areInodesRight_16 rfl rfl rfl rfl ?_
    refine jw_callI (as := [.ref 19, .int (jI x1)]) (rest := []) zM_X2_areInodesRight dX2_areInodesRight_17 (zx_calS zC_2_86) zM_X2_rowBytes rfl rfl rfl rfl rfl rfl rfl hA h (fun v3 A1 rv4 hA2 h => ?_)
    refine zw_go (pc1 := 21) (L1 := [some (.ref 19), some (.int (jI x1)), some (.int (jI x2)), some (.int (jI v3))]) (st1 := []) (σ1 := js E A1) zM_X2_areInodesRight dX2_areInodesRight_20 rfl rfl rfl rfl ?_
    refine zw_go (pc1 := 22) (L1 := [some (.ref 19), some (.int (jI x1)), some (.int (jI x2)), some (.int (jI v3))]) (st1 := [.ref 19]) (σ1 := js E A1) zM_X2_areInodesRight dX2_areInodesRight_21 rfl rfl rfl rfl ?_
    refine zw_go (pc1 := 23) (L1 := [some (.ref 19), some (.int (jI x1)), some (.int (jI x2)), some (.int (jI v3))]) (st1 := [.int (jI x2), .ref 19]) (σ1 := js E A1) zM_X2_areInodesRight dX2_areInodesRight_22 rfl rfl rfl rfl ?_
    refine jw_callI (as := [.ref 19, .int (jI x2)]) (rest := []) zM_X2_areInodesRight dX2_areInodesRight_23 (zx_calV zC_2_90) zM_X1_rowOf rfl rfl rfl rfl rfl (j_args0 rfl rfl) rfl hA2 h (fun v7 A5 rv8 hA6 h => ?_)
    refine zw_go (pc1 := 27) (L1 := [some (.ref 19), some (.int (jI x1)), some (.int (jI x2)), some (.int (jI v3))]) (st1 := [.int (jI x1), .int (jI v7)]) (σ1 := js E A5) zM_X2_areInodesRight dX2_areInodesRight_26 rfl rfl rfl rfl ?_
    refine jw_icmp_ne (tgt := 44) zM_X2_areInodesRight dX2_areInodesRight_27 rfl rv8 r_x1 (fun q => ?_) (fun q => ?_)
    · replace h := h.1 q
      refine jw_iconst (v := 0) zM_X2_areInodesRight dX2_areInodesRight_44 rfl ?_
      exact jw_retz zM_X2_areInodesRight dX2_areInodesRight_45 rfl (Or.inl rfl) hA6 h
    · replace h := h.2 q
      refine zw_go (pc1 := 31) (L1 := [some (.ref 19), some (.int (jI x1)), some (.int (jI x2)), some (.int (jI v3))]) (st1 := [.int (jI v3)]) (σ1 := js E A5) zM_X2_areInodesRight dX2_areInodesRight_30 rfl rfl rfl rfl ?_
      refine jw_if_eq (tgt := 44) zM_X2_areInodesRight dX2_areInodesRight_31 rfl rv4 (fun q => ?_) (fun q => ?_)
      · replace h := h.1 q
        refine jw_iconst (v := 0) zM_X2_areInodesRight dX2_areInodesRight_44 rfl ?_
        exact jw_retz zM_X2_areInodesRight dX2_areInodesRight_45 rfl (Or.inl rfl) hA6 h
      · replace h := h.2 q
        refine zw_go (pc1 := 35) (L1 := [some (.ref 19), some (.int (jI x1)), some (.int (jI x2)), some (.int (jI v3))]) (st1 := [.int (jI x1)]) (σ1 := js E A5) zM_X2_areInodesRight dX2_areInodesRight_34 rfl rfl rfl rfl ?_
        refine zw_go (pc1 := 36) (L1 := [some (.ref 19), some (.int (jI x1)), some (.int (jI x2)), some (.int (jI v3))]) (st1 := [.int (jI v3), .int (jI x1)]) (σ1 := js E A5) zM_X2_areInodesRight dX2_areInodesRight_35 rfl rfl rfl rfl ?_
        refine jw_add zM_X2_areInodesRight dX2_areInodesRight_36 ?_
        refine zw_go (pc1 := 38) (L1 := [some (.ref 19), some (.int (jI x1)), some (.int (jI x2)), some (.int (jI v3))]) (st1 := [.ref 19, .int (jI (x1 + v3))]) (σ1 := js E A5) zM_X2_areInodesRight dX2_areInodesRight_37 rfl rfl rfl rfl ?_
        refine jw_getI zM_X2_areInodesRight dX2_areInodesRight_38 zF_2_64 rfl rfl rfl ?_
        obtain ⟨hw9, h⟩ := h
        refine jw_icmp_le (tgt := 46) zM_X2_areInodesRight dX2_areInodesRight_41 rfl hw9 (hA6 19 5) (fun q => ?_) (fun q => ?_)
        · replace h := h.1 q
          refine zw_go (pc1 := 47) (L1 := [some (.ref 19), some (.int (jI x1)), some (.int (jI x2)), some (.int (jI v3))]) (st1 := [.ref 19]) (σ1 := js E A5) zM_X2_areInodesRight dX2_areInodesRight_46 rfl rfl rfl rfl ?_
          refine zw_go (pc1 := 48) (L1 := [some (.ref 19), some (.int (jI x1)), some (.int (jI x2)), some (.int (jI v3))]) (st1 := [.int (jI x1), .ref 19]) (σ1 := js E A5) zM_X2_areInodesRight dX2_areInodesRight_47 rfl rfl rfl rfl ?_
          refine jw_callI (as := [.ref 19, .int (jI x1)]) (rest := []) zM_X2_areInodesRight dX2_areInodesRight_48 (zx_calV zC_2_51) zM_X1_byteAt rfl rfl rfl rfl rfl (j_args0 rfl rfl) rfl hA6 h (fun v12 A10 rv13 hA11 h => ?_)
          refine jw_iconst (v := 2) zM_X2_areInodesRight dX2_areInodesRight_51 rfl ?_
          refine jw_icmp_ne (tgt := 65) zM_X2_areInodesRight dX2_areInodesRight_52 rfl rv13 (show jW 2 from ⟨by decide, by decide⟩) (fun q => ?_) (fun q => ?_)
          · replace h := h.1 q
            exact zw_weak2 (h hA11) ⟨rfl, rfl, rfl, rfl, trivial⟩
          · replace h := h.2 q
            refine zw_go (pc1 := 56) (L1 := [some (.ref 19), some (.int (jI x1)), some (.int (jI x2)), some (.int (jI v3))]) (st1 := [.ref 19]) (σ1 := js E A10) zM_X2_areInodesRight dX2_areInodesRight_55 rfl rfl rfl rfl ?_
            refine zw_go (pc1 := 57) (L1 := [some (.ref 19), some (.int (jI x1)), some (.int (jI x2)), some (.int (jI v3))]) (st1 := [.int (jI x1), .ref 19]) (σ1 := js E A10) zM_X2_areInodesRight dX2_areInodesRight_56 rfl rfl rfl rfl ?_
            refine jw_callI (as := [.ref 19, .int (jI x1)]) (rest := []) zM_X2_areInodesRight dX2_areInodesRight_57 (zx_calS zC_2_93) zM_X2_isFileRight rfl rfl rfl rfl rfl rfl rfl hA11 h (fun v16 A14 rv17 hA15 h => ?_)
            refine jw_if_ne (tgt := 65) zM_X2_areInodesRight dX2_areInodesRight_60 rfl rv17 (fun q => ?_) (fun q => ?_)
            · replace h := h.1 q
              exact zw_weak2 (h hA15) ⟨rfl, rfl, rfl, rfl, trivial⟩
            · replace h := h.2 q
              refine jw_iconst (v := 0) zM_X2_areInodesRight dX2_areInodesRight_63 rfl ?_
              exact jw_retz zM_X2_areInodesRight dX2_areInodesRight_64 rfl (Or.inl rfl) hA15 h
        · replace h := h.2 q
          refine jw_iconst (v := 0) zM_X2_areInodesRight dX2_areInodesRight_44 rfl ?_
          exact jw_retz zM_X2_areInodesRight dX2_areInodesRight_45 rfl (Or.inl rfl) hA6 h
set_option maxHeartbeats 4000000 in
set_option maxRecDepth 100000 in
theorem vd_X2_areInodesRight_65 (x1 : Int) (r_x1 : jW x1) (x2 : Int) (r_x2 : jW x2) (x3 : Int) (r_x3 : jW x3) (E : jE) (A : jA) (K : Int → jA → Prop) (h : jrI 54 7 [some (.ref 19), some (.int (jI (x1 + x3))), some (.int (jI (x2 + 1))), none] [] E A K) : jrI 54 65 [some (.ref 19), some (.int (jI x1)), some (.int (jI x2)), some (.int (jI x3))] [] E A K := by
  intro hA
  refine zw_go (pc1 := 66) (L1 := [some (.ref 19), some (.int (jI x1)), some (.int (jI x2)), some (.int (jI x3))]) (st1 := [.int (jI x1)]) (σ1 := js E A) zM_X2_areInodesRight dX2_areInodesRight_65 rfl rfl rfl rfl ?_
  refine zw_go (pc1 := 67) (L1 := [some (.ref 19), some (.int (jI x1)), some (.int (jI x2)), some (.int (jI x3))]) (st1 := [.int (jI x3), .int (jI x1)]) (σ1 := js E A) zM_X2_areInodesRight dX2_areInodesRight_66 rfl rfl rfl rfl ?_
  refine jw_add zM_X2_areInodesRight dX2_areInodesRight_67 ?_
  refine zw_go (pc1 := 69) (L1 := [some (.ref 19), some (.int (jI (x1 + x3))), some (.int (jI x2)), some (.int (jI x3))]) (st1 := []) (σ1 := js E A) zM_X2_areInodesRight dX2_areInodesRight_68 rfl rfl rfl rfl ?_
  refine jw_iinc (x := x2) (L1 := [some (.ref 19), some (.int (jI (x1 + x3))), some (.int (jI (x2 + 1))), some (.int (jI x3))]) zM_X2_areInodesRight dX2_areInodesRight_69 rfl (show 2 < 4 by decide) rfl ?_
  refine zw_goto (tgt := 7) zM_X2_areInodesRight dX2_areInodesRight_72 rfl ?_
  exact zw_weak2 (h hA) ⟨rfl, rfl, rfl, trivial⟩
set_option maxHeartbeats 4000000 in
set_option maxRecDepth 100000 in
theorem vd_X2_areNamesRight_0 (x1 : Int) (r_x1 : jW x1) (x2 : Int) (r_x2 : jW x2) (E : jE) (A : jA) (K : Int → jA → Prop) (h : jrI 55 5 [some (.ref 19), some (.int (jI x1)), some (.int (jI x2)), some (.int (jI 0)), some (.int (jI 0)), none] [] E A K) : jrI 55 0 [some (.ref 19), some (.int (jI x1)), some (.int (jI x2)), none, none, none] [] E A K := by
  intro hA
  refine jw_iconst (v := 0) zM_X2_areNamesRight dX2_areNamesRight_0 rfl ?_
  refine zw_go (pc1 := 2) (L1 := [some (.ref 19), some (.int (jI x1)), some (.int (jI x2)), some (.int (jI 0)), none, none]) (st1 := []) (σ1 := js E A) zM_X2_areNamesRight dX2_areNamesRight_1 rfl rfl rfl rfl ?_
  refine jw_iconst (v := 0) zM_X2_areNamesRight dX2_areNamesRight_2 rfl ?_
  refine zw_go (pc1 := 5) (L1 := [some (.ref 19), some (.int (jI x1)), some (.int (jI x2)), some (.int (jI 0)), some (.int (jI 0)), none]) (st1 := []) (σ1 := js E A) zM_X2_areNamesRight dX2_areNamesRight_3 rfl rfl rfl rfl ?_
  exact zw_weak2 (h hA) ⟨rfl, rfl, rfl, rfl, rfl, trivial⟩
set_option maxHeartbeats 4000000 in
set_option maxRecDepth 100000 in
theorem vd_X2_areNamesRight_5 (x1 : Int) (r_x1 : jW x1) (x2 : Int) (r_x2 : jW x2) (x3 : Int) (r_x3 : jW x3) (x4 : Int) (r_x4 : jW x4) (E : jE) (A : jA) (K : Int → jA → Prop) (h : ((x2 ≤ x4 → K 1 A) ∧ (x4 < x2 → jrI 51 0 [some (.ref 19), some (.int (jI (x1 + (4 * x4))))] [] E A (fun v3 A1 => ((v3 ≤ x3 → K 0 A1) ∧ (x3 < v3 → (((999 : Int) < v3 → K 0 A1) ∧ (v3 ≤ (999 : Int) → jrI 51 0 [some (.ref 19), some (.int (jI ((x1 + (4 * x4)) + 2)))] [] E A1 (fun v7 A5 => jrI 27 0 [some (.ref 19), some (.int (jI v7))] [] E A5 (fun v11 A9 => ((¬ v11 = (0 : Int) → jrI 55 5 [some (.ref 19), some (.int (jI x1)), some (.int (jI x2)), some (.int (jI v3)), some (.int (jI (x4 + 1))), none] [] E A9 K) ∧ (v11 = (0 : Int) → K 0 A9)))))))))))) : jrI 55 5 [some (.ref 19), some (.int (jI x1)), some (.int (jI x2)), some (.int (jI x3)), some (.int (jI x4)), none] [] E A K := by
  intro hA
  refine zw_go (pc1 := 7) (L1 := [some (.ref 19), some (.int (jI x1)), some (.int (jI x2)), some (.int (jI x3)), some (.int (jI x4)), none]) (st1 := [.int (jI x4)]) (σ1 := js E A) zM_X2_areNamesRight dX2_areNamesRight_5 rfl rfl rfl rfl ?_
  refine zw_go (pc1 := 8) (L1 := [some (.ref 19), some (.int (jI x1)), some (.int (jI x2)), some (.int (jI x3)), some (.int (jI x4)), none]) (st1 := [.int (jI x2), .int (jI x4)]) (σ1 := js E A) zM_X2_areNamesRight dX2_areNamesRight_7 rfl rfl rfl rfl ?_
  refine jw_icmp_ge (tgt := 67) zM_X2_areNamesRight dX2_areNamesRight_8 rfl r_x4 r_x2 (fun q => ?_) (fun q => ?_)
  · replace h := h.1 q
    refine jw_iconst (v := 1) zM_X2_areNamesRight dX2_areNamesRight_67 rfl ?_
    exact jw_retz zM_X2_areNamesRight dX2_areNamesRight_68 rfl (Or.inr rfl) hA h
  · replace h := h.2 q
    refine zw_go (pc1 := 12) (L1 := [some (.ref 19), some (.int (jI x1)), some (.int (jI x2)), some (.int (jI x3)), some (.int (jI x4)), none]) (st1 := [.ref 19]) (σ1 := js E A) zM_X2_areNamesRight dX2_areNamesRight_11 rfl rfl rfl rfl ?_
    refine zw_go (pc1 := 13) (L1 := [some (.ref 19), some (.int (jI x1)), some (.int (jI x2)), some (.int (jI x3)), some (.int (jI x4)), none]) (st1 := [.int (jI x1), .ref 19]) (σ1 := js E A) zM_X2_areNamesRight dX2_areNamesRight_12 rfl rfl rfl rfl ?_
    refine jw_iconst (v := 4) zM_X2_areNamesRight dX2_areNamesRight_13 rfl ?_
    refine zw_go (pc1 := 16) (L1 := [some (.ref 19), some (.int (jI x1)), some (.int (jI x2)), some (.int (jI x3)), some (.int (jI x4)), none]) (st1 := [.int (jI x4), .int (jI 4), .int (jI x1), .ref 19]) (σ1 := js E A) zM_X2_areNamesRight dX2_areNamesRight_14 rfl rfl rfl rfl ?_
    refine jw_mul zM_X2_areNamesRight dX2_areNamesRight_16 ?_
    refine jw_add zM_X2_areNamesRight dX2_areNamesRight_17 ?_
    refine jw_callI (as := [.ref 19, .int (jI (x1 + (4 * x4)))]) (rest := []) zM_X2_areNamesRight dX2_areNamesRight_18 (zx_calV zC_2_27) zM_X1_wordAt rfl rfl rfl rfl rfl (j_args0 rfl rfl) rfl hA h (fun v3 A1 rv4 hA2 h => ?_)
    refine zw_go (pc1 := 23) (L1 := [some (.ref 19), some (.int (jI x1)), some (.int (jI x2)), some (.int (jI x3)), some (.int (jI x4)), some (.int (jI v3))]) (st1 := []) (σ1 := js E A1) zM_X2_areNamesRight dX2_areNamesRight_21 rfl rfl rfl rfl ?_
    refine zw_go (pc1 := 25) (L1 := [some (.ref 19), some (.int (jI x1)), some (.int (jI x2)), some (.int (jI x3)), some (.int (jI x4)), some (.int (jI v3))]) (st1 := [.int (jI v3)]) (σ1 := js E A1) zM_X2_areNamesRight dX2_areNamesRight_23 rfl rfl rfl rfl ?_
    refine zw_go (pc1 := 26) (L1 := [some (.ref 19), some (.int (jI x1)), some (.int (jI x2)), some (.int (jI x3)), some (.int (jI x4)), some (.int (jI v3))]) (st1 := [.int (jI x3), .int (jI v3)]) (σ1 := js E A1) zM_X2_areNamesRight dX2_areNamesRight_25 rfl rfl rfl rfl ?_
    refine jw_icmp_le (tgt := 56) zM_X2_areNamesRight dX2_areNamesRight_26 rfl rv4 r_x3 (fun q => ?_) (fun q => ?_)
    · replace h := h.1 q
      refine jw_iconst (v := 0) zM_X2_areNamesRight dX2_areNamesRight_56 rfl ?_
      exact jw_retz zM_X2_areNamesRight dX2_areNamesRight_57 rfl (Or.inl rfl) hA2 h
    · replace h := h.2 q
      refine zw_go (pc1 := 31) (L1 := [some (.ref 19), some (.int (jI x1)), some (.int (jI x2)), some (.int (jI x3)), some (.int (jI x4)), some (.int (jI v3))]) (st1 := [.int (jI v3)]) (σ1 := js E A1) zM_X2_areNamesRight dX2_areNamesRight_29 rfl rfl rfl rfl ?_
      refine jw_sipush (v := 999) zM_X2_areNamesRight dX2_areNamesRight_31 (by decide) ?_
      refine jw_icmp_gt (tgt := 56) zM_X2_areNamesRight dX2_areNamesRight_34 rfl rv4 (show jW 999 from ⟨by decide, by decide⟩) (fun q => ?_) (fun q => ?_)
      · replace h := h.1 q
        refine jw_iconst (v := 0) zM_X2_areNamesRight dX2_areNamesRight_56 rfl ?_
        exact jw_retz zM_X2_areNamesRight dX2_areNamesRight_57 rfl (Or.inl rfl) hA2 h
      · replace h := h.2 q
        refine zw_go (pc1 := 38) (L1 := [some (.ref 19), some (.int (jI x1)), some (.int (jI x2)), some (.int (jI x3)), some (.int (jI x4)), some (.int (jI v3))]) (st1 := [.ref 19]) (σ1 := js E A1) zM_X2_areNamesRight dX2_areNamesRight_37 rfl rfl rfl rfl ?_
        refine zw_go (pc1 := 39) (L1 := [some (.ref 19), some (.int (jI x1)), some (.int (jI x2)), some (.int (jI x3)), some (.int (jI x4)), some (.int (jI v3))]) (st1 := [.ref 19, .ref 19]) (σ1 := js E A1) zM_X2_areNamesRight dX2_areNamesRight_38 rfl rfl rfl rfl ?_
        refine zw_go (pc1 := 40) (L1 := [some (.ref 19), some (.int (jI x1)), some (.int (jI x2)), some (.int (jI x3)), some (.int (jI x4)), some (.int (jI v3))]) (st1 := [.int (jI x1), .ref 19, .ref 19]) (σ1 := js E A1) zM_X2_areNamesRight dX2_areNamesRight_39 rfl rfl rfl rfl ?_
        refine jw_iconst (v := 4) zM_X2_areNamesRight dX2_areNamesRight_40 rfl ?_
        refine zw_go (pc1 := 43) (L1 := [some (.ref 19), some (.int (jI x1)), some (.int (jI x2)), some (.int (jI x3)), some (.int (jI x4)), some (.int (jI v3))]) (st1 := [.int (jI x4), .int (jI 4), .int (jI x1), .ref 19, .ref 19]) (σ1 := js E A1) zM_X2_areNamesRight dX2_areNamesRight_41 rfl rfl rfl rfl ?_
        refine jw_mul zM_X2_areNamesRight dX2_areNamesRight_43 ?_
        refine jw_add zM_X2_areNamesRight dX2_areNamesRight_44 ?_
        refine jw_iconst (v := 2) zM_X2_areNamesRight dX2_areNamesRight_45 rfl ?_
        refine jw_add zM_X2_areNamesRight dX2_areNamesRight_46 ?_
        refine jw_callI (as := [.ref 19, .int (jI ((x1 + (4 * x4)) + 2))]) (rest := [.ref 19]) zM_X2_areNamesRight dX2_areNamesRight_47 (zx_calV zC_2_27) zM_X1_wordAt rfl rfl rfl rfl rfl (j_args0 rfl rfl) rfl hA2 h (fun v7 A5 rv8 hA6 h => ?_)
        refine jw_callI (as := [.ref 19, .int (jI v7)]) (rest := []) zM_X2_areNamesRight dX2_areNamesRight_50 (zx_calV zC_2_119) zM_X1_hasNumber rfl rfl rfl rfl rfl (j_args0 rfl rfl) rfl hA6 h (fun v11 A9 rv12 hA10 h => ?_)
        refine jw_if_ne (tgt := 58) zM_X2_areNamesRight dX2_areNamesRight_53 rfl rv12 (fun q => ?_) (fun q => ?_)
        · replace h := h.1 q
          refine zw_go (pc1 := 60) (L1 := [some (.ref 19), some (.int (jI x1)), some (.int (jI x2)), some (.int (jI x3)), some (.int (jI x4)), some (.int (jI v3))]) (st1 := [.int (jI v3)]) (σ1 := js E A9) zM_X2_areNamesRight dX2_areNamesRight_58 rfl rfl rfl rfl ?_
          refine zw_go (pc1 := 61) (L1 := [some (.ref 19), some (.int (jI x1)), some (.int (jI x2)), some (.int (jI v3)), some (.int (jI x4)), some (.int (jI v3))]) (st1 := []) (σ1 := js E A9) zM_X2_areNamesRight dX2_areNamesRight_60 rfl rfl rfl rfl ?_
          refine jw_iinc (x := x4) (L1 := [some (.ref 19), some (.int (jI x1)), some (.int (jI x2)), some (.int (jI v3)), some (.int (jI (x4 + 1))), some (.int (jI v3))]) zM_X2_areNamesRight dX2_areNamesRight_61 rfl (show 4 < 6 by decide) rfl ?_
          refine zw_goto (tgt := 5) zM_X2_areNamesRight dX2_areNamesRight_64 rfl ?_
          exact zw_weak2 (h hA10) ⟨rfl, rfl, rfl, rfl, rfl, trivial⟩
        · replace h := h.2 q
          refine jw_iconst (v := 0) zM_X2_areNamesRight dX2_areNamesRight_56 rfl ?_
          exact jw_retz zM_X2_areNamesRight dX2_areNamesRight_57 rfl (Or.inl rfl) hA10 h
set_option maxHeartbeats 4000000 in
set_option maxRecDepth 100000 in
theorem vd_X2_arePlacesRight_0  (E : jE) (A : jA) (K : Int → jA → Prop) (h : jrI 51 0 [some (.ref 19), some (.int (jI 14))] [] E A (fun v3 A1 => ((¬ v3 = (A1 19 1) → K 0 A1) ∧ (v3 = (A1 19 1) → (((A1 19 4) < (18 : Int) → K 0 A1) ∧ ((18 : Int) ≤ (A1 19 4) → (((A1 19 5) < (A1 19 4) → K 0 A1) ∧ ((A1 19 4) ≤ (A1 19 5) → (((A1 19 6) < (A1 19 5) → K 0 A1) ∧ ((A1 19 5) ≤ (A1 19 6) → (((A1 19 7) < (A1 19 6) → K 0 A1) ∧ ((A1 19 6) ≤ (A1 19 7) → (((A1 19 3) < (1 : Int) → K 0 A1) ∧ ((1 : Int) ≤ (A1 19 3) → jW ((A1 19 7) + (2 * (A1 19 3))) ∧ ((¬ ((A1 19 7) + (2 * (A1 19 3))) = (A1 19 1) → K 0 A1) ∧ (((A1 19 7) + (2 * (A1 19 3))) = (A1 19 1) → K 1 A1)))))))))))))))) : jrI 56 0 [some (.ref 19)] [] E A K := by
  intro hA
  refine zw_go (pc1 := 1) (L1 := [some (.ref 19)]) (st1 := [.ref 19]) (σ1 := js E A) zM_X2_arePlacesRight dX2_arePlacesRight_0 rfl rfl rfl rfl ?_
  refine jw_bipush (v := 14) zM_X2_arePlacesRight dX2_arePlacesRight_1 (by decide) ?_
  refine jw_callI (as := [.ref 19, .int (jI 14)]) (rest := []) zM_X2_arePlacesRight dX2_arePlacesRight_3 (zx_calV zC_2_27) zM_X1_wordAt rfl rfl rfl rfl rfl (j_args0 rfl rfl) rfl hA h (fun v3 A1 rv4 hA2 h => ?_)
  refine zw_go (pc1 := 7) (L1 := [some (.ref 19)]) (st1 := [.ref 19, .int (jI v3)]) (σ1 := js E A1) zM_X2_arePlacesRight dX2_arePlacesRight_6 rfl rfl rfl rfl ?_
  refine jw_getI zM_X2_arePlacesRight dX2_arePlacesRight_7 zF_2_47 rfl rfl rfl ?_
  refine jw_icmp_ne (tgt := 85) zM_X2_arePlacesRight dX2_arePlacesRight_10 rfl rv4 (hA2 19 1) (fun q => ?_) (fun q => ?_)
  · replace h := h.1 q
    refine jw_iconst (v := 0) zM_X2_arePlacesRight dX2_arePlacesRight_85 rfl ?_
    exact jw_retz zM_X2_arePlacesRight dX2_arePlacesRight_86 rfl (Or.inl rfl) hA2 h
  · replace h := h.2 q
    refine jw_bipush (v := 18) zM_X2_arePlacesRight dX2_arePlacesRight_13 (by decide) ?_
    refine zw_go (pc1 := 16) (L1 := [some (.ref 19)]) (st1 := [.ref 19, .int (jI 18)]) (σ1 := js E A1) zM_X2_arePlacesRight dX2_arePlacesRight_15 rfl rfl rfl rfl ?_
    refine jw_getI zM_X2_arePlacesRight dX2_arePlacesRight_16 zF_2_61 rfl rfl rfl ?_
    refine jw_icmp_gt (tgt := 85) zM_X2_arePlacesRight dX2_arePlacesRight_19 rfl (show jW 18 from ⟨by decide, by decide⟩) (hA2 19 4) (fun q => ?_) (fun q => ?_)
    · replace h := h.1 q
      refine jw_iconst (v := 0) zM_X2_arePlacesRight dX2_arePlacesRight_85 rfl ?_
      exact jw_retz zM_X2_arePlacesRight dX2_arePlacesRight_86 rfl (Or.inl rfl) hA2 h
    · replace h := h.2 q
      refine zw_go (pc1 := 23) (L1 := [some (.ref 19)]) (st1 := [.ref 19]) (σ1 := js E A1) zM_X2_arePlacesRight dX2_arePlacesRight_22 rfl rfl rfl rfl ?_
      refine jw_getI zM_X2_arePlacesRight dX2_arePlacesRight_23 zF_2_61 rfl rfl rfl ?_
      refine zw_go (pc1 := 27) (L1 := [some (.ref 19)]) (st1 := [.ref 19, .int (jI (A1 19 4))]) (σ1 := js E A1) zM_X2_arePlacesRight dX2_arePlacesRight_26 rfl rfl rfl rfl ?_
      refine jw_getI zM_X2_arePlacesRight dX2_arePlacesRight_27 zF_2_64 rfl rfl rfl ?_
      refine jw_icmp_gt (tgt := 85) zM_X2_arePlacesRight dX2_arePlacesRight_30 rfl (hA2 19 4) (hA2 19 5) (fun q => ?_) (fun q => ?_)
      · replace h := h.1 q
        refine jw_iconst (v := 0) zM_X2_arePlacesRight dX2_arePlacesRight_85 rfl ?_
        exact jw_retz zM_X2_arePlacesRight dX2_arePlacesRight_86 rfl (Or.inl rfl) hA2 h
      · replace h := h.2 q
        refine zw_go (pc1 := 34) (L1 := [some (.ref 19)]) (st1 := [.ref 19]) (σ1 := js E A1) zM_X2_arePlacesRight dX2_arePlacesRight_33 rfl rfl rfl rfl ?_
        refine jw_getI zM_X2_arePlacesRight dX2_arePlacesRight_34 zF_2_64 rfl rfl rfl ?_
        refine zw_go (pc1 := 38) (L1 := [some (.ref 19)]) (st1 := [.ref 19, .int (jI (A1 19 5))]) (σ1 := js E A1) zM_X2_arePlacesRight dX2_arePlacesRight_37 rfl rfl rfl rfl ?_
        refine jw_getI zM_X2_arePlacesRight dX2_arePlacesRight_38 zF_2_67 rfl rfl rfl ?_
        refine jw_icmp_gt (tgt := 85) zM_X2_arePlacesRight dX2_arePlacesRight_41 rfl (hA2 19 5) (hA2 19 6) (fun q => ?_) (fun q => ?_)
        · replace h := h.1 q
          refine jw_iconst (v := 0) zM_X2_arePlacesRight dX2_arePlacesRight_85 rfl ?_
          exact jw_retz zM_X2_arePlacesRight dX2_arePlacesRight_86 rfl (Or.inl rfl) hA2 h
        · replace h := h.2 q
          refine zw_go (pc1 := 45) (L1 := [some (.ref 19)]) (st1 := [.ref 19]) (σ1 := js E A1) zM_X2_arePlacesRight dX2_arePlacesRight_44 rfl rfl rfl rfl ?_
          refine jw_getI zM_X2_arePlacesRight dX2_arePlacesRight_45 zF_2_67 rfl rfl rfl ?_
          refine zw_go (pc1 := 49) (L1 := [some (.ref 19)]) (st1 := [.ref 19, .int (jI (A1 19 6))]) (σ1 := js E A1) zM_X2_arePlacesRight dX2_arePlacesRight_48 rfl rfl rfl rfl ?_
          refine jw_getI zM_X2_arePlacesRight dX2_arePlacesRight_49 zF_2_70 rfl rfl rfl ?_
          refine jw_icmp_gt (tgt := 85) zM_X2_arePlacesRight dX2_arePlacesRight_52 rfl (hA2 19 6) (hA2 19 7) (fun q => ?_) (fun q => ?_)
          · replace h := h.1 q
            refine jw_iconst (v := 0) zM_X2_arePlacesRight dX2_arePlacesRight_85 rfl ?_
            exact jw_retz zM_X2_arePlacesRight dX2_arePlacesRight_86 rfl (Or.inl rfl) hA2 h
          · replace h := h.2 q
            refine zw_go (pc1 := 56) (L1 := [some (.ref 19)]) (st1 := [.ref 19]) (σ1 := js E A1) zM_X2_arePlacesRight dX2_arePlacesRight_55 rfl rfl rfl rfl ?_
            refine jw_getI zM_X2_arePlacesRight dX2_arePlacesRight_56 zF_2_73 rfl rfl rfl ?_
            refine jw_iconst (v := 1) zM_X2_arePlacesRight dX2_arePlacesRight_59 rfl ?_
            refine jw_icmp_lt (tgt := 85) zM_X2_arePlacesRight dX2_arePlacesRight_60 rfl (hA2 19 3) (show jW 1 from ⟨by decide, by decide⟩) (fun q => ?_) (fun q => ?_)
            · replace h := h.1 q
              refine jw_iconst (v := 0) zM_X2_arePlacesRight dX2_arePlacesRight_85 rfl ?_
              exact jw_retz zM_X2_arePlacesRight dX2_arePlacesRight_86 rfl (Or.inl rfl) hA2 h
            · replace h := h.2 q
              refine zw_go (pc1 := 64) (L1 := [some (.ref 19)]) (st1 := [.ref 19]) (σ1 := js E A1) zM_X2_arePlacesRight dX2_arePlacesRight_63 rfl rfl rfl rfl ?_
              refine jw_getI zM_X2_arePlacesRight dX2_arePlacesRight_64 zF_2_70 rfl rfl rfl ?_
              refine jw_iconst (v := 2) zM_X2_arePlacesRight dX2_arePlacesRight_67 rfl ?_
              refine zw_go (pc1 := 69) (L1 := [some (.ref 19)]) (st1 := [.ref 19, .int (jI 2), .int (jI (A1 19 7))]) (σ1 := js E A1) zM_X2_arePlacesRight dX2_arePlacesRight_68 rfl rfl rfl rfl ?_
              refine jw_getI zM_X2_arePlacesRight dX2_arePlacesRight_69 zF_2_73 rfl rfl rfl ?_
              refine jw_mul zM_X2_arePlacesRight dX2_arePlacesRight_72 ?_
              refine jw_add zM_X2_arePlacesRight dX2_arePlacesRight_73 ?_
              refine zw_go (pc1 := 75) (L1 := [some (.ref 19)]) (st1 := [.ref 19, .int (jI ((A1 19 7) + (2 * (A1 19 3))))]) (σ1 := js E A1) zM_X2_arePlacesRight dX2_arePlacesRight_74 rfl rfl rfl rfl ?_
              refine jw_getI zM_X2_arePlacesRight dX2_arePlacesRight_75 zF_2_47 rfl rfl rfl ?_
              obtain ⟨hw5, h⟩ := h
              refine jw_icmp_ne (tgt := 85) zM_X2_arePlacesRight dX2_arePlacesRight_78 rfl hw5 (hA2 19 1) (fun q => ?_) (fun q => ?_)
              · replace h := h.1 q
                refine jw_iconst (v := 0) zM_X2_arePlacesRight dX2_arePlacesRight_85 rfl ?_
                exact jw_retz zM_X2_arePlacesRight dX2_arePlacesRight_86 rfl (Or.inl rfl) hA2 h
              · replace h := h.2 q
                refine jw_iconst (v := 1) zM_X2_arePlacesRight dX2_arePlacesRight_81 rfl ?_
                refine zw_goto (tgt := 86) zM_X2_arePlacesRight dX2_arePlacesRight_82 rfl ?_
                exact jw_retz zM_X2_arePlacesRight dX2_arePlacesRight_86 rfl (Or.inr rfl) hA2 h
set_option maxHeartbeats 4000000 in
set_option maxRecDepth 100000 in
theorem vd_X2_areTailsRight_0  (E : jE) (A : jA) (K : Int → jA → Prop) (h : jrI 47 0 [some (.ref 19)] [] E A (fun v3 A1 => jrI 48 0 [some (.ref 19), some (.int (jI v3))] [] E A1 (fun v7 A5 => ((v7 = (A5 19 7) → jrI 57 21 [some (.ref 19), some (.int (jI v3)), some (.int (jI 0)), none, none] [] E A5 K) ∧ (¬ v7 = (A5 19 7) → K 0 A5))))) : jrI 57 0 [some (.ref 19), none, none, none, none] [] E A K := by
  intro hA
  refine zw_go (pc1 := 1) (L1 := [some (.ref 19), none, none, none, none]) (st1 := [.ref 19]) (σ1 := js E A) zM_X2_areTailsRight dX2_areTailsRight_0 rfl rfl rfl rfl ?_
  refine jw_callI (as := [.ref 19]) (rest := []) zM_X2_areTailsRight dX2_areTailsRight_1 (zx_calV zC_2_76) zM_X1_tailBlocks rfl rfl rfl rfl rfl (j_args0 rfl rfl) rfl hA h (fun v3 A1 rv4 hA2 h => ?_)
  refine zw_go (pc1 := 5) (L1 := [some (.ref 19), some (.int (jI v3)), none, none, none]) (st1 := []) (σ1 := js E A1) zM_X2_areTailsRight dX2_areTailsRight_4 rfl rfl rfl rfl ?_
  refine zw_go (pc1 := 6) (L1 := [some (.ref 19), some (.int (jI v3)), none, none, none]) (st1 := [.ref 19]) (σ1 := js E A1) zM_X2_areTailsRight dX2_areTailsRight_5 rfl rfl rfl rfl ?_
  refine zw_go (pc1 := 7) (L1 := [some (.ref 19), some (.int (jI v3)), none, none, none]) (st1 := [.int (jI v3), .ref 19]) (σ1 := js E A1) zM_X2_areTailsRight dX2_areTailsRight_6 rfl rfl rfl rfl ?_
  refine jw_callI (as := [.ref 19, .int (jI v3)]) (rest := []) zM_X2_areTailsRight dX2_areTailsRight_7 (zx_calV zC_2_79) zM_X1_tailRow rfl rfl rfl rfl rfl (j_args0 rfl rfl) rfl hA2 h (fun v7 A5 rv8 hA6 h => ?_)
  refine zw_go (pc1 := 11) (L1 := [some (.ref 19), some (.int (jI v3)), none, none, none]) (st1 := [.ref 19, .int (jI v7)]) (σ1 := js E A5) zM_X2_areTailsRight dX2_areTailsRight_10 rfl rfl rfl rfl ?_
  refine jw_getI zM_X2_areTailsRight dX2_areTailsRight_11 zF_2_70 rfl rfl rfl ?_
  refine jw_icmp_eq (tgt := 19) zM_X2_areTailsRight dX2_areTailsRight_14 rfl rv8 (hA6 19 7) (fun q => ?_) (fun q => ?_)
  · replace h := h.1 q
    refine jw_iconst (v := 0) zM_X2_areTailsRight dX2_areTailsRight_19 rfl ?_
    refine zw_go (pc1 := 21) (L1 := [some (.ref 19), some (.int (jI v3)), some (.int (jI 0)), none, none]) (st1 := []) (σ1 := js E A5) zM_X2_areTailsRight dX2_areTailsRight_20 rfl rfl rfl rfl ?_
    exact zw_weak2 (h hA6) ⟨rfl, rfl, rfl, trivial⟩
  · replace h := h.2 q
    refine jw_iconst (v := 0) zM_X2_areTailsRight dX2_areTailsRight_17 rfl ?_
    exact jw_retz zM_X2_areTailsRight dX2_areTailsRight_18 rfl (Or.inl rfl) hA6 h
set_option maxHeartbeats 4000000 in
set_option maxRecDepth 100000 in
theorem vd_X2_areTailsRight_21 (x1 : Int) (r_x1 : jW x1) (x2 : Int) (r_x2 : jW x2) (E : jE) (A : jA) (K : Int → jA → Prop) (h : ((x1 ≤ x2 → K 1 A) ∧ (x2 < x1 → jrI 48 0 [some (.ref 19), some (.int (jI x2))] [] E A (fun v3 A1 => jrI 21 0 [some (.ref 19), some (.int (jI (v3 + 4)))] [] E A1 (fun v7 A5 => ((v7 < (1 : Int) → K 0 A5) ∧ ((1 : Int) ≤ v7 → (((A5 19 2) < v7 → K 0 A5) ∧ (v7 ≤ (A5 19 2) → jrI 51 0 [some (.ref 19), some (.int (jI v3))] [] E A5 (fun v11 A9 => jrI 51 0 [some (.ref 19), some (.int (jI (v3 + 2)))] [] E A9 (fun v15 A13 => jrI 22 0 [some (.ref 19), some (.int (jI v11)), some (.int (jI v15)), some (.int (jI v7))] [] E A13 (fun v19 A17 => ((¬ v19 = (0 : Int) → jrI 57 21 [some (.ref 19), some (.int (jI x1)), some (.int (jI (x2 + 1))), none, none] [] E A17 K) ∧ (v19 = (0 : Int) → K 0 A17)))))))))))))) : jrI 57 21 [some (.ref 19), some (.int (jI x1)), some (.int (jI x2)), none, none] [] E A K := by
  intro hA
  refine zw_go (pc1 := 22) (L1 := [some (.ref 19), some (.int (jI x1)), some (.int (jI x2)), none, none]) (st1 := [.int (jI x2)]) (σ1 := js E A) zM_X2_areTailsRight dX2_areTailsRight_21 rfl rfl rfl rfl ?_
  refine zw_go (pc1 := 23) (L1 := [some (.ref 19), some (.int (jI x1)), some (.int (jI x2)), none, none]) (st1 := [.int (jI x1), .int (jI x2)]) (σ1 := js E A) zM_X2_areTailsRight dX2_areTailsRight_22 rfl rfl rfl rfl ?_
  refine jw_icmp_ge (tgt := 85) zM_X2_areTailsRight dX2_areTailsRight_23 rfl r_x2 r_x1 (fun q => ?_) (fun q => ?_)
  · replace h := h.1 q
    refine jw_iconst (v := 1) zM_X2_areTailsRight dX2_areTailsRight_85 rfl ?_
    exact jw_retz zM_X2_areTailsRight dX2_areTailsRight_86 rfl (Or.inr rfl) hA h
  · replace h := h.2 q
    refine zw_go (pc1 := 27) (L1 := [some (.ref 19), some (.int (jI x1)), some (.int (jI x2)), none, none]) (st1 := [.ref 19]) (σ1 := js E A) zM_X2_areTailsRight dX2_areTailsRight_26 rfl rfl rfl rfl ?_
    refine zw_go (pc1 := 28) (L1 := [some (.ref 19), some (.int (jI x1)), some (.int (jI x2)), none, none]) (st1 := [.int (jI x2), .ref 19]) (σ1 := js E A) zM_X2_areTailsRight dX2_areTailsRight_27 rfl rfl rfl rfl ?_
    refine jw_callI (as := [.ref 19, .int (jI x2)]) (rest := []) zM_X2_areTailsRight dX2_areTailsRight_28 (zx_calV zC_2_79) zM_X1_tailRow rfl rfl rfl rfl rfl (j_args0 rfl rfl) rfl hA h (fun v3 A1 rv4 hA2 h => ?_)
    refine zw_go (pc1 := 32) (L1 := [some (.ref 19), some (.int (jI x1)), some (.int (jI x2)), some (.int (jI v3)), none]) (st1 := []) (σ1 := js E A1) zM_X2_areTailsRight dX2_areTailsRight_31 rfl rfl rfl rfl ?_
    refine zw_go (pc1 := 33) (L1 := [some (.ref 19), some (.int (jI x1)), some (.int (jI x2)), some (.int (jI v3)), none]) (st1 := [.ref 19]) (σ1 := js E A1) zM_X2_areTailsRight dX2_areTailsRight_32 rfl rfl rfl rfl ?_
    refine zw_go (pc1 := 34) (L1 := [some (.ref 19), some (.int (jI x1)), some (.int (jI x2)), some (.int (jI v3)), none]) (st1 := [.int (jI v3), .ref 19]) (σ1 := js E A1) zM_X2_areTailsRight dX2_areTailsRight_33 rfl rfl rfl rfl ?_
    refine jw_iconst (v := 4) zM_X2_areTailsRight dX2_areTailsRight_34 rfl ?_
    refine jw_add zM_X2_areTailsRight dX2_areTailsRight_35 ?_
    refine jw_callI (as := [.ref 19, .int (jI (v3 + 4))]) (rest := []) zM_X2_areTailsRight dX2_areTailsRight_36 (zx_calV zC_2_51) zM_X1_byteAt rfl rfl rfl rfl rfl (j_args0 rfl rfl) rfl hA2 h (fun v7 A5 rv8 hA6 h => ?_)
    refine zw_go (pc1 := 41) (L1 := [some (.ref 19), some (.int (jI x1)), some (.int (jI x2)), some (.int (jI v3)), some (.int (jI v7))]) (st1 := []) (σ1 := js E A5) zM_X2_areTailsRight dX2_areTailsRight_39 rfl rfl rfl rfl ?_
    refine zw_go (pc1 := 43) (L1 := [some (.ref 19), some (.int (jI x1)), some (.int (jI x2)), some (.int (jI v3)), some (.int (jI v7))]) (st1 := [.int (jI v7)]) (σ1 := js E A5) zM_X2_areTailsRight dX2_areTailsRight_41 rfl rfl rfl rfl ?_
    refine jw_iconst (v := 1) zM_X2_areTailsRight dX2_areTailsRight_43 rfl ?_
    refine jw_icmp_lt (tgt := 77) zM_X2_areTailsRight dX2_areTailsRight_44 rfl rv8 (show jW 1 from ⟨by decide, by decide⟩) (fun q => ?_) (fun q => ?_)
    · replace h := h.1 q
      refine jw_iconst (v := 0) zM_X2_areTailsRight dX2_areTailsRight_77 rfl ?_
      exact jw_retz zM_X2_areTailsRight dX2_areTailsRight_78 rfl (Or.inl rfl) hA6 h
    · replace h := h.2 q
      refine zw_go (pc1 := 49) (L1 := [some (.ref 19), some (.int (jI x1)), some (.int (jI x2)), some (.int (jI v3)), some (.int (jI v7))]) (st1 := [.int (jI v7)]) (σ1 := js E A5) zM_X2_areTailsRight dX2_areTailsRight_47 rfl rfl rfl rfl ?_
      refine zw_go (pc1 := 50) (L1 := [some (.ref 19), some (.int (jI x1)), some (.int (jI x2)), some (.int (jI v3)), some (.int (jI v7))]) (st1 := [.ref 19, .int (jI v7)]) (σ1 := js E A5) zM_X2_areTailsRight dX2_areTailsRight_49 rfl rfl rfl rfl ?_
      refine jw_getI zM_X2_areTailsRight dX2_areTailsRight_50 zF_2_54 rfl rfl rfl ?_
      refine jw_icmp_gt (tgt := 77) zM_X2_areTailsRight dX2_areTailsRight_53 rfl rv8 (hA6 19 2) (fun q => ?_) (fun q => ?_)
      · replace h := h.1 q
        refine jw_iconst (v := 0) zM_X2_areTailsRight dX2_areTailsRight_77 rfl ?_
        exact jw_retz zM_X2_areTailsRight dX2_areTailsRight_78 rfl (Or.inl rfl) hA6 h
      · replace h := h.2 q
        refine zw_go (pc1 := 57) (L1 := [some (.ref 19), some (.int (jI x1)), some (.int (jI x2)), some (.int (jI v3)), some (.int (jI v7))]) (st1 := [.ref 19]) (σ1 := js E A5) zM_X2_areTailsRight dX2_areTailsRight_56 rfl rfl rfl rfl ?_
        refine zw_go (pc1 := 58) (L1 := [some (.ref 19), some (.int (jI x1)), some (.int (jI x2)), some (.int (jI v3)), some (.int (jI v7))]) (st1 := [.ref 19, .ref 19]) (σ1 := js E A5) zM_X2_areTailsRight dX2_areTailsRight_57 rfl rfl rfl rfl ?_
        refine zw_go (pc1 := 59) (L1 := [some (.ref 19), some (.int (jI x1)), some (.int (jI x2)), some (.int (jI v3)), some (.int (jI v7))]) (st1 := [.int (jI v3), .ref 19, .ref 19]) (σ1 := js E A5) zM_X2_areTailsRight dX2_areTailsRight_58 rfl rfl rfl rfl ?_
        refine jw_callI (as := [.ref 19, .int (jI v3)]) (rest := [.ref 19]) zM_X2_areTailsRight dX2_areTailsRight_59 (zx_calV zC_2_27) zM_X1_wordAt rfl rfl rfl rfl rfl (j_args0 rfl rfl) rfl hA6 h (fun v11 A9 rv12 hA10 h => ?_)
        refine zw_go (pc1 := 63) (L1 := [some (.ref 19), some (.int (jI x1)), some (.int (jI x2)), some (.int (jI v3)), some (.int (jI v7))]) (st1 := [.ref 19, .int (jI v11), .ref 19]) (σ1 := js E A9) zM_X2_areTailsRight dX2_areTailsRight_62 rfl rfl rfl rfl ?_
        refine zw_go (pc1 := 64) (L1 := [some (.ref 19), some (.int (jI x1)), some (.int (jI x2)), some (.int (jI v3)), some (.int (jI v7))]) (st1 := [.int (jI v3), .ref 19, .int (jI v11), .ref 19]) (σ1 := js E A9) zM_X2_areTailsRight dX2_areTailsRight_63 rfl rfl rfl rfl ?_
        refine jw_iconst (v := 2) zM_X2_areTailsRight dX2_areTailsRight_64 rfl ?_
        refine jw_add zM_X2_areTailsRight dX2_areTailsRight_65 ?_
        refine jw_callI (as := [.ref 19, .int (jI (v3 + 2))]) (rest := [.int (jI v11), .ref 19]) zM_X2_areTailsRight dX2_areTailsRight_66 (zx_calV zC_2_27) zM_X1_wordAt rfl rfl rfl rfl rfl (j_args0 rfl rfl) rfl hA10 h (fun v15 A13 rv16 hA14 h => ?_)
        refine zw_go (pc1 := 71) (L1 := [some (.ref 19), some (.int (jI x1)), some (.int (jI x2)), some (.int (jI v3)), some (.int (jI v7))]) (st1 := [.int (jI v7), .int (jI v15), .int (jI v11), .ref 19]) (σ1 := js E A13) zM_X2_areTailsRight dX2_areTailsRight_69 rfl rfl rfl rfl ?_
        refine jw_callI (as := [.ref 19, .int (jI v11), .int (jI v15), .int (jI v7)]) (rest := []) zM_X2_areTailsRight dX2_areTailsRight_71 (zx_calV zC_2_82) zM_X1_canBeBlock rfl rfl rfl rfl rfl (j_args0 rfl rfl) rfl hA14 h (fun v19 A17 rv20 hA18 h => ?_)
        refine jw_if_ne (tgt := 79) zM_X2_areTailsRight dX2_areTailsRight_74 rfl rv20 (fun q => ?_) (fun q => ?_)
        · replace h := h.1 q
          refine jw_iinc (x := x2) (L1 := [some (.ref 19), some (.int (jI x1)), some (.int (jI (x2 + 1))), some (.int (jI v3)), some (.int (jI v7))]) zM_X2_areTailsRight dX2_areTailsRight_79 rfl (show 2 < 5 by decide) rfl ?_
          refine zw_goto (tgt := 21) zM_X2_areTailsRight dX2_areTailsRight_82 rfl ?_
          exact zw_weak2 (h hA18) ⟨rfl, rfl, rfl, trivial⟩
        · replace h := h.2 q
          refine jw_iconst (v := 0) zM_X2_areTailsRight dX2_areTailsRight_77 rfl ?_
          exact jw_retz zM_X2_areTailsRight dX2_areTailsRight_78 rfl (Or.inl rfl) hA18 h
set_option maxHeartbeats 4000000 in
set_option maxRecDepth 100000 in
theorem vd_X2_comesToFirst_0 (x1 : Int) (r_x1 : jW x1) (E : jE) (A : jA) (K : Int → jA → Prop) (h : jrI 58 4 [some (.ref 19), none, some (.int (jI x1)), some (.int (jI 0))] [] E A K) : jrI 58 0 [some (.ref 19), some (.int (jI x1)), none, none] [] E A K := by
  intro hA
  refine zw_go (pc1 := 1) (L1 := [some (.ref 19), some (.int (jI x1)), none, none]) (st1 := [.int (jI x1)]) (σ1 := js E A) zM_X2_comesToFirst dX2_comesToFirst_0 rfl rfl rfl rfl ?_
  refine zw_go (pc1 := 2) (L1 := [some (.ref 19), some (.int (jI x1)), some (.int (jI x1)), none]) (st1 := []) (σ1 := js E A) zM_X2_comesToFirst dX2_comesToFirst_1 rfl rfl rfl rfl ?_
  refine jw_iconst (v := 0) zM_X2_comesToFirst dX2_comesToFirst_2 rfl ?_
  refine zw_go (pc1 := 4) (L1 := [some (.ref 19), some (.int (jI x1)), some (.int (jI x1)), some (.int (jI 0))]) (st1 := []) (σ1 := js E A) zM_X2_comesToFirst dX2_comesToFirst_3 rfl rfl rfl rfl ?_
  exact zw_weak2 (h hA) ⟨rfl, rfl, rfl, trivial⟩
set_option maxHeartbeats 4000000 in
set_option maxRecDepth 100000 in
theorem vd_X2_comesToFirst_4 (x2 : Int) (r_x2 : jW x2) (x3 : Int) (r_x3 : jW x3) (E : jE) (A : jA) (K : Int → jA → Prop) (h : (((A 19 3) ≤ x3 → jrI 58 29 [none, none, some (.int (jI x2)), none] [] E A K) ∧ (x3 < (A 19 3) → ((x2 = (1 : Int) → jrI 58 29 [none, none, some (.int (jI x2)), none] [] E A K) ∧ (¬ x2 = (1 : Int) → jrI 28 0 [some (.ref 19), some (.int (jI x2))] [] E A (fun v3 A1 => jrI 58 4 [some (.ref 19), none, some (.int (jI v3)), some (.int (jI (x3 + 1)))] [] E A1 K)))))) : jrI 58 4 [some (.ref 19), none, some (.int (jI x2)), some (.int (jI x3))] [] E A K := by
  intro hA
  refine zw_go (pc1 := 5) (L1 := [some (.ref 19), none, some (.int (jI x2)), some (.int (jI x3))]) (st1 := [.int (jI x3)]) (σ1 := js E A) zM_X2_comesToFirst dX2_comesToFirst_4 rfl rfl rfl rfl ?_
  refine zw_go (pc1 := 6) (L1 := [some (.ref 19), none, some (.int (jI x2)), some (.int (jI x3))]) (st1 := [.ref 19, .int (jI x3)]) (σ1 := js E A) zM_X2_comesToFirst dX2_comesToFirst_5 rfl rfl rfl rfl ?_
  refine jw_getI zM_X2_comesToFirst dX2_comesToFirst_6 zF_2_73 rfl rfl rfl ?_
  refine jw_icmp_ge (tgt := 29) zM_X2_comesToFirst dX2_comesToFirst_9 rfl r_x3 (hA 19 3) (fun q => ?_) (fun q => ?_)
  · replace h := h.1 q
    exact zw_weak2 (h hA) ⟨rfl, trivial⟩
  · replace h := h.2 q
    refine zw_go (pc1 := 13) (L1 := [some (.ref 19), none, some (.int (jI x2)), some (.int (jI x3))]) (st1 := [.int (jI x2)]) (σ1 := js E A) zM_X2_comesToFirst dX2_comesToFirst_12 rfl rfl rfl rfl ?_
    refine jw_iconst (v := 1) zM_X2_comesToFirst dX2_comesToFirst_13 rfl ?_
    refine jw_icmp_eq (tgt := 29) zM_X2_comesToFirst dX2_comesToFirst_14 rfl r_x2 (show jW 1 from ⟨by decide, by decide⟩) (fun q => ?_) (fun q => ?_)
    · replace h := h.1 q
      exact zw_weak2 (h hA) ⟨rfl, trivial⟩
    · replace h := h.2 q
      refine zw_go (pc1 := 18) (L1 := [some (.ref 19), none, some (.int (jI x2)), some (.int (jI x3))]) (st1 := [.ref 19]) (σ1 := js E A) zM_X2_comesToFirst dX2_comesToFirst_17 rfl rfl rfl rfl ?_
      refine zw_go (pc1 := 19) (L1 := [some (.ref 19), none, some (.int (jI x2)), some (.int (jI x3))]) (st1 := [.int (jI x2), .ref 19]) (σ1 := js E A) zM_X2_comesToFirst dX2_comesToFirst_18 rfl rfl rfl rfl ?_
      refine jw_callI (as := [.ref 19, .int (jI x2)]) (rest := []) zM_X2_comesToFirst dX2_comesToFirst_19 (zx_calV zC_2_125) zM_X1_homeOf rfl rfl rfl rfl rfl (j_args0 rfl rfl) rfl hA h (fun v3 A1 rv4 hA2 h => ?_)
      refine zw_go (pc1 := 23) (L1 := [some (.ref 19), none, some (.int (jI v3)), some (.int (jI x3))]) (st1 := []) (σ1 := js E A1) zM_X2_comesToFirst dX2_comesToFirst_22 rfl rfl rfl rfl ?_
      refine jw_iinc (x := x3) (L1 := [some (.ref 19), none, some (.int (jI v3)), some (.int (jI (x3 + 1)))]) zM_X2_comesToFirst dX2_comesToFirst_23 rfl (show 3 < 4 by decide) rfl ?_
      refine zw_goto (tgt := 4) zM_X2_comesToFirst dX2_comesToFirst_26 rfl ?_
      exact zw_weak2 (h hA2) ⟨rfl, rfl, rfl, trivial⟩
set_option maxHeartbeats 4000000 in
set_option maxRecDepth 100000 in
theorem vd_X2_comesToFirst_29 (x2 : Int) (r_x2 : jW x2) (E : jE) (A : jA) (K : Int → jA → Prop) (h : ((¬ x2 = (1 : Int) → K 0 A) ∧ (x2 = (1 : Int) → K 1 A))) : jrI 58 29 [none, none, some (.int (jI x2)), none] [] E A K := by
  intro hA
  refine zw_go (pc1 := 30) (L1 := [none, none, some (.int (jI x2)), none]) (st1 := [.int (jI x2)]) (σ1 := js E A) zM_X2_comesToFirst dX2_comesToFirst_29 rfl rfl rfl rfl ?_
  refine jw_iconst (v := 1) zM_X2_comesToFirst dX2_comesToFirst_30 rfl ?_
  refine jw_icmp_ne (tgt := 38) zM_X2_comesToFirst dX2_comesToFirst_31 rfl r_x2 (show jW 1 from ⟨by decide, by decide⟩) (fun q => ?_) (fun q => ?_)
  · replace h := h.1 q
    refine jw_iconst (v := 0) zM_X2_comesToFirst dX2_comesToFirst_38 rfl ?_
    exact jw_retz zM_X2_comesToFirst dX2_comesToFirst_39 rfl (Or.inl rfl) hA h
  · replace h := h.2 q
    refine jw_iconst (v := 1) zM_X2_comesToFirst dX2_comesToFirst_34 rfl ?_
    refine zw_goto (tgt := 39) zM_X2_comesToFirst dX2_comesToFirst_35 rfl ?_
    exact jw_retz zM_X2_comesToFirst dX2_comesToFirst_39 rfl (Or.inr rfl) hA h
set_option maxHeartbeats 4000000 in
set_option maxRecDepth 100000 in
theorem vd_X2_firstFault_0  (E : jE) (A : jA) (K : Int → jA → Prop) (h : jrV 41 0 [some (.ref 19)] [] E A (fun A1 => jrI 62 0 [some (.ref 19)] [] E A1 (fun v5 A3 => ((¬ v5 = (0 : Int) → jrI 56 0 [some (.ref 19)] [] E A3 (fun v9 A7 => ((¬ v9 = (0 : Int) → jrI 51 0 [some (.ref 19), some (.int (jI 16))] [] E A7 (fun v13 A11 => jrI 46 0 [some (.ref 19), none, none, none] [] E A11 (fun v17 A15 => ((v13 = v17 → jrI 57 0 [some (.ref 19), none, none, none, none] [] E A15 (fun v21 A19 => ((¬ v21 = (0 : Int) → jrI 54 0 [some (.ref 19), none, none, none] [] E A19 (fun v25 A23 => ((¬ v25 = (0 : Int) → jrI 53 0 [some (.ref 19), none, none, none] [] E A23 (fun v29 A27 => ((¬ v29 = (0 : Int) → jrI 64 0 [some (.ref 36), some (.ref 19), none, none] [] E A27 (fun v33 A31 => ((v33 = (0 : Int) → K 7 A31) ∧ (¬ v33 = (0 : Int) → K 0 A31)))) ∧ (v29 = (0 : Int) → K 6 A27)))) ∧ (v25 = (0 : Int) → K 5 A23)))) ∧ (v21 = (0 : Int) → K 4 A19)))) ∧ (¬ v13 = v17 → K 3 A15))))) ∧ (v9 = (0 : Int) → K 2 A7)))) ∧ (v5 = (0 : Int) → K 1 A3))))) : jrI 59 0 [some (.ref 36), some (.ref 19)] [] E A K := by
  intro hA
  refine zw_go (pc1 := 1) (L1 := [some (.ref 36), some (.ref 19)]) (st1 := [.ref 19]) (σ1 := js E A) zM_X2_firstFault dX2_firstFault_0 rfl rfl rfl rfl ?_
  refine jw_callV (as := [.ref 19]) (rest := []) zM_X2_firstFault dX2_firstFault_1 (zx_calV zC_2_15) zM_X1_readHead rfl rfl rfl rfl rfl (j_args0 rfl rfl) rfl hA h (fun A1 hA2 h => ?_)
  refine zw_go (pc1 := 5) (L1 := [some (.ref 36), some (.ref 19)]) (st1 := [.ref 19]) (σ1 := js E A1) zM_X2_firstFault dX2_firstFault_4 rfl rfl rfl rfl ?_
  refine jw_callI (as := [.ref 19]) (rest := []) zM_X2_firstFault dX2_firstFault_5 (zx_calS zC_2_20) zM_X2_isHeadRight rfl rfl rfl rfl rfl rfl rfl hA2 h (fun v5 A3 rv6 hA4 h => ?_)
  refine jw_if_ne (tgt := 13) zM_X2_firstFault dX2_firstFault_8 rfl rv6 (fun q => ?_) (fun q => ?_)
  · replace h := h.1 q
    refine zw_go (pc1 := 14) (L1 := [some (.ref 36), some (.ref 19)]) (st1 := [.ref 19]) (σ1 := js E A3) zM_X2_firstFault dX2_firstFault_13 rfl rfl rfl rfl ?_
    refine jw_callI (as := [.ref 19]) (rest := []) zM_X2_firstFault dX2_firstFault_14 (zx_calS zC_2_24) zM_X2_arePlacesRight rfl rfl rfl rfl rfl rfl rfl hA4 h (fun v9 A7 rv10 hA8 h => ?_)
    refine jw_if_ne (tgt := 22) zM_X2_firstFault dX2_firstFault_17 rfl rv10 (fun q => ?_) (fun q => ?_)
    · replace h := h.1 q
      refine zw_go (pc1 := 23) (L1 := [some (.ref 36), some (.ref 19)]) (st1 := [.ref 19]) (σ1 := js E A7) zM_X2_firstFault dX2_firstFault_22 rfl rfl rfl rfl ?_
      refine jw_bipush (v := 16) zM_X2_firstFault dX2_firstFault_23 (by decide) ?_
      refine jw_callI (as := [.ref 19, .int (jI 16)]) (rest := []) zM_X2_firstFault dX2_firstFault_25 (zx_calV zC_2_27) zM_X1_wordAt rfl rfl rfl rfl rfl (j_args0 rfl rfl) rfl hA8 h (fun v13 A11 rv14 hA12 h => ?_)
      refine zw_go (pc1 := 29) (L1 := [some (.ref 36), some (.ref 19)]) (st1 := [.ref 19, .int (jI v13)]) (σ1 := js E A11) zM_X2_firstFault dX2_firstFault_28 rfl rfl rfl rfl ?_
      refine jw_callI (as := [.ref 19]) (rest := [.int (jI v13)]) zM_X2_firstFault dX2_firstFault_29 (zx_calV zC_2_31) zM_X1_sum rfl rfl rfl rfl rfl (j_args0 rfl rfl) rfl hA12 h (fun v17 A15 rv18 hA16 h => ?_)
      refine jw_icmp_eq (tgt := 37) zM_X2_firstFault dX2_firstFault_32 rfl rv14 rv18 (fun q => ?_) (fun q => ?_)
      · replace h := h.1 q
        refine zw_go (pc1 := 38) (L1 := [some (.ref 36), some (.ref 19)]) (st1 := [.ref 19]) (σ1 := js E A15) zM_X2_firstFault dX2_firstFault_37 rfl rfl rfl rfl ?_
        refine jw_callI (as := [.ref 19]) (rest := []) zM_X2_firstFault dX2_firstFault_38 (zx_calS zC_2_35) zM_X2_areTailsRight rfl rfl rfl rfl rfl rfl rfl hA16 h (fun v21 A19 rv22 hA20 h => ?_)
        refine jw_if_ne (tgt := 46) zM_X2_firstFault dX2_firstFault_41 rfl rv22 (fun q => ?_) (fun q => ?_)
        · replace h := h.1 q
          refine zw_go (pc1 := 47) (L1 := [some (.ref 36), some (.ref 19)]) (st1 := [.ref 19]) (σ1 := js E A19) zM_X2_firstFault dX2_firstFault_46 rfl rfl rfl rfl ?_
          refine jw_callI (as := [.ref 19]) (rest := []) zM_X2_firstFault dX2_firstFault_47 (zx_calS zC_2_38) zM_X2_areInodesRight rfl rfl rfl rfl rfl rfl rfl hA20 h (fun v25 A23 rv26 hA24 h => ?_)
          refine jw_if_ne (tgt := 55) zM_X2_firstFault dX2_firstFault_50 rfl rv26 (fun q => ?_) (fun q => ?_)
          · replace h := h.1 q
            refine zw_go (pc1 := 56) (L1 := [some (.ref 36), some (.ref 19)]) (st1 := [.ref 19]) (σ1 := js E A23) zM_X2_firstFault dX2_firstFault_55 rfl rfl rfl rfl ?_
            refine jw_callI (as := [.ref 19]) (rest := []) zM_X2_firstFault dX2_firstFault_56 (zx_calS zC_2_41) zM_X2_areFoldersRight rfl rfl rfl rfl rfl rfl rfl hA24 h (fun v29 A27 rv30 hA28 h => ?_)
            refine jw_if_ne (tgt := 65) zM_X2_firstFault dX2_firstFault_59 rfl rv30 (fun q => ?_) (fun q => ?_)
            · replace h := h.1 q
              refine zw_go (pc1 := 66) (L1 := [some (.ref 36), some (.ref 19)]) (st1 := [.ref 36]) (σ1 := js E A27) zM_X2_firstFault dX2_firstFault_65 rfl rfl rfl rfl ?_
              refine zw_go (pc1 := 67) (L1 := [some (.ref 36), some (.ref 19)]) (st1 := [.ref 19, .ref 36]) (σ1 := js E A27) zM_X2_firstFault dX2_firstFault_66 rfl rfl rfl rfl ?_
              refine jw_callI (as := [.ref 36, .ref 19]) (rest := []) zM_X2_firstFault dX2_firstFault_67 (zx_calV zC_2_44) zM_X2_isTreeRight rfl rfl rfl rfl rfl (j_args0 rfl rfl) rfl hA28 h (fun v33 A31 rv34 hA32 h => ?_)
              refine jw_if_eq (tgt := 77) zM_X2_firstFault dX2_firstFault_70 rfl rv34 (fun q => ?_) (fun q => ?_)
              · replace h := h.1 q
                refine jw_bipush (v := 7) zM_X2_firstFault dX2_firstFault_77 (by decide) ?_
                exact jw_reti zM_X2_firstFault dX2_firstFault_79 rfl (show jW 7 from ⟨by decide, by decide⟩) hA32 h
              · replace h := h.2 q
                refine jw_iconst (v := 0) zM_X2_firstFault dX2_firstFault_73 rfl ?_
                refine zw_goto (tgt := 79) zM_X2_firstFault dX2_firstFault_74 rfl ?_
                exact jw_reti zM_X2_firstFault dX2_firstFault_79 rfl (show jW 0 from ⟨by decide, by decide⟩) hA32 h
            · replace h := h.2 q
              refine jw_bipush (v := 6) zM_X2_firstFault dX2_firstFault_62 (by decide) ?_
              exact jw_reti zM_X2_firstFault dX2_firstFault_64 rfl (show jW 6 from ⟨by decide, by decide⟩) hA28 h
          · replace h := h.2 q
            refine jw_iconst (v := 5) zM_X2_firstFault dX2_firstFault_53 rfl ?_
            exact jw_reti zM_X2_firstFault dX2_firstFault_54 rfl (show jW 5 from ⟨by decide, by decide⟩) hA24 h
        · replace h := h.2 q
          refine jw_iconst (v := 4) zM_X2_firstFault dX2_firstFault_44 rfl ?_
          exact jw_reti zM_X2_firstFault dX2_firstFault_45 rfl (show jW 4 from ⟨by decide, by decide⟩) hA20 h
      · replace h := h.2 q
        refine jw_iconst (v := 3) zM_X2_firstFault dX2_firstFault_35 rfl ?_
        exact jw_reti zM_X2_firstFault dX2_firstFault_36 rfl (show jW 3 from ⟨by decide, by decide⟩) hA16 h
    · replace h := h.2 q
      refine jw_iconst (v := 2) zM_X2_firstFault dX2_firstFault_20 rfl ?_
      exact jw_reti zM_X2_firstFault dX2_firstFault_21 rfl (show jW 2 from ⟨by decide, by decide⟩) hA8 h
  · replace h := h.2 q
    refine jw_iconst (v := 1) zM_X2_firstFault dX2_firstFault_11 rfl ?_
    exact jw_reti zM_X2_firstFault dX2_firstFault_12 rfl (show jW 1 from ⟨by decide, by decide⟩) hA4 h
set_option maxHeartbeats 4000000 in
set_option maxRecDepth 100000 in
theorem vd_X2_isFileRight_0 (x1 : Int) (r_x1 : jW x1) (E : jE) (A : jA) (K : Int → jA → Prop) (h : jrI 51 0 [some (.ref 19), some (.int (jI (x1 + 6)))] [] E A (fun v3 A1 => jrI 50 0 [some (.ref 19), some (.int (jI v3))] [] E A1 (fun v7 A5 => jrI 63 0 [some (.ref 19), some (.int (jI x1)), some (.int (jI (v3 - (v7 * (A5 19 2))))), none, none] [] E A5 (fun v11 A9 => ((¬ v11 = (0 : Int) → jrI 51 0 [some (.ref 19), some (.int (jI (x1 + 8)))] [] E A9 (fun v15 A13 => jrI 61 46 [some (.ref 19), some (.int (jI x1)), none, some (.int (jI v7)), some (.int (jI v15)), some (.int (jI 0)), none] [] E A13 K)) ∧ (v11 = (0 : Int) → K 0 A9)))))) : jrI 61 0 [some (.ref 19), some (.int (jI x1)), none, none, none, none, none] [] E A K := by
  intro hA
  refine zw_go (pc1 := 1) (L1 := [some (.ref 19), some (.int (jI x1)), none, none, none, none, none]) (st1 := [.ref 19]) (σ1 := js E A) zM_X2_isFileRight dX2_isFileRight_0 rfl rfl rfl rfl ?_
  refine zw_go (pc1 := 2) (L1 := [some (.ref 19), some (.int (jI x1)), none, none, none, none, none]) (st1 := [.int (jI x1), .ref 19]) (σ1 := js E A) zM_X2_isFileRight dX2_isFileRight_1 rfl rfl rfl rfl ?_
  refine jw_bipush (v := 6) zM_X2_isFileRight dX2_isFileRight_2 (by decide) ?_
  refine jw_add zM_X2_isFileRight dX2_isFileRight_4 ?_
  refine jw_callI (as := [.ref 19, .int (jI (x1 + 6))]) (rest := []) zM_X2_isFileRight dX2_isFileRight_5 (zx_calV zC_2_27) zM_X1_wordAt rfl rfl rfl rfl rfl (j_args0 rfl rfl) rfl hA h (fun v3 A1 rv4 hA2 h => ?_)
  refine zw_go (pc1 := 9) (L1 := [some (.ref 19), some (.int (jI x1)), some (.int (jI v3)), none, none, none, none]) (st1 := []) (σ1 := js E A1) zM_X2_isFileRight dX2_isFileRight_8 rfl rfl rfl rfl ?_
  refine zw_go (pc1 := 10) (L1 := [some (.ref 19), some (.int (jI x1)), some (.int (jI v3)), none, none, none, none]) (st1 := [.ref 19]) (σ1 := js E A1) zM_X2_isFileRight dX2_isFileRight_9 rfl rfl rfl rfl ?_
  refine zw_go (pc1 := 11) (L1 := [some (.ref 19), some (.int (jI x1)), some (.int (jI v3)), none, none, none, none]) (st1 := [.int (jI v3), .ref 19]) (σ1 := js E A1) zM_X2_isFileRight dX2_isFileRight_10 rfl rfl rfl rfl ?_
  refine jw_callI (as := [.ref 19, .int (jI v3)]) (rest := []) zM_X2_isFileRight dX2_isFileRight_11 (zx_calV zC_2_97) zM_X1_wholeBlocks rfl rfl rfl rfl rfl (j_args0 rfl rfl) rfl hA2 h (fun v7 A5 rv8 hA6 h => ?_)
  refine zw_go (pc1 := 15) (L1 := [some (.ref 19), some (.int (jI x1)), some (.int (jI v3)), some (.int (jI v7)), none, none, none]) (st1 := []) (σ1 := js E A5) zM_X2_isFileRight dX2_isFileRight_14 rfl rfl rfl rfl ?_
  refine zw_go (pc1 := 16) (L1 := [some (.ref 19), some (.int (jI x1)), some (.int (jI v3)), some (.int (jI v7)), none, none, none]) (st1 := [.ref 19]) (σ1 := js E A5) zM_X2_isFileRight dX2_isFileRight_15 rfl rfl rfl rfl ?_
  refine zw_go (pc1 := 17) (L1 := [some (.ref 19), some (.int (jI x1)), some (.int (jI v3)), some (.int (jI v7)), none, none, none]) (st1 := [.int (jI x1), .ref 19]) (σ1 := js E A5) zM_X2_isFileRight dX2_isFileRight_16 rfl rfl rfl rfl ?_
  refine zw_go (pc1 := 18) (L1 := [some (.ref 19), some (.int (jI x1)), some (.int (jI v3)), some (.int (jI v7)), none, none, none]) (st1 := [.int (jI v3), .int (jI x1), .ref 19]) (σ1 := js E A5) zM_X2_isFileRight dX2_isFileRight_17 rfl rfl rfl rfl ?_
  refine zw_go (pc1 := 19) (L1 := [some (.ref 19), some (.int (jI x1)), some (.int (jI v3)), some (.int (jI v7)), none, none, none]) (st1 := [.int (jI v7), .int (jI v3), .int (jI x1), .ref 19]) (σ1 := js E A5) zM_X2_isFileRight dX2_isFileRight_18 rfl rfl rfl rfl ?_
  refine zw_go (pc1 := 20) (L1 := [some (.ref 19), some (.int (jI x1)), some (.int (jI v3)), some (.int (jI v7)), none, none, none]) (st1 := [.ref 19, .int (jI v7), .int (jI v3), .int (jI x1), .ref 19]) (σ1 := js E A5) zM_X2_isFileRight dX2_isFileRight_19 rfl rfl rfl rfl ?_
  refine jw_getI zM_X2_isFileRight dX2_isFileRight_20 zF_2_54 rfl rfl rfl ?_
  refine jw_mul zM_X2_isFileRight dX2_isFileRight_23 ?_
  refine jw_sub zM_X2_isFileRight dX2_isFileRight_24 ?_
  refine jw_callI (as := [.ref 19, .int (jI x1), .int (jI (v3 - (v7 * (A5 19 2))))]) (rest := []) zM_X2_isFileRight dX2_isFileRight_25 (zx_calS zC_2_100) zM_X2_isTailRight rfl rfl rfl rfl rfl rfl rfl hA6 h (fun v11 A9 rv12 hA10 h => ?_)
  refine jw_if_ne (tgt := 33) zM_X2_isFileRight dX2_isFileRight_28 rfl rv12 (fun q => ?_) (fun q => ?_)
  · replace h := h.1 q
    refine zw_go (pc1 := 34) (L1 := [some (.ref 19), some (.int (jI x1)), some (.int (jI v3)), some (.int (jI v7)), none, none, none]) (st1 := [.ref 19]) (σ1 := js E A9) zM_X2_isFileRight dX2_isFileRight_33 rfl rfl rfl rfl ?_
    refine zw_go (pc1 := 35) (L1 := [some (.ref 19), some (.int (jI x1)), some (.int (jI v3)), some (.int (jI v7)), none, none, none]) (st1 := [.int (jI x1), .ref 19]) (σ1 := js E A9) zM_X2_isFileRight dX2_isFileRight_34 rfl rfl rfl rfl ?_
    refine jw_bipush (v := 8) zM_X2_isFileRight dX2_isFileRight_35 (by decide) ?_
    refine jw_add zM_X2_isFileRight dX2_isFileRight_37 ?_
    refine jw_callI (as := [.ref 19, .int (jI (x1 + 8))]) (rest := []) zM_X2_isFileRight dX2_isFileRight_38 (zx_calV zC_2_27) zM_X1_wordAt rfl rfl rfl rfl rfl (j_args0 rfl rfl) rfl hA10 h (fun v15 A13 rv16 hA14 h => ?_)
    refine zw_go (pc1 := 43) (L1 := [some (.ref 19), some (.int (jI x1)), some (.int (jI v3)), some (.int (jI v7)), some (.int (jI v15)), none, none]) (st1 := []) (σ1 := js E A13) zM_X2_isFileRight dX2_isFileRight_41 rfl rfl rfl rfl ?_
    refine jw_iconst (v := 0) zM_X2_isFileRight dX2_isFileRight_43 rfl ?_
    refine zw_go (pc1 := 46) (L1 := [some (.ref 19), some (.int (jI x1)), some (.int (jI v3)), some (.int (jI v7)), some (.int (jI v15)), some (.int (jI 0)), none]) (st1 := []) (σ1 := js E A13) zM_X2_isFileRight dX2_isFileRight_44 rfl rfl rfl rfl ?_
    exact zw_weak2 (h hA14) ⟨rfl, rfl, rfl, rfl, rfl, trivial⟩
  · replace h := h.2 q
    refine jw_iconst (v := 0) zM_X2_isFileRight dX2_isFileRight_31 rfl ?_
    exact jw_retz zM_X2_isFileRight dX2_isFileRight_32 rfl (Or.inl rfl) hA10 h
set_option maxHeartbeats 4000000 in
set_option maxRecDepth 100000 in
theorem vd_X2_isFileRight_46 (x1 : Int) (r_x1 : jW x1) (x3 : Int) (r_x3 : jW x3) (x4 : Int) (r_x4 : jW x4) (x5 : Int) (r_x5 : jW x5) (E : jE) (A : jA) (K : Int → jA → Prop) (h : ((x3 ≤ x5 → K 1 A) ∧ (x5 < x3 → jrI 51 0 [some (.ref 19), some (.int (jI ((x1 + 12) + (2 * x5))))] [] E A (fun v3 A1 => jrI 22 0 [some (.ref 19), some (.int (jI x4)), some (.int (jI v3)), some (.int (jI (A1 19 2)))] [] E A1 (fun v7 A5 => ((¬ v7 = (0 : Int) → jrI 45 0 [some (.int (jI v3))] [] E A5 (fun v11 A9 => jrI 61 46 [some (.ref 19), some (.int (jI x1)), none, some (.int (jI x3)), some (.int (jI (x4 + v11))), some (.int (jI (x5 + 1))), none] [] E A9 K)) ∧ (v7 = (0 : Int) → K 0 A5))))))) : jrI 61 46 [some (.ref 19), some (.int (jI x1)), none, some (.int (jI x3)), some (.int (jI x4)), some (.int (jI x5)), none] [] E A K := by
  intro hA
  refine zw_go (pc1 := 48) (L1 := [some (.ref 19), some (.int (jI x1)), none, some (.int (jI x3)), some (.int (jI x4)), some (.int (jI x5)), none]) (st1 := [.int (jI x5)]) (σ1 := js E A) zM_X2_isFileRight dX2_isFileRight_46 rfl rfl rfl rfl ?_
  refine zw_go (pc1 := 49) (L1 := [some (.ref 19), some (.int (jI x1)), none, some (.int (jI x3)), some (.int (jI x4)), some (.int (jI x5)), none]) (st1 := [.int (jI x3), .int (jI x5)]) (σ1 := js E A) zM_X2_isFileRight dX2_isFileRight_48 rfl rfl rfl rfl ?_
  refine jw_icmp_ge (tgt := 100) zM_X2_isFileRight dX2_isFileRight_49 rfl r_x5 r_x3 (fun q => ?_) (fun q => ?_)
  · replace h := h.1 q
    refine jw_iconst (v := 1) zM_X2_isFileRight dX2_isFileRight_100 rfl ?_
    exact jw_retz zM_X2_isFileRight dX2_isFileRight_101 rfl (Or.inr rfl) hA h
  · replace h := h.2 q
    refine zw_go (pc1 := 53) (L1 := [some (.ref 19), some (.int (jI x1)), none, some (.int (jI x3)), some (.int (jI x4)), some (.int (jI x5)), none]) (st1 := [.ref 19]) (σ1 := js E A) zM_X2_isFileRight dX2_isFileRight_52 rfl rfl rfl rfl ?_
    refine zw_go (pc1 := 54) (L1 := [some (.ref 19), some (.int (jI x1)), none, some (.int (jI x3)), some (.int (jI x4)), some (.int (jI x5)), none]) (st1 := [.int (jI x1), .ref 19]) (σ1 := js E A) zM_X2_isFileRight dX2_isFileRight_53 rfl rfl rfl rfl ?_
    refine jw_bipush (v := 12) zM_X2_isFileRight dX2_isFileRight_54 (by decide) ?_
    refine jw_add zM_X2_isFileRight dX2_isFileRight_56 ?_
    refine jw_iconst (v := 2) zM_X2_isFileRight dX2_isFileRight_57 rfl ?_
    refine zw_go (pc1 := 60) (L1 := [some (.ref 19), some (.int (jI x1)), none, some (.int (jI x3)), some (.int (jI x4)), some (.int (jI x5)), none]) (st1 := [.int (jI x5), .int (jI 2), .int (jI (x1 + 12)), .ref 19]) (σ1 := js E A) zM_X2_isFileRight dX2_isFileRight_58 rfl rfl rfl rfl ?_
    refine jw_mul zM_X2_isFileRight dX2_isFileRight_60 ?_
    refine jw_add zM_X2_isFileRight dX2_isFileRight_61 ?_
    refine jw_callI (as := [.ref 19, .int (jI ((x1 + 12) + (2 * x5)))]) (rest := []) zM_X2_isFileRight dX2_isFileRight_62 (zx_calV zC_2_27) zM_X1_wordAt rfl rfl rfl rfl rfl (j_args0 rfl rfl) rfl hA h (fun v3 A1 rv4 hA2 h => ?_)
    refine zw_go (pc1 := 67) (L1 := [some (.ref 19), some (.int (jI x1)), none, some (.int (jI x3)), some (.int (jI x4)), some (.int (jI x5)), some (.int (jI v3))]) (st1 := []) (σ1 := js E A1) zM_X2_isFileRight dX2_isFileRight_65 rfl rfl rfl rfl ?_
    refine zw_go (pc1 := 68) (L1 := [some (.ref 19), some (.int (jI x1)), none, some (.int (jI x3)), some (.int (jI x4)), some (.int (jI x5)), some (.int (jI v3))]) (st1 := [.ref 19]) (σ1 := js E A1) zM_X2_isFileRight dX2_isFileRight_67 rfl rfl rfl rfl ?_
    refine zw_go (pc1 := 70) (L1 := [some (.ref 19), some (.int (jI x1)), none, some (.int (jI x3)), some (.int (jI x4)), some (.int (jI x5)), some (.int (jI v3))]) (st1 := [.int (jI x4), .ref 19]) (σ1 := js E A1) zM_X2_isFileRight dX2_isFileRight_68 rfl rfl rfl rfl ?_
    refine zw_go (pc1 := 72) (L1 := [some (.ref 19), some (.int (jI x1)), none, some (.int (jI x3)), some (.int (jI x4)), some (.int (jI x5)), some (.int (jI v3))]) (st1 := [.int (jI v3), .int (jI x4), .ref 19]) (σ1 := js E A1) zM_X2_isFileRight dX2_isFileRight_70 rfl rfl rfl rfl ?_
    refine zw_go (pc1 := 73) (L1 := [some (.ref 19), some (.int (jI x1)), none, some (.int (jI x3)), some (.int (jI x4)), some (.int (jI x5)), some (.int (jI v3))]) (st1 := [.ref 19, .int (jI v3), .int (jI x4), .ref 19]) (σ1 := js E A1) zM_X2_isFileRight dX2_isFileRight_72 rfl rfl rfl rfl ?_
    refine jw_getI zM_X2_isFileRight dX2_isFileRight_73 zF_2_54 rfl rfl rfl ?_
    refine jw_callI (as := [.ref 19, .int (jI x4), .int (jI v3), .int (jI (A1 19 2))]) (rest := []) zM_X2_isFileRight dX2_isFileRight_76 (zx_calV zC_2_82) zM_X1_canBeBlock rfl rfl rfl rfl rfl (j_args0 rfl rfl) rfl hA2 h (fun v7 A5 rv8 hA6 h => ?_)
    refine jw_if_ne (tgt := 84) zM_X2_isFileRight dX2_isFileRight_79 rfl rv8 (fun q => ?_) (fun q => ?_)
    · replace h := h.1 q
      refine zw_go (pc1 := 86) (L1 := [some (.ref 19), some (.int (jI x1)), none, some (.int (jI x3)), some (.int (jI x4)), some (.int (jI x5)), some (.int (jI v3))]) (st1 := [.int (jI x4)]) (σ1 := js E A5) zM_X2_isFileRight dX2_isFileRight_84 rfl rfl rfl rfl ?_
      refine zw_go (pc1 := 88) (L1 := [some (.ref 19), some (.int (jI x1)), none, some (.int (jI x3)), some (.int (jI x4)), some (.int (jI x5)), some (.int (jI v3))]) (st1 := [.int (jI v3), .int (jI x4)]) (σ1 := js E A5) zM_X2_isFileRight dX2_isFileRight_86 rfl rfl rfl rfl ?_
      refine jw_callI (as := [.int (jI v3)]) (rest := [.int (jI x4)]) zM_X2_isFileRight dX2_isFileRight_88 (zx_calS zC_2_104) zM_X1_storedBytes rfl rfl rfl rfl rfl rfl rfl hA6 h (fun v11 A9 rv12 hA10 h => ?_)
      refine jw_add zM_X2_isFileRight dX2_isFileRight_91 ?_
      refine zw_go (pc1 := 94) (L1 := [some (.ref 19), some (.int (jI x1)), none, some (.int (jI x3)), some (.int (jI (x4 + v11))), some (.int (jI x5)), some (.int (jI v3))]) (st1 := []) (σ1 := js E A9) zM_X2_isFileRight dX2_isFileRight_92 rfl rfl rfl rfl ?_
      refine jw_iinc (x := x5) (L1 := [some (.ref 19), some (.int (jI x1)), none, some (.int (jI x3)), some (.int (jI (x4 + v11))), some (.int (jI (x5 + 1))), some (.int (jI v3))]) zM_X2_isFileRight dX2_isFileRight_94 rfl (show 5 < 7 by decide) rfl ?_
      refine zw_goto (tgt := 46) zM_X2_isFileRight dX2_isFileRight_97 rfl ?_
      exact zw_weak2 (h hA10) ⟨rfl, rfl, rfl, rfl, rfl, trivial⟩
    · replace h := h.2 q
      refine jw_iconst (v := 0) zM_X2_isFileRight dX2_isFileRight_82 rfl ?_
      exact jw_retz zM_X2_isFileRight dX2_isFileRight_83 rfl (Or.inl rfl) hA6 h
set_option maxHeartbeats 4000000 in
set_option maxRecDepth 100000 in
theorem vd_X2_isHeadRight_0  (E : jE) (A : jA) (K : Int → jA → Prop) (h : (((A 19 1) < (18 : Int) → K 0 A) ∧ ((18 : Int) ≤ (A 19 1) → jrI 21 0 [some (.ref 19), some (.int (jI 0))] [] E A (fun v3 A1 => ((¬ v3 = (84 : Int) → K 0 A1) ∧ (v3 = (84 : Int) → jrI 21 0 [some (.ref 19), some (.int (jI 1))] [] E A1 (fun v7 A5 => ((¬ v7 = (73 : Int) → K 0 A5) ∧ (v7 = (73 : Int) → jrI 123 0 [some (.int (jI (A5 19 2)))] [] E A5 (fun v11 A9 => ((v11 = (0 : Int) → K 0 A9) ∧ (¬ v11 = (0 : Int) → jrI 21 0 [some (.ref 19), some (.int (jI 3))] [] E A9 (fun v15 A13 => ((¬ v15 = (0 : Int) → K 0 A13) ∧ (v15 = (0 : Int) → K 1 A13))))))))))))))) : jrI 62 0 [some (.ref 19)] [] E A K := by
  intro hA
  refine zw_go (pc1 := 1) (L1 := [some (.ref 19)]) (st1 := [.ref 19]) (σ1 := js E A) zM_X2_isHeadRight dX2_isHeadRight_0 rfl rfl rfl rfl ?_
  refine jw_getI zM_X2_isHeadRight dX2_isHeadRight_1 zF_2_47 rfl rfl rfl ?_
  refine jw_bipush (v := 18) zM_X2_isHeadRight dX2_isHeadRight_4 (by decide) ?_
  refine jw_icmp_lt (tgt := 51) zM_X2_isHeadRight dX2_isHeadRight_6 rfl (hA 19 1) (show jW 18 from ⟨by decide, by decide⟩) (fun q => ?_) (fun q => ?_)
  · replace h := h.1 q
    refine jw_iconst (v := 0) zM_X2_isHeadRight dX2_isHeadRight_51 rfl ?_
    exact jw_retz zM_X2_isHeadRight dX2_isHeadRight_52 rfl (Or.inl rfl) hA h
  · replace h := h.2 q
    refine zw_go (pc1 := 10) (L1 := [some (.ref 19)]) (st1 := [.ref 19]) (σ1 := js E A) zM_X2_isHeadRight dX2_isHeadRight_9 rfl rfl rfl rfl ?_
    refine jw_iconst (v := 0) zM_X2_isHeadRight dX2_isHeadRight_10 rfl ?_
    refine jw_callI (as := [.ref 19, .int (jI 0)]) (rest := []) zM_X2_isHeadRight dX2_isHeadRight_11 (zx_calV zC_2_51) zM_X1_byteAt rfl rfl rfl rfl rfl (j_args0 rfl rfl) rfl hA h (fun v3 A1 rv4 hA2 h => ?_)
    refine jw_bipush (v := 84) zM_X2_isHeadRight dX2_isHeadRight_14 (by decide) ?_
    refine jw_icmp_ne (tgt := 51) zM_X2_isHeadRight dX2_isHeadRight_16 rfl rv4 (show jW 84 from ⟨by decide, by decide⟩) (fun q => ?_) (fun q => ?_)
    · replace h := h.1 q
      refine jw_iconst (v := 0) zM_X2_isHeadRight dX2_isHeadRight_51 rfl ?_
      exact jw_retz zM_X2_isHeadRight dX2_isHeadRight_52 rfl (Or.inl rfl) hA2 h
    · replace h := h.2 q
      refine zw_go (pc1 := 20) (L1 := [some (.ref 19)]) (st1 := [.ref 19]) (σ1 := js E A1) zM_X2_isHeadRight dX2_isHeadRight_19 rfl rfl rfl rfl ?_
      refine jw_iconst (v := 1) zM_X2_isHeadRight dX2_isHeadRight_20 rfl ?_
      refine jw_callI (as := [.ref 19, .int (jI 1)]) (rest := []) zM_X2_isHeadRight dX2_isHeadRight_21 (zx_calV zC_2_51) zM_X1_byteAt rfl rfl rfl rfl rfl (j_args0 rfl rfl) rfl hA2 h (fun v7 A5 rv8 hA6 h => ?_)
      refine jw_bipush (v := 73) zM_X2_isHeadRight dX2_isHeadRight_24 (by decide) ?_
      refine jw_icmp_ne (tgt := 51) zM_X2_isHeadRight dX2_isHeadRight_26 rfl rv8 (show jW 73 from ⟨by decide, by decide⟩) (fun q => ?_) (fun q => ?_)
      · replace h := h.1 q
        refine jw_iconst (v := 0) zM_X2_isHeadRight dX2_isHeadRight_51 rfl ?_
        exact jw_retz zM_X2_isHeadRight dX2_isHeadRight_52 rfl (Or.inl rfl) hA6 h
      · replace h := h.2 q
        refine zw_go (pc1 := 30) (L1 := [some (.ref 19)]) (st1 := [.ref 19]) (σ1 := js E A5) zM_X2_isHeadRight dX2_isHeadRight_29 rfl rfl rfl rfl ?_
        refine jw_getI zM_X2_isHeadRight dX2_isHeadRight_30 zF_2_54 rfl rfl rfl ?_
        refine jw_callI (as := [.int (jI (A5 19 2))]) (rest := []) zM_X2_isHeadRight dX2_isHeadRight_33 (zx_calS zC_2_57) zM_X6_isBlock rfl rfl rfl rfl rfl rfl rfl hA6 h (fun v11 A9 rv12 hA10 h => ?_)
        refine jw_if_eq (tgt := 51) zM_X2_isHeadRight dX2_isHeadRight_36 rfl rv12 (fun q => ?_) (fun q => ?_)
        · replace h := h.1 q
          refine jw_iconst (v := 0) zM_X2_isHeadRight dX2_isHeadRight_51 rfl ?_
          exact jw_retz zM_X2_isHeadRight dX2_isHeadRight_52 rfl (Or.inl rfl) hA10 h
        · replace h := h.2 q
          refine zw_go (pc1 := 40) (L1 := [some (.ref 19)]) (st1 := [.ref 19]) (σ1 := js E A9) zM_X2_isHeadRight dX2_isHeadRight_39 rfl rfl rfl rfl ?_
          refine jw_iconst (v := 3) zM_X2_isHeadRight dX2_isHeadRight_40 rfl ?_
          refine jw_callI (as := [.ref 19, .int (jI 3)]) (rest := []) zM_X2_isHeadRight dX2_isHeadRight_41 (zx_calV zC_2_51) zM_X1_byteAt rfl rfl rfl rfl rfl (j_args0 rfl rfl) rfl hA10 h (fun v15 A13 rv16 hA14 h => ?_)
          refine jw_if_ne (tgt := 51) zM_X2_isHeadRight dX2_isHeadRight_44 rfl rv16 (fun q => ?_) (fun q => ?_)
          · replace h := h.1 q
            refine jw_iconst (v := 0) zM_X2_isHeadRight dX2_isHeadRight_51 rfl ?_
            exact jw_retz zM_X2_isHeadRight dX2_isHeadRight_52 rfl (Or.inl rfl) hA14 h
          · replace h := h.2 q
            refine jw_iconst (v := 1) zM_X2_isHeadRight dX2_isHeadRight_47 rfl ?_
            refine zw_goto (tgt := 52) zM_X2_isHeadRight dX2_isHeadRight_48 rfl ?_
            exact jw_retz zM_X2_isHeadRight dX2_isHeadRight_52 rfl (Or.inr rfl) hA14 h
