set_option maxHeartbeats 4000000 in
set_option maxRecDepth 100000 in
theorem vc_L_law_0 (a0 : Nat) (σ : zx_S) (K : Int32 → zx_S → Prop) (h : ∀ σ1 : zx_S, σ1 = zx_nw σ 19 0 7 → zwV 122 0 [some (.ref (zn σ)), none] [] σ1 (fun σ3 => ∀ σ4 : zx_S, σ4 = zx_nw σ3 20 0 41 → zwV 161 0 [some (.ref (zn σ3))] [] σ4 (fun σ6 => ∀ σ7 : zx_S, σ7 = zx_nw σ6 2 (Int32.toNatClampNeg 1) (Int32.toNatClampNeg 1) → zwI 211 23 [some (.ref a0), some (.ref (zn σ)), some (.ref (zn σ3)), some (.ref (zn σ6)), some (.int 0), none, none] [] σ7 K))) : zwI 211 0 [some (.ref a0), none, none, none, none, none, none] [] σ K := by
  obtain ⟨σ1, e2⟩ : ∃ z9 : zx_S, z9 = zx_nw σ 19 0 7 := ⟨_, rfl⟩
  replace h := h σ1 e2
  refine zw_new zM_L_law dL_law_0 zN_8_8 rfl e2 ?_
  refine zw_go (pc1 := 4) (L1 := [some (.ref a0), none, none, none, none, none, none]) (st1 := [.ref (zn σ), .ref (zn σ)]) (σ1 := σ1) zM_L_law dL_law_3 rfl rfl rfl rfl ?_
  refine zw_callV (as := [.ref (zn σ)]) (rest := [.ref (zn σ)]) zM_L_law dL_law_4 (zx_calI zC_8_15) zM_X6_init rfl rfl rfl rfl rfl rfl rfl h (fun σ3 h => ?_)
  refine zw_go (pc1 := 8) (L1 := [some (.ref a0), some (.ref (zn σ)), none, none, none, none, none]) (st1 := []) (σ1 := σ3) zM_L_law dL_law_7 rfl rfl rfl rfl ?_
  obtain ⟨σ4, e5⟩ : ∃ z9 : zx_S, z9 = zx_nw σ3 20 0 41 := ⟨_, rfl⟩
  replace h := h σ4 e5
  refine zw_new zM_L_law dL_law_8 zN_8_16 rfl e5 ?_
  refine zw_go (pc1 := 12) (L1 := [some (.ref a0), some (.ref (zn σ)), none, none, none, none, none]) (st1 := [.ref (zn σ3), .ref (zn σ3)]) (σ1 := σ4) zM_L_law dL_law_11 rfl rfl rfl rfl ?_
  refine zw_callV (as := [.ref (zn σ3)]) (rest := [.ref (zn σ3)]) zM_L_law dL_law_12 (zx_calI zC_8_18) zM_X7_init rfl rfl rfl rfl rfl rfl rfl h (fun σ6 h => ?_)
  refine zw_go (pc1 := 16) (L1 := [some (.ref a0), some (.ref (zn σ)), some (.ref (zn σ3)), none, none, none, none]) (st1 := []) (σ1 := σ6) zM_L_law dL_law_15 rfl rfl rfl rfl ?_
  refine zw_iconst (v := 1) zM_L_law dL_law_16 (by decide) ?_
  obtain ⟨σ7, e8⟩ : ∃ z9 : zx_S, z9 = zx_nw σ6 2 (Int32.toNatClampNeg 1) (Int32.toNatClampNeg 1) := ⟨_, rfl⟩
  replace h := h σ7 e8
  refine zw_newJ zM_L_law dL_law_17 (by decide) e8 ?_
  refine zw_go (pc1 := 20) (L1 := [some (.ref a0), some (.ref (zn σ)), some (.ref (zn σ3)), some (.ref (zn σ6)), none, none, none]) (st1 := []) (σ1 := σ7) zM_L_law dL_law_19 rfl rfl rfl rfl ?_
  refine zw_iconst (v := 0) zM_L_law dL_law_20 (by decide) ?_
  refine zw_go (pc1 := 23) (L1 := [some (.ref a0), some (.ref (zn σ)), some (.ref (zn σ3)), some (.ref (zn σ6)), some (.int 0), none, none]) (st1 := []) (σ1 := σ7) zM_L_law dL_law_21 rfl rfl rfl rfl ?_
  exact zw_weak2 h ⟨rfl, rfl, rfl, rfl, rfl, trivial⟩
set_option maxHeartbeats 4000000 in
set_option maxRecDepth 100000 in
theorem vc_L_law_23 (a0 : Nat) (a1 : Nat) (a2 : Nat) (a3 : Nat) (x4 : Int32) (σ : zx_S) (K : Int32 → zx_S → Prop) (h : zK σ a0 = 4 ∧ ((((Int32.ofNat (zN σ a0)) - 6) < x4 → K 1 σ) ∧ (¬ ((Int32.ofNat (zN σ a0)) - 6) < x4 → zx_in x4 (zN σ a0) = true ∧ ((((zI σ a0 (Int32.toNatClampNeg x4)) &&& 31) = 0 → zx_in (x4 + 1) (zN σ a0) = true ∧ zx_in (x4 + 2) (zN σ a0) = true ∧ zK σ a1 = 19 ∧ zwI 118 0 [some (.ref a1), some (.int (zI σ a0 (Int32.toNatClampNeg (x4 + 1)))), some (.int (zI σ a0 (Int32.toNatClampNeg (x4 + 2))))] [] σ (fun v7 σ6 => zK σ6 a0 = 4 ∧ zx_in (x4 + 1) (zN σ6 a0) = true ∧ zx_in (x4 + 2) (zN σ6 a0) = true ∧ zK σ6 a2 = 20 ∧ zwI 157 0 [some (.ref a2), some (.int (zI σ6 a0 (Int32.toNatClampNeg (x4 + 1)))), some (.int (zI σ6 a0 (Int32.toNatClampNeg (x4 + 2))))] [] σ6 (fun v13 σ12 => ((v7 = v13 → zwI 211 970 [some (.ref a0), some (.ref a1), some (.ref a2), some (.ref a3), some (.int x4), none, none] [] σ12 K) ∧ (¬ v7 = v13 → K 0 σ12))))) ∧ (¬ ((zI σ a0 (Int32.toNatClampNeg x4)) &&& 31) = 0 → ((((zI σ a0 (Int32.toNatClampNeg x4)) &&& 31) = 1 → zx_in (x4 + 1) (zN σ a0) = true ∧ zx_in (x4 + 2) (zN σ a0) = true ∧ zK σ a1 = 19 ∧ zwI 117 0 [some (.ref a1), some (.int (zI σ a0 (Int32.toNatClampNeg (x4 + 1)))), some (.int (zI σ a0 (Int32.toNatClampNeg (x4 + 2))))] [] σ (fun v19 σ18 => zK σ18 a0 = 4 ∧ zx_in (x4 + 1) (zN σ18 a0) = true ∧ zx_in (x4 + 2) (zN σ18 a0) = true ∧ zK σ18 a2 = 20 ∧ zwI 153 0 [some (.ref a2), some (.int (zI σ18 a0 (Int32.toNatClampNeg (x4 + 1)))), some (.int (zI σ18 a0 (Int32.toNatClampNeg (x4 + 2))))] [] σ18 (fun v25 σ24 => ((v19 = v25 → zwI 211 970 [some (.ref a0), some (.ref a1), some (.ref a2), some (.ref a3), some (.int x4), none, none] [] σ24 K) ∧ (¬ v19 = v25 → K 0 σ24))))) ∧ (¬ ((zI σ a0 (Int32.toNatClampNeg x4)) &&& 31) = 1 → ((((zI σ a0 (Int32.toNatClampNeg x4)) &&& 31) = 2 → zx_in (x4 + 1) (zN σ a0) = true ∧ zx_in (x4 + 2) (zN σ a0) = true ∧ zK σ a1 = 19 ∧ zwI 120 0 [some (.ref a1), some (.int (zI σ a0 (Int32.toNatClampNeg (x4 + 1)))), some (.int (zI σ a0 (Int32.toNatClampNeg (x4 + 2))))] [] σ (fun v31 σ30 => zK σ30 a0 = 4 ∧ zx_in (x4 + 1) (zN σ30 a0) = true ∧ zx_in (x4 + 2) (zN σ30 a0) = true ∧ zK σ30 a2 = 20 ∧ zwI 158 0 [some (.ref a2), some (.int (zI σ30 a0 (Int32.toNatClampNeg (x4 + 1)))), some (.int (zI σ30 a0 (Int32.toNatClampNeg (x4 + 2))))] [] σ30 (fun v37 σ36 => ((v31 = v37 → zwI 211 970 [some (.ref a0), some (.ref a1), some (.ref a2), some (.ref a3), some (.int x4), none, none] [] σ36 K) ∧ (¬ v31 = v37 → K 0 σ36))))) ∧ (¬ ((zI σ a0 (Int32.toNatClampNeg x4)) &&& 31) = 2 → ((((zI σ a0 (Int32.toNatClampNeg x4)) &&& 31) = 3 → zx_in (x4 + 1) (zN σ a0) = true ∧ zx_in (x4 + 2) (zN σ a0) = true ∧ zx_in (x4 + 3) (zN σ a0) = true ∧ zK σ a1 = 19 ∧ zwI 126 0 [some (.ref a1), some (.int (zI σ a0 (Int32.toNatClampNeg (x4 + 1)))), some (.int (zI σ a0 (Int32.toNatClampNeg (x4 + 2)))), some (.int (zI σ a0 (Int32.toNatClampNeg (x4 + 3))))] [] σ (fun v44 σ43 => zK σ43 a0 = 4 ∧ zx_in (x4 + 1) (zN σ43 a0) = true ∧ zx_in (x4 + 2) (zN σ43 a0) = true ∧ zx_in (x4 + 3) (zN σ43 a0) = true ∧ zK σ43 a2 = 20 ∧ zwI 176 0 [some (.ref a2), some (.int (zI σ43 a0 (Int32.toNatClampNeg (x4 + 1)))), some (.int (zI σ43 a0 (Int32.toNatClampNeg (x4 + 2)))), some (.int (zI σ43 a0 (Int32.toNatClampNeg (x4 + 3))))] [] σ43 (fun v51 σ50 => ((v44 = v51 → zwI 211 970 [some (.ref a0), some (.ref a1), some (.ref a2), some (.ref a3), some (.int x4), none, none] [] σ50 K) ∧ (¬ v44 = v51 → K 0 σ50))))) ∧ (¬ ((zI σ a0 (Int32.toNatClampNeg x4)) &&& 31) = 3 → ((((zI σ a0 (Int32.toNatClampNeg x4)) &&& 31) = 4 → zx_in (x4 + 1) (zN σ a0) = true ∧ zx_in (x4 + 2) (zN σ a0) = true ∧ zx_in (x4 + 3) (zN σ a0) = true ∧ zK σ a1 = 19 ∧ zwI 113 0 [some (.ref a1), some (.int (zI σ a0 (Int32.toNatClampNeg (x4 + 1)))), some (.int (zI σ a0 (Int32.toNatClampNeg (x4 + 2)))), some (.int (zI σ a0 (Int32.toNatClampNeg (x4 + 3))))] [] σ (fun v58 σ57 => zK σ57 a0 = 4 ∧ zx_in (x4 + 1) (zN σ57 a0) = true ∧ zx_in (x4 + 2) (zN σ57 a0) = true ∧ zx_in (x4 + 3) (zN σ57 a0) = true ∧ zK σ57 a2 = 20 ∧ zwI 149 0 [some (.ref a2), some (.int (zI σ57 a0 (Int32.toNatClampNeg (x4 + 1)))), some (.int (zI σ57 a0 (Int32.toNatClampNeg (x4 + 2)))), some (.int (zI σ57 a0 (Int32.toNatClampNeg (x4 + 3)))), none] [] σ57 (fun v65 σ64 => ((v58 = v65 → zwI 211 970 [some (.ref a0), some (.ref a1), some (.ref a2), some (.ref a3), some (.int x4), none, none] [] σ64 K) ∧ (¬ v58 = v65 → K 0 σ64))))) ∧ (¬ ((zI σ a0 (Int32.toNatClampNeg x4)) &&& 31) = 4 → ((((zI σ a0 (Int32.toNatClampNeg x4)) &&& 31) = 5 → zx_in (x4 + 1) (zN σ a0) = true ∧ zx_in (x4 + 2) (zN σ a0) = true ∧ zx_in (x4 + 3) (zN σ a0) = true ∧ zK σ a1 = 19 ∧ zwI 133 0 [some (.ref a1), some (.int (zI σ a0 (Int32.toNatClampNeg (x4 + 1)))), some (.int (zI σ a0 (Int32.toNatClampNeg (x4 + 2)))), some (.int (zI σ a0 (Int32.toNatClampNeg (x4 + 3))))] [] σ (fun v72 σ71 => zK σ71 a0 = 4 ∧ zx_in (x4 + 1) (zN σ71 a0) = true ∧ zx_in (x4 + 2) (zN σ71 a0) = true ∧ zx_in (x4 + 3) (zN σ71 a0) = true ∧ zK σ71 a2 = 20 ∧ zwI 195 0 [some (.ref a2), some (.int (zI σ71 a0 (Int32.toNatClampNeg (x4 + 1)))), some (.int (zI σ71 a0 (Int32.toNatClampNeg (x4 + 2)))), some (.int (zI σ71 a0 (Int32.toNatClampNeg (x4 + 3))))] [] σ71 (fun v79 σ78 => ((v72 = v79 → zwI 211 970 [some (.ref a0), some (.ref a1), some (.ref a2), some (.ref a3), some (.int x4), none, none] [] σ78 K) ∧ (¬ v72 = v79 → K 0 σ78))))) ∧ (¬ ((zI σ a0 (Int32.toNatClampNeg x4)) &&& 31) = 5 → ((((zI σ a0 (Int32.toNatClampNeg x4)) &&& 31) = 6 → zK σ a1 = 19 ∧ zwI 111 0 [some (.ref a1), none] [] σ (fun v83 σ82 => zK σ82 a2 = 20 ∧ zwI 146 0 [some (.ref a2), none] [] σ82 (fun v86 σ85 => ((v83 = v86 → zwI 211 970 [some (.ref a0), some (.ref a1), some (.ref a2), some (.ref a3), some (.int x4), none, none] [] σ85 K) ∧ (¬ v83 = v86 → K 0 σ85))))) ∧ (¬ ((zI σ a0 (Int32.toNatClampNeg x4)) &&& 31) = 6 → ((((zI σ a0 (Int32.toNatClampNeg x4)) &&& 31) = 7 → zx_in (x4 + 1) (zN σ a0) = true ∧ zK σ a1 = 19 ∧ zwI 110 0 [some (.ref a1), some (.int (zI σ a0 (Int32.toNatClampNeg (x4 + 1))))] [] σ (fun v91 σ90 => zK σ90 a0 = 4 ∧ zx_in (x4 + 1) (zN σ90 a0) = true ∧ zK σ90 a2 = 20 ∧ zwI 142 0 [some (.ref a2), some (.int (zI σ90 a0 (Int32.toNatClampNeg (x4 + 1)))), none, none, none, none, none] [] σ90 (fun v96 σ95 => ((v91 = v96 → zwI 211 970 [some (.ref a0), some (.ref a1), some (.ref a2), some (.ref a3), some (.int x4), none, none] [] σ95 K) ∧ (¬ v91 = v96 → K 0 σ95))))) ∧ (¬ ((zI σ a0 (Int32.toNatClampNeg x4)) &&& 31) = 7 → ((((zI σ a0 (Int32.toNatClampNeg x4)) &&& 31) = 8 → zx_in (x4 + 1) (zN σ a0) = true ∧ zx_in (x4 + 2) (zN σ a0) = true ∧ zx_in (x4 + 3) (zN σ a0) = true ∧ zx_in (x4 + 4) (zN σ a0) = true ∧ zx_in (x4 + 5) (zN σ a0) = true ∧ zK σ a1 = 19 ∧ zwI 116 0 [some (.ref a1), some (.int (zI σ a0 (Int32.toNatClampNeg (x4 + 1)))), some (.int (zI σ a0 (Int32.toNatClampNeg (x4 + 2)))), some (.int (zI σ a0 (Int32.toNatClampNeg (x4 + 3)))), some (.int (zI σ a0 (Int32.toNatClampNeg (x4 + 4)))), some (.int (zI σ a0 (Int32.toNatClampNeg (x4 + 5))))] [] σ (fun v105 σ104 => zK σ104 a0 = 4 ∧ zx_in (x4 + 1) (zN σ104 a0) = true ∧ zx_in (x4 + 2) (zN σ104 a0) = true ∧ zx_in (x4 + 3) (zN σ104 a0) = true ∧ zx_in (x4 + 4) (zN σ104 a0) = true ∧ zx_in (x4 + 5) (zN σ104 a0) = true ∧ zK σ104 a2 = 20 ∧ zwI 152 0 [some (.ref a2), some (.int (zI σ104 a0 (Int32.toNatClampNeg (x4 + 1)))), some (.int (zI σ104 a0 (Int32.toNatClampNeg (x4 + 2)))), some (.int (zI σ104 a0 (Int32.toNatClampNeg (x4 + 3)))), some (.int (zI σ104 a0 (Int32.toNatClampNeg (x4 + 4)))), some (.int (zI σ104 a0 (Int32.toNatClampNeg (x4 + 5)))), none, none] [] σ104 (fun v114 σ113 => ((v105 = v114 → zwI 211 970 [some (.ref a0), some (.ref a1), some (.ref a2), some (.ref a3), some (.int x4), none, none] [] σ113 K) ∧ (¬ v105 = v114 → K 0 σ113))))) ∧ (¬ ((zI σ a0 (Int32.toNatClampNeg x4)) &&& 31) = 8 → ((((zI σ a0 (Int32.toNatClampNeg x4)) &&& 31) = 9 → zx_in (x4 + 1) (zN σ a0) = true ∧ zK σ a1 = 19 ∧ zwI 115 0 [some (.ref a1), some (.int (zI σ a0 (Int32.toNatClampNeg (x4 + 1))))] [] σ (fun v119 σ118 => zK σ118 a0 = 4 ∧ zx_in (x4 + 1) (zN σ118 a0) = true ∧ zK σ118 a2 = 20 ∧ zwI 151 0 [some (.ref a2), some (.int (zI σ118 a0 (Int32.toNatClampNeg (x4 + 1))))] [] σ118 (fun v124 σ123 => ((v119 = v124 → zwI 211 970 [some (.ref a0), some (.ref a1), some (.ref a2), some (.ref a3), some (.int x4), none, none] [] σ123 K) ∧ (¬ v119 = v124 → K 0 σ123))))) ∧ (¬ ((zI σ a0 (Int32.toNatClampNeg x4)) &&& 31) = 9 → ((((zI σ a0 (Int32.toNatClampNeg x4)) &&& 31) = 10 → zK σ a1 = 19 ∧ zwI 128 0 [some (.ref a1), none] [] σ (fun v128 σ127 => zK σ127 a2 = 20 ∧ zwI 178 0 [some (.ref a2), none] [] σ127 (fun v131 σ130 => ((v128 = v131 → zwI 211 970 [some (.ref a0), some (.ref a1), some (.ref a2), some (.ref a3), some (.int x4), none, none] [] σ130 K) ∧ (¬ v128 = v131 → K 0 σ130))))) ∧ (¬ ((zI σ a0 (Int32.toNatClampNeg x4)) &&& 31) = 10 → ((((zI σ a0 (Int32.toNatClampNeg x4)) &&& 31) = 11 → zK σ a1 = 19 ∧ zwI 114 0 [some (.ref a1)] [] σ (fun v135 σ134 => zK σ134 a2 = 20 ∧ zwI 150 0 [some (.ref a2)] [] σ134 (fun v138 σ137 => ((v135 = v138 → zwI 211 970 [some (.ref a0), some (.ref a1), some (.ref a2), some (.ref a3), some (.int x4), none, none] [] σ137 K) ∧ (¬ v135 = v138 → K 0 σ137))))) ∧ (¬ ((zI σ a0 (Int32.toNatClampNeg x4)) &&& 31) = 11 → ((((zI σ a0 (Int32.toNatClampNeg x4)) &&& 31) = 12 → zx_in (x4 + 1) (zN σ a0) = true ∧ zx_in (x4 + 2) (zN σ a0) = true ∧ zK σ a3 = 2 ∧ zK σ a1 = 19 ∧ 1 ≤ zN σ a3 ∧ zw 131 0 [some (.ref a1), some (.int (zI σ a0 (Int32.toNatClampNeg (x4 + 1)))), some (.int (zI σ a0 (Int32.toNatClampNeg (x4 + 2))))] [] σ (fun r145 σ146 => (∃ v147 : Int32, r145 = some (.int v147) ∧ ∀ σ149 : zx_S, σ149 = zx_pJ σ146 a3 0 (Int32.toInt64 v147) → zK σ149 a0 = 4 ∧ zx_in (x4 + 1) (zN σ149 a0) = true ∧ zx_in (x4 + 2) (zN σ149 a0) = true ∧ zK σ149 a2 = 20 ∧ zwI 193 0 [some (.ref a2), some (.int (zI σ149 a0 (Int32.toNatClampNeg (x4 + 1)))), some (.int (zI σ149 a0 (Int32.toNatClampNeg (x4 + 2))))] [] σ149 (fun v156 σ155 => zK σ155 a2 = 20 ∧ zwI 207 0 [some (.ref a2)] [] σ155 (fun v159 σ158 => ((v159 = (0 : Int32) → ((¬ (0 : Int32) = (0 : Int32) → zwI 211 633 [some (.ref a0), some (.ref a1), some (.ref a2), some (.ref a3), some (.int x4), none, none] [] σ158 K) ∧ ((0 : Int32) = (0 : Int32) → zK σ158 a3 = 2 ∧ zx_in 0 (zN σ158 a3) = true ∧ (((lg_cmp (zJ σ158 a3 (Int32.toNatClampNeg 0)) (Int32.toInt64 v156)) = (0 : Int32) → zwI 211 633 [some (.ref a0), some (.ref a1), some (.ref a2), some (.ref a3), some (.int x4), none, none] [] σ158 K) ∧ (¬ (lg_cmp (zJ σ158 a3 (Int32.toNatClampNeg 0)) (Int32.toInt64 v156)) = (0 : Int32) → K 0 σ158))))) ∧ (¬ v159 = (0 : Int32) → K 0 σ158))))) ∨ (∃ q148 : Nat, r145 = some (.retAddr q148) ∧ zK σ146 a0 = 4 ∧ zx_in (x4 + 1) (zN σ146 a0) = true ∧ zx_in (x4 + 2) (zN σ146 a0) = true ∧ zK σ146 a2 = 20 ∧ zwI 193 0 [some (.ref a2), some (.int (zI σ146 a0 (Int32.toNatClampNeg (x4 + 1)))), some (.int (zI σ146 a0 (Int32.toNatClampNeg (x4 + 2))))] [] σ146 (fun v167 σ166 => zK σ166 a2 = 20 ∧ zwI 207 0 [some (.ref a2)] [] σ166 (fun v170 σ169 => ((v170 = (1 : Int32) → ((¬ (1 : Int32) = (0 : Int32) → zwI 211 633 [some (.ref a0), some (.ref a1), some (.ref a2), some (.ref a3), some (.int x4), none, none] [] σ169 K) ∧ ((1 : Int32) = (0 : Int32) → zK σ169 a3 = 2 ∧ zx_in 0 (zN σ169 a3) = true ∧ (((lg_cmp (zJ σ169 a3 (Int32.toNatClampNeg 0)) (Int32.toInt64 v167)) = (0 : Int32) → zwI 211 633 [some (.ref a0), some (.ref a1), some (.ref a2), some (.ref a3), some (.int x4), none, none] [] σ169 K) ∧ (¬ (lg_cmp (zJ σ169 a3 (Int32.toNatClampNeg 0)) (Int32.toInt64 v167)) = (0 : Int32) → K 0 σ169))))) ∧ (¬ v170 = (1 : Int32) → K 0 σ169))))))) ∧ (¬ ((zI σ a0 (Int32.toNatClampNeg x4)) &&& 31) = 12 → ((((zI σ a0 (Int32.toNatClampNeg x4)) &&& 31) = 13 → zx_in (x4 + 1) (zN σ a0) = true ∧ zx_in (x4 + 2) (zN σ a0) = true ∧ zK σ a1 = 19 ∧ zwI 121 0 [some (.ref a1), some (.int (zI σ a0 (Int32.toNatClampNeg (x4 + 1)))), some (.int (zI σ a0 (Int32.toNatClampNeg (x4 + 2)))), none] [] σ (fun v178 σ177 => zK σ177 a0 = 4 ∧ zx_in (x4 + 1) (zN σ177 a0) = true ∧ zx_in (x4 + 2) (zN σ177 a0) = true ∧ zK σ177 a2 = 20 ∧ zwI 159 0 [some (.ref a2), some (.int (zI σ177 a0 (Int32.toNatClampNeg (x4 + 1)))), some (.int (zI σ177 a0 (Int32.toNatClampNeg (x4 + 2))))] [] σ177 (fun v184 σ183 => ((v178 = v184 → zwI 211 970 [some (.ref a0), some (.ref a1), some (.ref a2), some (.ref a3), some (.int x4), none, none] [] σ183 K) ∧ (¬ v178 = v184 → K 0 σ183))))) ∧ (¬ ((zI σ a0 (Int32.toNatClampNeg x4)) &&& 31) = 13 → ((((zI σ a0 (Int32.toNatClampNeg x4)) &&& 31) = 14 → zx_in (x4 + 1) (zN σ a0) = true ∧ zx_in (x4 + 2) (zN σ a0) = true ∧ zK σ a1 = 19 ∧ zwI 135 0 [some (.ref a1), some (.int (zI σ a0 (Int32.toNatClampNeg (x4 + 1)))), some (.int (zI σ a0 (Int32.toNatClampNeg (x4 + 2))))] [] σ (fun v190 σ189 => zK σ189 a0 = 4 ∧ zx_in (x4 + 1) (zN σ189 a0) = true ∧ zx_in (x4 + 2) (zN σ189 a0) = true ∧ zK σ189 a2 = 20 ∧ zwI 199 0 [some (.ref a2), some (.int (zI σ189 a0 (Int32.toNatClampNeg (x4 + 1)))), some (.int (zI σ189 a0 (Int32.toNatClampNeg (x4 + 2)))), none, none] [] σ189 (fun v196 σ195 => ((v190 = v196 → zwI 211 970 [some (.ref a0), some (.ref a1), some (.ref a2), some (.ref a3), some (.int x4), none, none] [] σ195 K) ∧ (¬ v190 = v196 → K 0 σ195))))) ∧ (¬ ((zI σ a0 (Int32.toNatClampNeg x4)) &&& 31) = 14 → ((((zI σ a0 (Int32.toNatClampNeg x4)) &&& 31) = 15 → zx_in (x4 + 1) (zN σ a0) = true ∧ zx_in (x4 + 2) (zN σ a0) = true ∧ zx_in (x4 + 3) (zN σ a0) = true ∧ zK σ a1 = 19 ∧ zwI 130 0 [some (.ref a1), some (.int (zI σ a0 (Int32.toNatClampNeg (x4 + 1)))), some (.int (zI σ a0 (Int32.toNatClampNeg (x4 + 2)))), some (.int (zI σ a0 (Int32.toNatClampNeg (x4 + 3)))), none] [] σ (fun v203 σ202 => zK σ202 a0 = 4 ∧ zx_in (x4 + 1) (zN σ202 a0) = true ∧ zx_in (x4 + 2) (zN σ202 a0) = true ∧ zx_in (x4 + 3) (zN σ202 a0) = true ∧ zK σ202 a2 = 20 ∧ zwI 188 0 [some (.ref a2), some (.int (zI σ202 a0 (Int32.toNatClampNeg (x4 + 1)))), some (.int (zI σ202 a0 (Int32.toNatClampNeg (x4 + 2)))), some (.int (zI σ202 a0 (Int32.toNatClampNeg (x4 + 3))))] [] σ202 (fun v210 σ209 => ((v203 = v210 → zwI 211 970 [some (.ref a0), some (.ref a1), some (.ref a2), some (.ref a3), some (.int x4), none, none] [] σ209 K) ∧ (¬ v203 = v210 → K 0 σ209))))) ∧ (¬ ((zI σ a0 (Int32.toNatClampNeg x4)) &&& 31) = 15 → ((((zI σ a0 (Int32.toNatClampNeg x4)) &&& 31) = 16 → zx_in (x4 + 1) (zN σ a0) = true ∧ zK σ a1 = 19 ∧ zwI 132 0 [some (.ref a1), some (.int (zI σ a0 (Int32.toNatClampNeg (x4 + 1))))] [] σ (fun v215 σ214 => zK σ214 a0 = 4 ∧ zx_in (x4 + 1) (zN σ214 a0) = true ∧ zK σ214 a2 = 20 ∧ zwI 194 0 [some (.ref a2), some (.int (zI σ214 a0 (Int32.toNatClampNeg (x4 + 1))))] [] σ214 (fun v220 σ219 => ((v215 = v220 → zwI 211 970 [some (.ref a0), some (.ref a1), some (.ref a2), some (.ref a3), some (.int x4), none, none] [] σ219 K) ∧ (¬ v215 = v220 → K 0 σ219))))) ∧ (¬ ((zI σ a0 (Int32.toNatClampNeg x4)) &&& 31) = 16 → ((((zI σ a0 (Int32.toNatClampNeg x4)) &&& 31) = 17 → zK σ a1 = 19 ∧ zwI 109 0 [some (.ref a1)] [] σ (fun v224 σ223 => zK σ223 a2 = 20 ∧ zwI 141 0 [some (.ref a2), none] [] σ223 (fun v227 σ226 => ((v224 = v227 → zwI 211 970 [some (.ref a0), some (.ref a1), some (.ref a2), some (.ref a3), some (.int x4), none, none] [] σ226 K) ∧ (¬ v224 = v227 → K 0 σ226))))) ∧ (¬ ((zI σ a0 (Int32.toNatClampNeg x4)) &&& 31) = 17 → ((((zI σ a0 (Int32.toNatClampNeg x4)) &&& 31) = 18 → zx_in (x4 + 1) (zN σ a0) = true ∧ zx_in (x4 + 2) (zN σ a0) = true ∧ zK σ a1 = 19 ∧ zwI 129 0 [some (.ref a1), some (.int (zI σ a0 (Int32.toNatClampNeg (x4 + 1)))), some (.int (zI σ a0 (Int32.toNatClampNeg (x4 + 2))))] [] σ (fun v233 σ232 => zK σ232 a0 = 4 ∧ zx_in (x4 + 1) (zN σ232 a0) = true ∧ zx_in (x4 + 2) (zN σ232 a0) = true ∧ zK σ232 a2 = 20 ∧ zwI 179 0 [some (.ref a2), some (.int (zI σ232 a0 (Int32.toNatClampNeg (x4 + 1)))), some (.int (zI σ232 a0 (Int32.toNatClampNeg (x4 + 2)))), none, none, none, none] [] σ232 (fun v239 σ238 => ((v233 = v239 → zwI 211 970 [some (.ref a0), some (.ref a1), some (.ref a2), some (.ref a3), some (.int x4), none, none] [] σ238 K) ∧ (¬ v233 = v239 → K 0 σ238))))) ∧ (¬ ((zI σ a0 (Int32.toNatClampNeg x4)) &&& 31) = 18 → ((((zI σ a0 (Int32.toNatClampNeg x4)) &&& 31) = 19 → zx_in (x4 + 1) (zN σ a0) = true ∧ zx_in (x4 + 2) (zN σ a0) = true ∧ zK σ a1 = 19 ∧ zwI 127 0 [some (.ref a1), some (.int (zI σ a0 (Int32.toNatClampNeg (x4 + 1)))), some (.int (zI σ a0 (Int32.toNatClampNeg (x4 + 2))))] [] σ (fun v245 σ244 => zK σ244 a0 = 4 ∧ zx_in (x4 + 1) (zN σ244 a0) = true ∧ zx_in (x4 + 2) (zN σ244 a0) = true ∧ zK σ244 a2 = 20 ∧ zwI 177 0 [some (.ref a2), some (.int (zI σ244 a0 (Int32.toNatClampNeg (x4 + 1)))), some (.int (zI σ244 a0 (Int32.toNatClampNeg (x4 + 2)))), none, none] [] σ244 (fun v251 σ250 => ((v245 = v251 → zwI 211 970 [some (.ref a0), some (.ref a1), some (.ref a2), some (.ref a3), some (.int x4), none, none] [] σ250 K) ∧ (¬ v245 = v251 → K 0 σ250))))) ∧ (¬ ((zI σ a0 (Int32.toNatClampNeg x4)) &&& 31) = 19 → ((((zI σ a0 (Int32.toNatClampNeg x4)) &&& 31) = 20 → zx_in (x4 + 1) (zN σ a0) = true ∧ zx_in (x4 + 2) (zN σ a0) = true ∧ zK σ a1 = 19 ∧ zwI 136 0 [some (.ref a1), some (.int (zI σ a0 (Int32.toNatClampNeg (x4 + 1)))), some (.int (zI σ a0 (Int32.toNatClampNeg (x4 + 2))))] [] σ (fun v257 σ256 => zK σ256 a0 = 4 ∧ zx_in (x4 + 1) (zN σ256 a0) = true ∧ zx_in (x4 + 2) (zN σ256 a0) = true ∧ zK σ256 a2 = 20 ∧ zwI 209 0 [some (.ref a2), some (.int (zI σ256 a0 (Int32.toNatClampNeg (x4 + 1)))), some (.int (zI σ256 a0 (Int32.toNatClampNeg (x4 + 2)))), none, none] [] σ256 (fun v263 σ262 => ((v257 = v263 → zwI 211 970 [some (.ref a0), some (.ref a1), some (.ref a2), some (.ref a3), some (.int x4), none, none] [] σ262 K) ∧ (¬ v257 = v263 → K 0 σ262))))) ∧ (¬ ((zI σ a0 (Int32.toNatClampNeg x4)) &&& 31) = 20 → ((((zI σ a0 (Int32.toNatClampNeg x4)) &&& 31) = 21 → zx_in (x4 + 1) (zN σ a0) = true ∧ zx_in (x4 + 2) (zN σ a0) = true ∧ zK σ a1 = 19 ∧ zwI 134 0 [some (.ref a1), some (.int (zI σ a0 (Int32.toNatClampNeg (x4 + 1)))), some (.int (zI σ a0 (Int32.toNatClampNeg (x4 + 2))))] [] σ (fun v269 σ268 => zK σ268 a0 = 4 ∧ zx_in (x4 + 1) (zN σ268 a0) = true ∧ zx_in (x4 + 2) (zN σ268 a0) = true ∧ zK σ268 a2 = 20 ∧ zwI 198 0 [some (.ref a2), some (.int (zI σ268 a0 (Int32.toNatClampNeg (x4 + 1)))), some (.int (zI σ268 a0 (Int32.toNatClampNeg (x4 + 2)))), none, none, none, none, none, none, none] [] σ268 (fun v275 σ274 => ((v269 = v275 → zwI 211 970 [some (.ref a0), some (.ref a1), some (.ref a2), some (.ref a3), some (.int x4), none, none] [] σ274 K) ∧ (¬ v269 = v275 → K 0 σ274))))) ∧ (¬ ((zI σ a0 (Int32.toNatClampNeg x4)) &&& 31) = 21 → ((((zI σ a0 (Int32.toNatClampNeg x4)) &&& 31) = 22 → zx_in (x4 + 1) (zN σ a0) = true ∧ zK σ a1 = 19 ∧ zwI 112 0 [some (.ref a1), some (.int (zI σ a0 (Int32.toNatClampNeg (x4 + 1))))] [] σ (fun v280 σ279 => zK σ279 a0 = 4 ∧ zx_in (x4 + 1) (zN σ279 a0) = true ∧ zK σ279 a2 = 20 ∧ zwI 148 0 [some (.ref a2), some (.int (zI σ279 a0 (Int32.toNatClampNeg (x4 + 1))))] [] σ279 (fun v285 σ284 => ((v280 = v285 → zwI 211 970 [some (.ref a0), some (.ref a1), some (.ref a2), some (.ref a3), some (.int x4), none, none] [] σ284 K) ∧ (¬ v280 = v285 → K 0 σ284))))) ∧ (¬ ((zI σ a0 (Int32.toNatClampNeg x4)) &&& 31) = 22 → zwI 211 970 [some (.ref a0), some (.ref a1), some (.ref a2), some (.ref a3), some (.int x4), none, none] [] σ K))))))))))))))))))))))))))))))))))))))))))))))))) : zwI 211 23 [some (.ref a0), some (.ref a1), some (.ref a2), some (.ref a3), some (.int x4), none, none] [] σ K := by
  refine zw_go (pc1 := 25) (L1 := [some (.ref a0), some (.ref a1), some (.ref a2), some (.ref a3), some (.int x4), none, none]) (st1 := [.int x4]) (σ1 := σ) zM_L_law dL_law_23 rfl rfl rfl rfl ?_
  refine zw_go (pc1 := 26) (L1 := [some (.ref a0), some (.ref a1), some (.ref a2), some (.ref a3), some (.int x4), none, none]) (st1 := [.ref a0, .int x4]) (σ1 := σ) zM_L_law dL_law_25 rfl rfl rfl rfl ?_
  obtain ⟨hk1, h⟩ := h
  refine zw_alen zM_L_law dL_law_26 (Or.inr hk1) ?_
  refine zw_bipush (v := 6) zM_L_law dL_law_27 (by decide) ?_
  refine zw_go (pc1 := 30) (L1 := [some (.ref a0), some (.ref a1), some (.ref a2), some (.ref a3), some (.int x4), none, none]) (st1 := [.int ((Int32.ofNat (zN σ a0)) - 6), .int x4]) (σ1 := σ) zM_L_law dL_law_29 rfl rfl rfl rfl ?_
  refine zw_icmp_gt (tgt := 976) zM_L_law dL_law_30 rfl rfl (fun q => ?_) (fun q => ?_)
  · replace h := h.1 q
    refine zw_iconst (v := 1) zM_L_law dL_law_976 (by decide) ?_
    exact zw_retz zM_L_law dL_law_977 rfl (by decide) h
  · replace h := h.2 q
    refine zw_go (pc1 := 34) (L1 := [some (.ref a0), some (.ref a1), some (.ref a2), some (.ref a3), some (.int x4), none, none]) (st1 := [.ref a0]) (σ1 := σ) zM_L_law dL_law_33 rfl rfl rfl rfl ?_
    refine zw_go (pc1 := 36) (L1 := [some (.ref a0), some (.ref a1), some (.ref a2), some (.ref a3), some (.int x4), none, none]) (st1 := [.int x4, .ref a0]) (σ1 := σ) zM_L_law dL_law_34 rfl rfl rfl rfl ?_
    obtain ⟨hi2, h⟩ := h
    refine zw_iald zM_L_law dL_law_36 ⟨Or.inr hk1, hi2⟩ ?_
    refine zw_bipush (v := 31) zM_L_law dL_law_37 (by decide) ?_
    refine zw_go (pc1 := 40) (L1 := [some (.ref a0), some (.ref a1), some (.ref a2), some (.ref a3), some (.int x4), none, none]) (st1 := [.int ((zI σ a0 (Int32.toNatClampNeg x4)) &&& 31)]) (σ1 := σ) zM_L_law dL_law_39 rfl rfl rfl rfl ?_
    by_cases hs14 : ((zI σ a0 (Int32.toNatClampNeg x4)) &&& 31) = 0
    · replace h := h.1 hs14
      refine zw_sw (tgt := 148) zM_L_law dL_law_40 (zx_sw_in hs14 rfl) rfl ?_
      refine zw_go (pc1 := 149) (L1 := [some (.ref a0), some (.ref a1), some (.ref a2), some (.ref a3), some (.int x4), none, none]) (st1 := [.ref a1]) (σ1 := σ) zM_L_law dL_law_148 rfl rfl rfl rfl ?_
      refine zw_go (pc1 := 150) (L1 := [some (.ref a0), some (.ref a1), some (.ref a2), some (.ref a3), some (.int x4), none, none]) (st1 := [.ref a0, .ref a1]) (σ1 := σ) zM_L_law dL_law_149 rfl rfl rfl rfl ?_
      refine zw_go (pc1 := 152) (L1 := [some (.ref a0), some (.ref a1), some (.ref a2), some (.ref a3), some (.int x4), none, none]) (st1 := [.int x4, .ref a0, .ref a1]) (σ1 := σ) zM_L_law dL_law_150 rfl rfl rfl rfl ?_
      refine zw_iconst (v := 1) zM_L_law dL_law_152 (by decide) ?_
      refine zw_go (pc1 := 154) (L1 := [some (.ref a0), some (.ref a1), some (.ref a2), some (.ref a3), some (.int x4), none, none]) (st1 := [.int (x4 + 1), .ref a0, .ref a1]) (σ1 := σ) zM_L_law dL_law_153 rfl rfl rfl rfl ?_
      obtain ⟨hi3, h⟩ := h
      refine zw_iald zM_L_law dL_law_154 ⟨Or.inr hk1, hi3⟩ ?_
      refine zw_go (pc1 := 156) (L1 := [some (.ref a0), some (.ref a1), some (.ref a2), some (.ref a3), some (.int x4), none, none]) (st1 := [.ref a0, .int (zI σ a0 (Int32.toNatClampNeg (x4 + 1))), .ref a1]) (σ1 := σ) zM_L_law dL_law_155 rfl rfl rfl rfl ?_
      refine zw_go (pc1 := 158) (L1 := [some (.ref a0), some (.ref a1), some (.ref a2), some (.ref a3), some (.int x4), none, none]) (st1 := [.int x4, .ref a0, .int (zI σ a0 (Int32.toNatClampNeg (x4 + 1))), .ref a1]) (σ1 := σ) zM_L_law dL_law_156 rfl rfl rfl rfl ?_
      refine zw_iconst (v := 2) zM_L_law dL_law_158 (by decide) ?_
      refine zw_go (pc1 := 160) (L1 := [some (.ref a0), some (.ref a1), some (.ref a2), some (.ref a3), some (.int x4), none, none]) (st1 := [.int (x4 + 2), .ref a0, .int (zI σ a0 (Int32.toNatClampNeg (x4 + 1))), .ref a1]) (σ1 := σ) zM_L_law dL_law_159 rfl rfl rfl rfl ?_
      obtain ⟨hi4, h⟩ := h
      refine zw_iald zM_L_law dL_law_160 ⟨Or.inr hk1, hi4⟩ ?_
      obtain ⟨hk5, h⟩ := h
      refine zw_callI (as := [.ref a1, .int (zI σ a0 (Int32.toNatClampNeg (x4 + 1))), .int (zI σ a0 (Int32.toNatClampNeg (x4 + 2)))]) (rest := []) zM_L_law dL_law_161 (zx_calV zC_8_19) zM_X6_folder rfl rfl rfl rfl rfl (zx_args0 hk5 rfl) rfl h (fun v7 σ6 h => ?_)
      refine zw_go (pc1 := 165) (L1 := [some (.ref a0), some (.ref a1), some (.ref a2), some (.ref a3), some (.int x4), none, none]) (st1 := [.ref a2, .int v7]) (σ1 := σ6) zM_L_law dL_law_164 rfl rfl rfl rfl ?_
      refine zw_go (pc1 := 166) (L1 := [some (.ref a0), some (.ref a1), some (.ref a2), some (.ref a3), some (.int x4), none, none]) (st1 := [.ref a0, .ref a2, .int v7]) (σ1 := σ6) zM_L_law dL_law_165 rfl rfl rfl rfl ?_
      refine zw_go (pc1 := 168) (L1 := [some (.ref a0), some (.ref a1), some (.ref a2), some (.ref a3), some (.int x4), none, none]) (st1 := [.int x4, .ref a0, .ref a2, .int v7]) (σ1 := σ6) zM_L_law dL_law_166 rfl rfl rfl rfl ?_
      refine zw_iconst (v := 1) zM_L_law dL_law_168 (by decide) ?_
      refine zw_go (pc1 := 170) (L1 := [some (.ref a0), some (.ref a1), some (.ref a2), some (.ref a3), some (.int x4), none, none]) (st1 := [.int (x4 + 1), .ref a0, .ref a2, .int v7]) (σ1 := σ6) zM_L_law dL_law_169 rfl rfl rfl rfl ?_
      obtain ⟨hk8, h⟩ := h
      obtain ⟨hi9, h⟩ := h
      refine zw_iald zM_L_law dL_law_170 ⟨Or.inr hk8, hi9⟩ ?_
      refine zw_go (pc1 := 172) (L1 := [some (.ref a0), some (.ref a1), some (.ref a2), some (.ref a3), some (.int x4), none, none]) (st1 := [.ref a0, .int (zI σ6 a0 (Int32.toNatClampNeg (x4 + 1))), .ref a2, .int v7]) (σ1 := σ6) zM_L_law dL_law_171 rfl rfl rfl rfl ?_
      refine zw_go (pc1 := 174) (L1 := [some (.ref a0), some (.ref a1), some (.ref a2), some (.ref a3), some (.int x4), none, none]) (st1 := [.int x4, .ref a0, .int (zI σ6 a0 (Int32.toNatClampNeg (x4 + 1))), .ref a2, .int v7]) (σ1 := σ6) zM_L_law dL_law_172 rfl rfl rfl rfl ?_
      refine zw_iconst (v := 2) zM_L_law dL_law_174 (by decide) ?_
      refine zw_go (pc1 := 176) (L1 := [some (.ref a0), some (.ref a1), some (.ref a2), some (.ref a3), some (.int x4), none, none]) (st1 := [.int (x4 + 2), .ref a0, .int (zI σ6 a0 (Int32.toNatClampNeg (x4 + 1))), .ref a2, .int v7]) (σ1 := σ6) zM_L_law dL_law_175 rfl rfl rfl rfl ?_
      obtain ⟨hi10, h⟩ := h
      refine zw_iald zM_L_law dL_law_176 ⟨Or.inr hk8, hi10⟩ ?_
      obtain ⟨hk11, h⟩ := h
      refine zw_callI (as := [.ref a2, .int (zI σ6 a0 (Int32.toNatClampNeg (x4 + 1))), .int (zI σ6 a0 (Int32.toNatClampNeg (x4 + 2)))]) (rest := [.int v7]) zM_L_law dL_law_177 (zx_calV zC_8_22) zM_X7_folder rfl rfl rfl rfl rfl (zx_args0 hk11 rfl) rfl h (fun v13 σ12 h => ?_)
      refine zw_icmp_eq (tgt := 970) zM_L_law dL_law_180 rfl rfl (fun q => ?_) (fun q => ?_)
      · replace h := h.1 q
        exact zw_weak2 h ⟨rfl, rfl, rfl, rfl, rfl, trivial⟩
      · replace h := h.2 q
        refine zw_iconst (v := 0) zM_L_law dL_law_183 (by decide) ?_
        exact zw_retz zM_L_law dL_law_184 rfl (by decide) h
    · replace h := h.2 hs14
      by_cases hs26 : ((zI σ a0 (Int32.toNatClampNeg x4)) &&& 31) = 1
      · replace h := h.1 hs26
        refine zw_sw (tgt := 185) zM_L_law dL_law_40 (zx_sw_in hs26 rfl) rfl ?_
        refine zw_go (pc1 := 186) (L1 := [some (.ref a0), some (.ref a1), some (.ref a2), some (.ref a3), some (.int x4), none, none]) (st1 := [.ref a1]) (σ1 := σ) zM_L_law dL_law_185 rfl rfl rfl rfl ?_
        refine zw_go (pc1 := 187) (L1 := [some (.ref a0), some (.ref a1), some (.ref a2), some (.ref a3), some (.int x4), none, none]) (st1 := [.ref a0, .ref a1]) (σ1 := σ) zM_L_law dL_law_186 rfl rfl rfl rfl ?_
        refine zw_go (pc1 := 189) (L1 := [some (.ref a0), some (.ref a1), some (.ref a2), some (.ref a3), some (.int x4), none, none]) (st1 := [.int x4, .ref a0, .ref a1]) (σ1 := σ) zM_L_law dL_law_187 rfl rfl rfl rfl ?_
        refine zw_iconst (v := 1) zM_L_law dL_law_189 (by decide) ?_
        refine zw_go (pc1 := 191) (L1 := [some (.ref a0), some (.ref a1), some (.ref a2), some (.ref a3), some (.int x4), none, none]) (st1 := [.int (x4 + 1), .ref a0, .ref a1]) (σ1 := σ) zM_L_law dL_law_190 rfl rfl rfl rfl ?_
        obtain ⟨hi15, h⟩ := h
        refine zw_iald zM_L_law dL_law_191 ⟨Or.inr hk1, hi15⟩ ?_
        refine zw_go (pc1 := 193) (L1 := [some (.ref a0), some (.ref a1), some (.ref a2), some (.ref a3), some (.int x4), none, none]) (st1 := [.ref a0, .int (zI σ a0 (Int32.toNatClampNeg (x4 + 1))), .ref a1]) (σ1 := σ) zM_L_law dL_law_192 rfl rfl rfl rfl ?_
        refine zw_go (pc1 := 195) (L1 := [some (.ref a0), some (.ref a1), some (.ref a2), some (.ref a3), some (.int x4), none, none]) (st1 := [.int x4, .ref a0, .int (zI σ a0 (Int32.toNatClampNeg (x4 + 1))), .ref a1]) (σ1 := σ) zM_L_law dL_law_193 rfl rfl rfl rfl ?_
        refine zw_iconst (v := 2) zM_L_law dL_law_195 (by decide) ?_
        refine zw_go (pc1 := 197) (L1 := [some (.ref a0), some (.ref a1), some (.ref a2), some (.ref a3), some (.int x4), none, none]) (st1 := [.int (x4 + 2), .ref a0, .int (zI σ a0 (Int32.toNatClampNeg (x4 + 1))), .ref a1]) (σ1 := σ) zM_L_law dL_law_196 rfl rfl rfl rfl ?_
        obtain ⟨hi16, h⟩ := h
        refine zw_iald zM_L_law dL_law_197 ⟨Or.inr hk1, hi16⟩ ?_
        obtain ⟨hk17, h⟩ := h
        refine zw_callI (as := [.ref a1, .int (zI σ a0 (Int32.toNatClampNeg (x4 + 1))), .int (zI σ a0 (Int32.toNatClampNeg (x4 + 2)))]) (rest := []) zM_L_law dL_law_198 (zx_calV zC_8_23) zM_X6_file rfl rfl rfl rfl rfl (zx_args0 hk17 rfl) rfl h (fun v19 σ18 h => ?_)
        refine zw_go (pc1 := 202) (L1 := [some (.ref a0), some (.ref a1), some (.ref a2), some (.ref a3), some (.int x4), none, none]) (st1 := [.ref a2, .int v19]) (σ1 := σ18) zM_L_law dL_law_201 rfl rfl rfl rfl ?_
        refine zw_go (pc1 := 203) (L1 := [some (.ref a0), some (.ref a1), some (.ref a2), some (.ref a3), some (.int x4), none, none]) (st1 := [.ref a0, .ref a2, .int v19]) (σ1 := σ18) zM_L_law dL_law_202 rfl rfl rfl rfl ?_
        refine zw_go (pc1 := 205) (L1 := [some (.ref a0), some (.ref a1), some (.ref a2), some (.ref a3), some (.int x4), none, none]) (st1 := [.int x4, .ref a0, .ref a2, .int v19]) (σ1 := σ18) zM_L_law dL_law_203 rfl rfl rfl rfl ?_
        refine zw_iconst (v := 1) zM_L_law dL_law_205 (by decide) ?_
        refine zw_go (pc1 := 207) (L1 := [some (.ref a0), some (.ref a1), some (.ref a2), some (.ref a3), some (.int x4), none, none]) (st1 := [.int (x4 + 1), .ref a0, .ref a2, .int v19]) (σ1 := σ18) zM_L_law dL_law_206 rfl rfl rfl rfl ?_
        obtain ⟨hk20, h⟩ := h
        obtain ⟨hi21, h⟩ := h
        refine zw_iald zM_L_law dL_law_207 ⟨Or.inr hk20, hi21⟩ ?_
        refine zw_go (pc1 := 209) (L1 := [some (.ref a0), some (.ref a1), some (.ref a2), some (.ref a3), some (.int x4), none, none]) (st1 := [.ref a0, .int (zI σ18 a0 (Int32.toNatClampNeg (x4 + 1))), .ref a2, .int v19]) (σ1 := σ18) zM_L_law dL_law_208 rfl rfl rfl rfl ?_
        refine zw_go (pc1 := 211) (L1 := [some (.ref a0), some (.ref a1), some (.ref a2), some (.ref a3), some (.int x4), none, none]) (st1 := [.int x4, .ref a0, .int (zI σ18 a0 (Int32.toNatClampNeg (x4 + 1))), .ref a2, .int v19]) (σ1 := σ18) zM_L_law dL_law_209 rfl rfl rfl rfl ?_
        refine zw_iconst (v := 2) zM_L_law dL_law_211 (by decide) ?_
        refine zw_go (pc1 := 213) (L1 := [some (.ref a0), some (.ref a1), some (.ref a2), some (.ref a3), some (.int x4), none, none]) (st1 := [.int (x4 + 2), .ref a0, .int (zI σ18 a0 (Int32.toNatClampNeg (x4 + 1))), .ref a2, .int v19]) (σ1 := σ18) zM_L_law dL_law_212 rfl rfl rfl rfl ?_
        obtain ⟨hi22, h⟩ := h
        refine zw_iald zM_L_law dL_law_213 ⟨Or.inr hk20, hi22⟩ ?_
        obtain ⟨hk23, h⟩ := h
        refine zw_callI (as := [.ref a2, .int (zI σ18 a0 (Int32.toNatClampNeg (x4 + 1))), .int (zI σ18 a0 (Int32.toNatClampNeg (x4 + 2)))]) (rest := [.int v19]) zM_L_law dL_law_214 (zx_calV zC_8_26) zM_X7_file rfl rfl rfl rfl rfl (zx_args0 hk23 rfl) rfl h (fun v25 σ24 h => ?_)
        refine zw_icmp_eq (tgt := 970) zM_L_law dL_law_217 rfl rfl (fun q => ?_) (fun q => ?_)
        · replace h := h.1 q
          exact zw_weak2 h ⟨rfl, rfl, rfl, rfl, rfl, trivial⟩
        · replace h := h.2 q
          refine zw_iconst (v := 0) zM_L_law dL_law_220 (by decide) ?_
          exact zw_retz zM_L_law dL_law_221 rfl (by decide) h
      · replace h := h.2 hs26
        by_cases hs38 : ((zI σ a0 (Int32.toNatClampNeg x4)) &&& 31) = 2
        · replace h := h.1 hs38
          refine zw_sw (tgt := 222) zM_L_law dL_law_40 (zx_sw_in hs38 rfl) rfl ?_
          refine zw_go (pc1 := 223) (L1 := [some (.ref a0), some (.ref a1), some (.ref a2), some (.ref a3), some (.int x4), none, none]) (st1 := [.ref a1]) (σ1 := σ) zM_L_law dL_law_222 rfl rfl rfl rfl ?_
          refine zw_go (pc1 := 224) (L1 := [some (.ref a0), some (.ref a1), some (.ref a2), some (.ref a3), some (.int x4), none, none]) (st1 := [.ref a0, .ref a1]) (σ1 := σ) zM_L_law dL_law_223 rfl rfl rfl rfl ?_
          refine zw_go (pc1 := 226) (L1 := [some (.ref a0), some (.ref a1), some (.ref a2), some (.ref a3), some (.int x4), none, none]) (st1 := [.int x4, .ref a0, .ref a1]) (σ1 := σ) zM_L_law dL_law_224 rfl rfl rfl rfl ?_
          refine zw_iconst (v := 1) zM_L_law dL_law_226 (by decide) ?_
          refine zw_go (pc1 := 228) (L1 := [some (.ref a0), some (.ref a1), some (.ref a2), some (.ref a3), some (.int x4), none, none]) (st1 := [.int (x4 + 1), .ref a0, .ref a1]) (σ1 := σ) zM_L_law dL_law_227 rfl rfl rfl rfl ?_
          obtain ⟨hi27, h⟩ := h
          refine zw_iald zM_L_law dL_law_228 ⟨Or.inr hk1, hi27⟩ ?_
          refine zw_go (pc1 := 230) (L1 := [some (.ref a0), some (.ref a1), some (.ref a2), some (.ref a3), some (.int x4), none, none]) (st1 := [.ref a0, .int (zI σ a0 (Int32.toNatClampNeg (x4 + 1))), .ref a1]) (σ1 := σ) zM_L_law dL_law_229 rfl rfl rfl rfl ?_
          refine zw_go (pc1 := 232) (L1 := [some (.ref a0), some (.ref a1), some (.ref a2), some (.ref a3), some (.int x4), none, none]) (st1 := [.int x4, .ref a0, .int (zI σ a0 (Int32.toNatClampNeg (x4 + 1))), .ref a1]) (σ1 := σ) zM_L_law dL_law_230 rfl rfl rfl rfl ?_
          refine zw_iconst (v := 2) zM_L_law dL_law_232 (by decide) ?_
          refine zw_go (pc1 := 234) (L1 := [some (.ref a0), some (.ref a1), some (.ref a2), some (.ref a3), some (.int x4), none, none]) (st1 := [.int (x4 + 2), .ref a0, .int (zI σ a0 (Int32.toNatClampNeg (x4 + 1))), .ref a1]) (σ1 := σ) zM_L_law dL_law_233 rfl rfl rfl rfl ?_
          obtain ⟨hi28, h⟩ := h
          refine zw_iald zM_L_law dL_law_234 ⟨Or.inr hk1, hi28⟩ ?_
          obtain ⟨hk29, h⟩ := h
          refine zw_callI (as := [.ref a1, .int (zI σ a0 (Int32.toNatClampNeg (x4 + 1))), .int (zI σ a0 (Int32.toNatClampNeg (x4 + 2)))]) (rest := []) zM_L_law dL_law_235 (zx_calV zC_8_27) zM_X6_hide rfl rfl rfl rfl rfl (zx_args0 hk29 rfl) rfl h (fun v31 σ30 h => ?_)
          refine zw_go (pc1 := 239) (L1 := [some (.ref a0), some (.ref a1), some (.ref a2), some (.ref a3), some (.int x4), none, none]) (st1 := [.ref a2, .int v31]) (σ1 := σ30) zM_L_law dL_law_238 rfl rfl rfl rfl ?_
          refine zw_go (pc1 := 240) (L1 := [some (.ref a0), some (.ref a1), some (.ref a2), some (.ref a3), some (.int x4), none, none]) (st1 := [.ref a0, .ref a2, .int v31]) (σ1 := σ30) zM_L_law dL_law_239 rfl rfl rfl rfl ?_
          refine zw_go (pc1 := 242) (L1 := [some (.ref a0), some (.ref a1), some (.ref a2), some (.ref a3), some (.int x4), none, none]) (st1 := [.int x4, .ref a0, .ref a2, .int v31]) (σ1 := σ30) zM_L_law dL_law_240 rfl rfl rfl rfl ?_
          refine zw_iconst (v := 1) zM_L_law dL_law_242 (by decide) ?_
          refine zw_go (pc1 := 244) (L1 := [some (.ref a0), some (.ref a1), some (.ref a2), some (.ref a3), some (.int x4), none, none]) (st1 := [.int (x4 + 1), .ref a0, .ref a2, .int v31]) (σ1 := σ30) zM_L_law dL_law_243 rfl rfl rfl rfl ?_
          obtain ⟨hk32, h⟩ := h
          obtain ⟨hi33, h⟩ := h
          refine zw_iald zM_L_law dL_law_244 ⟨Or.inr hk32, hi33⟩ ?_
          refine zw_go (pc1 := 246) (L1 := [some (.ref a0), some (.ref a1), some (.ref a2), some (.ref a3), some (.int x4), none, none]) (st1 := [.ref a0, .int (zI σ30 a0 (Int32.toNatClampNeg (x4 + 1))), .ref a2, .int v31]) (σ1 := σ30) zM_L_law dL_law_245 rfl rfl rfl rfl ?_
          refine zw_go (pc1 := 248) (L1 := [some (.ref a0), some (.ref a1), some (.ref a2), some (.ref a3), some (.int x4), none, none]) (st1 := [.int x4, .ref a0, .int (zI σ30 a0 (Int32.toNatClampNeg (x4 + 1))), .ref a2, .int v31]) (σ1 := σ30) zM_L_law dL_law_246 rfl rfl rfl rfl ?_
          refine zw_iconst (v := 2) zM_L_law dL_law_248 (by decide) ?_
          refine zw_go (pc1 := 250) (L1 := [some (.ref a0), some (.ref a1), some (.ref a2), some (.ref a3), some (.int x4), none, none]) (st1 := [.int (x4 + 2), .ref a0, .int (zI σ30 a0 (Int32.toNatClampNeg (x4 + 1))), .ref a2, .int v31]) (σ1 := σ30) zM_L_law dL_law_249 rfl rfl rfl rfl ?_
          obtain ⟨hi34, h⟩ := h
          refine zw_iald zM_L_law dL_law_250 ⟨Or.inr hk32, hi34⟩ ?_
          obtain ⟨hk35, h⟩ := h
          refine zw_callI (as := [.ref a2, .int (zI σ30 a0 (Int32.toNatClampNeg (x4 + 1))), .int (zI σ30 a0 (Int32.toNatClampNeg (x4 + 2)))]) (rest := [.int v31]) zM_L_law dL_law_251 (zx_calV zC_8_30) zM_X7_hide rfl rfl rfl rfl rfl (zx_args0 hk35 rfl) rfl h (fun v37 σ36 h => ?_)
          refine zw_icmp_eq (tgt := 970) zM_L_law dL_law_254 rfl rfl (fun q => ?_) (fun q => ?_)
          · replace h := h.1 q
            exact zw_weak2 h ⟨rfl, rfl, rfl, rfl, rfl, trivial⟩
          · replace h := h.2 q
            refine zw_iconst (v := 0) zM_L_law dL_law_257 (by decide) ?_
            exact zw_retz zM_L_law dL_law_258 rfl (by decide) h
        · replace h := h.2 hs38
          by_cases hs52 : ((zI σ a0 (Int32.toNatClampNeg x4)) &&& 31) = 3
          · replace h := h.1 hs52
            refine zw_sw (tgt := 259) zM_L_law dL_law_40 (zx_sw_in hs52 rfl) rfl ?_
            refine zw_go (pc1 := 260) (L1 := [some (.ref a0), some (.ref a1), some (.ref a2), some (.ref a3), some (.int x4), none, none]) (st1 := [.ref a1]) (σ1 := σ) zM_L_law dL_law_259 rfl rfl rfl rfl ?_
            refine zw_go (pc1 := 261) (L1 := [some (.ref a0), some (.ref a1), some (.ref a2), some (.ref a3), some (.int x4), none, none]) (st1 := [.ref a0, .ref a1]) (σ1 := σ) zM_L_law dL_law_260 rfl rfl rfl rfl ?_
            refine zw_go (pc1 := 263) (L1 := [some (.ref a0), some (.ref a1), some (.ref a2), some (.ref a3), some (.int x4), none, none]) (st1 := [.int x4, .ref a0, .ref a1]) (σ1 := σ) zM_L_law dL_law_261 rfl rfl rfl rfl ?_
            refine zw_iconst (v := 1) zM_L_law dL_law_263 (by decide) ?_
            refine zw_go (pc1 := 265) (L1 := [some (.ref a0), some (.ref a1), some (.ref a2), some (.ref a3), some (.int x4), none, none]) (st1 := [.int (x4 + 1), .ref a0, .ref a1]) (σ1 := σ) zM_L_law dL_law_264 rfl rfl rfl rfl ?_
            obtain ⟨hi39, h⟩ := h
            refine zw_iald zM_L_law dL_law_265 ⟨Or.inr hk1, hi39⟩ ?_
            refine zw_go (pc1 := 267) (L1 := [some (.ref a0), some (.ref a1), some (.ref a2), some (.ref a3), some (.int x4), none, none]) (st1 := [.ref a0, .int (zI σ a0 (Int32.toNatClampNeg (x4 + 1))), .ref a1]) (σ1 := σ) zM_L_law dL_law_266 rfl rfl rfl rfl ?_
            refine zw_go (pc1 := 269) (L1 := [some (.ref a0), some (.ref a1), some (.ref a2), some (.ref a3), some (.int x4), none, none]) (st1 := [.int x4, .ref a0, .int (zI σ a0 (Int32.toNatClampNeg (x4 + 1))), .ref a1]) (σ1 := σ) zM_L_law dL_law_267 rfl rfl rfl rfl ?_
            refine zw_iconst (v := 2) zM_L_law dL_law_269 (by decide) ?_
            refine zw_go (pc1 := 271) (L1 := [some (.ref a0), some (.ref a1), some (.ref a2), some (.ref a3), some (.int x4), none, none]) (st1 := [.int (x4 + 2), .ref a0, .int (zI σ a0 (Int32.toNatClampNeg (x4 + 1))), .ref a1]) (σ1 := σ) zM_L_law dL_law_270 rfl rfl rfl rfl ?_
            obtain ⟨hi40, h⟩ := h
            refine zw_iald zM_L_law dL_law_271 ⟨Or.inr hk1, hi40⟩ ?_
            refine zw_go (pc1 := 273) (L1 := [some (.ref a0), some (.ref a1), some (.ref a2), some (.ref a3), some (.int x4), none, none]) (st1 := [.ref a0, .int (zI σ a0 (Int32.toNatClampNeg (x4 + 2))), .int (zI σ a0 (Int32.toNatClampNeg (x4 + 1))), .ref a1]) (σ1 := σ) zM_L_law dL_law_272 rfl rfl rfl rfl ?_
            refine zw_go (pc1 := 275) (L1 := [some (.ref a0), some (.ref a1), some (.ref a2), some (.ref a3), some (.int x4), none, none]) (st1 := [.int x4, .ref a0, .int (zI σ a0 (Int32.toNatClampNeg (x4 + 2))), .int (zI σ a0 (Int32.toNatClampNeg (x4 + 1))), .ref a1]) (σ1 := σ) zM_L_law dL_law_273 rfl rfl rfl rfl ?_
            refine zw_iconst (v := 3) zM_L_law dL_law_275 (by decide) ?_
            refine zw_go (pc1 := 277) (L1 := [some (.ref a0), some (.ref a1), some (.ref a2), some (.ref a3), some (.int x4), none, none]) (st1 := [.int (x4 + 3), .ref a0, .int (zI σ a0 (Int32.toNatClampNeg (x4 + 2))), .int (zI σ a0 (Int32.toNatClampNeg (x4 + 1))), .ref a1]) (σ1 := σ) zM_L_law dL_law_276 rfl rfl rfl rfl ?_
            obtain ⟨hi41, h⟩ := h
            refine zw_iald zM_L_law dL_law_277 ⟨Or.inr hk1, hi41⟩ ?_
            obtain ⟨hk42, h⟩ := h
            refine zw_callI (as := [.ref a1, .int (zI σ a0 (Int32.toNatClampNeg (x4 + 1))), .int (zI σ a0 (Int32.toNatClampNeg (x4 + 2))), .int (zI σ a0 (Int32.toNatClampNeg (x4 + 3)))]) (rest := []) zM_L_law dL_law_278 (zx_calV zC_8_31) zM_X6_link rfl rfl rfl rfl rfl (zx_args0 hk42 rfl) rfl h (fun v44 σ43 h => ?_)
            refine zw_go (pc1 := 282) (L1 := [some (.ref a0), some (.ref a1), some (.ref a2), some (.ref a3), some (.int x4), none, none]) (st1 := [.ref a2, .int v44]) (σ1 := σ43) zM_L_law dL_law_281 rfl rfl rfl rfl ?_
            refine zw_go (pc1 := 283) (L1 := [some (.ref a0), some (.ref a1), some (.ref a2), some (.ref a3), some (.int x4), none, none]) (st1 := [.ref a0, .ref a2, .int v44]) (σ1 := σ43) zM_L_law dL_law_282 rfl rfl rfl rfl ?_
            refine zw_go (pc1 := 285) (L1 := [some (.ref a0), some (.ref a1), some (.ref a2), some (.ref a3), some (.int x4), none, none]) (st1 := [.int x4, .ref a0, .ref a2, .int v44]) (σ1 := σ43) zM_L_law dL_law_283 rfl rfl rfl rfl ?_
            refine zw_iconst (v := 1) zM_L_law dL_law_285 (by decide) ?_
            refine zw_go (pc1 := 287) (L1 := [some (.ref a0), some (.ref a1), some (.ref a2), some (.ref a3), some (.int x4), none, none]) (st1 := [.int (x4 + 1), .ref a0, .ref a2, .int v44]) (σ1 := σ43) zM_L_law dL_law_286 rfl rfl rfl rfl ?_
            obtain ⟨hk45, h⟩ := h
            obtain ⟨hi46, h⟩ := h
            refine zw_iald zM_L_law dL_law_287 ⟨Or.inr hk45, hi46⟩ ?_
            refine zw_go (pc1 := 289) (L1 := [some (.ref a0), some (.ref a1), some (.ref a2), some (.ref a3), some (.int x4), none, none]) (st1 := [.ref a0, .int (zI σ43 a0 (Int32.toNatClampNeg (x4 + 1))), .ref a2, .int v44]) (σ1 := σ43) zM_L_law dL_law_288 rfl rfl rfl rfl ?_
            refine zw_go (pc1 := 291) (L1 := [some (.ref a0), some (.ref a1), some (.ref a2), some (.ref a3), some (.int x4), none, none]) (st1 := [.int x4, .ref a0, .int (zI σ43 a0 (Int32.toNatClampNeg (x4 + 1))), .ref a2, .int v44]) (σ1 := σ43) zM_L_law dL_law_289 rfl rfl rfl rfl ?_
            refine zw_iconst (v := 2) zM_L_law dL_law_291 (by decide) ?_
            refine zw_go (pc1 := 293) (L1 := [some (.ref a0), some (.ref a1), some (.ref a2), some (.ref a3), some (.int x4), none, none]) (st1 := [.int (x4 + 2), .ref a0, .int (zI σ43 a0 (Int32.toNatClampNeg (x4 + 1))), .ref a2, .int v44]) (σ1 := σ43) zM_L_law dL_law_292 rfl rfl rfl rfl ?_
            obtain ⟨hi47, h⟩ := h
            refine zw_iald zM_L_law dL_law_293 ⟨Or.inr hk45, hi47⟩ ?_
            refine zw_go (pc1 := 295) (L1 := [some (.ref a0), some (.ref a1), some (.ref a2), some (.ref a3), some (.int x4), none, none]) (st1 := [.ref a0, .int (zI σ43 a0 (Int32.toNatClampNeg (x4 + 2))), .int (zI σ43 a0 (Int32.toNatClampNeg (x4 + 1))), .ref a2, .int v44]) (σ1 := σ43) zM_L_law dL_law_294 rfl rfl rfl rfl ?_
            refine zw_go (pc1 := 297) (L1 := [some (.ref a0), some (.ref a1), some (.ref a2), some (.ref a3), some (.int x4), none, none]) (st1 := [.int x4, .ref a0, .int (zI σ43 a0 (Int32.toNatClampNeg (x4 + 2))), .int (zI σ43 a0 (Int32.toNatClampNeg (x4 + 1))), .ref a2, .int v44]) (σ1 := σ43) zM_L_law dL_law_295 rfl rfl rfl rfl ?_
            refine zw_iconst (v := 3) zM_L_law dL_law_297 (by decide) ?_
            refine zw_go (pc1 := 299) (L1 := [some (.ref a0), some (.ref a1), some (.ref a2), some (.ref a3), some (.int x4), none, none]) (st1 := [.int (x4 + 3), .ref a0, .int (zI σ43 a0 (Int32.toNatClampNeg (x4 + 2))), .int (zI σ43 a0 (Int32.toNatClampNeg (x4 + 1))), .ref a2, .int v44]) (σ1 := σ43) zM_L_law dL_law_298 rfl rfl rfl rfl ?_
            obtain ⟨hi48, h⟩ := h
            refine zw_iald zM_L_law dL_law_299 ⟨Or.inr hk45, hi48⟩ ?_
            obtain ⟨hk49, h⟩ := h
            refine zw_callI (as := [.ref a2, .int (zI σ43 a0 (Int32.toNatClampNeg (x4 + 1))), .int (zI σ43 a0 (Int32.toNatClampNeg (x4 + 2))), .int (zI σ43 a0 (Int32.toNatClampNeg (x4 + 3)))]) (rest := [.int v44]) zM_L_law dL_law_300 (zx_calV zC_8_35) zM_X7_link rfl rfl rfl rfl rfl (zx_args0 hk49 rfl) rfl h (fun v51 σ50 h => ?_)
            refine zw_icmp_eq (tgt := 970) zM_L_law dL_law_303 rfl rfl (fun q => ?_) (fun q => ?_)
            · replace h := h.1 q
              exact zw_weak2 h ⟨rfl, rfl, rfl, rfl, rfl, trivial⟩
            · replace h := h.2 q
              refine zw_iconst (v := 0) zM_L_law dL_law_306 (by decide) ?_
              exact zw_retz zM_L_law dL_law_307 rfl (by decide) h
          · replace h := h.2 hs52
            by_cases hs66 : ((zI σ a0 (Int32.toNatClampNeg x4)) &&& 31) = 4
            · replace h := h.1 hs66
              refine zw_sw (tgt := 308) zM_L_law dL_law_40 (zx_sw_in hs66 rfl) rfl ?_
              refine zw_go (pc1 := 309) (L1 := [some (.ref a0), some (.ref a1), some (.ref a2), some (.ref a3), some (.int x4), none, none]) (st1 := [.ref a1]) (σ1 := σ) zM_L_law dL_law_308 rfl rfl rfl rfl ?_
              refine zw_go (pc1 := 310) (L1 := [some (.ref a0), some (.ref a1), some (.ref a2), some (.ref a3), some (.int x4), none, none]) (st1 := [.ref a0, .ref a1]) (σ1 := σ) zM_L_law dL_law_309 rfl rfl rfl rfl ?_
              refine zw_go (pc1 := 312) (L1 := [some (.ref a0), some (.ref a1), some (.ref a2), some (.ref a3), some (.int x4), none, none]) (st1 := [.int x4, .ref a0, .ref a1]) (σ1 := σ) zM_L_law dL_law_310 rfl rfl rfl rfl ?_
              refine zw_iconst (v := 1) zM_L_law dL_law_312 (by decide) ?_
              refine zw_go (pc1 := 314) (L1 := [some (.ref a0), some (.ref a1), some (.ref a2), some (.ref a3), some (.int x4), none, none]) (st1 := [.int (x4 + 1), .ref a0, .ref a1]) (σ1 := σ) zM_L_law dL_law_313 rfl rfl rfl rfl ?_
              obtain ⟨hi53, h⟩ := h
              refine zw_iald zM_L_law dL_law_314 ⟨Or.inr hk1, hi53⟩ ?_
              refine zw_go (pc1 := 316) (L1 := [some (.ref a0), some (.ref a1), some (.ref a2), some (.ref a3), some (.int x4), none, none]) (st1 := [.ref a0, .int (zI σ a0 (Int32.toNatClampNeg (x4 + 1))), .ref a1]) (σ1 := σ) zM_L_law dL_law_315 rfl rfl rfl rfl ?_
              refine zw_go (pc1 := 318) (L1 := [some (.ref a0), some (.ref a1), some (.ref a2), some (.ref a3), some (.int x4), none, none]) (st1 := [.int x4, .ref a0, .int (zI σ a0 (Int32.toNatClampNeg (x4 + 1))), .ref a1]) (σ1 := σ) zM_L_law dL_law_316 rfl rfl rfl rfl ?_
              refine zw_iconst (v := 2) zM_L_law dL_law_318 (by decide) ?_
              refine zw_go (pc1 := 320) (L1 := [some (.ref a0), some (.ref a1), some (.ref a2), some (.ref a3), some (.int x4), none, none]) (st1 := [.int (x4 + 2), .ref a0, .int (zI σ a0 (Int32.toNatClampNeg (x4 + 1))), .ref a1]) (σ1 := σ) zM_L_law dL_law_319 rfl rfl rfl rfl ?_
              obtain ⟨hi54, h⟩ := h
              refine zw_iald zM_L_law dL_law_320 ⟨Or.inr hk1, hi54⟩ ?_
              refine zw_go (pc1 := 322) (L1 := [some (.ref a0), some (.ref a1), some (.ref a2), some (.ref a3), some (.int x4), none, none]) (st1 := [.ref a0, .int (zI σ a0 (Int32.toNatClampNeg (x4 + 2))), .int (zI σ a0 (Int32.toNatClampNeg (x4 + 1))), .ref a1]) (σ1 := σ) zM_L_law dL_law_321 rfl rfl rfl rfl ?_
              refine zw_go (pc1 := 324) (L1 := [some (.ref a0), some (.ref a1), some (.ref a2), some (.ref a3), some (.int x4), none, none]) (st1 := [.int x4, .ref a0, .int (zI σ a0 (Int32.toNatClampNeg (x4 + 2))), .int (zI σ a0 (Int32.toNatClampNeg (x4 + 1))), .ref a1]) (σ1 := σ) zM_L_law dL_law_322 rfl rfl rfl rfl ?_
              refine zw_iconst (v := 3) zM_L_law dL_law_324 (by decide) ?_
              refine zw_go (pc1 := 326) (L1 := [some (.ref a0), some (.ref a1), some (.ref a2), some (.ref a3), some (.int x4), none, none]) (st1 := [.int (x4 + 3), .ref a0, .int (zI σ a0 (Int32.toNatClampNeg (x4 + 2))), .int (zI σ a0 (Int32.toNatClampNeg (x4 + 1))), .ref a1]) (σ1 := σ) zM_L_law dL_law_325 rfl rfl rfl rfl ?_
              obtain ⟨hi55, h⟩ := h
              refine zw_iald zM_L_law dL_law_326 ⟨Or.inr hk1, hi55⟩ ?_
              obtain ⟨hk56, h⟩ := h
              refine zw_callI (as := [.ref a1, .int (zI σ a0 (Int32.toNatClampNeg (x4 + 1))), .int (zI σ a0 (Int32.toNatClampNeg (x4 + 2))), .int (zI σ a0 (Int32.toNatClampNeg (x4 + 3)))]) (rest := []) zM_L_law dL_law_327 (zx_calV zC_8_36) zM_X6_data rfl rfl rfl rfl rfl (zx_args0 hk56 rfl) rfl h (fun v58 σ57 h => ?_)
              refine zw_go (pc1 := 331) (L1 := [some (.ref a0), some (.ref a1), some (.ref a2), some (.ref a3), some (.int x4), none, none]) (st1 := [.ref a2, .int v58]) (σ1 := σ57) zM_L_law dL_law_330 rfl rfl rfl rfl ?_
              refine zw_go (pc1 := 332) (L1 := [some (.ref a0), some (.ref a1), some (.ref a2), some (.ref a3), some (.int x4), none, none]) (st1 := [.ref a0, .ref a2, .int v58]) (σ1 := σ57) zM_L_law dL_law_331 rfl rfl rfl rfl ?_
              refine zw_go (pc1 := 334) (L1 := [some (.ref a0), some (.ref a1), some (.ref a2), some (.ref a3), some (.int x4), none, none]) (st1 := [.int x4, .ref a0, .ref a2, .int v58]) (σ1 := σ57) zM_L_law dL_law_332 rfl rfl rfl rfl ?_
              refine zw_iconst (v := 1) zM_L_law dL_law_334 (by decide) ?_
              refine zw_go (pc1 := 336) (L1 := [some (.ref a0), some (.ref a1), some (.ref a2), some (.ref a3), some (.int x4), none, none]) (st1 := [.int (x4 + 1), .ref a0, .ref a2, .int v58]) (σ1 := σ57) zM_L_law dL_law_335 rfl rfl rfl rfl ?_
              obtain ⟨hk59, h⟩ := h
              obtain ⟨hi60, h⟩ := h
              refine zw_iald zM_L_law dL_law_336 ⟨Or.inr hk59, hi60⟩ ?_
              refine zw_go (pc1 := 338) (L1 := [some (.ref a0), some (.ref a1), some (.ref a2), some (.ref a3), some (.int x4), none, none]) (st1 := [.ref a0, .int (zI σ57 a0 (Int32.toNatClampNeg (x4 + 1))), .ref a2, .int v58]) (σ1 := σ57) zM_L_law dL_law_337 rfl rfl rfl rfl ?_
              refine zw_go (pc1 := 340) (L1 := [some (.ref a0), some (.ref a1), some (.ref a2), some (.ref a3), some (.int x4), none, none]) (st1 := [.int x4, .ref a0, .int (zI σ57 a0 (Int32.toNatClampNeg (x4 + 1))), .ref a2, .int v58]) (σ1 := σ57) zM_L_law dL_law_338 rfl rfl rfl rfl ?_
              refine zw_iconst (v := 2) zM_L_law dL_law_340 (by decide) ?_
              refine zw_go (pc1 := 342) (L1 := [some (.ref a0), some (.ref a1), some (.ref a2), some (.ref a3), some (.int x4), none, none]) (st1 := [.int (x4 + 2), .ref a0, .int (zI σ57 a0 (Int32.toNatClampNeg (x4 + 1))), .ref a2, .int v58]) (σ1 := σ57) zM_L_law dL_law_341 rfl rfl rfl rfl ?_
              obtain ⟨hi61, h⟩ := h
              refine zw_iald zM_L_law dL_law_342 ⟨Or.inr hk59, hi61⟩ ?_
              refine zw_go (pc1 := 344) (L1 := [some (.ref a0), some (.ref a1), some (.ref a2), some (.ref a3), some (.int x4), none, none]) (st1 := [.ref a0, .int (zI σ57 a0 (Int32.toNatClampNeg (x4 + 2))), .int (zI σ57 a0 (Int32.toNatClampNeg (x4 + 1))), .ref a2, .int v58]) (σ1 := σ57) zM_L_law dL_law_343 rfl rfl rfl rfl ?_
              refine zw_go (pc1 := 346) (L1 := [some (.ref a0), some (.ref a1), some (.ref a2), some (.ref a3), some (.int x4), none, none]) (st1 := [.int x4, .ref a0, .int (zI σ57 a0 (Int32.toNatClampNeg (x4 + 2))), .int (zI σ57 a0 (Int32.toNatClampNeg (x4 + 1))), .ref a2, .int v58]) (σ1 := σ57) zM_L_law dL_law_344 rfl rfl rfl rfl ?_
              refine zw_iconst (v := 3) zM_L_law dL_law_346 (by decide) ?_
              refine zw_go (pc1 := 348) (L1 := [some (.ref a0), some (.ref a1), some (.ref a2), some (.ref a3), some (.int x4), none, none]) (st1 := [.int (x4 + 3), .ref a0, .int (zI σ57 a0 (Int32.toNatClampNeg (x4 + 2))), .int (zI σ57 a0 (Int32.toNatClampNeg (x4 + 1))), .ref a2, .int v58]) (σ1 := σ57) zM_L_law dL_law_347 rfl rfl rfl rfl ?_
              obtain ⟨hi62, h⟩ := h
              refine zw_iald zM_L_law dL_law_348 ⟨Or.inr hk59, hi62⟩ ?_
              obtain ⟨hk63, h⟩ := h
              refine zw_callI (as := [.ref a2, .int (zI σ57 a0 (Int32.toNatClampNeg (x4 + 1))), .int (zI σ57 a0 (Int32.toNatClampNeg (x4 + 2))), .int (zI σ57 a0 (Int32.toNatClampNeg (x4 + 3)))]) (rest := [.int v58]) zM_L_law dL_law_349 (zx_calV zC_8_39) zM_X7_data rfl rfl rfl rfl rfl (zx_args0 hk63 rfl) rfl h (fun v65 σ64 h => ?_)
              refine zw_icmp_eq (tgt := 970) zM_L_law dL_law_352 rfl rfl (fun q => ?_) (fun q => ?_)
              · replace h := h.1 q
                exact zw_weak2 h ⟨rfl, rfl, rfl, rfl, rfl, trivial⟩
              · replace h := h.2 q
                refine zw_iconst (v := 0) zM_L_law dL_law_355 (by decide) ?_
                exact zw_retz zM_L_law dL_law_356 rfl (by decide) h
            · replace h := h.2 hs66
              by_cases hs80 : ((zI σ a0 (Int32.toNatClampNeg x4)) &&& 31) = 5
              · replace h := h.1 hs80
                refine zw_sw (tgt := 357) zM_L_law dL_law_40 (zx_sw_in hs80 rfl) rfl ?_
                refine zw_go (pc1 := 358) (L1 := [some (.ref a0), some (.ref a1), some (.ref a2), some (.ref a3), some (.int x4), none, none]) (st1 := [.ref a1]) (σ1 := σ) zM_L_law dL_law_357 rfl rfl rfl rfl ?_
                refine zw_go (pc1 := 359) (L1 := [some (.ref a0), some (.ref a1), some (.ref a2), some (.ref a3), some (.int x4), none, none]) (st1 := [.ref a0, .ref a1]) (σ1 := σ) zM_L_law dL_law_358 rfl rfl rfl rfl ?_
                refine zw_go (pc1 := 361) (L1 := [some (.ref a0), some (.ref a1), some (.ref a2), some (.ref a3), some (.int x4), none, none]) (st1 := [.int x4, .ref a0, .ref a1]) (σ1 := σ) zM_L_law dL_law_359 rfl rfl rfl rfl ?_
                refine zw_iconst (v := 1) zM_L_law dL_law_361 (by decide) ?_
                refine zw_go (pc1 := 363) (L1 := [some (.ref a0), some (.ref a1), some (.ref a2), some (.ref a3), some (.int x4), none, none]) (st1 := [.int (x4 + 1), .ref a0, .ref a1]) (σ1 := σ) zM_L_law dL_law_362 rfl rfl rfl rfl ?_
                obtain ⟨hi67, h⟩ := h
                refine zw_iald zM_L_law dL_law_363 ⟨Or.inr hk1, hi67⟩ ?_
                refine zw_go (pc1 := 365) (L1 := [some (.ref a0), some (.ref a1), some (.ref a2), some (.ref a3), some (.int x4), none, none]) (st1 := [.ref a0, .int (zI σ a0 (Int32.toNatClampNeg (x4 + 1))), .ref a1]) (σ1 := σ) zM_L_law dL_law_364 rfl rfl rfl rfl ?_
                refine zw_go (pc1 := 367) (L1 := [some (.ref a0), some (.ref a1), some (.ref a2), some (.ref a3), some (.int x4), none, none]) (st1 := [.int x4, .ref a0, .int (zI σ a0 (Int32.toNatClampNeg (x4 + 1))), .ref a1]) (σ1 := σ) zM_L_law dL_law_365 rfl rfl rfl rfl ?_
                refine zw_iconst (v := 2) zM_L_law dL_law_367 (by decide) ?_
                refine zw_go (pc1 := 369) (L1 := [some (.ref a0), some (.ref a1), some (.ref a2), some (.ref a3), some (.int x4), none, none]) (st1 := [.int (x4 + 2), .ref a0, .int (zI σ a0 (Int32.toNatClampNeg (x4 + 1))), .ref a1]) (σ1 := σ) zM_L_law dL_law_368 rfl rfl rfl rfl ?_
                obtain ⟨hi68, h⟩ := h
                refine zw_iald zM_L_law dL_law_369 ⟨Or.inr hk1, hi68⟩ ?_
                refine zw_go (pc1 := 371) (L1 := [some (.ref a0), some (.ref a1), some (.ref a2), some (.ref a3), some (.int x4), none, none]) (st1 := [.ref a0, .int (zI σ a0 (Int32.toNatClampNeg (x4 + 2))), .int (zI σ a0 (Int32.toNatClampNeg (x4 + 1))), .ref a1]) (σ1 := σ) zM_L_law dL_law_370 rfl rfl rfl rfl ?_
                refine zw_go (pc1 := 373) (L1 := [some (.ref a0), some (.ref a1), some (.ref a2), some (.ref a3), some (.int x4), none, none]) (st1 := [.int x4, .ref a0, .int (zI σ a0 (Int32.toNatClampNeg (x4 + 2))), .int (zI σ a0 (Int32.toNatClampNeg (x4 + 1))), .ref a1]) (σ1 := σ) zM_L_law dL_law_371 rfl rfl rfl rfl ?_
                refine zw_iconst (v := 3) zM_L_law dL_law_373 (by decide) ?_
                refine zw_go (pc1 := 375) (L1 := [some (.ref a0), some (.ref a1), some (.ref a2), some (.ref a3), some (.int x4), none, none]) (st1 := [.int (x4 + 3), .ref a0, .int (zI σ a0 (Int32.toNatClampNeg (x4 + 2))), .int (zI σ a0 (Int32.toNatClampNeg (x4 + 1))), .ref a1]) (σ1 := σ) zM_L_law dL_law_374 rfl rfl rfl rfl ?_
                obtain ⟨hi69, h⟩ := h
                refine zw_iald zM_L_law dL_law_375 ⟨Or.inr hk1, hi69⟩ ?_
                obtain ⟨hk70, h⟩ := h
                refine zw_callI (as := [.ref a1, .int (zI σ a0 (Int32.toNatClampNeg (x4 + 1))), .int (zI σ a0 (Int32.toNatClampNeg (x4 + 2))), .int (zI σ a0 (Int32.toNatClampNeg (x4 + 3)))]) (rest := []) zM_L_law dL_law_376 (zx_calV zC_8_40) zM_X6_owner rfl rfl rfl rfl rfl (zx_args0 hk70 rfl) rfl h (fun v72 σ71 h => ?_)
                refine zw_go (pc1 := 380) (L1 := [some (.ref a0), some (.ref a1), some (.ref a2), some (.ref a3), some (.int x4), none, none]) (st1 := [.ref a2, .int v72]) (σ1 := σ71) zM_L_law dL_law_379 rfl rfl rfl rfl ?_
                refine zw_go (pc1 := 381) (L1 := [some (.ref a0), some (.ref a1), some (.ref a2), some (.ref a3), some (.int x4), none, none]) (st1 := [.ref a0, .ref a2, .int v72]) (σ1 := σ71) zM_L_law dL_law_380 rfl rfl rfl rfl ?_
                refine zw_go (pc1 := 383) (L1 := [some (.ref a0), some (.ref a1), some (.ref a2), some (.ref a3), some (.int x4), none, none]) (st1 := [.int x4, .ref a0, .ref a2, .int v72]) (σ1 := σ71) zM_L_law dL_law_381 rfl rfl rfl rfl ?_
                refine zw_iconst (v := 1) zM_L_law dL_law_383 (by decide) ?_
                refine zw_go (pc1 := 385) (L1 := [some (.ref a0), some (.ref a1), some (.ref a2), some (.ref a3), some (.int x4), none, none]) (st1 := [.int (x4 + 1), .ref a0, .ref a2, .int v72]) (σ1 := σ71) zM_L_law dL_law_384 rfl rfl rfl rfl ?_
                obtain ⟨hk73, h⟩ := h
                obtain ⟨hi74, h⟩ := h
                refine zw_iald zM_L_law dL_law_385 ⟨Or.inr hk73, hi74⟩ ?_
                refine zw_go (pc1 := 387) (L1 := [some (.ref a0), some (.ref a1), some (.ref a2), some (.ref a3), some (.int x4), none, none]) (st1 := [.ref a0, .int (zI σ71 a0 (Int32.toNatClampNeg (x4 + 1))), .ref a2, .int v72]) (σ1 := σ71) zM_L_law dL_law_386 rfl rfl rfl rfl ?_
                refine zw_go (pc1 := 389) (L1 := [some (.ref a0), some (.ref a1), some (.ref a2), some (.ref a3), some (.int x4), none, none]) (st1 := [.int x4, .ref a0, .int (zI σ71 a0 (Int32.toNatClampNeg (x4 + 1))), .ref a2, .int v72]) (σ1 := σ71) zM_L_law dL_law_387 rfl rfl rfl rfl ?_
                refine zw_iconst (v := 2) zM_L_law dL_law_389 (by decide) ?_
                refine zw_go (pc1 := 391) (L1 := [some (.ref a0), some (.ref a1), some (.ref a2), some (.ref a3), some (.int x4), none, none]) (st1 := [.int (x4 + 2), .ref a0, .int (zI σ71 a0 (Int32.toNatClampNeg (x4 + 1))), .ref a2, .int v72]) (σ1 := σ71) zM_L_law dL_law_390 rfl rfl rfl rfl ?_
                obtain ⟨hi75, h⟩ := h
                refine zw_iald zM_L_law dL_law_391 ⟨Or.inr hk73, hi75⟩ ?_
                refine zw_go (pc1 := 393) (L1 := [some (.ref a0), some (.ref a1), some (.ref a2), some (.ref a3), some (.int x4), none, none]) (st1 := [.ref a0, .int (zI σ71 a0 (Int32.toNatClampNeg (x4 + 2))), .int (zI σ71 a0 (Int32.toNatClampNeg (x4 + 1))), .ref a2, .int v72]) (σ1 := σ71) zM_L_law dL_law_392 rfl rfl rfl rfl ?_
                refine zw_go (pc1 := 395) (L1 := [some (.ref a0), some (.ref a1), some (.ref a2), some (.ref a3), some (.int x4), none, none]) (st1 := [.int x4, .ref a0, .int (zI σ71 a0 (Int32.toNatClampNeg (x4 + 2))), .int (zI σ71 a0 (Int32.toNatClampNeg (x4 + 1))), .ref a2, .int v72]) (σ1 := σ71) zM_L_law dL_law_393 rfl rfl rfl rfl ?_
                refine zw_iconst (v := 3) zM_L_law dL_law_395 (by decide) ?_
                refine zw_go (pc1 := 397) (L1 := [some (.ref a0), some (.ref a1), some (.ref a2), some (.ref a3), some (.int x4), none, none]) (st1 := [.int (x4 + 3), .ref a0, .int (zI σ71 a0 (Int32.toNatClampNeg (x4 + 2))), .int (zI σ71 a0 (Int32.toNatClampNeg (x4 + 1))), .ref a2, .int v72]) (σ1 := σ71) zM_L_law dL_law_396 rfl rfl rfl rfl ?_
                obtain ⟨hi76, h⟩ := h
                refine zw_iald zM_L_law dL_law_397 ⟨Or.inr hk73, hi76⟩ ?_
                obtain ⟨hk77, h⟩ := h
                refine zw_callI (as := [.ref a2, .int (zI σ71 a0 (Int32.toNatClampNeg (x4 + 1))), .int (zI σ71 a0 (Int32.toNatClampNeg (x4 + 2))), .int (zI σ71 a0 (Int32.toNatClampNeg (x4 + 3)))]) (rest := [.int v72]) zM_L_law dL_law_398 (zx_calV zC_8_43) zM_X7_owner rfl rfl rfl rfl rfl (zx_args0 hk77 rfl) rfl h (fun v79 σ78 h => ?_)
                refine zw_icmp_eq (tgt := 970) zM_L_law dL_law_401 rfl rfl (fun q => ?_) (fun q => ?_)
                · replace h := h.1 q
                  exact zw_weak2 h ⟨rfl, rfl, rfl, rfl, rfl, trivial⟩
                · replace h := h.2 q
                  refine zw_iconst (v := 0) zM_L_law dL_law_404 (by decide) ?_
                  exact zw_retz zM_L_law dL_law_405 rfl (by decide) h
              · replace h := h.2 hs80
                by_cases hs87 : ((zI σ a0 (Int32.toNatClampNeg x4)) &&& 31) = 6
                · replace h := h.1 hs87
                  refine zw_sw (tgt := 406) zM_L_law dL_law_40 (zx_sw_in hs87 rfl) rfl ?_
                  refine zw_go (pc1 := 407) (L1 := [some (.ref a0), some (.ref a1), some (.ref a2), some (.ref a3), some (.int x4), none, none]) (st1 := [.ref a1]) (σ1 := σ) zM_L_law dL_law_406 rfl rfl rfl rfl ?_
                  obtain ⟨hk81, h⟩ := h
                  refine zw_callI (as := [.ref a1]) (rest := []) zM_L_law dL_law_407 (zx_calV zC_8_44) zM_X6_clear rfl rfl rfl rfl rfl (zx_args0 hk81 rfl) rfl h (fun v83 σ82 h => ?_)
                  refine zw_go (pc1 := 411) (L1 := [some (.ref a0), some (.ref a1), some (.ref a2), some (.ref a3), some (.int x4), none, none]) (st1 := [.ref a2, .int v83]) (σ1 := σ82) zM_L_law dL_law_410 rfl rfl rfl rfl ?_
                  obtain ⟨hk84, h⟩ := h
                  refine zw_callI (as := [.ref a2]) (rest := [.int v83]) zM_L_law dL_law_411 (zx_calV zC_8_48) zM_X7_clear rfl rfl rfl rfl rfl (zx_args0 hk84 rfl) rfl h (fun v86 σ85 h => ?_)
                  refine zw_icmp_eq (tgt := 970) zM_L_law dL_law_414 rfl rfl (fun q => ?_) (fun q => ?_)
                  · replace h := h.1 q
                    exact zw_weak2 h ⟨rfl, rfl, rfl, rfl, rfl, trivial⟩
                  · replace h := h.2 q
                    refine zw_iconst (v := 0) zM_L_law dL_law_417 (by decide) ?_
                    exact zw_retz zM_L_law dL_law_418 rfl (by decide) h
                · replace h := h.2 hs87
                  by_cases hs97 : ((zI σ a0 (Int32.toNatClampNeg x4)) &&& 31) = 7
                  · replace h := h.1 hs97
                    refine zw_sw (tgt := 419) zM_L_law dL_law_40 (zx_sw_in hs97 rfl) rfl ?_
                    refine zw_go (pc1 := 420) (L1 := [some (.ref a0), some (.ref a1), some (.ref a2), some (.ref a3), some (.int x4), none, none]) (st1 := [.ref a1]) (σ1 := σ) zM_L_law dL_law_419 rfl rfl rfl rfl ?_
                    refine zw_go (pc1 := 421) (L1 := [some (.ref a0), some (.ref a1), some (.ref a2), some (.ref a3), some (.int x4), none, none]) (st1 := [.ref a0, .ref a1]) (σ1 := σ) zM_L_law dL_law_420 rfl rfl rfl rfl ?_
                    refine zw_go (pc1 := 423) (L1 := [some (.ref a0), some (.ref a1), some (.ref a2), some (.ref a3), some (.int x4), none, none]) (st1 := [.int x4, .ref a0, .ref a1]) (σ1 := σ) zM_L_law dL_law_421 rfl rfl rfl rfl ?_
                    refine zw_iconst (v := 1) zM_L_law dL_law_423 (by decide) ?_
                    refine zw_go (pc1 := 425) (L1 := [some (.ref a0), some (.ref a1), some (.ref a2), some (.ref a3), some (.int x4), none, none]) (st1 := [.int (x4 + 1), .ref a0, .ref a1]) (σ1 := σ) zM_L_law dL_law_424 rfl rfl rfl rfl ?_
                    obtain ⟨hi88, h⟩ := h
                    refine zw_iald zM_L_law dL_law_425 ⟨Or.inr hk1, hi88⟩ ?_
                    obtain ⟨hk89, h⟩ := h
                    refine zw_callI (as := [.ref a1, .int (zI σ a0 (Int32.toNatClampNeg (x4 + 1)))]) (rest := []) zM_L_law dL_law_426 (zx_calV zC_8_49) zM_X6_build rfl rfl rfl rfl rfl (zx_args0 hk89 rfl) rfl h (fun v91 σ90 h => ?_)
                    refine zw_go (pc1 := 430) (L1 := [some (.ref a0), some (.ref a1), some (.ref a2), some (.ref a3), some (.int x4), none, none]) (st1 := [.ref a2, .int v91]) (σ1 := σ90) zM_L_law dL_law_429 rfl rfl rfl rfl ?_
                    refine zw_go (pc1 := 431) (L1 := [some (.ref a0), some (.ref a1), some (.ref a2), some (.ref a3), some (.int x4), none, none]) (st1 := [.ref a0, .ref a2, .int v91]) (σ1 := σ90) zM_L_law dL_law_430 rfl rfl rfl rfl ?_
                    refine zw_go (pc1 := 433) (L1 := [some (.ref a0), some (.ref a1), some (.ref a2), some (.ref a3), some (.int x4), none, none]) (st1 := [.int x4, .ref a0, .ref a2, .int v91]) (σ1 := σ90) zM_L_law dL_law_431 rfl rfl rfl rfl ?_
                    refine zw_iconst (v := 1) zM_L_law dL_law_433 (by decide) ?_
                    refine zw_go (pc1 := 435) (L1 := [some (.ref a0), some (.ref a1), some (.ref a2), some (.ref a3), some (.int x4), none, none]) (st1 := [.int (x4 + 1), .ref a0, .ref a2, .int v91]) (σ1 := σ90) zM_L_law dL_law_434 rfl rfl rfl rfl ?_
                    obtain ⟨hk92, h⟩ := h
                    obtain ⟨hi93, h⟩ := h
                    refine zw_iald zM_L_law dL_law_435 ⟨Or.inr hk92, hi93⟩ ?_
                    obtain ⟨hk94, h⟩ := h
                    refine zw_callI (as := [.ref a2, .int (zI σ90 a0 (Int32.toNatClampNeg (x4 + 1)))]) (rest := [.int v91]) zM_L_law dL_law_436 (zx_calV zC_8_53) zM_X7_build rfl rfl rfl rfl rfl (zx_args0 hk94 rfl) rfl h (fun v96 σ95 h => ?_)
                    refine zw_icmp_eq (tgt := 970) zM_L_law dL_law_439 rfl rfl (fun q => ?_) (fun q => ?_)
                    · replace h := h.1 q
                      exact zw_weak2 h ⟨rfl, rfl, rfl, rfl, rfl, trivial⟩
                    · replace h := h.2 q
                      refine zw_iconst (v := 0) zM_L_law dL_law_442 (by decide) ?_
                      exact zw_retz zM_L_law dL_law_443 rfl (by decide) h
                  · replace h := h.2 hs97
                    by_cases hs115 : ((zI σ a0 (Int32.toNatClampNeg x4)) &&& 31) = 8
                    · replace h := h.1 hs115
                      refine zw_sw (tgt := 444) zM_L_law dL_law_40 (zx_sw_in hs115 rfl) rfl ?_
                      refine zw_go (pc1 := 445) (L1 := [some (.ref a0), some (.ref a1), some (.ref a2), some (.ref a3), some (.int x4), none, none]) (st1 := [.ref a1]) (σ1 := σ) zM_L_law dL_law_444 rfl rfl rfl rfl ?_
                      refine zw_go (pc1 := 446) (L1 := [some (.ref a0), some (.ref a1), some (.ref a2), some (.ref a3), some (.int x4), none, none]) (st1 := [.ref a0, .ref a1]) (σ1 := σ) zM_L_law dL_law_445 rfl rfl rfl rfl ?_
                      refine zw_go (pc1 := 448) (L1 := [some (.ref a0), some (.ref a1), some (.ref a2), some (.ref a3), some (.int x4), none, none]) (st1 := [.int x4, .ref a0, .ref a1]) (σ1 := σ) zM_L_law dL_law_446 rfl rfl rfl rfl ?_
                      refine zw_iconst (v := 1) zM_L_law dL_law_448 (by decide) ?_
                      refine zw_go (pc1 := 450) (L1 := [some (.ref a0), some (.ref a1), some (.ref a2), some (.ref a3), some (.int x4), none, none]) (st1 := [.int (x4 + 1), .ref a0, .ref a1]) (σ1 := σ) zM_L_law dL_law_449 rfl rfl rfl rfl ?_
                      obtain ⟨hi98, h⟩ := h
                      refine zw_iald zM_L_law dL_law_450 ⟨Or.inr hk1, hi98⟩ ?_
                      refine zw_go (pc1 := 452) (L1 := [some (.ref a0), some (.ref a1), some (.ref a2), some (.ref a3), some (.int x4), none, none]) (st1 := [.ref a0, .int (zI σ a0 (Int32.toNatClampNeg (x4 + 1))), .ref a1]) (σ1 := σ) zM_L_law dL_law_451 rfl rfl rfl rfl ?_
                      refine zw_go (pc1 := 454) (L1 := [some (.ref a0), some (.ref a1), some (.ref a2), some (.ref a3), some (.int x4), none, none]) (st1 := [.int x4, .ref a0, .int (zI σ a0 (Int32.toNatClampNeg (x4 + 1))), .ref a1]) (σ1 := σ) zM_L_law dL_law_452 rfl rfl rfl rfl ?_
                      refine zw_iconst (v := 2) zM_L_law dL_law_454 (by decide) ?_
                      refine zw_go (pc1 := 456) (L1 := [some (.ref a0), some (.ref a1), some (.ref a2), some (.ref a3), some (.int x4), none, none]) (st1 := [.int (x4 + 2), .ref a0, .int (zI σ a0 (Int32.toNatClampNeg (x4 + 1))), .ref a1]) (σ1 := σ) zM_L_law dL_law_455 rfl rfl rfl rfl ?_
                      obtain ⟨hi99, h⟩ := h
                      refine zw_iald zM_L_law dL_law_456 ⟨Or.inr hk1, hi99⟩ ?_
                      refine zw_go (pc1 := 458) (L1 := [some (.ref a0), some (.ref a1), some (.ref a2), some (.ref a3), some (.int x4), none, none]) (st1 := [.ref a0, .int (zI σ a0 (Int32.toNatClampNeg (x4 + 2))), .int (zI σ a0 (Int32.toNatClampNeg (x4 + 1))), .ref a1]) (σ1 := σ) zM_L_law dL_law_457 rfl rfl rfl rfl ?_
                      refine zw_go (pc1 := 460) (L1 := [some (.ref a0), some (.ref a1), some (.ref a2), some (.ref a3), some (.int x4), none, none]) (st1 := [.int x4, .ref a0, .int (zI σ a0 (Int32.toNatClampNeg (x4 + 2))), .int (zI σ a0 (Int32.toNatClampNeg (x4 + 1))), .ref a1]) (σ1 := σ) zM_L_law dL_law_458 rfl rfl rfl rfl ?_
                      refine zw_iconst (v := 3) zM_L_law dL_law_460 (by decide) ?_
                      refine zw_go (pc1 := 462) (L1 := [some (.ref a0), some (.ref a1), some (.ref a2), some (.ref a3), some (.int x4), none, none]) (st1 := [.int (x4 + 3), .ref a0, .int (zI σ a0 (Int32.toNatClampNeg (x4 + 2))), .int (zI σ a0 (Int32.toNatClampNeg (x4 + 1))), .ref a1]) (σ1 := σ) zM_L_law dL_law_461 rfl rfl rfl rfl ?_
                      obtain ⟨hi100, h⟩ := h
                      refine zw_iald zM_L_law dL_law_462 ⟨Or.inr hk1, hi100⟩ ?_
                      refine zw_go (pc1 := 464) (L1 := [some (.ref a0), some (.ref a1), some (.ref a2), some (.ref a3), some (.int x4), none, none]) (st1 := [.ref a0, .int (zI σ a0 (Int32.toNatClampNeg (x4 + 3))), .int (zI σ a0 (Int32.toNatClampNeg (x4 + 2))), .int (zI σ a0 (Int32.toNatClampNeg (x4 + 1))), .ref a1]) (σ1 := σ) zM_L_law dL_law_463 rfl rfl rfl rfl ?_
                      refine zw_go (pc1 := 466) (L1 := [some (.ref a0), some (.ref a1), some (.ref a2), some (.ref a3), some (.int x4), none, none]) (st1 := [.int x4, .ref a0, .int (zI σ a0 (Int32.toNatClampNeg (x4 + 3))), .int (zI σ a0 (Int32.toNatClampNeg (x4 + 2))), .int (zI σ a0 (Int32.toNatClampNeg (x4 + 1))), .ref a1]) (σ1 := σ) zM_L_law dL_law_464 rfl rfl rfl rfl ?_
                      refine zw_iconst (v := 4) zM_L_law dL_law_466 (by decide) ?_
                      refine zw_go (pc1 := 468) (L1 := [some (.ref a0), some (.ref a1), some (.ref a2), some (.ref a3), some (.int x4), none, none]) (st1 := [.int (x4 + 4), .ref a0, .int (zI σ a0 (Int32.toNatClampNeg (x4 + 3))), .int (zI σ a0 (Int32.toNatClampNeg (x4 + 2))), .int (zI σ a0 (Int32.toNatClampNeg (x4 + 1))), .ref a1]) (σ1 := σ) zM_L_law dL_law_467 rfl rfl rfl rfl ?_
                      obtain ⟨hi101, h⟩ := h
                      refine zw_iald zM_L_law dL_law_468 ⟨Or.inr hk1, hi101⟩ ?_
                      refine zw_go (pc1 := 470) (L1 := [some (.ref a0), some (.ref a1), some (.ref a2), some (.ref a3), some (.int x4), none, none]) (st1 := [.ref a0, .int (zI σ a0 (Int32.toNatClampNeg (x4 + 4))), .int (zI σ a0 (Int32.toNatClampNeg (x4 + 3))), .int (zI σ a0 (Int32.toNatClampNeg (x4 + 2))), .int (zI σ a0 (Int32.toNatClampNeg (x4 + 1))), .ref a1]) (σ1 := σ) zM_L_law dL_law_469 rfl rfl rfl rfl ?_
                      refine zw_go (pc1 := 472) (L1 := [some (.ref a0), some (.ref a1), some (.ref a2), some (.ref a3), some (.int x4), none, none]) (st1 := [.int x4, .ref a0, .int (zI σ a0 (Int32.toNatClampNeg (x4 + 4))), .int (zI σ a0 (Int32.toNatClampNeg (x4 + 3))), .int (zI σ a0 (Int32.toNatClampNeg (x4 + 2))), .int (zI σ a0 (Int32.toNatClampNeg (x4 + 1))), .ref a1]) (σ1 := σ) zM_L_law dL_law_470 rfl rfl rfl rfl ?_
                      refine zw_iconst (v := 5) zM_L_law dL_law_472 (by decide) ?_
                      refine zw_go (pc1 := 474) (L1 := [some (.ref a0), some (.ref a1), some (.ref a2), some (.ref a3), some (.int x4), none, none]) (st1 := [.int (x4 + 5), .ref a0, .int (zI σ a0 (Int32.toNatClampNeg (x4 + 4))), .int (zI σ a0 (Int32.toNatClampNeg (x4 + 3))), .int (zI σ a0 (Int32.toNatClampNeg (x4 + 2))), .int (zI σ a0 (Int32.toNatClampNeg (x4 + 1))), .ref a1]) (σ1 := σ) zM_L_law dL_law_473 rfl rfl rfl rfl ?_
                      obtain ⟨hi102, h⟩ := h
                      refine zw_iald zM_L_law dL_law_474 ⟨Or.inr hk1, hi102⟩ ?_
                      obtain ⟨hk103, h⟩ := h
                      refine zw_callI (as := [.ref a1, .int (zI σ a0 (Int32.toNatClampNeg (x4 + 1))), .int (zI σ a0 (Int32.toNatClampNeg (x4 + 2))), .int (zI σ a0 (Int32.toNatClampNeg (x4 + 3))), .int (zI σ a0 (Int32.toNatClampNeg (x4 + 4))), .int (zI σ a0 (Int32.toNatClampNeg (x4 + 5)))]) (rest := []) zM_L_law dL_law_475 (zx_calV zC_8_54) zM_X6_feed rfl rfl rfl rfl rfl (zx_args0 hk103 rfl) rfl h (fun v105 σ104 h => ?_)
                      refine zw_go (pc1 := 479) (L1 := [some (.ref a0), some (.ref a1), some (.ref a2), some (.ref a3), some (.int x4), none, none]) (st1 := [.ref a2, .int v105]) (σ1 := σ104) zM_L_law dL_law_478 rfl rfl rfl rfl ?_
                      refine zw_go (pc1 := 480) (L1 := [some (.ref a0), some (.ref a1), some (.ref a2), some (.ref a3), some (.int x4), none, none]) (st1 := [.ref a0, .ref a2, .int v105]) (σ1 := σ104) zM_L_law dL_law_479 rfl rfl rfl rfl ?_
                      refine zw_go (pc1 := 482) (L1 := [some (.ref a0), some (.ref a1), some (.ref a2), some (.ref a3), some (.int x4), none, none]) (st1 := [.int x4, .ref a0, .ref a2, .int v105]) (σ1 := σ104) zM_L_law dL_law_480 rfl rfl rfl rfl ?_
                      refine zw_iconst (v := 1) zM_L_law dL_law_482 (by decide) ?_
                      refine zw_go (pc1 := 484) (L1 := [some (.ref a0), some (.ref a1), some (.ref a2), some (.ref a3), some (.int x4), none, none]) (st1 := [.int (x4 + 1), .ref a0, .ref a2, .int v105]) (σ1 := σ104) zM_L_law dL_law_483 rfl rfl rfl rfl ?_
                      obtain ⟨hk106, h⟩ := h
                      obtain ⟨hi107, h⟩ := h
                      refine zw_iald zM_L_law dL_law_484 ⟨Or.inr hk106, hi107⟩ ?_
                      refine zw_go (pc1 := 486) (L1 := [some (.ref a0), some (.ref a1), some (.ref a2), some (.ref a3), some (.int x4), none, none]) (st1 := [.ref a0, .int (zI σ104 a0 (Int32.toNatClampNeg (x4 + 1))), .ref a2, .int v105]) (σ1 := σ104) zM_L_law dL_law_485 rfl rfl rfl rfl ?_
                      refine zw_go (pc1 := 488) (L1 := [some (.ref a0), some (.ref a1), some (.ref a2), some (.ref a3), some (.int x4), none, none]) (st1 := [.int x4, .ref a0, .int (zI σ104 a0 (Int32.toNatClampNeg (x4 + 1))), .ref a2, .int v105]) (σ1 := σ104) zM_L_law dL_law_486 rfl rfl rfl rfl ?_
                      refine zw_iconst (v := 2) zM_L_law dL_law_488 (by decide) ?_
                      refine zw_go (pc1 := 490) (L1 := [some (.ref a0), some (.ref a1), some (.ref a2), some (.ref a3), some (.int x4), none, none]) (st1 := [.int (x4 + 2), .ref a0, .int (zI σ104 a0 (Int32.toNatClampNeg (x4 + 1))), .ref a2, .int v105]) (σ1 := σ104) zM_L_law dL_law_489 rfl rfl rfl rfl ?_
                      obtain ⟨hi108, h⟩ := h
                      refine zw_iald zM_L_law dL_law_490 ⟨Or.inr hk106, hi108⟩ ?_
                      refine zw_go (pc1 := 492) (L1 := [some (.ref a0), some (.ref a1), some (.ref a2), some (.ref a3), some (.int x4), none, none]) (st1 := [.ref a0, .int (zI σ104 a0 (Int32.toNatClampNeg (x4 + 2))), .int (zI σ104 a0 (Int32.toNatClampNeg (x4 + 1))), .ref a2, .int v105]) (σ1 := σ104) zM_L_law dL_law_491 rfl rfl rfl rfl ?_
                      refine zw_go (pc1 := 494) (L1 := [some (.ref a0), some (.ref a1), some (.ref a2), some (.ref a3), some (.int x4), none, none]) (st1 := [.int x4, .ref a0, .int (zI σ104 a0 (Int32.toNatClampNeg (x4 + 2))), .int (zI σ104 a0 (Int32.toNatClampNeg (x4 + 1))), .ref a2, .int v105]) (σ1 := σ104) zM_L_law dL_law_492 rfl rfl rfl rfl ?_
                      refine zw_iconst (v := 3) zM_L_law dL_law_494 (by decide) ?_
                      refine zw_go (pc1 := 496) (L1 := [some (.ref a0), some (.ref a1), some (.ref a2), some (.ref a3), some (.int x4), none, none]) (st1 := [.int (x4 + 3), .ref a0, .int (zI σ104 a0 (Int32.toNatClampNeg (x4 + 2))), .int (zI σ104 a0 (Int32.toNatClampNeg (x4 + 1))), .ref a2, .int v105]) (σ1 := σ104) zM_L_law dL_law_495 rfl rfl rfl rfl ?_
                      obtain ⟨hi109, h⟩ := h
                      refine zw_iald zM_L_law dL_law_496 ⟨Or.inr hk106, hi109⟩ ?_
                      refine zw_go (pc1 := 498) (L1 := [some (.ref a0), some (.ref a1), some (.ref a2), some (.ref a3), some (.int x4), none, none]) (st1 := [.ref a0, .int (zI σ104 a0 (Int32.toNatClampNeg (x4 + 3))), .int (zI σ104 a0 (Int32.toNatClampNeg (x4 + 2))), .int (zI σ104 a0 (Int32.toNatClampNeg (x4 + 1))), .ref a2, .int v105]) (σ1 := σ104) zM_L_law dL_law_497 rfl rfl rfl rfl ?_
                      refine zw_go (pc1 := 500) (L1 := [some (.ref a0), some (.ref a1), some (.ref a2), some (.ref a3), some (.int x4), none, none]) (st1 := [.int x4, .ref a0, .int (zI σ104 a0 (Int32.toNatClampNeg (x4 + 3))), .int (zI σ104 a0 (Int32.toNatClampNeg (x4 + 2))), .int (zI σ104 a0 (Int32.toNatClampNeg (x4 + 1))), .ref a2, .int v105]) (σ1 := σ104) zM_L_law dL_law_498 rfl rfl rfl rfl ?_
                      refine zw_iconst (v := 4) zM_L_law dL_law_500 (by decide) ?_
                      refine zw_go (pc1 := 502) (L1 := [some (.ref a0), some (.ref a1), some (.ref a2), some (.ref a3), some (.int x4), none, none]) (st1 := [.int (x4 + 4), .ref a0, .int (zI σ104 a0 (Int32.toNatClampNeg (x4 + 3))), .int (zI σ104 a0 (Int32.toNatClampNeg (x4 + 2))), .int (zI σ104 a0 (Int32.toNatClampNeg (x4 + 1))), .ref a2, .int v105]) (σ1 := σ104) zM_L_law dL_law_501 rfl rfl rfl rfl ?_
                      obtain ⟨hi110, h⟩ := h
                      refine zw_iald zM_L_law dL_law_502 ⟨Or.inr hk106, hi110⟩ ?_
                      refine zw_go (pc1 := 504) (L1 := [some (.ref a0), some (.ref a1), some (.ref a2), some (.ref a3), some (.int x4), none, none]) (st1 := [.ref a0, .int (zI σ104 a0 (Int32.toNatClampNeg (x4 + 4))), .int (zI σ104 a0 (Int32.toNatClampNeg (x4 + 3))), .int (zI σ104 a0 (Int32.toNatClampNeg (x4 + 2))), .int (zI σ104 a0 (Int32.toNatClampNeg (x4 + 1))), .ref a2, .int v105]) (σ1 := σ104) zM_L_law dL_law_503 rfl rfl rfl rfl ?_
                      refine zw_go (pc1 := 506) (L1 := [some (.ref a0), some (.ref a1), some (.ref a2), some (.ref a3), some (.int x4), none, none]) (st1 := [.int x4, .ref a0, .int (zI σ104 a0 (Int32.toNatClampNeg (x4 + 4))), .int (zI σ104 a0 (Int32.toNatClampNeg (x4 + 3))), .int (zI σ104 a0 (Int32.toNatClampNeg (x4 + 2))), .int (zI σ104 a0 (Int32.toNatClampNeg (x4 + 1))), .ref a2, .int v105]) (σ1 := σ104) zM_L_law dL_law_504 rfl rfl rfl rfl ?_
                      refine zw_iconst (v := 5) zM_L_law dL_law_506 (by decide) ?_
                      refine zw_go (pc1 := 508) (L1 := [some (.ref a0), some (.ref a1), some (.ref a2), some (.ref a3), some (.int x4), none, none]) (st1 := [.int (x4 + 5), .ref a0, .int (zI σ104 a0 (Int32.toNatClampNeg (x4 + 4))), .int (zI σ104 a0 (Int32.toNatClampNeg (x4 + 3))), .int (zI σ104 a0 (Int32.toNatClampNeg (x4 + 2))), .int (zI σ104 a0 (Int32.toNatClampNeg (x4 + 1))), .ref a2, .int v105]) (σ1 := σ104) zM_L_law dL_law_507 rfl rfl rfl rfl ?_
                      obtain ⟨hi111, h⟩ := h
                      refine zw_iald zM_L_law dL_law_508 ⟨Or.inr hk106, hi111⟩ ?_
                      obtain ⟨hk112, h⟩ := h
                      refine zw_callI (as := [.ref a2, .int (zI σ104 a0 (Int32.toNatClampNeg (x4 + 1))), .int (zI σ104 a0 (Int32.toNatClampNeg (x4 + 2))), .int (zI σ104 a0 (Int32.toNatClampNeg (x4 + 3))), .int (zI σ104 a0 (Int32.toNatClampNeg (x4 + 4))), .int (zI σ104 a0 (Int32.toNatClampNeg (x4 + 5)))]) (rest := [.int v105]) zM_L_law dL_law_509 (zx_calV zC_8_58) zM_X7_feed rfl rfl rfl rfl rfl (zx_args0 hk112 rfl) rfl h (fun v114 σ113 h => ?_)
                      refine zw_icmp_eq (tgt := 970) zM_L_law dL_law_512 rfl rfl (fun q => ?_) (fun q => ?_)
                      · replace h := h.1 q
                        exact zw_weak2 h ⟨rfl, rfl, rfl, rfl, rfl, trivial⟩
                      · replace h := h.2 q
                        refine zw_iconst (v := 0) zM_L_law dL_law_515 (by decide) ?_
                        exact zw_retz zM_L_law dL_law_516 rfl (by decide) h
                    · replace h := h.2 hs115
                      by_cases hs125 : ((zI σ a0 (Int32.toNatClampNeg x4)) &&& 31) = 9
                      · replace h := h.1 hs125
                        refine zw_sw (tgt := 517) zM_L_law dL_law_40 (zx_sw_in hs125 rfl) rfl ?_
                        refine zw_go (pc1 := 518) (L1 := [some (.ref a0), some (.ref a1), some (.ref a2), some (.ref a3), some (.int x4), none, none]) (st1 := [.ref a1]) (σ1 := σ) zM_L_law dL_law_517 rfl rfl rfl rfl ?_
                        refine zw_go (pc1 := 519) (L1 := [some (.ref a0), some (.ref a1), some (.ref a2), some (.ref a3), some (.int x4), none, none]) (st1 := [.ref a0, .ref a1]) (σ1 := σ) zM_L_law dL_law_518 rfl rfl rfl rfl ?_
                        refine zw_go (pc1 := 521) (L1 := [some (.ref a0), some (.ref a1), some (.ref a2), some (.ref a3), some (.int x4), none, none]) (st1 := [.int x4, .ref a0, .ref a1]) (σ1 := σ) zM_L_law dL_law_519 rfl rfl rfl rfl ?_
                        refine zw_iconst (v := 1) zM_L_law dL_law_521 (by decide) ?_
                        refine zw_go (pc1 := 523) (L1 := [some (.ref a0), some (.ref a1), some (.ref a2), some (.ref a3), some (.int x4), none, none]) (st1 := [.int (x4 + 1), .ref a0, .ref a1]) (σ1 := σ) zM_L_law dL_law_522 rfl rfl rfl rfl ?_
                        obtain ⟨hi116, h⟩ := h
                        refine zw_iald zM_L_law dL_law_523 ⟨Or.inr hk1, hi116⟩ ?_
                        obtain ⟨hk117, h⟩ := h
                        refine zw_callI (as := [.ref a1, .int (zI σ a0 (Int32.toNatClampNeg (x4 + 1)))]) (rest := []) zM_L_law dL_law_524 (zx_calV zC_8_59) zM_X6_end rfl rfl rfl rfl rfl (zx_args0 hk117 rfl) rfl h (fun v119 σ118 h => ?_)
                        refine zw_go (pc1 := 528) (L1 := [some (.ref a0), some (.ref a1), some (.ref a2), some (.ref a3), some (.int x4), none, none]) (st1 := [.ref a2, .int v119]) (σ1 := σ118) zM_L_law dL_law_527 rfl rfl rfl rfl ?_
                        refine zw_go (pc1 := 529) (L1 := [some (.ref a0), some (.ref a1), some (.ref a2), some (.ref a3), some (.int x4), none, none]) (st1 := [.ref a0, .ref a2, .int v119]) (σ1 := σ118) zM_L_law dL_law_528 rfl rfl rfl rfl ?_
                        refine zw_go (pc1 := 531) (L1 := [some (.ref a0), some (.ref a1), some (.ref a2), some (.ref a3), some (.int x4), none, none]) (st1 := [.int x4, .ref a0, .ref a2, .int v119]) (σ1 := σ118) zM_L_law dL_law_529 rfl rfl rfl rfl ?_
                        refine zw_iconst (v := 1) zM_L_law dL_law_531 (by decide) ?_
                        refine zw_go (pc1 := 533) (L1 := [some (.ref a0), some (.ref a1), some (.ref a2), some (.ref a3), some (.int x4), none, none]) (st1 := [.int (x4 + 1), .ref a0, .ref a2, .int v119]) (σ1 := σ118) zM_L_law dL_law_532 rfl rfl rfl rfl ?_
                        obtain ⟨hk120, h⟩ := h
                        obtain ⟨hi121, h⟩ := h
                        refine zw_iald zM_L_law dL_law_533 ⟨Or.inr hk120, hi121⟩ ?_
                        obtain ⟨hk122, h⟩ := h
                        refine zw_callI (as := [.ref a2, .int (zI σ118 a0 (Int32.toNatClampNeg (x4 + 1)))]) (rest := [.int v119]) zM_L_law dL_law_534 (zx_calV zC_8_62) zM_X7_end rfl rfl rfl rfl rfl (zx_args0 hk122 rfl) rfl h (fun v124 σ123 h => ?_)
                        refine zw_icmp_eq (tgt := 970) zM_L_law dL_law_537 rfl rfl (fun q => ?_) (fun q => ?_)
                        · replace h := h.1 q
                          exact zw_weak2 h ⟨rfl, rfl, rfl, rfl, rfl, trivial⟩
                        · replace h := h.2 q
                          refine zw_iconst (v := 0) zM_L_law dL_law_540 (by decide) ?_
                          exact zw_retz zM_L_law dL_law_541 rfl (by decide) h
                      · replace h := h.2 hs125
                        by_cases hs132 : ((zI σ a0 (Int32.toNatClampNeg x4)) &&& 31) = 10
                        · replace h := h.1 hs132
                          refine zw_sw (tgt := 542) zM_L_law dL_law_40 (zx_sw_in hs132 rfl) rfl ?_
                          refine zw_go (pc1 := 543) (L1 := [some (.ref a0), some (.ref a1), some (.ref a2), some (.ref a3), some (.int x4), none, none]) (st1 := [.ref a1]) (σ1 := σ) zM_L_law dL_law_542 rfl rfl rfl rfl ?_
                          obtain ⟨hk126, h⟩ := h
                          refine zw_callI (as := [.ref a1]) (rest := []) zM_L_law dL_law_543 (zx_calV zC_8_63) zM_X6_load rfl rfl rfl rfl rfl (zx_args0 hk126 rfl) rfl h (fun v128 σ127 h => ?_)
                          refine zw_go (pc1 := 547) (L1 := [some (.ref a0), some (.ref a1), some (.ref a2), some (.ref a3), some (.int x4), none, none]) (st1 := [.ref a2, .int v128]) (σ1 := σ127) zM_L_law dL_law_546 rfl rfl rfl rfl ?_
                          obtain ⟨hk129, h⟩ := h
                          refine zw_callI (as := [.ref a2]) (rest := [.int v128]) zM_L_law dL_law_547 (zx_calV zC_8_66) zM_X7_load rfl rfl rfl rfl rfl (zx_args0 hk129 rfl) rfl h (fun v131 σ130 h => ?_)
                          refine zw_icmp_eq (tgt := 970) zM_L_law dL_law_550 rfl rfl (fun q => ?_) (fun q => ?_)
                          · replace h := h.1 q
                            exact zw_weak2 h ⟨rfl, rfl, rfl, rfl, rfl, trivial⟩
                          · replace h := h.2 q
                            refine zw_iconst (v := 0) zM_L_law dL_law_553 (by decide) ?_
                            exact zw_retz zM_L_law dL_law_554 rfl (by decide) h
                        · replace h := h.2 hs132
                          by_cases hs139 : ((zI σ a0 (Int32.toNatClampNeg x4)) &&& 31) = 11
                          · replace h := h.1 hs139
                            refine zw_sw (tgt := 555) zM_L_law dL_law_40 (zx_sw_in hs139 rfl) rfl ?_
                            refine zw_go (pc1 := 556) (L1 := [some (.ref a0), some (.ref a1), some (.ref a2), some (.ref a3), some (.int x4), none, none]) (st1 := [.ref a1]) (σ1 := σ) zM_L_law dL_law_555 rfl rfl rfl rfl ?_
                            obtain ⟨hk133, h⟩ := h
                            refine zw_callI (as := [.ref a1]) (rest := []) zM_L_law dL_law_556 (zx_calV zC_8_67) zM_X6_drop rfl rfl rfl rfl rfl (zx_args0 hk133 rfl) rfl h (fun v135 σ134 h => ?_)
                            refine zw_go (pc1 := 560) (L1 := [some (.ref a0), some (.ref a1), some (.ref a2), some (.ref a3), some (.int x4), none, none]) (st1 := [.ref a2, .int v135]) (σ1 := σ134) zM_L_law dL_law_559 rfl rfl rfl rfl ?_
                            obtain ⟨hk136, h⟩ := h
                            refine zw_callI (as := [.ref a2]) (rest := [.int v135]) zM_L_law dL_law_560 (zx_calV zC_8_70) zM_X7_drop rfl rfl rfl rfl rfl (zx_args0 hk136 rfl) rfl h (fun v138 σ137 h => ?_)
                            refine zw_icmp_eq (tgt := 970) zM_L_law dL_law_563 rfl rfl (fun q => ?_) (fun q => ?_)
                            · replace h := h.1 q
                              exact zw_weak2 h ⟨rfl, rfl, rfl, rfl, rfl, trivial⟩
                            · replace h := h.2 q
                              refine zw_iconst (v := 0) zM_L_law dL_law_566 (by decide) ?_
                              exact zw_retz zM_L_law dL_law_567 rfl (by decide) h
                          · replace h := h.2 hs139
                            by_cases hs173 : ((zI σ a0 (Int32.toNatClampNeg x4)) &&& 31) = 12
                            · replace h := h.1 hs173
                              refine zw_sw (tgt := 568) zM_L_law dL_law_40 (zx_sw_in hs173 rfl) rfl ?_
                              refine zw_go (pc1 := 569) (L1 := [some (.ref a0), some (.ref a1), some (.ref a2), some (.ref a3), some (.int x4), none, none]) (st1 := [.ref a1]) (σ1 := σ) zM_L_law dL_law_568 rfl rfl rfl rfl ?_
                              refine zw_go (pc1 := 570) (L1 := [some (.ref a0), some (.ref a1), some (.ref a2), some (.ref a3), some (.int x4), none, none]) (st1 := [.ref a0, .ref a1]) (σ1 := σ) zM_L_law dL_law_569 rfl rfl rfl rfl ?_
                              refine zw_go (pc1 := 572) (L1 := [some (.ref a0), some (.ref a1), some (.ref a2), some (.ref a3), some (.int x4), none, none]) (st1 := [.int x4, .ref a0, .ref a1]) (σ1 := σ) zM_L_law dL_law_570 rfl rfl rfl rfl ?_
                              refine zw_iconst (v := 1) zM_L_law dL_law_572 (by decide) ?_
                              refine zw_go (pc1 := 574) (L1 := [some (.ref a0), some (.ref a1), some (.ref a2), some (.ref a3), some (.int x4), none, none]) (st1 := [.int (x4 + 1), .ref a0, .ref a1]) (σ1 := σ) zM_L_law dL_law_573 rfl rfl rfl rfl ?_
                              obtain ⟨hi140, h⟩ := h
                              refine zw_iald zM_L_law dL_law_574 ⟨Or.inr hk1, hi140⟩ ?_
                              refine zw_go (pc1 := 576) (L1 := [some (.ref a0), some (.ref a1), some (.ref a2), some (.ref a3), some (.int x4), none, none]) (st1 := [.ref a0, .int (zI σ a0 (Int32.toNatClampNeg (x4 + 1))), .ref a1]) (σ1 := σ) zM_L_law dL_law_575 rfl rfl rfl rfl ?_
                              refine zw_go (pc1 := 578) (L1 := [some (.ref a0), some (.ref a1), some (.ref a2), some (.ref a3), some (.int x4), none, none]) (st1 := [.int x4, .ref a0, .int (zI σ a0 (Int32.toNatClampNeg (x4 + 1))), .ref a1]) (σ1 := σ) zM_L_law dL_law_576 rfl rfl rfl rfl ?_
                              refine zw_iconst (v := 2) zM_L_law dL_law_578 (by decide) ?_
                              refine zw_go (pc1 := 580) (L1 := [some (.ref a0), some (.ref a1), some (.ref a2), some (.ref a3), some (.int x4), none, none]) (st1 := [.int (x4 + 2), .ref a0, .int (zI σ a0 (Int32.toNatClampNeg (x4 + 1))), .ref a1]) (σ1 := σ) zM_L_law dL_law_579 rfl rfl rfl rfl ?_
                              obtain ⟨hi141, h⟩ := h
                              refine zw_iald zM_L_law dL_law_580 ⟨Or.inr hk1, hi141⟩ ?_
                              refine zw_go (pc1 := 582) (L1 := [some (.ref a0), some (.ref a1), some (.ref a2), some (.ref a3), some (.int x4), none, none]) (st1 := [.ref a3, .int (zI σ a0 (Int32.toNatClampNeg (x4 + 2))), .int (zI σ a0 (Int32.toNatClampNeg (x4 + 1))), .ref a1]) (σ1 := σ) zM_L_law dL_law_581 rfl rfl rfl rfl ?_
                              obtain ⟨hk142, h⟩ := h
                              obtain ⟨hk143, h⟩ := h
                              obtain ⟨hn144, h⟩ := h
                              refine zw_out zM_L_law dL_law_582 zC_8_71 zM_X6_out hk142 hn144 hk143 rfl rfl (zw.mono h (fun r145 σ146 h => ?_))
                              rcases h with ⟨v147, er, h⟩ | ⟨q148, er, h⟩
                              · refine Or.inl ⟨v147, er, ?_⟩
                                obtain ⟨σ149, e150⟩ : ∃ z9 : zx_S, z9 = zx_pJ σ146 a3 0 (Int32.toInt64 v147) := ⟨_, rfl⟩
                                replace h := h σ149 e150
                                rw [← e150]
                                refine zw_go (pc1 := 587) (L1 := [some (.ref a0), some (.ref a1), some (.ref a2), some (.ref a3), some (.int x4), some (.int 0), none]) (st1 := []) (σ1 := σ149) zM_L_law dL_law_585 rfl rfl rfl rfl ?_
                                refine zw_go (pc1 := 588) (L1 := [some (.ref a0), some (.ref a1), some (.ref a2), some (.ref a3), some (.int x4), some (.int 0), none]) (st1 := [.ref a2]) (σ1 := σ149) zM_L_law dL_law_587 rfl rfl rfl rfl ?_
                                refine zw_go (pc1 := 589) (L1 := [some (.ref a0), some (.ref a1), some (.ref a2), some (.ref a3), some (.int x4), some (.int 0), none]) (st1 := [.ref a0, .ref a2]) (σ1 := σ149) zM_L_law dL_law_588 rfl rfl rfl rfl ?_
                                refine zw_go (pc1 := 591) (L1 := [some (.ref a0), some (.ref a1), some (.ref a2), some (.ref a3), some (.int x4), some (.int 0), none]) (st1 := [.int x4, .ref a0, .ref a2]) (σ1 := σ149) zM_L_law dL_law_589 rfl rfl rfl rfl ?_
                                refine zw_iconst (v := 1) zM_L_law dL_law_591 (by decide) ?_
                                refine zw_go (pc1 := 593) (L1 := [some (.ref a0), some (.ref a1), some (.ref a2), some (.ref a3), some (.int x4), some (.int 0), none]) (st1 := [.int (x4 + 1), .ref a0, .ref a2]) (σ1 := σ149) zM_L_law dL_law_592 rfl rfl rfl rfl ?_
                                obtain ⟨hk151, h⟩ := h
                                obtain ⟨hi152, h⟩ := h
                                refine zw_iald zM_L_law dL_law_593 ⟨Or.inr hk151, hi152⟩ ?_
                                refine zw_go (pc1 := 595) (L1 := [some (.ref a0), some (.ref a1), some (.ref a2), some (.ref a3), some (.int x4), some (.int 0), none]) (st1 := [.ref a0, .int (zI σ149 a0 (Int32.toNatClampNeg (x4 + 1))), .ref a2]) (σ1 := σ149) zM_L_law dL_law_594 rfl rfl rfl rfl ?_
                                refine zw_go (pc1 := 597) (L1 := [some (.ref a0), some (.ref a1), some (.ref a2), some (.ref a3), some (.int x4), some (.int 0), none]) (st1 := [.int x4, .ref a0, .int (zI σ149 a0 (Int32.toNatClampNeg (x4 + 1))), .ref a2]) (σ1 := σ149) zM_L_law dL_law_595 rfl rfl rfl rfl ?_
                                refine zw_iconst (v := 2) zM_L_law dL_law_597 (by decide) ?_
                                refine zw_go (pc1 := 599) (L1 := [some (.ref a0), some (.ref a1), some (.ref a2), some (.ref a3), some (.int x4), some (.int 0), none]) (st1 := [.int (x4 + 2), .ref a0, .int (zI σ149 a0 (Int32.toNatClampNeg (x4 + 1))), .ref a2]) (σ1 := σ149) zM_L_law dL_law_598 rfl rfl rfl rfl ?_
                                obtain ⟨hi153, h⟩ := h
                                refine zw_iald zM_L_law dL_law_599 ⟨Or.inr hk151, hi153⟩ ?_
                                obtain ⟨hk154, h⟩ := h
                                refine zw_callI (as := [.ref a2, .int (zI σ149 a0 (Int32.toNatClampNeg (x4 + 1))), .int (zI σ149 a0 (Int32.toNatClampNeg (x4 + 2)))]) (rest := []) zM_L_law dL_law_600 (zx_calV zC_8_76) zM_X7_out rfl rfl rfl rfl rfl (zx_args0 hk154 rfl) rfl h (fun v156 σ155 h => ?_)
                                refine zw_go (pc1 := 605) (L1 := [some (.ref a0), some (.ref a1), some (.ref a2), some (.ref a3), some (.int x4), some (.int 0), some (.int v156)]) (st1 := []) (σ1 := σ155) zM_L_law dL_law_603 rfl rfl rfl rfl ?_
                                refine zw_go (pc1 := 606) (L1 := [some (.ref a0), some (.ref a1), some (.ref a2), some (.ref a3), some (.int x4), some (.int 0), some (.int v156)]) (st1 := [.ref a2]) (σ1 := σ155) zM_L_law dL_law_605 rfl rfl rfl rfl ?_
                                obtain ⟨hk157, h⟩ := h
                                refine zw_callI (as := [.ref a2]) (rest := []) zM_L_law dL_law_606 (zx_calV zC_8_77) zM_X7_thrown rfl rfl rfl rfl rfl (zx_args0 hk157 rfl) rfl h (fun v159 σ158 h => ?_)
                                refine zw_go (pc1 := 611) (L1 := [some (.ref a0), some (.ref a1), some (.ref a2), some (.ref a3), some (.int x4), some (.int 0), some (.int v156)]) (st1 := [.int 0, .int v159]) (σ1 := σ158) zM_L_law dL_law_609 rfl rfl rfl rfl ?_
                                refine zw_icmp_eq (tgt := 616) zM_L_law dL_law_611 rfl rfl (fun q => ?_) (fun q => ?_)
                                · replace h := h.1 q
                                  refine zw_go (pc1 := 618) (L1 := [some (.ref a0), some (.ref a1), some (.ref a2), some (.ref a3), some (.int x4), some (.int 0), some (.int v156)]) (st1 := [.int 0]) (σ1 := σ158) zM_L_law dL_law_616 rfl rfl rfl rfl ?_
                                  refine zw_if_ne (tgt := 633) zM_L_law dL_law_618 rfl rfl (fun q => ?_) (fun q => ?_)
                                  · replace h := h.1 q
                                    exact zw_weak2 h ⟨rfl, rfl, rfl, rfl, rfl, trivial⟩
                                  · replace h := h.2 q
                                    refine zw_go (pc1 := 622) (L1 := [some (.ref a0), some (.ref a1), some (.ref a2), some (.ref a3), some (.int x4), some (.int 0), some (.int v156)]) (st1 := [.ref a3]) (σ1 := σ158) zM_L_law dL_law_621 rfl rfl rfl rfl ?_
                                    refine zw_iconst (v := 0) zM_L_law dL_law_622 (by decide) ?_
                                    obtain ⟨hk160, h⟩ := h
                                    obtain ⟨hi161, h⟩ := h
                                    refine zw_lald zM_L_law dL_law_623 ⟨hk160, hi161⟩ ?_
                                    refine zw_go (pc1 := 626) (L1 := [some (.ref a0), some (.ref a1), some (.ref a2), some (.ref a3), some (.int x4), some (.int 0), some (.int v156)]) (st1 := [.int v156, .long (zJ σ158 a3 (Int32.toNatClampNeg 0))]) (σ1 := σ158) zM_L_law dL_law_624 rfl rfl rfl rfl ?_
                                    refine zw_go (pc1 := 627) (L1 := [some (.ref a0), some (.ref a1), some (.ref a2), some (.ref a3), some (.int x4), some (.int 0), some (.int v156)]) (st1 := [.long (Int32.toInt64 v156), .long (zJ σ158 a3 (Int32.toNatClampNeg 0))]) (σ1 := σ158) zM_L_law dL_law_626 rfl rfl rfl rfl ?_
                                    refine zw_go (pc1 := 628) (L1 := [some (.ref a0), some (.ref a1), some (.ref a2), some (.ref a3), some (.int x4), some (.int 0), some (.int v156)]) (st1 := [.int (lg_cmp (zJ σ158 a3 (Int32.toNatClampNeg 0)) (Int32.toInt64 v156))]) (σ1 := σ158) zM_L_law dL_law_627 rfl rfl rfl rfl ?_
                                    refine zw_if_eq (tgt := 633) zM_L_law dL_law_628 rfl rfl (fun q => ?_) (fun q => ?_)
                                    · replace h := h.1 q
                                      exact zw_weak2 h ⟨rfl, rfl, rfl, rfl, rfl, trivial⟩
                                    · replace h := h.2 q
                                      refine zw_iconst (v := 0) zM_L_law dL_law_631 (by decide) ?_
                                      exact zw_retz zM_L_law dL_law_632 rfl (by decide) h
                                · replace h := h.2 q
                                  refine zw_iconst (v := 0) zM_L_law dL_law_614 (by decide) ?_
                                  exact zw_retz zM_L_law dL_law_615 rfl (by decide) h
                              · refine Or.inr ⟨q148, er, ?_⟩
                                refine zw_go (pc1 := 587) (L1 := [some (.ref a0), some (.ref a1), some (.ref a2), some (.ref a3), some (.int x4), some (.int 1), none]) (st1 := []) (σ1 := σ146) zM_L_law dL_law_585 rfl rfl rfl rfl ?_
                                refine zw_go (pc1 := 588) (L1 := [some (.ref a0), some (.ref a1), some (.ref a2), some (.ref a3), some (.int x4), some (.int 1), none]) (st1 := [.ref a2]) (σ1 := σ146) zM_L_law dL_law_587 rfl rfl rfl rfl ?_
                                refine zw_go (pc1 := 589) (L1 := [some (.ref a0), some (.ref a1), some (.ref a2), some (.ref a3), some (.int x4), some (.int 1), none]) (st1 := [.ref a0, .ref a2]) (σ1 := σ146) zM_L_law dL_law_588 rfl rfl rfl rfl ?_
                                refine zw_go (pc1 := 591) (L1 := [some (.ref a0), some (.ref a1), some (.ref a2), some (.ref a3), some (.int x4), some (.int 1), none]) (st1 := [.int x4, .ref a0, .ref a2]) (σ1 := σ146) zM_L_law dL_law_589 rfl rfl rfl rfl ?_
                                refine zw_iconst (v := 1) zM_L_law dL_law_591 (by decide) ?_
                                refine zw_go (pc1 := 593) (L1 := [some (.ref a0), some (.ref a1), some (.ref a2), some (.ref a3), some (.int x4), some (.int 1), none]) (st1 := [.int (x4 + 1), .ref a0, .ref a2]) (σ1 := σ146) zM_L_law dL_law_592 rfl rfl rfl rfl ?_
                                obtain ⟨hk162, h⟩ := h
                                obtain ⟨hi163, h⟩ := h
                                refine zw_iald zM_L_law dL_law_593 ⟨Or.inr hk162, hi163⟩ ?_
                                refine zw_go (pc1 := 595) (L1 := [some (.ref a0), some (.ref a1), some (.ref a2), some (.ref a3), some (.int x4), some (.int 1), none]) (st1 := [.ref a0, .int (zI σ146 a0 (Int32.toNatClampNeg (x4 + 1))), .ref a2]) (σ1 := σ146) zM_L_law dL_law_594 rfl rfl rfl rfl ?_
                                refine zw_go (pc1 := 597) (L1 := [some (.ref a0), some (.ref a1), some (.ref a2), some (.ref a3), some (.int x4), some (.int 1), none]) (st1 := [.int x4, .ref a0, .int (zI σ146 a0 (Int32.toNatClampNeg (x4 + 1))), .ref a2]) (σ1 := σ146) zM_L_law dL_law_595 rfl rfl rfl rfl ?_
                                refine zw_iconst (v := 2) zM_L_law dL_law_597 (by decide) ?_
                                refine zw_go (pc1 := 599) (L1 := [some (.ref a0), some (.ref a1), some (.ref a2), some (.ref a3), some (.int x4), some (.int 1), none]) (st1 := [.int (x4 + 2), .ref a0, .int (zI σ146 a0 (Int32.toNatClampNeg (x4 + 1))), .ref a2]) (σ1 := σ146) zM_L_law dL_law_598 rfl rfl rfl rfl ?_
                                obtain ⟨hi164, h⟩ := h
                                refine zw_iald zM_L_law dL_law_599 ⟨Or.inr hk162, hi164⟩ ?_
                                obtain ⟨hk165, h⟩ := h
                                refine zw_callI (as := [.ref a2, .int (zI σ146 a0 (Int32.toNatClampNeg (x4 + 1))), .int (zI σ146 a0 (Int32.toNatClampNeg (x4 + 2)))]) (rest := []) zM_L_law dL_law_600 (zx_calV zC_8_76) zM_X7_out rfl rfl rfl rfl rfl (zx_args0 hk165 rfl) rfl h (fun v167 σ166 h => ?_)
                                refine zw_go (pc1 := 605) (L1 := [some (.ref a0), some (.ref a1), some (.ref a2), some (.ref a3), some (.int x4), some (.int 1), some (.int v167)]) (st1 := []) (σ1 := σ166) zM_L_law dL_law_603 rfl rfl rfl rfl ?_
                                refine zw_go (pc1 := 606) (L1 := [some (.ref a0), some (.ref a1), some (.ref a2), some (.ref a3), some (.int x4), some (.int 1), some (.int v167)]) (st1 := [.ref a2]) (σ1 := σ166) zM_L_law dL_law_605 rfl rfl rfl rfl ?_
                                obtain ⟨hk168, h⟩ := h
                                refine zw_callI (as := [.ref a2]) (rest := []) zM_L_law dL_law_606 (zx_calV zC_8_77) zM_X7_thrown rfl rfl rfl rfl rfl (zx_args0 hk168 rfl) rfl h (fun v170 σ169 h => ?_)
                                refine zw_go (pc1 := 611) (L1 := [some (.ref a0), some (.ref a1), some (.ref a2), some (.ref a3), some (.int x4), some (.int 1), some (.int v167)]) (st1 := [.int 1, .int v170]) (σ1 := σ169) zM_L_law dL_law_609 rfl rfl rfl rfl ?_
                                refine zw_icmp_eq (tgt := 616) zM_L_law dL_law_611 rfl rfl (fun q => ?_) (fun q => ?_)
                                · replace h := h.1 q
                                  refine zw_go (pc1 := 618) (L1 := [some (.ref a0), some (.ref a1), some (.ref a2), some (.ref a3), some (.int x4), some (.int 1), some (.int v167)]) (st1 := [.int 1]) (σ1 := σ169) zM_L_law dL_law_616 rfl rfl rfl rfl ?_
                                  refine zw_if_ne (tgt := 633) zM_L_law dL_law_618 rfl rfl (fun q => ?_) (fun q => ?_)
                                  · replace h := h.1 q
                                    exact zw_weak2 h ⟨rfl, rfl, rfl, rfl, rfl, trivial⟩
                                  · replace h := h.2 q
                                    refine zw_go (pc1 := 622) (L1 := [some (.ref a0), some (.ref a1), some (.ref a2), some (.ref a3), some (.int x4), some (.int 1), some (.int v167)]) (st1 := [.ref a3]) (σ1 := σ169) zM_L_law dL_law_621 rfl rfl rfl rfl ?_
                                    refine zw_iconst (v := 0) zM_L_law dL_law_622 (by decide) ?_
                                    obtain ⟨hk171, h⟩ := h
                                    obtain ⟨hi172, h⟩ := h
                                    refine zw_lald zM_L_law dL_law_623 ⟨hk171, hi172⟩ ?_
                                    refine zw_go (pc1 := 626) (L1 := [some (.ref a0), some (.ref a1), some (.ref a2), some (.ref a3), some (.int x4), some (.int 1), some (.int v167)]) (st1 := [.int v167, .long (zJ σ169 a3 (Int32.toNatClampNeg 0))]) (σ1 := σ169) zM_L_law dL_law_624 rfl rfl rfl rfl ?_
                                    refine zw_go (pc1 := 627) (L1 := [some (.ref a0), some (.ref a1), some (.ref a2), some (.ref a3), some (.int x4), some (.int 1), some (.int v167)]) (st1 := [.long (Int32.toInt64 v167), .long (zJ σ169 a3 (Int32.toNatClampNeg 0))]) (σ1 := σ169) zM_L_law dL_law_626 rfl rfl rfl rfl ?_
                                    refine zw_go (pc1 := 628) (L1 := [some (.ref a0), some (.ref a1), some (.ref a2), some (.ref a3), some (.int x4), some (.int 1), some (.int v167)]) (st1 := [.int (lg_cmp (zJ σ169 a3 (Int32.toNatClampNeg 0)) (Int32.toInt64 v167))]) (σ1 := σ169) zM_L_law dL_law_627 rfl rfl rfl rfl ?_
                                    refine zw_if_eq (tgt := 633) zM_L_law dL_law_628 rfl rfl (fun q => ?_) (fun q => ?_)
                                    · replace h := h.1 q
                                      exact zw_weak2 h ⟨rfl, rfl, rfl, rfl, rfl, trivial⟩
                                    · replace h := h.2 q
                                      refine zw_iconst (v := 0) zM_L_law dL_law_631 (by decide) ?_
                                      exact zw_retz zM_L_law dL_law_632 rfl (by decide) h
                                · replace h := h.2 q
                                  refine zw_iconst (v := 0) zM_L_law dL_law_614 (by decide) ?_
                                  exact zw_retz zM_L_law dL_law_615 rfl (by decide) h
                            · replace h := h.2 hs173
                              by_cases hs185 : ((zI σ a0 (Int32.toNatClampNeg x4)) &&& 31) = 13
                              · replace h := h.1 hs185
                                refine zw_sw (tgt := 636) zM_L_law dL_law_40 (zx_sw_in hs185 rfl) rfl ?_
                                refine zw_go (pc1 := 637) (L1 := [some (.ref a0), some (.ref a1), some (.ref a2), some (.ref a3), some (.int x4), none, none]) (st1 := [.ref a1]) (σ1 := σ) zM_L_law dL_law_636 rfl rfl rfl rfl ?_
                                refine zw_go (pc1 := 638) (L1 := [some (.ref a0), some (.ref a1), some (.ref a2), some (.ref a3), some (.int x4), none, none]) (st1 := [.ref a0, .ref a1]) (σ1 := σ) zM_L_law dL_law_637 rfl rfl rfl rfl ?_
                                refine zw_go (pc1 := 640) (L1 := [some (.ref a0), some (.ref a1), some (.ref a2), some (.ref a3), some (.int x4), none, none]) (st1 := [.int x4, .ref a0, .ref a1]) (σ1 := σ) zM_L_law dL_law_638 rfl rfl rfl rfl ?_
                                refine zw_iconst (v := 1) zM_L_law dL_law_640 (by decide) ?_
                                refine zw_go (pc1 := 642) (L1 := [some (.ref a0), some (.ref a1), some (.ref a2), some (.ref a3), some (.int x4), none, none]) (st1 := [.int (x4 + 1), .ref a0, .ref a1]) (σ1 := σ) zM_L_law dL_law_641 rfl rfl rfl rfl ?_
                                obtain ⟨hi174, h⟩ := h
                                refine zw_iald zM_L_law dL_law_642 ⟨Or.inr hk1, hi174⟩ ?_
                                refine zw_go (pc1 := 644) (L1 := [some (.ref a0), some (.ref a1), some (.ref a2), some (.ref a3), some (.int x4), none, none]) (st1 := [.ref a0, .int (zI σ a0 (Int32.toNatClampNeg (x4 + 1))), .ref a1]) (σ1 := σ) zM_L_law dL_law_643 rfl rfl rfl rfl ?_
                                refine zw_go (pc1 := 646) (L1 := [some (.ref a0), some (.ref a1), some (.ref a2), some (.ref a3), some (.int x4), none, none]) (st1 := [.int x4, .ref a0, .int (zI σ a0 (Int32.toNatClampNeg (x4 + 1))), .ref a1]) (σ1 := σ) zM_L_law dL_law_644 rfl rfl rfl rfl ?_
                                refine zw_iconst (v := 2) zM_L_law dL_law_646 (by decide) ?_
                                refine zw_go (pc1 := 648) (L1 := [some (.ref a0), some (.ref a1), some (.ref a2), some (.ref a3), some (.int x4), none, none]) (st1 := [.int (x4 + 2), .ref a0, .int (zI σ a0 (Int32.toNatClampNeg (x4 + 1))), .ref a1]) (σ1 := σ) zM_L_law dL_law_647 rfl rfl rfl rfl ?_
                                obtain ⟨hi175, h⟩ := h
                                refine zw_iald zM_L_law dL_law_648 ⟨Or.inr hk1, hi175⟩ ?_
                                obtain ⟨hk176, h⟩ := h
                                refine zw_callI (as := [.ref a1, .int (zI σ a0 (Int32.toNatClampNeg (x4 + 1))), .int (zI σ a0 (Int32.toNatClampNeg (x4 + 2)))]) (rest := []) zM_L_law dL_law_649 (zx_calV zC_8_80) zM_X6_image rfl rfl rfl rfl rfl (zx_args0 hk176 rfl) rfl h (fun v178 σ177 h => ?_)
                                refine zw_go (pc1 := 653) (L1 := [some (.ref a0), some (.ref a1), some (.ref a2), some (.ref a3), some (.int x4), none, none]) (st1 := [.ref a2, .int v178]) (σ1 := σ177) zM_L_law dL_law_652 rfl rfl rfl rfl ?_
                                refine zw_go (pc1 := 654) (L1 := [some (.ref a0), some (.ref a1), some (.ref a2), some (.ref a3), some (.int x4), none, none]) (st1 := [.ref a0, .ref a2, .int v178]) (σ1 := σ177) zM_L_law dL_law_653 rfl rfl rfl rfl ?_
                                refine zw_go (pc1 := 656) (L1 := [some (.ref a0), some (.ref a1), some (.ref a2), some (.ref a3), some (.int x4), none, none]) (st1 := [.int x4, .ref a0, .ref a2, .int v178]) (σ1 := σ177) zM_L_law dL_law_654 rfl rfl rfl rfl ?_
                                refine zw_iconst (v := 1) zM_L_law dL_law_656 (by decide) ?_
                                refine zw_go (pc1 := 658) (L1 := [some (.ref a0), some (.ref a1), some (.ref a2), some (.ref a3), some (.int x4), none, none]) (st1 := [.int (x4 + 1), .ref a0, .ref a2, .int v178]) (σ1 := σ177) zM_L_law dL_law_657 rfl rfl rfl rfl ?_
                                obtain ⟨hk179, h⟩ := h
                                obtain ⟨hi180, h⟩ := h
                                refine zw_iald zM_L_law dL_law_658 ⟨Or.inr hk179, hi180⟩ ?_
                                refine zw_go (pc1 := 660) (L1 := [some (.ref a0), some (.ref a1), some (.ref a2), some (.ref a3), some (.int x4), none, none]) (st1 := [.ref a0, .int (zI σ177 a0 (Int32.toNatClampNeg (x4 + 1))), .ref a2, .int v178]) (σ1 := σ177) zM_L_law dL_law_659 rfl rfl rfl rfl ?_
                                refine zw_go (pc1 := 662) (L1 := [some (.ref a0), some (.ref a1), some (.ref a2), some (.ref a3), some (.int x4), none, none]) (st1 := [.int x4, .ref a0, .int (zI σ177 a0 (Int32.toNatClampNeg (x4 + 1))), .ref a2, .int v178]) (σ1 := σ177) zM_L_law dL_law_660 rfl rfl rfl rfl ?_
                                refine zw_iconst (v := 2) zM_L_law dL_law_662 (by decide) ?_
                                refine zw_go (pc1 := 664) (L1 := [some (.ref a0), some (.ref a1), some (.ref a2), some (.ref a3), some (.int x4), none, none]) (st1 := [.int (x4 + 2), .ref a0, .int (zI σ177 a0 (Int32.toNatClampNeg (x4 + 1))), .ref a2, .int v178]) (σ1 := σ177) zM_L_law dL_law_663 rfl rfl rfl rfl ?_
                                obtain ⟨hi181, h⟩ := h
                                refine zw_iald zM_L_law dL_law_664 ⟨Or.inr hk179, hi181⟩ ?_
                                obtain ⟨hk182, h⟩ := h
                                refine zw_callI (as := [.ref a2, .int (zI σ177 a0 (Int32.toNatClampNeg (x4 + 1))), .int (zI σ177 a0 (Int32.toNatClampNeg (x4 + 2)))]) (rest := [.int v178]) zM_L_law dL_law_665 (zx_calV zC_8_83) zM_X7_image rfl rfl rfl rfl rfl (zx_args0 hk182 rfl) rfl h (fun v184 σ183 h => ?_)
                                refine zw_icmp_eq (tgt := 970) zM_L_law dL_law_668 rfl rfl (fun q => ?_) (fun q => ?_)
                                · replace h := h.1 q
                                  exact zw_weak2 h ⟨rfl, rfl, rfl, rfl, rfl, trivial⟩
                                · replace h := h.2 q
                                  refine zw_iconst (v := 0) zM_L_law dL_law_671 (by decide) ?_
                                  exact zw_retz zM_L_law dL_law_672 rfl (by decide) h
                              · replace h := h.2 hs185
                                by_cases hs197 : ((zI σ a0 (Int32.toNatClampNeg x4)) &&& 31) = 14
                                · replace h := h.1 hs197
                                  refine zw_sw (tgt := 673) zM_L_law dL_law_40 (zx_sw_in hs197 rfl) rfl ?_
                                  refine zw_go (pc1 := 674) (L1 := [some (.ref a0), some (.ref a1), some (.ref a2), some (.ref a3), some (.int x4), none, none]) (st1 := [.ref a1]) (σ1 := σ) zM_L_law dL_law_673 rfl rfl rfl rfl ?_
                                  refine zw_go (pc1 := 675) (L1 := [some (.ref a0), some (.ref a1), some (.ref a2), some (.ref a3), some (.int x4), none, none]) (st1 := [.ref a0, .ref a1]) (σ1 := σ) zM_L_law dL_law_674 rfl rfl rfl rfl ?_
                                  refine zw_go (pc1 := 677) (L1 := [some (.ref a0), some (.ref a1), some (.ref a2), some (.ref a3), some (.int x4), none, none]) (st1 := [.int x4, .ref a0, .ref a1]) (σ1 := σ) zM_L_law dL_law_675 rfl rfl rfl rfl ?_
                                  refine zw_iconst (v := 1) zM_L_law dL_law_677 (by decide) ?_
                                  refine zw_go (pc1 := 679) (L1 := [some (.ref a0), some (.ref a1), some (.ref a2), some (.ref a3), some (.int x4), none, none]) (st1 := [.int (x4 + 1), .ref a0, .ref a1]) (σ1 := σ) zM_L_law dL_law_678 rfl rfl rfl rfl ?_
                                  obtain ⟨hi186, h⟩ := h
                                  refine zw_iald zM_L_law dL_law_679 ⟨Or.inr hk1, hi186⟩ ?_
                                  refine zw_go (pc1 := 681) (L1 := [some (.ref a0), some (.ref a1), some (.ref a2), some (.ref a3), some (.int x4), none, none]) (st1 := [.ref a0, .int (zI σ a0 (Int32.toNatClampNeg (x4 + 1))), .ref a1]) (σ1 := σ) zM_L_law dL_law_680 rfl rfl rfl rfl ?_
                                  refine zw_go (pc1 := 683) (L1 := [some (.ref a0), some (.ref a1), some (.ref a2), some (.ref a3), some (.int x4), none, none]) (st1 := [.int x4, .ref a0, .int (zI σ a0 (Int32.toNatClampNeg (x4 + 1))), .ref a1]) (σ1 := σ) zM_L_law dL_law_681 rfl rfl rfl rfl ?_
                                  refine zw_iconst (v := 2) zM_L_law dL_law_683 (by decide) ?_
                                  refine zw_go (pc1 := 685) (L1 := [some (.ref a0), some (.ref a1), some (.ref a2), some (.ref a3), some (.int x4), none, none]) (st1 := [.int (x4 + 2), .ref a0, .int (zI σ a0 (Int32.toNatClampNeg (x4 + 1))), .ref a1]) (σ1 := σ) zM_L_law dL_law_684 rfl rfl rfl rfl ?_
                                  obtain ⟨hi187, h⟩ := h
                                  refine zw_iald zM_L_law dL_law_685 ⟨Or.inr hk1, hi187⟩ ?_
                                  obtain ⟨hk188, h⟩ := h
                                  refine zw_callI (as := [.ref a1, .int (zI σ a0 (Int32.toNatClampNeg (x4 + 1))), .int (zI σ a0 (Int32.toNatClampNeg (x4 + 2)))]) (rest := []) zM_L_law dL_law_686 (zx_calV zC_8_84) zM_X6_same rfl rfl rfl rfl rfl (zx_args0 hk188 rfl) rfl h (fun v190 σ189 h => ?_)
                                  refine zw_go (pc1 := 690) (L1 := [some (.ref a0), some (.ref a1), some (.ref a2), some (.ref a3), some (.int x4), none, none]) (st1 := [.ref a2, .int v190]) (σ1 := σ189) zM_L_law dL_law_689 rfl rfl rfl rfl ?_
                                  refine zw_go (pc1 := 691) (L1 := [some (.ref a0), some (.ref a1), some (.ref a2), some (.ref a3), some (.int x4), none, none]) (st1 := [.ref a0, .ref a2, .int v190]) (σ1 := σ189) zM_L_law dL_law_690 rfl rfl rfl rfl ?_
                                  refine zw_go (pc1 := 693) (L1 := [some (.ref a0), some (.ref a1), some (.ref a2), some (.ref a3), some (.int x4), none, none]) (st1 := [.int x4, .ref a0, .ref a2, .int v190]) (σ1 := σ189) zM_L_law dL_law_691 rfl rfl rfl rfl ?_
                                  refine zw_iconst (v := 1) zM_L_law dL_law_693 (by decide) ?_
                                  refine zw_go (pc1 := 695) (L1 := [some (.ref a0), some (.ref a1), some (.ref a2), some (.ref a3), some (.int x4), none, none]) (st1 := [.int (x4 + 1), .ref a0, .ref a2, .int v190]) (σ1 := σ189) zM_L_law dL_law_694 rfl rfl rfl rfl ?_
                                  obtain ⟨hk191, h⟩ := h
                                  obtain ⟨hi192, h⟩ := h
                                  refine zw_iald zM_L_law dL_law_695 ⟨Or.inr hk191, hi192⟩ ?_
                                  refine zw_go (pc1 := 697) (L1 := [some (.ref a0), some (.ref a1), some (.ref a2), some (.ref a3), some (.int x4), none, none]) (st1 := [.ref a0, .int (zI σ189 a0 (Int32.toNatClampNeg (x4 + 1))), .ref a2, .int v190]) (σ1 := σ189) zM_L_law dL_law_696 rfl rfl rfl rfl ?_
                                  refine zw_go (pc1 := 699) (L1 := [some (.ref a0), some (.ref a1), some (.ref a2), some (.ref a3), some (.int x4), none, none]) (st1 := [.int x4, .ref a0, .int (zI σ189 a0 (Int32.toNatClampNeg (x4 + 1))), .ref a2, .int v190]) (σ1 := σ189) zM_L_law dL_law_697 rfl rfl rfl rfl ?_
                                  refine zw_iconst (v := 2) zM_L_law dL_law_699 (by decide) ?_
                                  refine zw_go (pc1 := 701) (L1 := [some (.ref a0), some (.ref a1), some (.ref a2), some (.ref a3), some (.int x4), none, none]) (st1 := [.int (x4 + 2), .ref a0, .int (zI σ189 a0 (Int32.toNatClampNeg (x4 + 1))), .ref a2, .int v190]) (σ1 := σ189) zM_L_law dL_law_700 rfl rfl rfl rfl ?_
                                  obtain ⟨hi193, h⟩ := h
                                  refine zw_iald zM_L_law dL_law_701 ⟨Or.inr hk191, hi193⟩ ?_
                                  obtain ⟨hk194, h⟩ := h
                                  refine zw_callI (as := [.ref a2, .int (zI σ189 a0 (Int32.toNatClampNeg (x4 + 1))), .int (zI σ189 a0 (Int32.toNatClampNeg (x4 + 2)))]) (rest := [.int v190]) zM_L_law dL_law_702 (zx_calV zC_8_87) zM_X7_same rfl rfl rfl rfl rfl (zx_args0 hk194 rfl) rfl h (fun v196 σ195 h => ?_)
                                  refine zw_icmp_eq (tgt := 970) zM_L_law dL_law_705 rfl rfl (fun q => ?_) (fun q => ?_)
                                  · replace h := h.1 q
                                    exact zw_weak2 h ⟨rfl, rfl, rfl, rfl, rfl, trivial⟩
                                  · replace h := h.2 q
                                    refine zw_iconst (v := 0) zM_L_law dL_law_708 (by decide) ?_
                                    exact zw_retz zM_L_law dL_law_709 rfl (by decide) h
                                · replace h := h.2 hs197
                                  by_cases hs211 : ((zI σ a0 (Int32.toNatClampNeg x4)) &&& 31) = 15
                                  · replace h := h.1 hs211
                                    refine zw_sw (tgt := 710) zM_L_law dL_law_40 (zx_sw_in hs211 rfl) rfl ?_
                                    refine zw_go (pc1 := 711) (L1 := [some (.ref a0), some (.ref a1), some (.ref a2), some (.ref a3), some (.int x4), none, none]) (st1 := [.ref a1]) (σ1 := σ) zM_L_law dL_law_710 rfl rfl rfl rfl ?_
                                    refine zw_go (pc1 := 712) (L1 := [some (.ref a0), some (.ref a1), some (.ref a2), some (.ref a3), some (.int x4), none, none]) (st1 := [.ref a0, .ref a1]) (σ1 := σ) zM_L_law dL_law_711 rfl rfl rfl rfl ?_
                                    refine zw_go (pc1 := 714) (L1 := [some (.ref a0), some (.ref a1), some (.ref a2), some (.ref a3), some (.int x4), none, none]) (st1 := [.int x4, .ref a0, .ref a1]) (σ1 := σ) zM_L_law dL_law_712 rfl rfl rfl rfl ?_
                                    refine zw_iconst (v := 1) zM_L_law dL_law_714 (by decide) ?_
                                    refine zw_go (pc1 := 716) (L1 := [some (.ref a0), some (.ref a1), some (.ref a2), some (.ref a3), some (.int x4), none, none]) (st1 := [.int (x4 + 1), .ref a0, .ref a1]) (σ1 := σ) zM_L_law dL_law_715 rfl rfl rfl rfl ?_
                                    obtain ⟨hi198, h⟩ := h
                                    refine zw_iald zM_L_law dL_law_716 ⟨Or.inr hk1, hi198⟩ ?_
                                    refine zw_go (pc1 := 718) (L1 := [some (.ref a0), some (.ref a1), some (.ref a2), some (.ref a3), some (.int x4), none, none]) (st1 := [.ref a0, .int (zI σ a0 (Int32.toNatClampNeg (x4 + 1))), .ref a1]) (σ1 := σ) zM_L_law dL_law_717 rfl rfl rfl rfl ?_
                                    refine zw_go (pc1 := 720) (L1 := [some (.ref a0), some (.ref a1), some (.ref a2), some (.ref a3), some (.int x4), none, none]) (st1 := [.int x4, .ref a0, .int (zI σ a0 (Int32.toNatClampNeg (x4 + 1))), .ref a1]) (σ1 := σ) zM_L_law dL_law_718 rfl rfl rfl rfl ?_
                                    refine zw_iconst (v := 2) zM_L_law dL_law_720 (by decide) ?_
                                    refine zw_go (pc1 := 722) (L1 := [some (.ref a0), some (.ref a1), some (.ref a2), some (.ref a3), some (.int x4), none, none]) (st1 := [.int (x4 + 2), .ref a0, .int (zI σ a0 (Int32.toNatClampNeg (x4 + 1))), .ref a1]) (σ1 := σ) zM_L_law dL_law_721 rfl rfl rfl rfl ?_
                                    obtain ⟨hi199, h⟩ := h
                                    refine zw_iald zM_L_law dL_law_722 ⟨Or.inr hk1, hi199⟩ ?_
                                    refine zw_go (pc1 := 724) (L1 := [some (.ref a0), some (.ref a1), some (.ref a2), some (.ref a3), some (.int x4), none, none]) (st1 := [.ref a0, .int (zI σ a0 (Int32.toNatClampNeg (x4 + 2))), .int (zI σ a0 (Int32.toNatClampNeg (x4 + 1))), .ref a1]) (σ1 := σ) zM_L_law dL_law_723 rfl rfl rfl rfl ?_
                                    refine zw_go (pc1 := 726) (L1 := [some (.ref a0), some (.ref a1), some (.ref a2), some (.ref a3), some (.int x4), none, none]) (st1 := [.int x4, .ref a0, .int (zI σ a0 (Int32.toNatClampNeg (x4 + 2))), .int (zI σ a0 (Int32.toNatClampNeg (x4 + 1))), .ref a1]) (σ1 := σ) zM_L_law dL_law_724 rfl rfl rfl rfl ?_
                                    refine zw_iconst (v := 3) zM_L_law dL_law_726 (by decide) ?_
                                    refine zw_go (pc1 := 728) (L1 := [some (.ref a0), some (.ref a1), some (.ref a2), some (.ref a3), some (.int x4), none, none]) (st1 := [.int (x4 + 3), .ref a0, .int (zI σ a0 (Int32.toNatClampNeg (x4 + 2))), .int (zI σ a0 (Int32.toNatClampNeg (x4 + 1))), .ref a1]) (σ1 := σ) zM_L_law dL_law_727 rfl rfl rfl rfl ?_
                                    obtain ⟨hi200, h⟩ := h
                                    refine zw_iald zM_L_law dL_law_728 ⟨Or.inr hk1, hi200⟩ ?_
                                    obtain ⟨hk201, h⟩ := h
                                    refine zw_callI (as := [.ref a1, .int (zI σ a0 (Int32.toNatClampNeg (x4 + 1))), .int (zI σ a0 (Int32.toNatClampNeg (x4 + 2))), .int (zI σ a0 (Int32.toNatClampNeg (x4 + 3)))]) (rest := []) zM_L_law dL_law_729 (zx_calV zC_8_88) zM_X6_node rfl rfl rfl rfl rfl (zx_args0 hk201 rfl) rfl h (fun v203 σ202 h => ?_)
                                    refine zw_go (pc1 := 733) (L1 := [some (.ref a0), some (.ref a1), some (.ref a2), some (.ref a3), some (.int x4), none, none]) (st1 := [.ref a2, .int v203]) (σ1 := σ202) zM_L_law dL_law_732 rfl rfl rfl rfl ?_
                                    refine zw_go (pc1 := 734) (L1 := [some (.ref a0), some (.ref a1), some (.ref a2), some (.ref a3), some (.int x4), none, none]) (st1 := [.ref a0, .ref a2, .int v203]) (σ1 := σ202) zM_L_law dL_law_733 rfl rfl rfl rfl ?_
                                    refine zw_go (pc1 := 736) (L1 := [some (.ref a0), some (.ref a1), some (.ref a2), some (.ref a3), some (.int x4), none, none]) (st1 := [.int x4, .ref a0, .ref a2, .int v203]) (σ1 := σ202) zM_L_law dL_law_734 rfl rfl rfl rfl ?_
                                    refine zw_iconst (v := 1) zM_L_law dL_law_736 (by decide) ?_
                                    refine zw_go (pc1 := 738) (L1 := [some (.ref a0), some (.ref a1), some (.ref a2), some (.ref a3), some (.int x4), none, none]) (st1 := [.int (x4 + 1), .ref a0, .ref a2, .int v203]) (σ1 := σ202) zM_L_law dL_law_737 rfl rfl rfl rfl ?_
                                    obtain ⟨hk204, h⟩ := h
                                    obtain ⟨hi205, h⟩ := h
                                    refine zw_iald zM_L_law dL_law_738 ⟨Or.inr hk204, hi205⟩ ?_
                                    refine zw_go (pc1 := 740) (L1 := [some (.ref a0), some (.ref a1), some (.ref a2), some (.ref a3), some (.int x4), none, none]) (st1 := [.ref a0, .int (zI σ202 a0 (Int32.toNatClampNeg (x4 + 1))), .ref a2, .int v203]) (σ1 := σ202) zM_L_law dL_law_739 rfl rfl rfl rfl ?_
                                    refine zw_go (pc1 := 742) (L1 := [some (.ref a0), some (.ref a1), some (.ref a2), some (.ref a3), some (.int x4), none, none]) (st1 := [.int x4, .ref a0, .int (zI σ202 a0 (Int32.toNatClampNeg (x4 + 1))), .ref a2, .int v203]) (σ1 := σ202) zM_L_law dL_law_740 rfl rfl rfl rfl ?_
                                    refine zw_iconst (v := 2) zM_L_law dL_law_742 (by decide) ?_
                                    refine zw_go (pc1 := 744) (L1 := [some (.ref a0), some (.ref a1), some (.ref a2), some (.ref a3), some (.int x4), none, none]) (st1 := [.int (x4 + 2), .ref a0, .int (zI σ202 a0 (Int32.toNatClampNeg (x4 + 1))), .ref a2, .int v203]) (σ1 := σ202) zM_L_law dL_law_743 rfl rfl rfl rfl ?_
                                    obtain ⟨hi206, h⟩ := h
                                    refine zw_iald zM_L_law dL_law_744 ⟨Or.inr hk204, hi206⟩ ?_
                                    refine zw_go (pc1 := 746) (L1 := [some (.ref a0), some (.ref a1), some (.ref a2), some (.ref a3), some (.int x4), none, none]) (st1 := [.ref a0, .int (zI σ202 a0 (Int32.toNatClampNeg (x4 + 2))), .int (zI σ202 a0 (Int32.toNatClampNeg (x4 + 1))), .ref a2, .int v203]) (σ1 := σ202) zM_L_law dL_law_745 rfl rfl rfl rfl ?_
                                    refine zw_go (pc1 := 748) (L1 := [some (.ref a0), some (.ref a1), some (.ref a2), some (.ref a3), some (.int x4), none, none]) (st1 := [.int x4, .ref a0, .int (zI σ202 a0 (Int32.toNatClampNeg (x4 + 2))), .int (zI σ202 a0 (Int32.toNatClampNeg (x4 + 1))), .ref a2, .int v203]) (σ1 := σ202) zM_L_law dL_law_746 rfl rfl rfl rfl ?_
                                    refine zw_iconst (v := 3) zM_L_law dL_law_748 (by decide) ?_
                                    refine zw_go (pc1 := 750) (L1 := [some (.ref a0), some (.ref a1), some (.ref a2), some (.ref a3), some (.int x4), none, none]) (st1 := [.int (x4 + 3), .ref a0, .int (zI σ202 a0 (Int32.toNatClampNeg (x4 + 2))), .int (zI σ202 a0 (Int32.toNatClampNeg (x4 + 1))), .ref a2, .int v203]) (σ1 := σ202) zM_L_law dL_law_749 rfl rfl rfl rfl ?_
                                    obtain ⟨hi207, h⟩ := h
                                    refine zw_iald zM_L_law dL_law_750 ⟨Or.inr hk204, hi207⟩ ?_
                                    obtain ⟨hk208, h⟩ := h
                                    refine zw_callI (as := [.ref a2, .int (zI σ202 a0 (Int32.toNatClampNeg (x4 + 1))), .int (zI σ202 a0 (Int32.toNatClampNeg (x4 + 2))), .int (zI σ202 a0 (Int32.toNatClampNeg (x4 + 3)))]) (rest := [.int v203]) zM_L_law dL_law_751 (zx_calV zC_8_91) zM_X7_node rfl rfl rfl rfl rfl (zx_args0 hk208 rfl) rfl h (fun v210 σ209 h => ?_)
                                    refine zw_icmp_eq (tgt := 970) zM_L_law dL_law_754 rfl rfl (fun q => ?_) (fun q => ?_)
                                    · replace h := h.1 q
                                      exact zw_weak2 h ⟨rfl, rfl, rfl, rfl, rfl, trivial⟩
                                    · replace h := h.2 q
                                      refine zw_iconst (v := 0) zM_L_law dL_law_757 (by decide) ?_
                                      exact zw_retz zM_L_law dL_law_758 rfl (by decide) h
                                  · replace h := h.2 hs211
                                    by_cases hs221 : ((zI σ a0 (Int32.toNatClampNeg x4)) &&& 31) = 16
                                    · replace h := h.1 hs221
                                      refine zw_sw (tgt := 759) zM_L_law dL_law_40 (zx_sw_in hs221 rfl) rfl ?_
                                      refine zw_go (pc1 := 760) (L1 := [some (.ref a0), some (.ref a1), some (.ref a2), some (.ref a3), some (.int x4), none, none]) (st1 := [.ref a1]) (σ1 := σ) zM_L_law dL_law_759 rfl rfl rfl rfl ?_
                                      refine zw_go (pc1 := 761) (L1 := [some (.ref a0), some (.ref a1), some (.ref a2), some (.ref a3), some (.int x4), none, none]) (st1 := [.ref a0, .ref a1]) (σ1 := σ) zM_L_law dL_law_760 rfl rfl rfl rfl ?_
                                      refine zw_go (pc1 := 763) (L1 := [some (.ref a0), some (.ref a1), some (.ref a2), some (.ref a3), some (.int x4), none, none]) (st1 := [.int x4, .ref a0, .ref a1]) (σ1 := σ) zM_L_law dL_law_761 rfl rfl rfl rfl ?_
                                      refine zw_iconst (v := 1) zM_L_law dL_law_763 (by decide) ?_
                                      refine zw_go (pc1 := 765) (L1 := [some (.ref a0), some (.ref a1), some (.ref a2), some (.ref a3), some (.int x4), none, none]) (st1 := [.int (x4 + 1), .ref a0, .ref a1]) (σ1 := σ) zM_L_law dL_law_764 rfl rfl rfl rfl ?_
                                      obtain ⟨hi212, h⟩ := h
                                      refine zw_iald zM_L_law dL_law_765 ⟨Or.inr hk1, hi212⟩ ?_
                                      obtain ⟨hk213, h⟩ := h
                                      refine zw_callI (as := [.ref a1, .int (zI σ a0 (Int32.toNatClampNeg (x4 + 1)))]) (rest := []) zM_L_law dL_law_766 (zx_calV zC_8_92) zM_X6_over rfl rfl rfl rfl rfl (zx_args0 hk213 rfl) rfl h (fun v215 σ214 h => ?_)
                                      refine zw_go (pc1 := 770) (L1 := [some (.ref a0), some (.ref a1), some (.ref a2), some (.ref a3), some (.int x4), none, none]) (st1 := [.ref a2, .int v215]) (σ1 := σ214) zM_L_law dL_law_769 rfl rfl rfl rfl ?_
                                      refine zw_go (pc1 := 771) (L1 := [some (.ref a0), some (.ref a1), some (.ref a2), some (.ref a3), some (.int x4), none, none]) (st1 := [.ref a0, .ref a2, .int v215]) (σ1 := σ214) zM_L_law dL_law_770 rfl rfl rfl rfl ?_
                                      refine zw_go (pc1 := 773) (L1 := [some (.ref a0), some (.ref a1), some (.ref a2), some (.ref a3), some (.int x4), none, none]) (st1 := [.int x4, .ref a0, .ref a2, .int v215]) (σ1 := σ214) zM_L_law dL_law_771 rfl rfl rfl rfl ?_
                                      refine zw_iconst (v := 1) zM_L_law dL_law_773 (by decide) ?_
                                      refine zw_go (pc1 := 775) (L1 := [some (.ref a0), some (.ref a1), some (.ref a2), some (.ref a3), some (.int x4), none, none]) (st1 := [.int (x4 + 1), .ref a0, .ref a2, .int v215]) (σ1 := σ214) zM_L_law dL_law_774 rfl rfl rfl rfl ?_
                                      obtain ⟨hk216, h⟩ := h
                                      obtain ⟨hi217, h⟩ := h
                                      refine zw_iald zM_L_law dL_law_775 ⟨Or.inr hk216, hi217⟩ ?_
                                      obtain ⟨hk218, h⟩ := h
                                      refine zw_callI (as := [.ref a2, .int (zI σ214 a0 (Int32.toNatClampNeg (x4 + 1)))]) (rest := [.int v215]) zM_L_law dL_law_776 (zx_calV zC_8_95) zM_X7_over rfl rfl rfl rfl rfl (zx_args0 hk218 rfl) rfl h (fun v220 σ219 h => ?_)
                                      refine zw_icmp_eq (tgt := 970) zM_L_law dL_law_779 rfl rfl (fun q => ?_) (fun q => ?_)
                                      · replace h := h.1 q
                                        exact zw_weak2 h ⟨rfl, rfl, rfl, rfl, rfl, trivial⟩
                                      · replace h := h.2 q
                                        refine zw_iconst (v := 0) zM_L_law dL_law_782 (by decide) ?_
                                        exact zw_retz zM_L_law dL_law_783 rfl (by decide) h
                                    · replace h := h.2 hs221
                                      by_cases hs228 : ((zI σ a0 (Int32.toNatClampNeg x4)) &&& 31) = 17
                                      · replace h := h.1 hs228
                                        refine zw_sw (tgt := 784) zM_L_law dL_law_40 (zx_sw_in hs228 rfl) rfl ?_
                                        refine zw_go (pc1 := 785) (L1 := [some (.ref a0), some (.ref a1), some (.ref a2), some (.ref a3), some (.int x4), none, none]) (st1 := [.ref a1]) (σ1 := σ) zM_L_law dL_law_784 rfl rfl rfl rfl ?_
                                        obtain ⟨hk222, h⟩ := h
                                        refine zw_callI (as := [.ref a1]) (rest := []) zM_L_law dL_law_785 (zx_calV zC_8_96) zM_X6_bare rfl rfl rfl rfl rfl (zx_args0 hk222 rfl) rfl h (fun v224 σ223 h => ?_)
                                        refine zw_go (pc1 := 789) (L1 := [some (.ref a0), some (.ref a1), some (.ref a2), some (.ref a3), some (.int x4), none, none]) (st1 := [.ref a2, .int v224]) (σ1 := σ223) zM_L_law dL_law_788 rfl rfl rfl rfl ?_
                                        obtain ⟨hk225, h⟩ := h
                                        refine zw_callI (as := [.ref a2]) (rest := [.int v224]) zM_L_law dL_law_789 (zx_calV zC_8_99) zM_X7_bare rfl rfl rfl rfl rfl (zx_args0 hk225 rfl) rfl h (fun v227 σ226 h => ?_)
                                        refine zw_icmp_eq (tgt := 970) zM_L_law dL_law_792 rfl rfl (fun q => ?_) (fun q => ?_)
                                        · replace h := h.1 q
                                          exact zw_weak2 h ⟨rfl, rfl, rfl, rfl, rfl, trivial⟩
                                        · replace h := h.2 q
                                          refine zw_iconst (v := 0) zM_L_law dL_law_795 (by decide) ?_
                                          exact zw_retz zM_L_law dL_law_796 rfl (by decide) h
                                      · replace h := h.2 hs228
                                        by_cases hs240 : ((zI σ a0 (Int32.toNatClampNeg x4)) &&& 31) = 18
                                        · replace h := h.1 hs240
                                          refine zw_sw (tgt := 797) zM_L_law dL_law_40 (zx_sw_in hs240 rfl) rfl ?_
                                          refine zw_go (pc1 := 798) (L1 := [some (.ref a0), some (.ref a1), some (.ref a2), some (.ref a3), some (.int x4), none, none]) (st1 := [.ref a1]) (σ1 := σ) zM_L_law dL_law_797 rfl rfl rfl rfl ?_
                                          refine zw_go (pc1 := 799) (L1 := [some (.ref a0), some (.ref a1), some (.ref a2), some (.ref a3), some (.int x4), none, none]) (st1 := [.ref a0, .ref a1]) (σ1 := σ) zM_L_law dL_law_798 rfl rfl rfl rfl ?_
                                          refine zw_go (pc1 := 801) (L1 := [some (.ref a0), some (.ref a1), some (.ref a2), some (.ref a3), some (.int x4), none, none]) (st1 := [.int x4, .ref a0, .ref a1]) (σ1 := σ) zM_L_law dL_law_799 rfl rfl rfl rfl ?_
                                          refine zw_iconst (v := 1) zM_L_law dL_law_801 (by decide) ?_
                                          refine zw_go (pc1 := 803) (L1 := [some (.ref a0), some (.ref a1), some (.ref a2), some (.ref a3), some (.int x4), none, none]) (st1 := [.int (x4 + 1), .ref a0, .ref a1]) (σ1 := σ) zM_L_law dL_law_802 rfl rfl rfl rfl ?_
                                          obtain ⟨hi229, h⟩ := h
                                          refine zw_iald zM_L_law dL_law_803 ⟨Or.inr hk1, hi229⟩ ?_
                                          refine zw_go (pc1 := 805) (L1 := [some (.ref a0), some (.ref a1), some (.ref a2), some (.ref a3), some (.int x4), none, none]) (st1 := [.ref a0, .int (zI σ a0 (Int32.toNatClampNeg (x4 + 1))), .ref a1]) (σ1 := σ) zM_L_law dL_law_804 rfl rfl rfl rfl ?_
                                          refine zw_go (pc1 := 807) (L1 := [some (.ref a0), some (.ref a1), some (.ref a2), some (.ref a3), some (.int x4), none, none]) (st1 := [.int x4, .ref a0, .int (zI σ a0 (Int32.toNatClampNeg (x4 + 1))), .ref a1]) (σ1 := σ) zM_L_law dL_law_805 rfl rfl rfl rfl ?_
                                          refine zw_iconst (v := 2) zM_L_law dL_law_807 (by decide) ?_
                                          refine zw_go (pc1 := 809) (L1 := [some (.ref a0), some (.ref a1), some (.ref a2), some (.ref a3), some (.int x4), none, none]) (st1 := [.int (x4 + 2), .ref a0, .int (zI σ a0 (Int32.toNatClampNeg (x4 + 1))), .ref a1]) (σ1 := σ) zM_L_law dL_law_808 rfl rfl rfl rfl ?_
                                          obtain ⟨hi230, h⟩ := h
                                          refine zw_iald zM_L_law dL_law_809 ⟨Or.inr hk1, hi230⟩ ?_
                                          obtain ⟨hk231, h⟩ := h
                                          refine zw_callI (as := [.ref a1, .int (zI σ a0 (Int32.toNatClampNeg (x4 + 1))), .int (zI σ a0 (Int32.toNatClampNeg (x4 + 2)))]) (rest := []) zM_L_law dL_law_810 (zx_calV zC_8_100) zM_X6_look rfl rfl rfl rfl rfl (zx_args0 hk231 rfl) rfl h (fun v233 σ232 h => ?_)
                                          refine zw_go (pc1 := 814) (L1 := [some (.ref a0), some (.ref a1), some (.ref a2), some (.ref a3), some (.int x4), none, none]) (st1 := [.ref a2, .int v233]) (σ1 := σ232) zM_L_law dL_law_813 rfl rfl rfl rfl ?_
                                          refine zw_go (pc1 := 815) (L1 := [some (.ref a0), some (.ref a1), some (.ref a2), some (.ref a3), some (.int x4), none, none]) (st1 := [.ref a0, .ref a2, .int v233]) (σ1 := σ232) zM_L_law dL_law_814 rfl rfl rfl rfl ?_
                                          refine zw_go (pc1 := 817) (L1 := [some (.ref a0), some (.ref a1), some (.ref a2), some (.ref a3), some (.int x4), none, none]) (st1 := [.int x4, .ref a0, .ref a2, .int v233]) (σ1 := σ232) zM_L_law dL_law_815 rfl rfl rfl rfl ?_
                                          refine zw_iconst (v := 1) zM_L_law dL_law_817 (by decide) ?_
                                          refine zw_go (pc1 := 819) (L1 := [some (.ref a0), some (.ref a1), some (.ref a2), some (.ref a3), some (.int x4), none, none]) (st1 := [.int (x4 + 1), .ref a0, .ref a2, .int v233]) (σ1 := σ232) zM_L_law dL_law_818 rfl rfl rfl rfl ?_
                                          obtain ⟨hk234, h⟩ := h
                                          obtain ⟨hi235, h⟩ := h
                                          refine zw_iald zM_L_law dL_law_819 ⟨Or.inr hk234, hi235⟩ ?_
                                          refine zw_go (pc1 := 821) (L1 := [some (.ref a0), some (.ref a1), some (.ref a2), some (.ref a3), some (.int x4), none, none]) (st1 := [.ref a0, .int (zI σ232 a0 (Int32.toNatClampNeg (x4 + 1))), .ref a2, .int v233]) (σ1 := σ232) zM_L_law dL_law_820 rfl rfl rfl rfl ?_
                                          refine zw_go (pc1 := 823) (L1 := [some (.ref a0), some (.ref a1), some (.ref a2), some (.ref a3), some (.int x4), none, none]) (st1 := [.int x4, .ref a0, .int (zI σ232 a0 (Int32.toNatClampNeg (x4 + 1))), .ref a2, .int v233]) (σ1 := σ232) zM_L_law dL_law_821 rfl rfl rfl rfl ?_
                                          refine zw_iconst (v := 2) zM_L_law dL_law_823 (by decide) ?_
                                          refine zw_go (pc1 := 825) (L1 := [some (.ref a0), some (.ref a1), some (.ref a2), some (.ref a3), some (.int x4), none, none]) (st1 := [.int (x4 + 2), .ref a0, .int (zI σ232 a0 (Int32.toNatClampNeg (x4 + 1))), .ref a2, .int v233]) (σ1 := σ232) zM_L_law dL_law_824 rfl rfl rfl rfl ?_
                                          obtain ⟨hi236, h⟩ := h
                                          refine zw_iald zM_L_law dL_law_825 ⟨Or.inr hk234, hi236⟩ ?_
                                          obtain ⟨hk237, h⟩ := h
                                          refine zw_callI (as := [.ref a2, .int (zI σ232 a0 (Int32.toNatClampNeg (x4 + 1))), .int (zI σ232 a0 (Int32.toNatClampNeg (x4 + 2)))]) (rest := [.int v233]) zM_L_law dL_law_826 (zx_calV zC_8_103) zM_X7_look rfl rfl rfl rfl rfl (zx_args0 hk237 rfl) rfl h (fun v239 σ238 h => ?_)
                                          refine zw_icmp_eq (tgt := 970) zM_L_law dL_law_829 rfl rfl (fun q => ?_) (fun q => ?_)
                                          · replace h := h.1 q
                                            exact zw_weak2 h ⟨rfl, rfl, rfl, rfl, rfl, trivial⟩
                                          · replace h := h.2 q
                                            refine zw_iconst (v := 0) zM_L_law dL_law_832 (by decide) ?_
                                            exact zw_retz zM_L_law dL_law_833 rfl (by decide) h
                                        · replace h := h.2 hs240
                                          by_cases hs252 : ((zI σ a0 (Int32.toNatClampNeg x4)) &&& 31) = 19
                                          · replace h := h.1 hs252
                                            refine zw_sw (tgt := 834) zM_L_law dL_law_40 (zx_sw_in hs252 rfl) rfl ?_
                                            refine zw_go (pc1 := 835) (L1 := [some (.ref a0), some (.ref a1), some (.ref a2), some (.ref a3), some (.int x4), none, none]) (st1 := [.ref a1]) (σ1 := σ) zM_L_law dL_law_834 rfl rfl rfl rfl ?_
                                            refine zw_go (pc1 := 836) (L1 := [some (.ref a0), some (.ref a1), some (.ref a2), some (.ref a3), some (.int x4), none, none]) (st1 := [.ref a0, .ref a1]) (σ1 := σ) zM_L_law dL_law_835 rfl rfl rfl rfl ?_
                                            refine zw_go (pc1 := 838) (L1 := [some (.ref a0), some (.ref a1), some (.ref a2), some (.ref a3), some (.int x4), none, none]) (st1 := [.int x4, .ref a0, .ref a1]) (σ1 := σ) zM_L_law dL_law_836 rfl rfl rfl rfl ?_
                                            refine zw_iconst (v := 1) zM_L_law dL_law_838 (by decide) ?_
                                            refine zw_go (pc1 := 840) (L1 := [some (.ref a0), some (.ref a1), some (.ref a2), some (.ref a3), some (.int x4), none, none]) (st1 := [.int (x4 + 1), .ref a0, .ref a1]) (σ1 := σ) zM_L_law dL_law_839 rfl rfl rfl rfl ?_
                                            obtain ⟨hi241, h⟩ := h
                                            refine zw_iald zM_L_law dL_law_840 ⟨Or.inr hk1, hi241⟩ ?_
                                            refine zw_go (pc1 := 842) (L1 := [some (.ref a0), some (.ref a1), some (.ref a2), some (.ref a3), some (.int x4), none, none]) (st1 := [.ref a0, .int (zI σ a0 (Int32.toNatClampNeg (x4 + 1))), .ref a1]) (σ1 := σ) zM_L_law dL_law_841 rfl rfl rfl rfl ?_
                                            refine zw_go (pc1 := 844) (L1 := [some (.ref a0), some (.ref a1), some (.ref a2), some (.ref a3), some (.int x4), none, none]) (st1 := [.int x4, .ref a0, .int (zI σ a0 (Int32.toNatClampNeg (x4 + 1))), .ref a1]) (σ1 := σ) zM_L_law dL_law_842 rfl rfl rfl rfl ?_
                                            refine zw_iconst (v := 2) zM_L_law dL_law_844 (by decide) ?_
                                            refine zw_go (pc1 := 846) (L1 := [some (.ref a0), some (.ref a1), some (.ref a2), some (.ref a3), some (.int x4), none, none]) (st1 := [.int (x4 + 2), .ref a0, .int (zI σ a0 (Int32.toNatClampNeg (x4 + 1))), .ref a1]) (σ1 := σ) zM_L_law dL_law_845 rfl rfl rfl rfl ?_
                                            obtain ⟨hi242, h⟩ := h
                                            refine zw_iald zM_L_law dL_law_846 ⟨Or.inr hk1, hi242⟩ ?_
                                            obtain ⟨hk243, h⟩ := h
                                            refine zw_callI (as := [.ref a1, .int (zI σ a0 (Int32.toNatClampNeg (x4 + 1))), .int (zI σ a0 (Int32.toNatClampNeg (x4 + 2)))]) (rest := []) zM_L_law dL_law_847 (zx_calV zC_8_104) zM_X6_list rfl rfl rfl rfl rfl (zx_args0 hk243 rfl) rfl h (fun v245 σ244 h => ?_)
                                            refine zw_go (pc1 := 851) (L1 := [some (.ref a0), some (.ref a1), some (.ref a2), some (.ref a3), some (.int x4), none, none]) (st1 := [.ref a2, .int v245]) (σ1 := σ244) zM_L_law dL_law_850 rfl rfl rfl rfl ?_
                                            refine zw_go (pc1 := 852) (L1 := [some (.ref a0), some (.ref a1), some (.ref a2), some (.ref a3), some (.int x4), none, none]) (st1 := [.ref a0, .ref a2, .int v245]) (σ1 := σ244) zM_L_law dL_law_851 rfl rfl rfl rfl ?_
                                            refine zw_go (pc1 := 854) (L1 := [some (.ref a0), some (.ref a1), some (.ref a2), some (.ref a3), some (.int x4), none, none]) (st1 := [.int x4, .ref a0, .ref a2, .int v245]) (σ1 := σ244) zM_L_law dL_law_852 rfl rfl rfl rfl ?_
                                            refine zw_iconst (v := 1) zM_L_law dL_law_854 (by decide) ?_
                                            refine zw_go (pc1 := 856) (L1 := [some (.ref a0), some (.ref a1), some (.ref a2), some (.ref a3), some (.int x4), none, none]) (st1 := [.int (x4 + 1), .ref a0, .ref a2, .int v245]) (σ1 := σ244) zM_L_law dL_law_855 rfl rfl rfl rfl ?_
                                            obtain ⟨hk246, h⟩ := h
                                            obtain ⟨hi247, h⟩ := h
                                            refine zw_iald zM_L_law dL_law_856 ⟨Or.inr hk246, hi247⟩ ?_
                                            refine zw_go (pc1 := 858) (L1 := [some (.ref a0), some (.ref a1), some (.ref a2), some (.ref a3), some (.int x4), none, none]) (st1 := [.ref a0, .int (zI σ244 a0 (Int32.toNatClampNeg (x4 + 1))), .ref a2, .int v245]) (σ1 := σ244) zM_L_law dL_law_857 rfl rfl rfl rfl ?_
                                            refine zw_go (pc1 := 860) (L1 := [some (.ref a0), some (.ref a1), some (.ref a2), some (.ref a3), some (.int x4), none, none]) (st1 := [.int x4, .ref a0, .int (zI σ244 a0 (Int32.toNatClampNeg (x4 + 1))), .ref a2, .int v245]) (σ1 := σ244) zM_L_law dL_law_858 rfl rfl rfl rfl ?_
                                            refine zw_iconst (v := 2) zM_L_law dL_law_860 (by decide) ?_
                                            refine zw_go (pc1 := 862) (L1 := [some (.ref a0), some (.ref a1), some (.ref a2), some (.ref a3), some (.int x4), none, none]) (st1 := [.int (x4 + 2), .ref a0, .int (zI σ244 a0 (Int32.toNatClampNeg (x4 + 1))), .ref a2, .int v245]) (σ1 := σ244) zM_L_law dL_law_861 rfl rfl rfl rfl ?_
                                            obtain ⟨hi248, h⟩ := h
                                            refine zw_iald zM_L_law dL_law_862 ⟨Or.inr hk246, hi248⟩ ?_
                                            obtain ⟨hk249, h⟩ := h
                                            refine zw_callI (as := [.ref a2, .int (zI σ244 a0 (Int32.toNatClampNeg (x4 + 1))), .int (zI σ244 a0 (Int32.toNatClampNeg (x4 + 2)))]) (rest := [.int v245]) zM_L_law dL_law_863 (zx_calV zC_8_107) zM_X7_list rfl rfl rfl rfl rfl (zx_args0 hk249 rfl) rfl h (fun v251 σ250 h => ?_)
                                            refine zw_icmp_eq (tgt := 970) zM_L_law dL_law_866 rfl rfl (fun q => ?_) (fun q => ?_)
                                            · replace h := h.1 q
                                              exact zw_weak2 h ⟨rfl, rfl, rfl, rfl, rfl, trivial⟩
                                            · replace h := h.2 q
                                              refine zw_iconst (v := 0) zM_L_law dL_law_869 (by decide) ?_
                                              exact zw_retz zM_L_law dL_law_870 rfl (by decide) h
                                          · replace h := h.2 hs252
                                            by_cases hs264 : ((zI σ a0 (Int32.toNatClampNeg x4)) &&& 31) = 20
                                            · replace h := h.1 hs264
                                              refine zw_sw (tgt := 871) zM_L_law dL_law_40 (zx_sw_in hs264 rfl) rfl ?_
                                              refine zw_go (pc1 := 872) (L1 := [some (.ref a0), some (.ref a1), some (.ref a2), some (.ref a3), some (.int x4), none, none]) (st1 := [.ref a1]) (σ1 := σ) zM_L_law dL_law_871 rfl rfl rfl rfl ?_
                                              refine zw_go (pc1 := 873) (L1 := [some (.ref a0), some (.ref a1), some (.ref a2), some (.ref a3), some (.int x4), none, none]) (st1 := [.ref a0, .ref a1]) (σ1 := σ) zM_L_law dL_law_872 rfl rfl rfl rfl ?_
                                              refine zw_go (pc1 := 875) (L1 := [some (.ref a0), some (.ref a1), some (.ref a2), some (.ref a3), some (.int x4), none, none]) (st1 := [.int x4, .ref a0, .ref a1]) (σ1 := σ) zM_L_law dL_law_873 rfl rfl rfl rfl ?_
                                              refine zw_iconst (v := 1) zM_L_law dL_law_875 (by decide) ?_
                                              refine zw_go (pc1 := 877) (L1 := [some (.ref a0), some (.ref a1), some (.ref a2), some (.ref a3), some (.int x4), none, none]) (st1 := [.int (x4 + 1), .ref a0, .ref a1]) (σ1 := σ) zM_L_law dL_law_876 rfl rfl rfl rfl ?_
                                              obtain ⟨hi253, h⟩ := h
                                              refine zw_iald zM_L_law dL_law_877 ⟨Or.inr hk1, hi253⟩ ?_
                                              refine zw_go (pc1 := 879) (L1 := [some (.ref a0), some (.ref a1), some (.ref a2), some (.ref a3), some (.int x4), none, none]) (st1 := [.ref a0, .int (zI σ a0 (Int32.toNatClampNeg (x4 + 1))), .ref a1]) (σ1 := σ) zM_L_law dL_law_878 rfl rfl rfl rfl ?_
                                              refine zw_go (pc1 := 881) (L1 := [some (.ref a0), some (.ref a1), some (.ref a2), some (.ref a3), some (.int x4), none, none]) (st1 := [.int x4, .ref a0, .int (zI σ a0 (Int32.toNatClampNeg (x4 + 1))), .ref a1]) (σ1 := σ) zM_L_law dL_law_879 rfl rfl rfl rfl ?_
                                              refine zw_iconst (v := 2) zM_L_law dL_law_881 (by decide) ?_
                                              refine zw_go (pc1 := 883) (L1 := [some (.ref a0), some (.ref a1), some (.ref a2), some (.ref a3), some (.int x4), none, none]) (st1 := [.int (x4 + 2), .ref a0, .int (zI σ a0 (Int32.toNatClampNeg (x4 + 1))), .ref a1]) (σ1 := σ) zM_L_law dL_law_882 rfl rfl rfl rfl ?_
                                              obtain ⟨hi254, h⟩ := h
                                              refine zw_iald zM_L_law dL_law_883 ⟨Or.inr hk1, hi254⟩ ?_
                                              obtain ⟨hk255, h⟩ := h
                                              refine zw_callI (as := [.ref a1, .int (zI σ a0 (Int32.toNatClampNeg (x4 + 1))), .int (zI σ a0 (Int32.toNatClampNeg (x4 + 2)))]) (rest := []) zM_L_law dL_law_884 (zx_calV zC_8_108) zM_X6_view rfl rfl rfl rfl rfl (zx_args0 hk255 rfl) rfl h (fun v257 σ256 h => ?_)
                                              refine zw_go (pc1 := 888) (L1 := [some (.ref a0), some (.ref a1), some (.ref a2), some (.ref a3), some (.int x4), none, none]) (st1 := [.ref a2, .int v257]) (σ1 := σ256) zM_L_law dL_law_887 rfl rfl rfl rfl ?_
                                              refine zw_go (pc1 := 889) (L1 := [some (.ref a0), some (.ref a1), some (.ref a2), some (.ref a3), some (.int x4), none, none]) (st1 := [.ref a0, .ref a2, .int v257]) (σ1 := σ256) zM_L_law dL_law_888 rfl rfl rfl rfl ?_
                                              refine zw_go (pc1 := 891) (L1 := [some (.ref a0), some (.ref a1), some (.ref a2), some (.ref a3), some (.int x4), none, none]) (st1 := [.int x4, .ref a0, .ref a2, .int v257]) (σ1 := σ256) zM_L_law dL_law_889 rfl rfl rfl rfl ?_
                                              refine zw_iconst (v := 1) zM_L_law dL_law_891 (by decide) ?_
                                              refine zw_go (pc1 := 893) (L1 := [some (.ref a0), some (.ref a1), some (.ref a2), some (.ref a3), some (.int x4), none, none]) (st1 := [.int (x4 + 1), .ref a0, .ref a2, .int v257]) (σ1 := σ256) zM_L_law dL_law_892 rfl rfl rfl rfl ?_
                                              obtain ⟨hk258, h⟩ := h
                                              obtain ⟨hi259, h⟩ := h
                                              refine zw_iald zM_L_law dL_law_893 ⟨Or.inr hk258, hi259⟩ ?_
                                              refine zw_go (pc1 := 895) (L1 := [some (.ref a0), some (.ref a1), some (.ref a2), some (.ref a3), some (.int x4), none, none]) (st1 := [.ref a0, .int (zI σ256 a0 (Int32.toNatClampNeg (x4 + 1))), .ref a2, .int v257]) (σ1 := σ256) zM_L_law dL_law_894 rfl rfl rfl rfl ?_
                                              refine zw_go (pc1 := 897) (L1 := [some (.ref a0), some (.ref a1), some (.ref a2), some (.ref a3), some (.int x4), none, none]) (st1 := [.int x4, .ref a0, .int (zI σ256 a0 (Int32.toNatClampNeg (x4 + 1))), .ref a2, .int v257]) (σ1 := σ256) zM_L_law dL_law_895 rfl rfl rfl rfl ?_
                                              refine zw_iconst (v := 2) zM_L_law dL_law_897 (by decide) ?_
                                              refine zw_go (pc1 := 899) (L1 := [some (.ref a0), some (.ref a1), some (.ref a2), some (.ref a3), some (.int x4), none, none]) (st1 := [.int (x4 + 2), .ref a0, .int (zI σ256 a0 (Int32.toNatClampNeg (x4 + 1))), .ref a2, .int v257]) (σ1 := σ256) zM_L_law dL_law_898 rfl rfl rfl rfl ?_
                                              obtain ⟨hi260, h⟩ := h
                                              refine zw_iald zM_L_law dL_law_899 ⟨Or.inr hk258, hi260⟩ ?_
                                              obtain ⟨hk261, h⟩ := h
                                              refine zw_callI (as := [.ref a2, .int (zI σ256 a0 (Int32.toNatClampNeg (x4 + 1))), .int (zI σ256 a0 (Int32.toNatClampNeg (x4 + 2)))]) (rest := [.int v257]) zM_L_law dL_law_900 (zx_calV zC_8_111) zM_X7_view rfl rfl rfl rfl rfl (zx_args0 hk261 rfl) rfl h (fun v263 σ262 h => ?_)
                                              refine zw_icmp_eq (tgt := 970) zM_L_law dL_law_903 rfl rfl (fun q => ?_) (fun q => ?_)
                                              · replace h := h.1 q
                                                exact zw_weak2 h ⟨rfl, rfl, rfl, rfl, rfl, trivial⟩
                                              · replace h := h.2 q
                                                refine zw_iconst (v := 0) zM_L_law dL_law_906 (by decide) ?_
                                                exact zw_retz zM_L_law dL_law_907 rfl (by decide) h
                                            · replace h := h.2 hs264
                                              by_cases hs276 : ((zI σ a0 (Int32.toNatClampNeg x4)) &&& 31) = 21
                                              · replace h := h.1 hs276
                                                refine zw_sw (tgt := 908) zM_L_law dL_law_40 (zx_sw_in hs276 rfl) rfl ?_
                                                refine zw_go (pc1 := 909) (L1 := [some (.ref a0), some (.ref a1), some (.ref a2), some (.ref a3), some (.int x4), none, none]) (st1 := [.ref a1]) (σ1 := σ) zM_L_law dL_law_908 rfl rfl rfl rfl ?_
                                                refine zw_go (pc1 := 910) (L1 := [some (.ref a0), some (.ref a1), some (.ref a2), some (.ref a3), some (.int x4), none, none]) (st1 := [.ref a0, .ref a1]) (σ1 := σ) zM_L_law dL_law_909 rfl rfl rfl rfl ?_
                                                refine zw_go (pc1 := 912) (L1 := [some (.ref a0), some (.ref a1), some (.ref a2), some (.ref a3), some (.int x4), none, none]) (st1 := [.int x4, .ref a0, .ref a1]) (σ1 := σ) zM_L_law dL_law_910 rfl rfl rfl rfl ?_
                                                refine zw_iconst (v := 1) zM_L_law dL_law_912 (by decide) ?_
                                                refine zw_go (pc1 := 914) (L1 := [some (.ref a0), some (.ref a1), some (.ref a2), some (.ref a3), some (.int x4), none, none]) (st1 := [.int (x4 + 1), .ref a0, .ref a1]) (σ1 := σ) zM_L_law dL_law_913 rfl rfl rfl rfl ?_
                                                obtain ⟨hi265, h⟩ := h
                                                refine zw_iald zM_L_law dL_law_914 ⟨Or.inr hk1, hi265⟩ ?_
                                                refine zw_go (pc1 := 916) (L1 := [some (.ref a0), some (.ref a1), some (.ref a2), some (.ref a3), some (.int x4), none, none]) (st1 := [.ref a0, .int (zI σ a0 (Int32.toNatClampNeg (x4 + 1))), .ref a1]) (σ1 := σ) zM_L_law dL_law_915 rfl rfl rfl rfl ?_
                                                refine zw_go (pc1 := 918) (L1 := [some (.ref a0), some (.ref a1), some (.ref a2), some (.ref a3), some (.int x4), none, none]) (st1 := [.int x4, .ref a0, .int (zI σ a0 (Int32.toNatClampNeg (x4 + 1))), .ref a1]) (σ1 := σ) zM_L_law dL_law_916 rfl rfl rfl rfl ?_
                                                refine zw_iconst (v := 2) zM_L_law dL_law_918 (by decide) ?_
                                                refine zw_go (pc1 := 920) (L1 := [some (.ref a0), some (.ref a1), some (.ref a2), some (.ref a3), some (.int x4), none, none]) (st1 := [.int (x4 + 2), .ref a0, .int (zI σ a0 (Int32.toNatClampNeg (x4 + 1))), .ref a1]) (σ1 := σ) zM_L_law dL_law_919 rfl rfl rfl rfl ?_
                                                obtain ⟨hi266, h⟩ := h
                                                refine zw_iald zM_L_law dL_law_920 ⟨Or.inr hk1, hi266⟩ ?_
                                                obtain ⟨hk267, h⟩ := h
                                                refine zw_callI (as := [.ref a1, .int (zI σ a0 (Int32.toNatClampNeg (x4 + 1))), .int (zI σ a0 (Int32.toNatClampNeg (x4 + 2)))]) (rest := []) zM_L_law dL_law_921 (zx_calV zC_8_112) zM_X6_read rfl rfl rfl rfl rfl (zx_args0 hk267 rfl) rfl h (fun v269 σ268 h => ?_)
                                                refine zw_go (pc1 := 925) (L1 := [some (.ref a0), some (.ref a1), some (.ref a2), some (.ref a3), some (.int x4), none, none]) (st1 := [.ref a2, .int v269]) (σ1 := σ268) zM_L_law dL_law_924 rfl rfl rfl rfl ?_
                                                refine zw_go (pc1 := 926) (L1 := [some (.ref a0), some (.ref a1), some (.ref a2), some (.ref a3), some (.int x4), none, none]) (st1 := [.ref a0, .ref a2, .int v269]) (σ1 := σ268) zM_L_law dL_law_925 rfl rfl rfl rfl ?_
                                                refine zw_go (pc1 := 928) (L1 := [some (.ref a0), some (.ref a1), some (.ref a2), some (.ref a3), some (.int x4), none, none]) (st1 := [.int x4, .ref a0, .ref a2, .int v269]) (σ1 := σ268) zM_L_law dL_law_926 rfl rfl rfl rfl ?_
                                                refine zw_iconst (v := 1) zM_L_law dL_law_928 (by decide) ?_
                                                refine zw_go (pc1 := 930) (L1 := [some (.ref a0), some (.ref a1), some (.ref a2), some (.ref a3), some (.int x4), none, none]) (st1 := [.int (x4 + 1), .ref a0, .ref a2, .int v269]) (σ1 := σ268) zM_L_law dL_law_929 rfl rfl rfl rfl ?_
                                                obtain ⟨hk270, h⟩ := h
                                                obtain ⟨hi271, h⟩ := h
                                                refine zw_iald zM_L_law dL_law_930 ⟨Or.inr hk270, hi271⟩ ?_
                                                refine zw_go (pc1 := 932) (L1 := [some (.ref a0), some (.ref a1), some (.ref a2), some (.ref a3), some (.int x4), none, none]) (st1 := [.ref a0, .int (zI σ268 a0 (Int32.toNatClampNeg (x4 + 1))), .ref a2, .int v269]) (σ1 := σ268) zM_L_law dL_law_931 rfl rfl rfl rfl ?_
                                                refine zw_go (pc1 := 934) (L1 := [some (.ref a0), some (.ref a1), some (.ref a2), some (.ref a3), some (.int x4), none, none]) (st1 := [.int x4, .ref a0, .int (zI σ268 a0 (Int32.toNatClampNeg (x4 + 1))), .ref a2, .int v269]) (σ1 := σ268) zM_L_law dL_law_932 rfl rfl rfl rfl ?_
                                                refine zw_iconst (v := 2) zM_L_law dL_law_934 (by decide) ?_
                                                refine zw_go (pc1 := 936) (L1 := [some (.ref a0), some (.ref a1), some (.ref a2), some (.ref a3), some (.int x4), none, none]) (st1 := [.int (x4 + 2), .ref a0, .int (zI σ268 a0 (Int32.toNatClampNeg (x4 + 1))), .ref a2, .int v269]) (σ1 := σ268) zM_L_law dL_law_935 rfl rfl rfl rfl ?_
                                                obtain ⟨hi272, h⟩ := h
                                                refine zw_iald zM_L_law dL_law_936 ⟨Or.inr hk270, hi272⟩ ?_
                                                obtain ⟨hk273, h⟩ := h
                                                refine zw_callI (as := [.ref a2, .int (zI σ268 a0 (Int32.toNatClampNeg (x4 + 1))), .int (zI σ268 a0 (Int32.toNatClampNeg (x4 + 2)))]) (rest := [.int v269]) zM_L_law dL_law_937 (zx_calV zC_8_115) zM_X7_read rfl rfl rfl rfl rfl (zx_args0 hk273 rfl) rfl h (fun v275 σ274 h => ?_)
                                                refine zw_icmp_eq (tgt := 970) zM_L_law dL_law_940 rfl rfl (fun q => ?_) (fun q => ?_)
                                                · replace h := h.1 q
                                                  exact zw_weak2 h ⟨rfl, rfl, rfl, rfl, rfl, trivial⟩
                                                · replace h := h.2 q
                                                  refine zw_iconst (v := 0) zM_L_law dL_law_943 (by decide) ?_
                                                  exact zw_retz zM_L_law dL_law_944 rfl (by decide) h
                                              · replace h := h.2 hs276
                                                by_cases hs286 : ((zI σ a0 (Int32.toNatClampNeg x4)) &&& 31) = 22
                                                · replace h := h.1 hs286
                                                  refine zw_sw (tgt := 945) zM_L_law dL_law_40 (zx_sw_in hs286 rfl) rfl ?_
                                                  refine zw_go (pc1 := 946) (L1 := [some (.ref a0), some (.ref a1), some (.ref a2), some (.ref a3), some (.int x4), none, none]) (st1 := [.ref a1]) (σ1 := σ) zM_L_law dL_law_945 rfl rfl rfl rfl ?_
                                                  refine zw_go (pc1 := 947) (L1 := [some (.ref a0), some (.ref a1), some (.ref a2), some (.ref a3), some (.int x4), none, none]) (st1 := [.ref a0, .ref a1]) (σ1 := σ) zM_L_law dL_law_946 rfl rfl rfl rfl ?_
                                                  refine zw_go (pc1 := 949) (L1 := [some (.ref a0), some (.ref a1), some (.ref a2), some (.ref a3), some (.int x4), none, none]) (st1 := [.int x4, .ref a0, .ref a1]) (σ1 := σ) zM_L_law dL_law_947 rfl rfl rfl rfl ?_
                                                  refine zw_iconst (v := 1) zM_L_law dL_law_949 (by decide) ?_
                                                  refine zw_go (pc1 := 951) (L1 := [some (.ref a0), some (.ref a1), some (.ref a2), some (.ref a3), some (.int x4), none, none]) (st1 := [.int (x4 + 1), .ref a0, .ref a1]) (σ1 := σ) zM_L_law dL_law_950 rfl rfl rfl rfl ?_
                                                  obtain ⟨hi277, h⟩ := h
                                                  refine zw_iald zM_L_law dL_law_951 ⟨Or.inr hk1, hi277⟩ ?_
                                                  obtain ⟨hk278, h⟩ := h
                                                  refine zw_callI (as := [.ref a1, .int (zI σ a0 (Int32.toNatClampNeg (x4 + 1)))]) (rest := []) zM_L_law dL_law_952 (zx_calV zC_8_116) zM_X6_count rfl rfl rfl rfl rfl (zx_args0 hk278 rfl) rfl h (fun v280 σ279 h => ?_)
                                                  refine zw_go (pc1 := 956) (L1 := [some (.ref a0), some (.ref a1), some (.ref a2), some (.ref a3), some (.int x4), none, none]) (st1 := [.ref a2, .int v280]) (σ1 := σ279) zM_L_law dL_law_955 rfl rfl rfl rfl ?_
                                                  refine zw_go (pc1 := 957) (L1 := [some (.ref a0), some (.ref a1), some (.ref a2), some (.ref a3), some (.int x4), none, none]) (st1 := [.ref a0, .ref a2, .int v280]) (σ1 := σ279) zM_L_law dL_law_956 rfl rfl rfl rfl ?_
                                                  refine zw_go (pc1 := 959) (L1 := [some (.ref a0), some (.ref a1), some (.ref a2), some (.ref a3), some (.int x4), none, none]) (st1 := [.int x4, .ref a0, .ref a2, .int v280]) (σ1 := σ279) zM_L_law dL_law_957 rfl rfl rfl rfl ?_
                                                  refine zw_iconst (v := 1) zM_L_law dL_law_959 (by decide) ?_
                                                  refine zw_go (pc1 := 961) (L1 := [some (.ref a0), some (.ref a1), some (.ref a2), some (.ref a3), some (.int x4), none, none]) (st1 := [.int (x4 + 1), .ref a0, .ref a2, .int v280]) (σ1 := σ279) zM_L_law dL_law_960 rfl rfl rfl rfl ?_
                                                  obtain ⟨hk281, h⟩ := h
                                                  obtain ⟨hi282, h⟩ := h
                                                  refine zw_iald zM_L_law dL_law_961 ⟨Or.inr hk281, hi282⟩ ?_
                                                  obtain ⟨hk283, h⟩ := h
                                                  refine zw_callI (as := [.ref a2, .int (zI σ279 a0 (Int32.toNatClampNeg (x4 + 1)))]) (rest := [.int v280]) zM_L_law dL_law_962 (zx_calV zC_8_119) zM_X7_count rfl rfl rfl rfl rfl (zx_args0 hk283 rfl) rfl h (fun v285 σ284 h => ?_)
                                                  refine zw_icmp_eq (tgt := 970) zM_L_law dL_law_965 rfl rfl (fun q => ?_) (fun q => ?_)
                                                  · replace h := h.1 q
                                                    exact zw_weak2 h ⟨rfl, rfl, rfl, rfl, rfl, trivial⟩
                                                  · replace h := h.2 q
                                                    refine zw_iconst (v := 0) zM_L_law dL_law_968 (by decide) ?_
                                                    exact zw_retz zM_L_law dL_law_969 rfl (by decide) h
                                                · replace h := h.2 hs286
                                                  have n0 := zx_ne (n := 0) hs14 (by decide)
                                                  have n1 := zx_ne (n := 1) hs26 (by decide)
                                                  have n2 := zx_ne (n := 2) hs38 (by decide)
                                                  have n3 := zx_ne (n := 3) hs52 (by decide)
                                                  have n4 := zx_ne (n := 4) hs66 (by decide)
                                                  have n5 := zx_ne (n := 5) hs80 (by decide)
                                                  have n6 := zx_ne (n := 6) hs87 (by decide)
                                                  have n7 := zx_ne (n := 7) hs97 (by decide)
                                                  have n8 := zx_ne (n := 8) hs115 (by decide)
                                                  have n9 := zx_ne (n := 9) hs125 (by decide)
                                                  have n10 := zx_ne (n := 10) hs132 (by decide)
                                                  have n11 := zx_ne (n := 11) hs139 (by decide)
                                                  have n12 := zx_ne (n := 12) hs173 (by decide)
                                                  have n13 := zx_ne (n := 13) hs185 (by decide)
                                                  have n14 := zx_ne (n := 14) hs197 (by decide)
                                                  have n15 := zx_ne (n := 15) hs211 (by decide)
                                                  have n16 := zx_ne (n := 16) hs221 (by decide)
                                                  have n17 := zx_ne (n := 17) hs228 (by decide)
                                                  have n18 := zx_ne (n := 18) hs240 (by decide)
                                                  have n19 := zx_ne (n := 19) hs252 (by decide)
                                                  have n20 := zx_ne (n := 20) hs264 (by decide)
                                                  have n21 := zx_ne (n := 21) hs276 (by decide)
                                                  have n22 := zx_ne (n := 22) hs286 (by decide)
                                                  refine zw_sw (tgt := 970) zM_L_law dL_law_40 (zx_sw_out (by omega)) rfl ?_
                                                  exact zw_weak2 h ⟨rfl, rfl, rfl, rfl, rfl, trivial⟩
set_option maxHeartbeats 4000000 in
set_option maxRecDepth 100000 in
theorem vc_L_law_633 (a0 : Nat) (a1 : Nat) (a2 : Nat) (a3 : Nat) (x4 : Int32) (σ : zx_S) (K : Int32 → zx_S → Prop) (h : zwI 211 970 [some (.ref a0), some (.ref a1), some (.ref a2), some (.ref a3), some (.int x4), none, none] [] σ K) : zwI 211 633 [some (.ref a0), some (.ref a1), some (.ref a2), some (.ref a3), some (.int x4), none, none] [] σ K := by
  refine zw_goto (tgt := 970) zM_L_law dL_law_633 rfl ?_
  exact zw_weak2 h ⟨rfl, rfl, rfl, rfl, rfl, trivial⟩
set_option maxHeartbeats 4000000 in
set_option maxRecDepth 100000 in
theorem vc_L_law_970 (a0 : Nat) (a1 : Nat) (a2 : Nat) (a3 : Nat) (x4 : Int32) (σ : zx_S) (K : Int32 → zx_S → Prop) (h : zwI 211 23 [some (.ref a0), some (.ref a1), some (.ref a2), some (.ref a3), some (.int (x4 + Int32.ofInt 6)), none, none] [] σ K) : zwI 211 970 [some (.ref a0), some (.ref a1), some (.ref a2), some (.ref a3), some (.int x4), none, none] [] σ K := by
  refine zw_go (pc1 := 973) (L1 := [some (.ref a0), some (.ref a1), some (.ref a2), some (.ref a3), some (.int (x4 + Int32.ofInt 6)), none, none]) (st1 := []) (σ1 := σ) zM_L_law dL_law_970 rfl rfl rfl rfl ?_
  refine zw_goto (tgt := 23) zM_L_law dL_law_973 rfl ?_
  exact zw_weak2 h ⟨rfl, rfl, rfl, rfl, rfl, trivial⟩
