set_option maxHeartbeats 4000000 in
set_option maxRecDepth 100000 in
theorem vd_X7_alike_0 (x1 : Int) (r_x1 : jW x1) (x2 : Int) (r_x2 : jW x2) (E : jE) (A : jA) (K : Int → jA → Prop) (h : jrI 137 2 [some (.ref 49), some (.int (jI x1)), some (.int (jI x2)), some (.int (jI x1))] [] E A K) : jrI 137 0 [some (.ref 49), some (.int (jI x1)), some (.int (jI x2)), none] [] E A K := by
  intro hA
  refine zw_go (pc1 := 1) (L1 := [some (.ref 49), some (.int (jI x1)), some (.int (jI x2)), none]) (st1 := [.int (jI x1)]) (σ1 := js E A) zM_X7_alike dX7_alike_0 rfl rfl rfl rfl ?_
  refine zw_go (pc1 := 2) (L1 := [some (.ref 49), some (.int (jI x1)), some (.int (jI x2)), some (.int (jI x1))]) (st1 := []) (σ1 := js E A) zM_X7_alike dX7_alike_1 rfl rfl rfl rfl ?_
  exact zw_weak2 (h hA) ⟨rfl, rfl, rfl, rfl, trivial⟩
set_option maxHeartbeats 4000000 in
set_option maxRecDepth 100000 in
theorem vd_X7_alike_2 (x1 : Int) (r_x1 : jW x1) (x2 : Int) (r_x2 : jW x2) (x3 : Int) (r_x3 : jW x3) (E : jE) (A : jA) (K : Int → jA → Prop) (h : ((x2 ≤ x3 → jW (x3 - x1) ∧ K (x3 - x1) A) ∧ (x3 < x2 → (0 ≤ x3 ∧ x3 < 32) ∧ (0 ≤ x1 ∧ x1 < 32) ∧ ((¬ (A 62 x3) = (A 62 x1) → jW (x3 - x1) ∧ K (x3 - x1) A) ∧ ((A 62 x3) = (A 62 x1) → jrI 137 2 [some (.ref 49), some (.int (jI x1)), some (.int (jI x2)), some (.int (jI (x3 + 1)))] [] E A K))))) : jrI 137 2 [some (.ref 49), some (.int (jI x1)), some (.int (jI x2)), some (.int (jI x3))] [] E A K := by
  intro hA
  refine zw_go (pc1 := 3) (L1 := [some (.ref 49), some (.int (jI x1)), some (.int (jI x2)), some (.int (jI x3))]) (st1 := [.int (jI x3)]) (σ1 := js E A) zM_X7_alike dX7_alike_2 rfl rfl rfl rfl ?_
  refine zw_go (pc1 := 4) (L1 := [some (.ref 49), some (.int (jI x1)), some (.int (jI x2)), some (.int (jI x3))]) (st1 := [.int (jI x2), .int (jI x3)]) (σ1 := js E A) zM_X7_alike dX7_alike_3 rfl rfl rfl rfl ?_
  refine jw_icmp_ge (tgt := 28) zM_X7_alike dX7_alike_4 rfl r_x3 r_x2 (fun q => ?_) (fun q => ?_)
  · replace h := h.1 q
    refine zw_go (pc1 := 29) (L1 := [some (.ref 49), some (.int (jI x1)), some (.int (jI x2)), some (.int (jI x3))]) (st1 := [.int (jI x3)]) (σ1 := js E A) zM_X7_alike dX7_alike_28 rfl rfl rfl rfl ?_
    refine zw_go (pc1 := 30) (L1 := [some (.ref 49), some (.int (jI x1)), some (.int (jI x2)), some (.int (jI x3))]) (st1 := [.int (jI x1), .int (jI x3)]) (σ1 := js E A) zM_X7_alike dX7_alike_29 rfl rfl rfl rfl ?_
    refine jw_sub zM_X7_alike dX7_alike_30 ?_
    obtain ⟨hw1, h⟩ := h
    exact jw_reti zM_X7_alike dX7_alike_31 rfl hw1 hA h
  · replace h := h.2 q
    refine zw_go (pc1 := 8) (L1 := [some (.ref 49), some (.int (jI x1)), some (.int (jI x2)), some (.int (jI x3))]) (st1 := [.ref 49]) (σ1 := js E A) zM_X7_alike dX7_alike_7 rfl rfl rfl rfl ?_
    refine jw_getR (a := 62) zM_X7_alike dX7_alike_8 zF_7_46 rfl rfl rfl ?_
    refine zw_go (pc1 := 12) (L1 := [some (.ref 49), some (.int (jI x1)), some (.int (jI x2)), some (.int (jI x3))]) (st1 := [.int (jI x3), .ref 62]) (σ1 := js E A) zM_X7_alike dX7_alike_11 rfl rfl rfl rfl ?_
    obtain ⟨hi2, h⟩ := h
    refine jw_iald zM_X7_alike dX7_alike_12 rfl rfl hi2 ?_
    refine zw_go (pc1 := 14) (L1 := [some (.ref 49), some (.int (jI x1)), some (.int (jI x2)), some (.int (jI x3))]) (st1 := [.ref 49, .int (jI (A 62 x3))]) (σ1 := js E A) zM_X7_alike dX7_alike_13 rfl rfl rfl rfl ?_
    refine jw_getR (a := 62) zM_X7_alike dX7_alike_14 zF_7_46 rfl rfl rfl ?_
    refine zw_go (pc1 := 18) (L1 := [some (.ref 49), some (.int (jI x1)), some (.int (jI x2)), some (.int (jI x3))]) (st1 := [.int (jI x1), .ref 62, .int (jI (A 62 x3))]) (σ1 := js E A) zM_X7_alike dX7_alike_17 rfl rfl rfl rfl ?_
    obtain ⟨hi3, h⟩ := h
    refine jw_iald zM_X7_alike dX7_alike_18 rfl rfl hi3 ?_
    refine jw_icmp_ne (tgt := 28) zM_X7_alike dX7_alike_19 rfl (hA 62 x3) (hA 62 x1) (fun q => ?_) (fun q => ?_)
    · replace h := h.1 q
      refine zw_go (pc1 := 29) (L1 := [some (.ref 49), some (.int (jI x1)), some (.int (jI x2)), some (.int (jI x3))]) (st1 := [.int (jI x3)]) (σ1 := js E A) zM_X7_alike dX7_alike_28 rfl rfl rfl rfl ?_
      refine zw_go (pc1 := 30) (L1 := [some (.ref 49), some (.int (jI x1)), some (.int (jI x2)), some (.int (jI x3))]) (st1 := [.int (jI x1), .int (jI x3)]) (σ1 := js E A) zM_X7_alike dX7_alike_29 rfl rfl rfl rfl ?_
      refine jw_sub zM_X7_alike dX7_alike_30 ?_
      obtain ⟨hw4, h⟩ := h
      exact jw_reti zM_X7_alike dX7_alike_31 rfl hw4 hA h
    · replace h := h.2 q
      refine jw_iinc (x := x3) (L1 := [some (.ref 49), some (.int (jI x1)), some (.int (jI x2)), some (.int (jI (x3 + 1)))]) zM_X7_alike dX7_alike_22 rfl (show 3 < 4 by decide) rfl ?_
      refine zw_goto (tgt := 2) zM_X7_alike dX7_alike_25 rfl ?_
      exact zw_weak2 (h hA) ⟨rfl, rfl, rfl, rfl, trivial⟩
set_option maxHeartbeats 4000000 in
set_option maxRecDepth 100000 in
theorem vd_X7_areFolders_0 (x1 : Int) (r_x1 : jW x1) (x2 : Int) (r_x2 : jW x2) (E : jE) (A : jA) (K : Int → jA → Prop) (h : jrI 210 0 [some (.ref 49), some (.int (jI x1)), some (.int (jI 10))] [] E A (fun v3 A1 => jrI 210 0 [some (.ref 49), some (.int (jI x1)), some (.int (jI 8))] [] E A1 (fun v7 A5 => jrI 138 22 [some (.ref 49), some (.int (jI x1)), some (.int (jI x2)), some (.int (jI (v3 - v7))), some (.int (jI 0)), some (.int (jI 1)), none, none, none] [] E A5 K))) : jrI 138 0 [some (.ref 49), some (.int (jI x1)), some (.int (jI x2)), none, none, none, none, none, none] [] E A K := by
  intro hA
  refine zw_go (pc1 := 1) (L1 := [some (.ref 49), some (.int (jI x1)), some (.int (jI x2)), none, none, none, none, none, none]) (st1 := [.ref 49]) (σ1 := js E A) zM_X7_areFolders dX7_areFolders_0 rfl rfl rfl rfl ?_
  refine zw_go (pc1 := 2) (L1 := [some (.ref 49), some (.int (jI x1)), some (.int (jI x2)), none, none, none, none, none, none]) (st1 := [.int (jI x1), .ref 49]) (σ1 := js E A) zM_X7_areFolders dX7_areFolders_1 rfl rfl rfl rfl ?_
  refine jw_bipush (v := 10) zM_X7_areFolders dX7_areFolders_2 (by decide) ?_
  refine jw_callI (as := [.ref 49, .int (jI x1), .int (jI 10)]) (rest := []) zM_X7_areFolders dX7_areFolders_4 (zx_calV zC_7_201) zM_X7_word rfl rfl rfl rfl rfl (j_args0 rfl rfl) rfl hA h (fun v3 A1 rv4 hA2 h => ?_)
  refine zw_go (pc1 := 8) (L1 := [some (.ref 49), some (.int (jI x1)), some (.int (jI x2)), none, none, none, none, none, none]) (st1 := [.ref 49, .int (jI v3)]) (σ1 := js E A1) zM_X7_areFolders dX7_areFolders_7 rfl rfl rfl rfl ?_
  refine zw_go (pc1 := 9) (L1 := [some (.ref 49), some (.int (jI x1)), some (.int (jI x2)), none, none, none, none, none, none]) (st1 := [.int (jI x1), .ref 49, .int (jI v3)]) (σ1 := js E A1) zM_X7_areFolders dX7_areFolders_8 rfl rfl rfl rfl ?_
  refine jw_bipush (v := 8) zM_X7_areFolders dX7_areFolders_9 (by decide) ?_
  refine jw_callI (as := [.ref 49, .int (jI x1), .int (jI 8)]) (rest := [.int (jI v3)]) zM_X7_areFolders dX7_areFolders_11 (zx_calV zC_7_201) zM_X7_word rfl rfl rfl rfl rfl (j_args0 rfl rfl) rfl hA2 h (fun v7 A5 rv8 hA6 h => ?_)
  refine jw_sub zM_X7_areFolders dX7_areFolders_14 ?_
  refine zw_go (pc1 := 16) (L1 := [some (.ref 49), some (.int (jI x1)), some (.int (jI x2)), some (.int (jI (v3 - v7))), none, none, none, none, none]) (st1 := []) (σ1 := js E A5) zM_X7_areFolders dX7_areFolders_15 rfl rfl rfl rfl ?_
  refine jw_iconst (v := 0) zM_X7_areFolders dX7_areFolders_16 rfl ?_
  refine zw_go (pc1 := 19) (L1 := [some (.ref 49), some (.int (jI x1)), some (.int (jI x2)), some (.int (jI (v3 - v7))), some (.int (jI 0)), none, none, none, none]) (st1 := []) (σ1 := js E A5) zM_X7_areFolders dX7_areFolders_17 rfl rfl rfl rfl ?_
  refine jw_iconst (v := 1) zM_X7_areFolders dX7_areFolders_19 rfl ?_
  refine zw_go (pc1 := 22) (L1 := [some (.ref 49), some (.int (jI x1)), some (.int (jI x2)), some (.int (jI (v3 - v7))), some (.int (jI 0)), some (.int (jI 1)), none, none, none]) (st1 := []) (σ1 := js E A5) zM_X7_areFolders dX7_areFolders_20 rfl rfl rfl rfl ?_
  exact zw_weak2 (h hA6) ⟨rfl, rfl, rfl, rfl, rfl, rfl, trivial⟩
set_option maxHeartbeats 4000000 in
set_option maxRecDepth 100000 in
theorem vd_X7_areFolders_22 (x1 : Int) (r_x1 : jW x1) (x2 : Int) (r_x2 : jW x2) (x3 : Int) (r_x3 : jW x3) (x4 : Int) (r_x4 : jW x4) (x5 : Int) (r_x5 : jW x5) (E : jE) (A : jA) (K : Int → jA → Prop) (h : ((x2 < x5 → jW (4 * x4) ∧ ((¬ (4 * x4) = x3 → K 0 A) ∧ ((4 * x4) = x3 → K 1 A))) ∧ (x5 ≤ x2 → jrI 164 0 [some (.ref 49), some (.int (jI x1)), some (.int (jI x5))] [] E A (fun v4 A2 => ((¬ v4 = (0 : Int) → jrI 162 0 [some (.ref 49), some (.int (jI x1)), some (.int (jI x5))] [] E A2 (fun v8 A6 => jrI 210 0 [some (.ref 49), some (.int (jI x1)), some (.int (jI (v8 + 6)))] [] E A6 (fun v12 A10 => jW (4 * x4) ∧ ((¬ v12 = (4 * x4) → K 0 A10) ∧ (v12 = (4 * x4) → jrI 180 0 [some (.ref 49), some (.int (jI x1)), some (.int (jI x5))] [] E A10 (fun v17 A15 => jW (4 * (x4 + v17)) ∧ (((4 * (x4 + v17)) ≤ x3 → jrI 138 87 [some (.ref 49), some (.int (jI x1)), some (.int (jI x2)), some (.int (jI x3)), some (.int (jI x4)), some (.int (jI x5)), some (.int (jI 0)), some (.int (jI 0)), none] [] E A15 K) ∧ (x3 < (4 * (x4 + v17)) → K 0 A15)))))))) ∧ (v4 = (0 : Int) → jrI 138 172 [some (.ref 49), some (.int (jI x1)), some (.int (jI x2)), some (.int (jI x3)), some (.int (jI x4)), some (.int (jI x5)), none, none, none] [] E A2 K)))))) : jrI 138 22 [some (.ref 49), some (.int (jI x1)), some (.int (jI x2)), some (.int (jI x3)), some (.int (jI x4)), some (.int (jI x5)), none, none, none] [] E A K := by
  intro hA
  refine zw_go (pc1 := 24) (L1 := [some (.ref 49), some (.int (jI x1)), some (.int (jI x2)), some (.int (jI x3)), some (.int (jI x4)), some (.int (jI x5)), none, none, none]) (st1 := [.int (jI x5)]) (σ1 := js E A) zM_X7_areFolders dX7_areFolders_22 rfl rfl rfl rfl ?_
  refine zw_go (pc1 := 25) (L1 := [some (.ref 49), some (.int (jI x1)), some (.int (jI x2)), some (.int (jI x3)), some (.int (jI x4)), some (.int (jI x5)), none, none, none]) (st1 := [.int (jI x2), .int (jI x5)]) (σ1 := js E A) zM_X7_areFolders dX7_areFolders_24 rfl rfl rfl rfl ?_
  refine jw_icmp_gt (tgt := 178) zM_X7_areFolders dX7_areFolders_25 rfl r_x5 r_x2 (fun q => ?_) (fun q => ?_)
  · replace h := h.1 q
    refine jw_iconst (v := 4) zM_X7_areFolders dX7_areFolders_178 rfl ?_
    refine zw_go (pc1 := 181) (L1 := [some (.ref 49), some (.int (jI x1)), some (.int (jI x2)), some (.int (jI x3)), some (.int (jI x4)), some (.int (jI x5)), none, none, none]) (st1 := [.int (jI x4), .int (jI 4)]) (σ1 := js E A) zM_X7_areFolders dX7_areFolders_179 rfl rfl rfl rfl ?_
    refine jw_mul zM_X7_areFolders dX7_areFolders_181 ?_
    refine zw_go (pc1 := 183) (L1 := [some (.ref 49), some (.int (jI x1)), some (.int (jI x2)), some (.int (jI x3)), some (.int (jI x4)), some (.int (jI x5)), none, none, none]) (st1 := [.int (jI x3), .int (jI (4 * x4))]) (σ1 := js E A) zM_X7_areFolders dX7_areFolders_182 rfl rfl rfl rfl ?_
    obtain ⟨hw1, h⟩ := h
    refine jw_icmp_ne (tgt := 190) zM_X7_areFolders dX7_areFolders_183 rfl hw1 r_x3 (fun q => ?_) (fun q => ?_)
    · replace h := h.1 q
      refine jw_iconst (v := 0) zM_X7_areFolders dX7_areFolders_190 rfl ?_
      exact jw_retz zM_X7_areFolders dX7_areFolders_191 rfl (Or.inl rfl) hA h
    · replace h := h.2 q
      refine jw_iconst (v := 1) zM_X7_areFolders dX7_areFolders_186 rfl ?_
      refine zw_goto (tgt := 191) zM_X7_areFolders dX7_areFolders_187 rfl ?_
      exact jw_retz zM_X7_areFolders dX7_areFolders_191 rfl (Or.inr rfl) hA h
  · replace h := h.2 q
    refine zw_go (pc1 := 29) (L1 := [some (.ref 49), some (.int (jI x1)), some (.int (jI x2)), some (.int (jI x3)), some (.int (jI x4)), some (.int (jI x5)), none, none, none]) (st1 := [.ref 49]) (σ1 := js E A) zM_X7_areFolders dX7_areFolders_28 rfl rfl rfl rfl ?_
    refine zw_go (pc1 := 30) (L1 := [some (.ref 49), some (.int (jI x1)), some (.int (jI x2)), some (.int (jI x3)), some (.int (jI x4)), some (.int (jI x5)), none, none, none]) (st1 := [.int (jI x1), .ref 49]) (σ1 := js E A) zM_X7_areFolders dX7_areFolders_29 rfl rfl rfl rfl ?_
    refine zw_go (pc1 := 32) (L1 := [some (.ref 49), some (.int (jI x1)), some (.int (jI x2)), some (.int (jI x3)), some (.int (jI x4)), some (.int (jI x5)), none, none, none]) (st1 := [.int (jI x5), .int (jI x1), .ref 49]) (σ1 := js E A) zM_X7_areFolders dX7_areFolders_30 rfl rfl rfl rfl ?_
    refine jw_callI (as := [.ref 49, .int (jI x1), .int (jI x5)]) (rest := []) zM_X7_areFolders dX7_areFolders_32 (zx_calV zC_7_235) zM_X7_isFolder rfl rfl rfl rfl rfl (j_args0 rfl rfl) rfl hA h (fun v4 A2 rv5 hA3 h => ?_)
    refine jw_if_ne (tgt := 41) zM_X7_areFolders dX7_areFolders_35 rfl rv5 (fun q => ?_) (fun q => ?_)
    · replace h := h.1 q
      refine zw_go (pc1 := 42) (L1 := [some (.ref 49), some (.int (jI x1)), some (.int (jI x2)), some (.int (jI x3)), some (.int (jI x4)), some (.int (jI x5)), none, none, none]) (st1 := [.ref 49]) (σ1 := js E A2) zM_X7_areFolders dX7_areFolders_41 rfl rfl rfl rfl ?_
      refine zw_go (pc1 := 43) (L1 := [some (.ref 49), some (.int (jI x1)), some (.int (jI x2)), some (.int (jI x3)), some (.int (jI x4)), some (.int (jI x5)), none, none, none]) (st1 := [.int (jI x1), .ref 49]) (σ1 := js E A2) zM_X7_areFolders dX7_areFolders_42 rfl rfl rfl rfl ?_
      refine zw_go (pc1 := 44) (L1 := [some (.ref 49), some (.int (jI x1)), some (.int (jI x2)), some (.int (jI x3)), some (.int (jI x4)), some (.int (jI x5)), none, none, none]) (st1 := [.ref 49, .int (jI x1), .ref 49]) (σ1 := js E A2) zM_X7_areFolders dX7_areFolders_43 rfl rfl rfl rfl ?_
      refine zw_go (pc1 := 45) (L1 := [some (.ref 49), some (.int (jI x1)), some (.int (jI x2)), some (.int (jI x3)), some (.int (jI x4)), some (.int (jI x5)), none, none, none]) (st1 := [.int (jI x1), .ref 49, .int (jI x1), .ref 49]) (σ1 := js E A2) zM_X7_areFolders dX7_areFolders_44 rfl rfl rfl rfl ?_
      refine zw_go (pc1 := 47) (L1 := [some (.ref 49), some (.int (jI x1)), some (.int (jI x2)), some (.int (jI x3)), some (.int (jI x4)), some (.int (jI x5)), none, none, none]) (st1 := [.int (jI x5), .int (jI x1), .ref 49, .int (jI x1), .ref 49]) (σ1 := js E A2) zM_X7_areFolders dX7_areFolders_45 rfl rfl rfl rfl ?_
      refine jw_callI (as := [.ref 49, .int (jI x1), .int (jI x5)]) (rest := [.int (jI x1), .ref 49]) zM_X7_areFolders dX7_areFolders_47 (zx_calV zC_7_226) zM_X7_inode rfl rfl rfl rfl rfl (j_args0 rfl rfl) rfl hA3 h (fun v8 A6 rv9 hA7 h => ?_)
      refine jw_bipush (v := 6) zM_X7_areFolders dX7_areFolders_50 (by decide) ?_
      refine jw_add zM_X7_areFolders dX7_areFolders_52 ?_
      refine jw_callI (as := [.ref 49, .int (jI x1), .int (jI (v8 + 6))]) (rest := []) zM_X7_areFolders dX7_areFolders_53 (zx_calV zC_7_201) zM_X7_word rfl rfl rfl rfl rfl (j_args0 rfl rfl) rfl hA7 h (fun v12 A10 rv13 hA11 h => ?_)
      refine jw_iconst (v := 4) zM_X7_areFolders dX7_areFolders_56 rfl ?_
      refine zw_go (pc1 := 59) (L1 := [some (.ref 49), some (.int (jI x1)), some (.int (jI x2)), some (.int (jI x3)), some (.int (jI x4)), some (.int (jI x5)), none, none, none]) (st1 := [.int (jI x4), .int (jI 4), .int (jI v12)]) (σ1 := js E A10) zM_X7_areFolders dX7_areFolders_57 rfl rfl rfl rfl ?_
      refine jw_mul zM_X7_areFolders dX7_areFolders_59 ?_
      obtain ⟨hw14, h⟩ := h
      refine jw_icmp_ne (tgt := 79) zM_X7_areFolders dX7_areFolders_60 rfl rv13 hw14 (fun q => ?_) (fun q => ?_)
      · replace h := h.1 q
        refine jw_iconst (v := 0) zM_X7_areFolders dX7_areFolders_79 rfl ?_
        exact jw_retz zM_X7_areFolders dX7_areFolders_80 rfl (Or.inl rfl) hA11 h
      · replace h := h.2 q
        refine jw_iconst (v := 4) zM_X7_areFolders dX7_areFolders_63 rfl ?_
        refine zw_go (pc1 := 66) (L1 := [some (.ref 49), some (.int (jI x1)), some (.int (jI x2)), some (.int (jI x3)), some (.int (jI x4)), some (.int (jI x5)), none, none, none]) (st1 := [.int (jI x4), .int (jI 4)]) (σ1 := js E A10) zM_X7_areFolders dX7_areFolders_64 rfl rfl rfl rfl ?_
        refine zw_go (pc1 := 67) (L1 := [some (.ref 49), some (.int (jI x1)), some (.int (jI x2)), some (.int (jI x3)), some (.int (jI x4)), some (.int (jI x5)), none, none, none]) (st1 := [.ref 49, .int (jI x4), .int (jI 4)]) (σ1 := js E A10) zM_X7_areFolders dX7_areFolders_66 rfl rfl rfl rfl ?_
        refine zw_go (pc1 := 68) (L1 := [some (.ref 49), some (.int (jI x1)), some (.int (jI x2)), some (.int (jI x3)), some (.int (jI x4)), some (.int (jI x5)), none, none, none]) (st1 := [.int (jI x1), .ref 49, .int (jI x4), .int (jI 4)]) (σ1 := js E A10) zM_X7_areFolders dX7_areFolders_67 rfl rfl rfl rfl ?_
        refine zw_go (pc1 := 70) (L1 := [some (.ref 49), some (.int (jI x1)), some (.int (jI x2)), some (.int (jI x3)), some (.int (jI x4)), some (.int (jI x5)), none, none, none]) (st1 := [.int (jI x5), .int (jI x1), .ref 49, .int (jI x4), .int (jI 4)]) (σ1 := js E A10) zM_X7_areFolders dX7_areFolders_68 rfl rfl rfl rfl ?_
        refine jw_callI (as := [.ref 49, .int (jI x1), .int (jI x5)]) (rest := [.int (jI x4), .int (jI 4)]) zM_X7_areFolders dX7_areFolders_70 (zx_calV zC_7_238) zM_X7_manyOf rfl rfl rfl rfl rfl (j_args0 rfl rfl) rfl hA11 h (fun v17 A15 rv18 hA16 h => ?_)
        refine jw_add zM_X7_areFolders dX7_areFolders_73 ?_
        refine jw_mul zM_X7_areFolders dX7_areFolders_74 ?_
        refine zw_go (pc1 := 76) (L1 := [some (.ref 49), some (.int (jI x1)), some (.int (jI x2)), some (.int (jI x3)), some (.int (jI x4)), some (.int (jI x5)), none, none, none]) (st1 := [.int (jI x3), .int (jI (4 * (x4 + v17)))]) (σ1 := js E A15) zM_X7_areFolders dX7_areFolders_75 rfl rfl rfl rfl ?_
        obtain ⟨hw19, h⟩ := h
        refine jw_icmp_le (tgt := 81) zM_X7_areFolders dX7_areFolders_76 rfl hw19 r_x3 (fun q => ?_) (fun q => ?_)
        · replace h := h.1 q
          refine jw_iconst (v := 0) zM_X7_areFolders dX7_areFolders_81 rfl ?_
          refine zw_go (pc1 := 84) (L1 := [some (.ref 49), some (.int (jI x1)), some (.int (jI x2)), some (.int (jI x3)), some (.int (jI x4)), some (.int (jI x5)), some (.int (jI 0)), none, none]) (st1 := []) (σ1 := js E A15) zM_X7_areFolders dX7_areFolders_82 rfl rfl rfl rfl ?_
          refine jw_iconst (v := 0) zM_X7_areFolders dX7_areFolders_84 rfl ?_
          refine zw_go (pc1 := 87) (L1 := [some (.ref 49), some (.int (jI x1)), some (.int (jI x2)), some (.int (jI x3)), some (.int (jI x4)), some (.int (jI x5)), some (.int (jI 0)), some (.int (jI 0)), none]) (st1 := []) (σ1 := js E A15) zM_X7_areFolders dX7_areFolders_85 rfl rfl rfl rfl ?_
          exact zw_weak2 (h hA16) ⟨rfl, rfl, rfl, rfl, rfl, rfl, rfl, rfl, trivial⟩
        · replace h := h.2 q
          refine jw_iconst (v := 0) zM_X7_areFolders dX7_areFolders_79 rfl ?_
          exact jw_retz zM_X7_areFolders dX7_areFolders_80 rfl (Or.inl rfl) hA16 h
    · replace h := h.2 q
      refine zw_goto (tgt := 172) zM_X7_areFolders dX7_areFolders_38 rfl ?_
      exact zw_weak2 (h hA3) ⟨rfl, rfl, rfl, rfl, rfl, rfl, trivial⟩
set_option maxHeartbeats 4000000 in
set_option maxRecDepth 100000 in
theorem vd_X7_areFolders_87 (x1 : Int) (r_x1 : jW x1) (x2 : Int) (r_x2 : jW x2) (x3 : Int) (r_x3 : jW x3) (x4 : Int) (r_x4 : jW x4) (x5 : Int) (r_x5 : jW x5) (x6 : Int) (r_x6 : jW x6) (x7 : Int) (r_x7 : jW x7) (E : jE) (A : jA) (K : Int → jA → Prop) (h : jrI 180 0 [some (.ref 49), some (.int (jI x1)), some (.int (jI x5))] [] E A (fun v3 A1 => ((v3 ≤ x7 → jrI 180 0 [some (.ref 49), some (.int (jI x1)), some (.int (jI x5))] [] E A1 (fun v7 A5 => jrI 138 172 [some (.ref 49), some (.int (jI x1)), some (.int (jI x2)), some (.int (jI x3)), some (.int (jI (x4 + v7))), some (.int (jI x5)), none, none, none] [] E A5 K)) ∧ (x7 < v3 → jrI 181 0 [some (.ref 49), some (.int (jI x1)), some (.int (jI (x4 + x7)))] [] E A1 (fun v11 A9 => jrI 160 0 [some (.int (jI v11)), some (.int (jI 1)), some (.int (jI 999))] [] E A9 (fun v15 A13 => ((v15 = (0 : Int) → K 0 A13) ∧ (¬ v15 = (0 : Int) → ((v11 ≤ x6 → K 0 A13) ∧ (x6 < v11 → jrI 190 0 [some (.ref 49), some (.int (jI x1)), some (.int (jI (x4 + x7)))] [] E A13 (fun v19 A17 => jrI 160 0 [some (.int (jI v19)), some (.int (jI 1)), some (.int (jI x2))] [] E A17 (fun v23 A21 => ((¬ v23 = (0 : Int) → jrI 138 87 [some (.ref 49), some (.int (jI x1)), some (.int (jI x2)), some (.int (jI x3)), some (.int (jI x4)), some (.int (jI x5)), some (.int (jI v11)), some (.int (jI (x7 + 1))), none] [] E A21 K) ∧ (v23 = (0 : Int) → K 0 A21)))))))))))))) : jrI 138 87 [some (.ref 49), some (.int (jI x1)), some (.int (jI x2)), some (.int (jI x3)), some (.int (jI x4)), some (.int (jI x5)), some (.int (jI x6)), some (.int (jI x7)), none] [] E A K := by
  intro hA
  refine zw_go (pc1 := 89) (L1 := [some (.ref 49), some (.int (jI x1)), some (.int (jI x2)), some (.int (jI x3)), some (.int (jI x4)), some (.int (jI x5)), some (.int (jI x6)), some (.int (jI x7)), none]) (st1 := [.int (jI x7)]) (σ1 := js E A) zM_X7_areFolders dX7_areFolders_87 rfl rfl rfl rfl ?_
  refine zw_go (pc1 := 90) (L1 := [some (.ref 49), some (.int (jI x1)), some (.int (jI x2)), some (.int (jI x3)), some (.int (jI x4)), some (.int (jI x5)), some (.int (jI x6)), some (.int (jI x7)), none]) (st1 := [.ref 49, .int (jI x7)]) (σ1 := js E A) zM_X7_areFolders dX7_areFolders_89 rfl rfl rfl rfl ?_
  refine zw_go (pc1 := 91) (L1 := [some (.ref 49), some (.int (jI x1)), some (.int (jI x2)), some (.int (jI x3)), some (.int (jI x4)), some (.int (jI x5)), some (.int (jI x6)), some (.int (jI x7)), none]) (st1 := [.int (jI x1), .ref 49, .int (jI x7)]) (σ1 := js E A) zM_X7_areFolders dX7_areFolders_90 rfl rfl rfl rfl ?_
  refine zw_go (pc1 := 93) (L1 := [some (.ref 49), some (.int (jI x1)), some (.int (jI x2)), some (.int (jI x3)), some (.int (jI x4)), some (.int (jI x5)), some (.int (jI x6)), some (.int (jI x7)), none]) (st1 := [.int (jI x5), .int (jI x1), .ref 49, .int (jI x7)]) (σ1 := js E A) zM_X7_areFolders dX7_areFolders_91 rfl rfl rfl rfl ?_
  refine jw_callI (as := [.ref 49, .int (jI x1), .int (jI x5)]) (rest := [.int (jI x7)]) zM_X7_areFolders dX7_areFolders_93 (zx_calV zC_7_238) zM_X7_manyOf rfl rfl rfl rfl rfl (j_args0 rfl rfl) rfl hA h (fun v3 A1 rv4 hA2 h => ?_)
  refine jw_icmp_ge (tgt := 160) zM_X7_areFolders dX7_areFolders_96 rfl r_x7 rv4 (fun q => ?_) (fun q => ?_)
  · replace h := h.1 q
    refine zw_go (pc1 := 162) (L1 := [some (.ref 49), some (.int (jI x1)), some (.int (jI x2)), some (.int (jI x3)), some (.int (jI x4)), some (.int (jI x5)), some (.int (jI x6)), some (.int (jI x7)), none]) (st1 := [.int (jI x4)]) (σ1 := js E A1) zM_X7_areFolders dX7_areFolders_160 rfl rfl rfl rfl ?_
    refine zw_go (pc1 := 163) (L1 := [some (.ref 49), some (.int (jI x1)), some (.int (jI x2)), some (.int (jI x3)), some (.int (jI x4)), some (.int (jI x5)), some (.int (jI x6)), some (.int (jI x7)), none]) (st1 := [.ref 49, .int (jI x4)]) (σ1 := js E A1) zM_X7_areFolders dX7_areFolders_162 rfl rfl rfl rfl ?_
    refine zw_go (pc1 := 164) (L1 := [some (.ref 49), some (.int (jI x1)), some (.int (jI x2)), some (.int (jI x3)), some (.int (jI x4)), some (.int (jI x5)), some (.int (jI x6)), some (.int (jI x7)), none]) (st1 := [.int (jI x1), .ref 49, .int (jI x4)]) (σ1 := js E A1) zM_X7_areFolders dX7_areFolders_163 rfl rfl rfl rfl ?_
    refine zw_go (pc1 := 166) (L1 := [some (.ref 49), some (.int (jI x1)), some (.int (jI x2)), some (.int (jI x3)), some (.int (jI x4)), some (.int (jI x5)), some (.int (jI x6)), some (.int (jI x7)), none]) (st1 := [.int (jI x5), .int (jI x1), .ref 49, .int (jI x4)]) (σ1 := js E A1) zM_X7_areFolders dX7_areFolders_164 rfl rfl rfl rfl ?_
    refine jw_callI (as := [.ref 49, .int (jI x1), .int (jI x5)]) (rest := [.int (jI x4)]) zM_X7_areFolders dX7_areFolders_166 (zx_calV zC_7_238) zM_X7_manyOf rfl rfl rfl rfl rfl (j_args0 rfl rfl) rfl hA2 h (fun v7 A5 rv8 hA6 h => ?_)
    refine jw_add zM_X7_areFolders dX7_areFolders_169 ?_
    refine zw_go (pc1 := 172) (L1 := [some (.ref 49), some (.int (jI x1)), some (.int (jI x2)), some (.int (jI x3)), some (.int (jI (x4 + v7))), some (.int (jI x5)), some (.int (jI x6)), some (.int (jI x7)), none]) (st1 := []) (σ1 := js E A5) zM_X7_areFolders dX7_areFolders_170 rfl rfl rfl rfl ?_
    exact zw_weak2 (h hA6) ⟨rfl, rfl, rfl, rfl, rfl, rfl, trivial⟩
  · replace h := h.2 q
    refine zw_go (pc1 := 100) (L1 := [some (.ref 49), some (.int (jI x1)), some (.int (jI x2)), some (.int (jI x3)), some (.int (jI x4)), some (.int (jI x5)), some (.int (jI x6)), some (.int (jI x7)), none]) (st1 := [.ref 49]) (σ1 := js E A1) zM_X7_areFolders dX7_areFolders_99 rfl rfl rfl rfl ?_
    refine zw_go (pc1 := 101) (L1 := [some (.ref 49), some (.int (jI x1)), some (.int (jI x2)), some (.int (jI x3)), some (.int (jI x4)), some (.int (jI x5)), some (.int (jI x6)), some (.int (jI x7)), none]) (st1 := [.int (jI x1), .ref 49]) (σ1 := js E A1) zM_X7_areFolders dX7_areFolders_100 rfl rfl rfl rfl ?_
    refine zw_go (pc1 := 103) (L1 := [some (.ref 49), some (.int (jI x1)), some (.int (jI x2)), some (.int (jI x3)), some (.int (jI x4)), some (.int (jI x5)), some (.int (jI x6)), some (.int (jI x7)), none]) (st1 := [.int (jI x4), .int (jI x1), .ref 49]) (σ1 := js E A1) zM_X7_areFolders dX7_areFolders_101 rfl rfl rfl rfl ?_
    refine zw_go (pc1 := 105) (L1 := [some (.ref 49), some (.int (jI x1)), some (.int (jI x2)), some (.int (jI x3)), some (.int (jI x4)), some (.int (jI x5)), some (.int (jI x6)), some (.int (jI x7)), none]) (st1 := [.int (jI x7), .int (jI x4), .int (jI x1), .ref 49]) (σ1 := js E A1) zM_X7_areFolders dX7_areFolders_103 rfl rfl rfl rfl ?_
    refine jw_add zM_X7_areFolders dX7_areFolders_105 ?_
    refine jw_callI (as := [.ref 49, .int (jI x1), .int (jI (x4 + x7))]) (rest := []) zM_X7_areFolders dX7_areFolders_106 (zx_calV zC_7_241) zM_X7_nameAt rfl rfl rfl rfl rfl (j_args0 rfl rfl) rfl hA2 h (fun v11 A9 rv12 hA10 h => ?_)
    refine zw_go (pc1 := 111) (L1 := [some (.ref 49), some (.int (jI x1)), some (.int (jI x2)), some (.int (jI x3)), some (.int (jI x4)), some (.int (jI x5)), some (.int (jI x6)), some (.int (jI x7)), some (.int (jI v11))]) (st1 := []) (σ1 := js E A9) zM_X7_areFolders dX7_areFolders_109 rfl rfl rfl rfl ?_
    refine zw_go (pc1 := 113) (L1 := [some (.ref 49), some (.int (jI x1)), some (.int (jI x2)), some (.int (jI x3)), some (.int (jI x4)), some (.int (jI x5)), some (.int (jI x6)), some (.int (jI x7)), some (.int (jI v11))]) (st1 := [.int (jI v11)]) (σ1 := js E A9) zM_X7_areFolders dX7_areFolders_111 rfl rfl rfl rfl ?_
    refine jw_iconst (v := 1) zM_X7_areFolders dX7_areFolders_113 rfl ?_
    refine jw_sipush (v := 999) zM_X7_areFolders dX7_areFolders_114 (by decide) ?_
    refine jw_callI (as := [.int (jI v11), .int (jI 1), .int (jI 999)]) (rest := []) zM_X7_areFolders dX7_areFolders_117 (zx_calS zC_7_101) zM_X7_in rfl rfl rfl rfl rfl rfl rfl hA10 h (fun v15 A13 rv16 hA14 h => ?_)
    refine jw_if_eq (tgt := 148) zM_X7_areFolders dX7_areFolders_120 rfl rv16 (fun q => ?_) (fun q => ?_)
    · replace h := h.1 q
      refine jw_iconst (v := 0) zM_X7_areFolders dX7_areFolders_148 rfl ?_
      exact jw_retz zM_X7_areFolders dX7_areFolders_149 rfl (Or.inl rfl) hA14 h
    · replace h := h.2 q
      refine zw_go (pc1 := 125) (L1 := [some (.ref 49), some (.int (jI x1)), some (.int (jI x2)), some (.int (jI x3)), some (.int (jI x4)), some (.int (jI x5)), some (.int (jI x6)), some (.int (jI x7)), some (.int (jI v11))]) (st1 := [.int (jI v11)]) (σ1 := js E A13) zM_X7_areFolders dX7_areFolders_123 rfl rfl rfl rfl ?_
      refine zw_go (pc1 := 127) (L1 := [some (.ref 49), some (.int (jI x1)), some (.int (jI x2)), some (.int (jI x3)), some (.int (jI x4)), some (.int (jI x5)), some (.int (jI x6)), some (.int (jI x7)), some (.int (jI v11))]) (st1 := [.int (jI x6), .int (jI v11)]) (σ1 := js E A13) zM_X7_areFolders dX7_areFolders_125 rfl rfl rfl rfl ?_
      refine jw_icmp_le (tgt := 148) zM_X7_areFolders dX7_areFolders_127 rfl rv12 r_x6 (fun q => ?_) (fun q => ?_)
      · replace h := h.1 q
        refine jw_iconst (v := 0) zM_X7_areFolders dX7_areFolders_148 rfl ?_
        exact jw_retz zM_X7_areFolders dX7_areFolders_149 rfl (Or.inl rfl) hA14 h
      · replace h := h.2 q
        refine zw_go (pc1 := 131) (L1 := [some (.ref 49), some (.int (jI x1)), some (.int (jI x2)), some (.int (jI x3)), some (.int (jI x4)), some (.int (jI x5)), some (.int (jI x6)), some (.int (jI x7)), some (.int (jI v11))]) (st1 := [.ref 49]) (σ1 := js E A13) zM_X7_areFolders dX7_areFolders_130 rfl rfl rfl rfl ?_
        refine zw_go (pc1 := 132) (L1 := [some (.ref 49), some (.int (jI x1)), some (.int (jI x2)), some (.int (jI x3)), some (.int (jI x4)), some (.int (jI x5)), some (.int (jI x6)), some (.int (jI x7)), some (.int (jI v11))]) (st1 := [.int (jI x1), .ref 49]) (σ1 := js E A13) zM_X7_areFolders dX7_areFolders_131 rfl rfl rfl rfl ?_
        refine zw_go (pc1 := 134) (L1 := [some (.ref 49), some (.int (jI x1)), some (.int (jI x2)), some (.int (jI x3)), some (.int (jI x4)), some (.int (jI x5)), some (.int (jI x6)), some (.int (jI x7)), some (.int (jI v11))]) (st1 := [.int (jI x4), .int (jI x1), .ref 49]) (σ1 := js E A13) zM_X7_areFolders dX7_areFolders_132 rfl rfl rfl rfl ?_
        refine zw_go (pc1 := 136) (L1 := [some (.ref 49), some (.int (jI x1)), some (.int (jI x2)), some (.int (jI x3)), some (.int (jI x4)), some (.int (jI x5)), some (.int (jI x6)), some (.int (jI x7)), some (.int (jI v11))]) (st1 := [.int (jI x7), .int (jI x4), .int (jI x1), .ref 49]) (σ1 := js E A13) zM_X7_areFolders dX7_areFolders_134 rfl rfl rfl rfl ?_
        refine jw_add zM_X7_areFolders dX7_areFolders_136 ?_
        refine jw_callI (as := [.ref 49, .int (jI x1), .int (jI (x4 + x7))]) (rest := []) zM_X7_areFolders dX7_areFolders_137 (zx_calV zC_7_244) zM_X7_numberAt rfl rfl rfl rfl rfl (j_args0 rfl rfl) rfl hA14 h (fun v19 A17 rv20 hA18 h => ?_)
        refine jw_iconst (v := 1) zM_X7_areFolders dX7_areFolders_140 rfl ?_
        refine zw_go (pc1 := 142) (L1 := [some (.ref 49), some (.int (jI x1)), some (.int (jI x2)), some (.int (jI x3)), some (.int (jI x4)), some (.int (jI x5)), some (.int (jI x6)), some (.int (jI x7)), some (.int (jI v11))]) (st1 := [.int (jI x2), .int (jI 1), .int (jI v19)]) (σ1 := js E A17) zM_X7_areFolders dX7_areFolders_141 rfl rfl rfl rfl ?_
        refine jw_callI (as := [.int (jI v19), .int (jI 1), .int (jI x2)]) (rest := []) zM_X7_areFolders dX7_areFolders_142 (zx_calS zC_7_101) zM_X7_in rfl rfl rfl rfl rfl rfl rfl hA18 h (fun v23 A21 rv24 hA22 h => ?_)
        refine jw_if_ne (tgt := 150) zM_X7_areFolders dX7_areFolders_145 rfl rv24 (fun q => ?_) (fun q => ?_)
        · replace h := h.1 q
          refine zw_go (pc1 := 152) (L1 := [some (.ref 49), some (.int (jI x1)), some (.int (jI x2)), some (.int (jI x3)), some (.int (jI x4)), some (.int (jI x5)), some (.int (jI x6)), some (.int (jI x7)), some (.int (jI v11))]) (st1 := [.int (jI v11)]) (σ1 := js E A21) zM_X7_areFolders dX7_areFolders_150 rfl rfl rfl rfl ?_
          refine zw_go (pc1 := 154) (L1 := [some (.ref 49), some (.int (jI x1)), some (.int (jI x2)), some (.int (jI x3)), some (.int (jI x4)), some (.int (jI x5)), some (.int (jI v11)), some (.int (jI x7)), some (.int (jI v11))]) (st1 := []) (σ1 := js E A21) zM_X7_areFolders dX7_areFolders_152 rfl rfl rfl rfl ?_
          refine jw_iinc (x := x7) (L1 := [some (.ref 49), some (.int (jI x1)), some (.int (jI x2)), some (.int (jI x3)), some (.int (jI x4)), some (.int (jI x5)), some (.int (jI v11)), some (.int (jI (x7 + 1))), some (.int (jI v11))]) zM_X7_areFolders dX7_areFolders_154 rfl (show 7 < 9 by decide) rfl ?_
          refine zw_goto (tgt := 87) zM_X7_areFolders dX7_areFolders_157 rfl ?_
          exact zw_weak2 (h hA22) ⟨rfl, rfl, rfl, rfl, rfl, rfl, rfl, rfl, trivial⟩
        · replace h := h.2 q
          refine jw_iconst (v := 0) zM_X7_areFolders dX7_areFolders_148 rfl ?_
          exact jw_retz zM_X7_areFolders dX7_areFolders_149 rfl (Or.inl rfl) hA22 h
set_option maxHeartbeats 4000000 in
set_option maxRecDepth 100000 in
theorem vd_X7_areFolders_172 (x1 : Int) (r_x1 : jW x1) (x2 : Int) (r_x2 : jW x2) (x3 : Int) (r_x3 : jW x3) (x4 : Int) (r_x4 : jW x4) (x5 : Int) (r_x5 : jW x5) (E : jE) (A : jA) (K : Int → jA → Prop) (h : jrI 138 22 [some (.ref 49), some (.int (jI x1)), some (.int (jI x2)), some (.int (jI x3)), some (.int (jI x4)), some (.int (jI (x5 + 1))), none, none, none] [] E A K) : jrI 138 172 [some (.ref 49), some (.int (jI x1)), some (.int (jI x2)), some (.int (jI x3)), some (.int (jI x4)), some (.int (jI x5)), none, none, none] [] E A K := by
  intro hA
  refine jw_iinc (x := x5) (L1 := [some (.ref 49), some (.int (jI x1)), some (.int (jI x2)), some (.int (jI x3)), some (.int (jI x4)), some (.int (jI (x5 + 1))), none, none, none]) zM_X7_areFolders dX7_areFolders_172 rfl (show 5 < 9 by decide) rfl ?_
  refine zw_goto (tgt := 22) zM_X7_areFolders dX7_areFolders_175 rfl ?_
  exact zw_weak2 (h hA) ⟨rfl, rfl, rfl, rfl, rfl, rfl, trivial⟩
set_option maxHeartbeats 4000000 in
set_option maxRecDepth 100000 in
theorem vd_X7_areInodes_0 (x1 : Int) (r_x1 : jW x1) (x2 : Int) (r_x2 : jW x2) (x3 : Int) (r_x3 : jW x3) (E : jE) (A : jA) (K : Int → jA → Prop) (h : jrI 210 0 [some (.ref 49), some (.int (jI x1)), some (.int (jI 6))] [] E A (fun v3 A1 => jrI 210 0 [some (.ref 49), some (.int (jI x1)), some (.int (jI 8))] [] E A1 (fun v7 A5 => jrI 139 21 [some (.ref 49), some (.int (jI x1)), some (.int (jI x2)), some (.int (jI x3)), some (.int (jI v3)), some (.int (jI v7)), some (.int (jI 1)), none, none, none] [] E A5 K))) : jrI 139 0 [some (.ref 49), some (.int (jI x1)), some (.int (jI x2)), some (.int (jI x3)), none, none, none, none, none, none] [] E A K := by
  intro hA
  refine zw_go (pc1 := 1) (L1 := [some (.ref 49), some (.int (jI x1)), some (.int (jI x2)), some (.int (jI x3)), none, none, none, none, none, none]) (st1 := [.ref 49]) (σ1 := js E A) zM_X7_areInodes dX7_areInodes_0 rfl rfl rfl rfl ?_
  refine zw_go (pc1 := 2) (L1 := [some (.ref 49), some (.int (jI x1)), some (.int (jI x2)), some (.int (jI x3)), none, none, none, none, none, none]) (st1 := [.int (jI x1), .ref 49]) (σ1 := js E A) zM_X7_areInodes dX7_areInodes_1 rfl rfl rfl rfl ?_
  refine jw_bipush (v := 6) zM_X7_areInodes dX7_areInodes_2 (by decide) ?_
  refine jw_callI (as := [.ref 49, .int (jI x1), .int (jI 6)]) (rest := []) zM_X7_areInodes dX7_areInodes_4 (zx_calV zC_7_201) zM_X7_word rfl rfl rfl rfl rfl (j_args0 rfl rfl) rfl hA h (fun v3 A1 rv4 hA2 h => ?_)
  refine zw_go (pc1 := 9) (L1 := [some (.ref 49), some (.int (jI x1)), some (.int (jI x2)), some (.int (jI x3)), some (.int (jI v3)), none, none, none, none, none]) (st1 := []) (σ1 := js E A1) zM_X7_areInodes dX7_areInodes_7 rfl rfl rfl rfl ?_
  refine zw_go (pc1 := 10) (L1 := [some (.ref 49), some (.int (jI x1)), some (.int (jI x2)), some (.int (jI x3)), some (.int (jI v3)), none, none, none, none, none]) (st1 := [.ref 49]) (σ1 := js E A1) zM_X7_areInodes dX7_areInodes_9 rfl rfl rfl rfl ?_
  refine zw_go (pc1 := 11) (L1 := [some (.ref 49), some (.int (jI x1)), some (.int (jI x2)), some (.int (jI x3)), some (.int (jI v3)), none, none, none, none, none]) (st1 := [.int (jI x1), .ref 49]) (σ1 := js E A1) zM_X7_areInodes dX7_areInodes_10 rfl rfl rfl rfl ?_
  refine jw_bipush (v := 8) zM_X7_areInodes dX7_areInodes_11 (by decide) ?_
  refine jw_callI (as := [.ref 49, .int (jI x1), .int (jI 8)]) (rest := []) zM_X7_areInodes dX7_areInodes_13 (zx_calV zC_7_201) zM_X7_word rfl rfl rfl rfl rfl (j_args0 rfl rfl) rfl hA2 h (fun v7 A5 rv8 hA6 h => ?_)
  refine zw_go (pc1 := 18) (L1 := [some (.ref 49), some (.int (jI x1)), some (.int (jI x2)), some (.int (jI x3)), some (.int (jI v3)), some (.int (jI v7)), none, none, none, none]) (st1 := []) (σ1 := js E A5) zM_X7_areInodes dX7_areInodes_16 rfl rfl rfl rfl ?_
  refine jw_iconst (v := 1) zM_X7_areInodes dX7_areInodes_18 rfl ?_
  refine zw_go (pc1 := 21) (L1 := [some (.ref 49), some (.int (jI x1)), some (.int (jI x2)), some (.int (jI x3)), some (.int (jI v3)), some (.int (jI v7)), some (.int (jI 1)), none, none, none]) (st1 := []) (σ1 := js E A5) zM_X7_areInodes dX7_areInodes_19 rfl rfl rfl rfl ?_
  exact zw_weak2 (h hA6) ⟨rfl, rfl, rfl, rfl, rfl, rfl, rfl, trivial⟩
set_option maxHeartbeats 4000000 in
set_option maxRecDepth 100000 in
theorem vd_X7_areInodes_21 (x1 : Int) (r_x1 : jW x1) (x2 : Int) (r_x2 : jW x2) (x3 : Int) (r_x3 : jW x3) (x4 : Int) (r_x4 : jW x4) (x5 : Int) (r_x5 : jW x5) (x6 : Int) (r_x6 : jW x6) (E : jE) (A : jA) (K : Int → jA → Prop) (h : ((x2 < x6 → ((¬ x4 = x5 → K 0 A) ∧ (x4 = x5 → K 1 A))) ∧ (x6 ≤ x2 → jrI 162 0 [some (.ref 49), some (.int (jI x1)), some (.int (jI x6))] [] E A (fun v3 A1 => ((¬ v3 = x4 → K 0 A1) ∧ (v3 = x4 → ((x4 < x5 → jrI 143 0 [some (.ref 49), some (.int (jI x1)), some (.int (jI x4))] [] E A1 (fun v7 A5 => ((¬ v7 = (1 : Int) → ((¬ v7 = (2 : Int) → jrI 139 81 [some (.ref 49), some (.int (jI x1)), some (.int (jI x2)), some (.int (jI x3)), some (.int (jI x4)), some (.int (jI x5)), some (.int (jI x6)), some (.int (jI v7)), none, none] [.int (jI 6)] E A5 K) ∧ (v7 = (2 : Int) → jrI 139 81 [some (.ref 49), some (.int (jI x1)), some (.int (jI x2)), some (.int (jI x3)), some (.int (jI x4)), some (.int (jI x5)), some (.int (jI x6)), some (.int (jI v7)), none, none] [.int (jI 12)] E A5 K))) ∧ (v7 = (1 : Int) → jrI 139 81 [some (.ref 49), some (.int (jI x1)), some (.int (jI x2)), some (.int (jI x3)), some (.int (jI x4)), some (.int (jI x5)), some (.int (jI x6)), some (.int (jI v7)), none, none] [.int (jI 12)] E A5 K)))) ∧ (x5 ≤ x4 → K 0 A1)))))))) : jrI 139 21 [some (.ref 49), some (.int (jI x1)), some (.int (jI x2)), some (.int (jI x3)), some (.int (jI x4)), some (.int (jI x5)), some (.int (jI x6)), none, none, none] [] E A K := by
  intro hA
  refine zw_go (pc1 := 23) (L1 := [some (.ref 49), some (.int (jI x1)), some (.int (jI x2)), some (.int (jI x3)), some (.int (jI x4)), some (.int (jI x5)), some (.int (jI x6)), none, none, none]) (st1 := [.int (jI x6)]) (σ1 := js E A) zM_X7_areInodes dX7_areInodes_21 rfl rfl rfl rfl ?_
  refine zw_go (pc1 := 24) (L1 := [some (.ref 49), some (.int (jI x1)), some (.int (jI x2)), some (.int (jI x3)), some (.int (jI x4)), some (.int (jI x5)), some (.int (jI x6)), none, none, none]) (st1 := [.int (jI x2), .int (jI x6)]) (σ1 := js E A) zM_X7_areInodes dX7_areInodes_23 rfl rfl rfl rfl ?_
  refine jw_icmp_gt (tgt := 170) zM_X7_areInodes dX7_areInodes_24 rfl r_x6 r_x2 (fun q => ?_) (fun q => ?_)
  · replace h := h.1 q
    refine zw_go (pc1 := 172) (L1 := [some (.ref 49), some (.int (jI x1)), some (.int (jI x2)), some (.int (jI x3)), some (.int (jI x4)), some (.int (jI x5)), some (.int (jI x6)), none, none, none]) (st1 := [.int (jI x4)]) (σ1 := js E A) zM_X7_areInodes dX7_areInodes_170 rfl rfl rfl rfl ?_
    refine zw_go (pc1 := 174) (L1 := [some (.ref 49), some (.int (jI x1)), some (.int (jI x2)), some (.int (jI x3)), some (.int (jI x4)), some (.int (jI x5)), some (.int (jI x6)), none, none, none]) (st1 := [.int (jI x5), .int (jI x4)]) (σ1 := js E A) zM_X7_areInodes dX7_areInodes_172 rfl rfl rfl rfl ?_
    refine jw_icmp_ne (tgt := 181) zM_X7_areInodes dX7_areInodes_174 rfl r_x4 r_x5 (fun q => ?_) (fun q => ?_)
    · replace h := h.1 q
      refine jw_iconst (v := 0) zM_X7_areInodes dX7_areInodes_181 rfl ?_
      exact jw_retz zM_X7_areInodes dX7_areInodes_182 rfl (Or.inl rfl) hA h
    · replace h := h.2 q
      refine jw_iconst (v := 1) zM_X7_areInodes dX7_areInodes_177 rfl ?_
      refine zw_goto (tgt := 182) zM_X7_areInodes dX7_areInodes_178 rfl ?_
      exact jw_retz zM_X7_areInodes dX7_areInodes_182 rfl (Or.inr rfl) hA h
  · replace h := h.2 q
    refine zw_go (pc1 := 28) (L1 := [some (.ref 49), some (.int (jI x1)), some (.int (jI x2)), some (.int (jI x3)), some (.int (jI x4)), some (.int (jI x5)), some (.int (jI x6)), none, none, none]) (st1 := [.ref 49]) (σ1 := js E A) zM_X7_areInodes dX7_areInodes_27 rfl rfl rfl rfl ?_
    refine zw_go (pc1 := 29) (L1 := [some (.ref 49), some (.int (jI x1)), some (.int (jI x2)), some (.int (jI x3)), some (.int (jI x4)), some (.int (jI x5)), some (.int (jI x6)), none, none, none]) (st1 := [.int (jI x1), .ref 49]) (σ1 := js E A) zM_X7_areInodes dX7_areInodes_28 rfl rfl rfl rfl ?_
    refine zw_go (pc1 := 31) (L1 := [some (.ref 49), some (.int (jI x1)), some (.int (jI x2)), some (.int (jI x3)), some (.int (jI x4)), some (.int (jI x5)), some (.int (jI x6)), none, none, none]) (st1 := [.int (jI x6), .int (jI x1), .ref 49]) (σ1 := js E A) zM_X7_areInodes dX7_areInodes_29 rfl rfl rfl rfl ?_
    refine jw_callI (as := [.ref 49, .int (jI x1), .int (jI x6)]) (rest := []) zM_X7_areInodes dX7_areInodes_31 (zx_calV zC_7_226) zM_X7_inode rfl rfl rfl rfl rfl (j_args0 rfl rfl) rfl hA h (fun v3 A1 rv4 hA2 h => ?_)
    refine zw_go (pc1 := 36) (L1 := [some (.ref 49), some (.int (jI x1)), some (.int (jI x2)), some (.int (jI x3)), some (.int (jI x4)), some (.int (jI x5)), some (.int (jI x6)), none, none, none]) (st1 := [.int (jI x4), .int (jI v3)]) (σ1 := js E A1) zM_X7_areInodes dX7_areInodes_34 rfl rfl rfl rfl ?_
    refine jw_icmp_ne (tgt := 46) zM_X7_areInodes dX7_areInodes_36 rfl rv4 r_x4 (fun q => ?_) (fun q => ?_)
    · replace h := h.1 q
      refine jw_iconst (v := 0) zM_X7_areInodes dX7_areInodes_46 rfl ?_
      exact jw_retz zM_X7_areInodes dX7_areInodes_47 rfl (Or.inl rfl) hA2 h
    · replace h := h.2 q
      refine zw_go (pc1 := 41) (L1 := [some (.ref 49), some (.int (jI x1)), some (.int (jI x2)), some (.int (jI x3)), some (.int (jI x4)), some (.int (jI x5)), some (.int (jI x6)), none, none, none]) (st1 := [.int (jI x4)]) (σ1 := js E A1) zM_X7_areInodes dX7_areInodes_39 rfl rfl rfl rfl ?_
      refine zw_go (pc1 := 43) (L1 := [some (.ref 49), some (.int (jI x1)), some (.int (jI x2)), some (.int (jI x3)), some (.int (jI x4)), some (.int (jI x5)), some (.int (jI x6)), none, none, none]) (st1 := [.int (jI x5), .int (jI x4)]) (σ1 := js E A1) zM_X7_areInodes dX7_areInodes_41 rfl rfl rfl rfl ?_
      refine jw_icmp_lt (tgt := 48) zM_X7_areInodes dX7_areInodes_43 rfl r_x4 r_x5 (fun q => ?_) (fun q => ?_)
      · replace h := h.1 q
        refine zw_go (pc1 := 49) (L1 := [some (.ref 49), some (.int (jI x1)), some (.int (jI x2)), some (.int (jI x3)), some (.int (jI x4)), some (.int (jI x5)), some (.int (jI x6)), none, none, none]) (st1 := [.ref 49]) (σ1 := js E A1) zM_X7_areInodes dX7_areInodes_48 rfl rfl rfl rfl ?_
        refine zw_go (pc1 := 50) (L1 := [some (.ref 49), some (.int (jI x1)), some (.int (jI x2)), some (.int (jI x3)), some (.int (jI x4)), some (.int (jI x5)), some (.int (jI x6)), none, none, none]) (st1 := [.int (jI x1), .ref 49]) (σ1 := js E A1) zM_X7_areInodes dX7_areInodes_49 rfl rfl rfl rfl ?_
        refine zw_go (pc1 := 52) (L1 := [some (.ref 49), some (.int (jI x1)), some (.int (jI x2)), some (.int (jI x3)), some (.int (jI x4)), some (.int (jI x5)), some (.int (jI x6)), none, none, none]) (st1 := [.int (jI x4), .int (jI x1), .ref 49]) (σ1 := js E A1) zM_X7_areInodes dX7_areInodes_50 rfl rfl rfl rfl ?_
        refine jw_callI (as := [.ref 49, .int (jI x1), .int (jI x4)]) (rest := []) zM_X7_areInodes dX7_areInodes_52 (zx_calV zC_7_198) zM_X7_byteAt rfl rfl rfl rfl rfl (j_args0 rfl rfl) rfl hA2 h (fun v7 A5 rv8 hA6 h => ?_)
        refine zw_go (pc1 := 57) (L1 := [some (.ref 49), some (.int (jI x1)), some (.int (jI x2)), some (.int (jI x3)), some (.int (jI x4)), some (.int (jI x5)), some (.int (jI x6)), some (.int (jI v7)), none, none]) (st1 := []) (σ1 := js E A5) zM_X7_areInodes dX7_areInodes_55 rfl rfl rfl rfl ?_
        refine zw_go (pc1 := 59) (L1 := [some (.ref 49), some (.int (jI x1)), some (.int (jI x2)), some (.int (jI x3)), some (.int (jI x4)), some (.int (jI x5)), some (.int (jI x6)), some (.int (jI v7)), none, none]) (st1 := [.int (jI v7)]) (σ1 := js E A5) zM_X7_areInodes dX7_areInodes_57 rfl rfl rfl rfl ?_
        refine jw_iconst (v := 1) zM_X7_areInodes dX7_areInodes_59 rfl ?_
        refine jw_icmp_ne (tgt := 68) zM_X7_areInodes dX7_areInodes_60 rfl rv8 (show jW 1 from ⟨by decide, by decide⟩) (fun q => ?_) (fun q => ?_)
        · replace h := h.1 q
          refine zw_go (pc1 := 70) (L1 := [some (.ref 49), some (.int (jI x1)), some (.int (jI x2)), some (.int (jI x3)), some (.int (jI x4)), some (.int (jI x5)), some (.int (jI x6)), some (.int (jI v7)), none, none]) (st1 := [.int (jI v7)]) (σ1 := js E A5) zM_X7_areInodes dX7_areInodes_68 rfl rfl rfl rfl ?_
          refine jw_iconst (v := 2) zM_X7_areInodes dX7_areInodes_70 rfl ?_
          refine jw_icmp_ne (tgt := 79) zM_X7_areInodes dX7_areInodes_71 rfl rv8 (show jW 2 from ⟨by decide, by decide⟩) (fun q => ?_) (fun q => ?_)
          · replace h := h.1 q
            refine jw_bipush (v := 6) zM_X7_areInodes dX7_areInodes_79 (by decide) ?_
            exact zw_weak2 (h hA6) ⟨rfl, rfl, rfl, rfl, rfl, rfl, rfl, rfl, trivial⟩
          · replace h := h.2 q
            refine jw_bipush (v := 12) zM_X7_areInodes dX7_areInodes_74 (by decide) ?_
            refine zw_goto (tgt := 81) zM_X7_areInodes dX7_areInodes_76 rfl ?_
            exact zw_weak2 (h hA6) ⟨rfl, rfl, rfl, rfl, rfl, rfl, rfl, rfl, trivial⟩
        · replace h := h.2 q
          refine jw_bipush (v := 12) zM_X7_areInodes dX7_areInodes_63 (by decide) ?_
          refine zw_goto (tgt := 81) zM_X7_areInodes dX7_areInodes_65 rfl ?_
          exact zw_weak2 (h hA6) ⟨rfl, rfl, rfl, rfl, rfl, rfl, rfl, rfl, trivial⟩
      · replace h := h.2 q
        refine jw_iconst (v := 0) zM_X7_areInodes dX7_areInodes_46 rfl ?_
        exact jw_retz zM_X7_areInodes dX7_areInodes_47 rfl (Or.inl rfl) hA2 h
set_option maxHeartbeats 4000000 in
set_option maxRecDepth 100000 in
theorem vd_X7_areInodes_81 (x1 : Int) (r_x1 : jW x1) (x2 : Int) (r_x2 : jW x2) (x3 : Int) (r_x3 : jW x3) (x4 : Int) (r_x4 : jW x4) (x5 : Int) (r_x5 : jW x5) (x6 : Int) (r_x6 : jW x6) (x7 : Int) (r_x7 : jW x7) (y0 : Int) (r_y0 : jW y0) (E : jE) (A : jA) (K : Int → jA → Prop) (h : jrI 160 0 [some (.int (jI x7)), some (.int (jI 1)), some (.int (jI 3))] [] E A (fun v3 A1 => ((v3 = (0 : Int) → K 0 A1) ∧ (¬ v3 = (0 : Int) → jW (x4 + y0) ∧ (((x4 + y0) ≤ x5 → ((¬ x7 = (2 : Int) → jrI 139 157 [some (.ref 49), some (.int (jI x1)), some (.int (jI x2)), some (.int (jI x3)), some (.int (jI x4)), some (.int (jI x5)), some (.int (jI x6)), none, some (.int (jI y0)), none] [] E A1 K) ∧ (x7 = (2 : Int) → jrI 210 0 [some (.ref 49), some (.int (jI x1)), some (.int (jI (x4 + 6)))] [] E A1 (fun v8 A6 => 0 ≤ v8 ∧ 0 < x3 ∧ jW (x4 + (y0 + (2 * (v8 / x3)))) ∧ ((x5 < (x4 + (y0 + (2 * (v8 / x3)))) → K 0 A6) ∧ ((x4 + (y0 + (2 * (v8 / x3)))) ≤ x5 → jrI 163 0 [some (.ref 49), some (.int (jI x1)), some (.int (jI x4)), some (.int (jI x3)), none, none, none, none, none, none, none, none, none] [] E A6 (fun v15 A13 => ((¬ v15 = (0 : Int) → jrI 139 157 [some (.ref 49), some (.int (jI x1)), some (.int (jI x2)), some (.int (jI x3)), some (.int (jI x4)), some (.int (jI x5)), some (.int (jI x6)), none, some (.int (jI (y0 + (2 * (v8 / x3))))), none] [] E A13 K) ∧ (v15 = (0 : Int) → K 0 A13))))))))) ∧ (x5 < (x4 + y0) → K 0 A1)))))) : jrI 139 81 [some (.ref 49), some (.int (jI x1)), some (.int (jI x2)), some (.int (jI x3)), some (.int (jI x4)), some (.int (jI x5)), some (.int (jI x6)), some (.int (jI x7)), none, none] [.int (jI y0)] E A K := by
  intro hA
  refine zw_go (pc1 := 83) (L1 := [some (.ref 49), some (.int (jI x1)), some (.int (jI x2)), some (.int (jI x3)), some (.int (jI x4)), some (.int (jI x5)), some (.int (jI x6)), some (.int (jI x7)), some (.int (jI y0)), none]) (st1 := []) (σ1 := js E A) zM_X7_areInodes dX7_areInodes_81 rfl rfl rfl rfl ?_
  refine zw_go (pc1 := 85) (L1 := [some (.ref 49), some (.int (jI x1)), some (.int (jI x2)), some (.int (jI x3)), some (.int (jI x4)), some (.int (jI x5)), some (.int (jI x6)), some (.int (jI x7)), some (.int (jI y0)), none]) (st1 := [.int (jI x7)]) (σ1 := js E A) zM_X7_areInodes dX7_areInodes_83 rfl rfl rfl rfl ?_
  refine jw_iconst (v := 1) zM_X7_areInodes dX7_areInodes_85 rfl ?_
  refine jw_iconst (v := 3) zM_X7_areInodes dX7_areInodes_86 rfl ?_
  refine jw_callI (as := [.int (jI x7), .int (jI 1), .int (jI 3)]) (rest := []) zM_X7_areInodes dX7_areInodes_87 (zx_calS zC_7_101) zM_X7_in rfl rfl rfl rfl rfl rfl rfl hA h (fun v3 A1 rv4 hA2 h => ?_)
  refine jw_if_eq (tgt := 103) zM_X7_areInodes dX7_areInodes_90 rfl rv4 (fun q => ?_) (fun q => ?_)
  · replace h := h.1 q
    refine jw_iconst (v := 0) zM_X7_areInodes dX7_areInodes_103 rfl ?_
    exact jw_retz zM_X7_areInodes dX7_areInodes_104 rfl (Or.inl rfl) hA2 h
  · replace h := h.2 q
    refine zw_go (pc1 := 95) (L1 := [some (.ref 49), some (.int (jI x1)), some (.int (jI x2)), some (.int (jI x3)), some (.int (jI x4)), some (.int (jI x5)), some (.int (jI x6)), some (.int (jI x7)), some (.int (jI y0)), none]) (st1 := [.int (jI x4)]) (σ1 := js E A1) zM_X7_areInodes dX7_areInodes_93 rfl rfl rfl rfl ?_
    refine zw_go (pc1 := 97) (L1 := [some (.ref 49), some (.int (jI x1)), some (.int (jI x2)), some (.int (jI x3)), some (.int (jI x4)), some (.int (jI x5)), some (.int (jI x6)), some (.int (jI x7)), some (.int (jI y0)), none]) (st1 := [.int (jI y0), .int (jI x4)]) (σ1 := js E A1) zM_X7_areInodes dX7_areInodes_95 rfl rfl rfl rfl ?_
    refine jw_add zM_X7_areInodes dX7_areInodes_97 ?_
    refine zw_go (pc1 := 100) (L1 := [some (.ref 49), some (.int (jI x1)), some (.int (jI x2)), some (.int (jI x3)), some (.int (jI x4)), some (.int (jI x5)), some (.int (jI x6)), some (.int (jI x7)), some (.int (jI y0)), none]) (st1 := [.int (jI x5), .int (jI (x4 + y0))]) (σ1 := js E A1) zM_X7_areInodes dX7_areInodes_98 rfl rfl rfl rfl ?_
    obtain ⟨hw5, h⟩ := h
    refine jw_icmp_le (tgt := 105) zM_X7_areInodes dX7_areInodes_100 rfl hw5 r_x5 (fun q => ?_) (fun q => ?_)
    · replace h := h.1 q
      refine zw_go (pc1 := 107) (L1 := [some (.ref 49), some (.int (jI x1)), some (.int (jI x2)), some (.int (jI x3)), some (.int (jI x4)), some (.int (jI x5)), some (.int (jI x6)), some (.int (jI x7)), some (.int (jI y0)), none]) (st1 := [.int (jI x7)]) (σ1 := js E A1) zM_X7_areInodes dX7_areInodes_105 rfl rfl rfl rfl ?_
      refine jw_iconst (v := 2) zM_X7_areInodes dX7_areInodes_107 rfl ?_
      refine jw_icmp_ne (tgt := 157) zM_X7_areInodes dX7_areInodes_108 rfl r_x7 (show jW 2 from ⟨by decide, by decide⟩) (fun q => ?_) (fun q => ?_)
      · replace h := h.1 q
        exact zw_weak2 (h hA2) ⟨rfl, rfl, rfl, rfl, rfl, rfl, rfl, rfl, trivial⟩
      · replace h := h.2 q
        refine zw_go (pc1 := 112) (L1 := [some (.ref 49), some (.int (jI x1)), some (.int (jI x2)), some (.int (jI x3)), some (.int (jI x4)), some (.int (jI x5)), some (.int (jI x6)), some (.int (jI x7)), some (.int (jI y0)), none]) (st1 := [.ref 49]) (σ1 := js E A1) zM_X7_areInodes dX7_areInodes_111 rfl rfl rfl rfl ?_
        refine zw_go (pc1 := 113) (L1 := [some (.ref 49), some (.int (jI x1)), some (.int (jI x2)), some (.int (jI x3)), some (.int (jI x4)), some (.int (jI x5)), some (.int (jI x6)), some (.int (jI x7)), some (.int (jI y0)), none]) (st1 := [.int (jI x1), .ref 49]) (σ1 := js E A1) zM_X7_areInodes dX7_areInodes_112 rfl rfl rfl rfl ?_
        refine zw_go (pc1 := 115) (L1 := [some (.ref 49), some (.int (jI x1)), some (.int (jI x2)), some (.int (jI x3)), some (.int (jI x4)), some (.int (jI x5)), some (.int (jI x6)), some (.int (jI x7)), some (.int (jI y0)), none]) (st1 := [.int (jI x4), .int (jI x1), .ref 49]) (σ1 := js E A1) zM_X7_areInodes dX7_areInodes_113 rfl rfl rfl rfl ?_
        refine jw_bipush (v := 6) zM_X7_areInodes dX7_areInodes_115 (by decide) ?_
        refine jw_add zM_X7_areInodes dX7_areInodes_117 ?_
        refine jw_callI (as := [.ref 49, .int (jI x1), .int (jI (x4 + 6))]) (rest := []) zM_X7_areInodes dX7_areInodes_118 (zx_calV zC_7_201) zM_X7_word rfl rfl rfl rfl rfl (j_args0 rfl rfl) rfl hA2 h (fun v8 A6 rv9 hA7 h => ?_)
        refine zw_go (pc1 := 123) (L1 := [some (.ref 49), some (.int (jI x1)), some (.int (jI x2)), some (.int (jI x3)), some (.int (jI x4)), some (.int (jI x5)), some (.int (jI x6)), some (.int (jI x7)), some (.int (jI y0)), some (.int (jI v8))]) (st1 := []) (σ1 := js E A6) zM_X7_areInodes dX7_areInodes_121 rfl rfl rfl rfl ?_
        refine zw_go (pc1 := 125) (L1 := [some (.ref 49), some (.int (jI x1)), some (.int (jI x2)), some (.int (jI x3)), some (.int (jI x4)), some (.int (jI x5)), some (.int (jI x6)), some (.int (jI x7)), some (.int (jI y0)), some (.int (jI v8))]) (st1 := [.int (jI y0)]) (σ1 := js E A6) zM_X7_areInodes dX7_areInodes_123 rfl rfl rfl rfl ?_
        refine jw_iconst (v := 2) zM_X7_areInodes dX7_areInodes_125 rfl ?_
        refine zw_go (pc1 := 128) (L1 := [some (.ref 49), some (.int (jI x1)), some (.int (jI x2)), some (.int (jI x3)), some (.int (jI x4)), some (.int (jI x5)), some (.int (jI x6)), some (.int (jI x7)), some (.int (jI y0)), some (.int (jI v8))]) (st1 := [.int (jI v8), .int (jI 2), .int (jI y0)]) (σ1 := js E A6) zM_X7_areInodes dX7_areInodes_126 rfl rfl rfl rfl ?_
        refine zw_go (pc1 := 129) (L1 := [some (.ref 49), some (.int (jI x1)), some (.int (jI x2)), some (.int (jI x3)), some (.int (jI x4)), some (.int (jI x5)), some (.int (jI x6)), some (.int (jI x7)), some (.int (jI y0)), some (.int (jI v8))]) (st1 := [.int (jI x3), .int (jI v8), .int (jI 2), .int (jI y0)]) (σ1 := js E A6) zM_X7_areInodes dX7_areInodes_128 rfl rfl rfl rfl ?_
        obtain ⟨hz10, h⟩ := h
        obtain ⟨hz11, h⟩ := h
        refine jw_div zM_X7_areInodes dX7_areInodes_129 rv9 r_x3 hz10 hz11 ?_
        refine jw_mul zM_X7_areInodes dX7_areInodes_130 ?_
        refine jw_add zM_X7_areInodes dX7_areInodes_131 ?_
        refine zw_go (pc1 := 134) (L1 := [some (.ref 49), some (.int (jI x1)), some (.int (jI x2)), some (.int (jI x3)), some (.int (jI x4)), some (.int (jI x5)), some (.int (jI x6)), some (.int (jI x7)), some (.int (jI (y0 + (2 * (v8 / x3))))), some (.int (jI v8))]) (st1 := []) (σ1 := js E A6) zM_X7_areInodes dX7_areInodes_132 rfl rfl rfl rfl ?_
        refine zw_go (pc1 := 136) (L1 := [some (.ref 49), some (.int (jI x1)), some (.int (jI x2)), some (.int (jI x3)), some (.int (jI x4)), some (.int (jI x5)), some (.int (jI x6)), some (.int (jI x7)), some (.int (jI (y0 + (2 * (v8 / x3))))), some (.int (jI v8))]) (st1 := [.int (jI x4)]) (σ1 := js E A6) zM_X7_areInodes dX7_areInodes_134 rfl rfl rfl rfl ?_
        refine zw_go (pc1 := 138) (L1 := [some (.ref 49), some (.int (jI x1)), some (.int (jI x2)), some (.int (jI x3)), some (.int (jI x4)), some (.int (jI x5)), some (.int (jI x6)), some (.int (jI x7)), some (.int (jI (y0 + (2 * (v8 / x3))))), some (.int (jI v8))]) (st1 := [.int (jI (y0 + (2 * (v8 / x3)))), .int (jI x4)]) (σ1 := js E A6) zM_X7_areInodes dX7_areInodes_136 rfl rfl rfl rfl ?_
        refine jw_add zM_X7_areInodes dX7_areInodes_138 ?_
        refine zw_go (pc1 := 141) (L1 := [some (.ref 49), some (.int (jI x1)), some (.int (jI x2)), some (.int (jI x3)), some (.int (jI x4)), some (.int (jI x5)), some (.int (jI x6)), some (.int (jI x7)), some (.int (jI (y0 + (2 * (v8 / x3))))), some (.int (jI v8))]) (st1 := [.int (jI x5), .int (jI (x4 + (y0 + (2 * (v8 / x3)))))]) (σ1 := js E A6) zM_X7_areInodes dX7_areInodes_139 rfl rfl rfl rfl ?_
        obtain ⟨hw12, h⟩ := h
        refine jw_icmp_gt (tgt := 155) zM_X7_areInodes dX7_areInodes_141 rfl hw12 r_x5 (fun q => ?_) (fun q => ?_)
        · replace h := h.1 q
          refine jw_iconst (v := 0) zM_X7_areInodes dX7_areInodes_155 rfl ?_
          exact jw_retz zM_X7_areInodes dX7_areInodes_156 rfl (Or.inl rfl) hA7 h
        · replace h := h.2 q
          refine zw_go (pc1 := 145) (L1 := [some (.ref 49), some (.int (jI x1)), some (.int (jI x2)), some (.int (jI x3)), some (.int (jI x4)), some (.int (jI x5)), some (.int (jI x6)), some (.int (jI x7)), some (.int (jI (y0 + (2 * (v8 / x3))))), some (.int (jI v8))]) (st1 := [.ref 49]) (σ1 := js E A6) zM_X7_areInodes dX7_areInodes_144 rfl rfl rfl rfl ?_
          refine zw_go (pc1 := 146) (L1 := [some (.ref 49), some (.int (jI x1)), some (.int (jI x2)), some (.int (jI x3)), some (.int (jI x4)), some (.int (jI x5)), some (.int (jI x6)), some (.int (jI x7)), some (.int (jI (y0 + (2 * (v8 / x3))))), some (.int (jI v8))]) (st1 := [.int (jI x1), .ref 49]) (σ1 := js E A6) zM_X7_areInodes dX7_areInodes_145 rfl rfl rfl rfl ?_
          refine zw_go (pc1 := 148) (L1 := [some (.ref 49), some (.int (jI x1)), some (.int (jI x2)), some (.int (jI x3)), some (.int (jI x4)), some (.int (jI x5)), some (.int (jI x6)), some (.int (jI x7)), some (.int (jI (y0 + (2 * (v8 / x3))))), some (.int (jI v8))]) (st1 := [.int (jI x4), .int (jI x1), .ref 49]) (σ1 := js E A6) zM_X7_areInodes dX7_areInodes_146 rfl rfl rfl rfl ?_
          refine zw_go (pc1 := 149) (L1 := [some (.ref 49), some (.int (jI x1)), some (.int (jI x2)), some (.int (jI x3)), some (.int (jI x4)), some (.int (jI x5)), some (.int (jI x6)), some (.int (jI x7)), some (.int (jI (y0 + (2 * (v8 / x3))))), some (.int (jI v8))]) (st1 := [.int (jI x3), .int (jI x4), .int (jI x1), .ref 49]) (σ1 := js E A6) zM_X7_areInodes dX7_areInodes_148 rfl rfl rfl rfl ?_
          refine jw_callI (as := [.ref 49, .int (jI x1), .int (jI x4), .int (jI x3)]) (rest := []) zM_X7_areInodes dX7_areInodes_149 (zx_calV zC_7_229) zM_X7_isFile rfl rfl rfl rfl rfl (j_args0 rfl rfl) rfl hA7 h (fun v15 A13 rv16 hA14 h => ?_)
          refine jw_if_ne (tgt := 157) zM_X7_areInodes dX7_areInodes_152 rfl rv16 (fun q => ?_) (fun q => ?_)
          · replace h := h.1 q
            exact zw_weak2 (h hA14) ⟨rfl, rfl, rfl, rfl, rfl, rfl, rfl, rfl, trivial⟩
          · replace h := h.2 q
            refine jw_iconst (v := 0) zM_X7_areInodes dX7_areInodes_155 rfl ?_
            exact jw_retz zM_X7_areInodes dX7_areInodes_156 rfl (Or.inl rfl) hA14 h
    · replace h := h.2 q
      refine jw_iconst (v := 0) zM_X7_areInodes dX7_areInodes_103 rfl ?_
      exact jw_retz zM_X7_areInodes dX7_areInodes_104 rfl (Or.inl rfl) hA2 h
set_option maxHeartbeats 4000000 in
set_option maxRecDepth 100000 in
theorem vd_X7_areInodes_157 (x1 : Int) (r_x1 : jW x1) (x2 : Int) (r_x2 : jW x2) (x3 : Int) (r_x3 : jW x3) (x4 : Int) (r_x4 : jW x4) (x5 : Int) (r_x5 : jW x5) (x6 : Int) (r_x6 : jW x6) (x8 : Int) (r_x8 : jW x8) (E : jE) (A : jA) (K : Int → jA → Prop) (h : jrI 139 21 [some (.ref 49), some (.int (jI x1)), some (.int (jI x2)), some (.int (jI x3)), some (.int (jI (x4 + x8))), some (.int (jI x5)), some (.int (jI (x6 + 1))), none, none, none] [] E A K) : jrI 139 157 [some (.ref 49), some (.int (jI x1)), some (.int (jI x2)), some (.int (jI x3)), some (.int (jI x4)), some (.int (jI x5)), some (.int (jI x6)), none, some (.int (jI x8)), none] [] E A K := by
  intro hA
  refine zw_go (pc1 := 159) (L1 := [some (.ref 49), some (.int (jI x1)), some (.int (jI x2)), some (.int (jI x3)), some (.int (jI x4)), some (.int (jI x5)), some (.int (jI x6)), none, some (.int (jI x8)), none]) (st1 := [.int (jI x4)]) (σ1 := js E A) zM_X7_areInodes dX7_areInodes_157 rfl rfl rfl rfl ?_
  refine zw_go (pc1 := 161) (L1 := [some (.ref 49), some (.int (jI x1)), some (.int (jI x2)), some (.int (jI x3)), some (.int (jI x4)), some (.int (jI x5)), some (.int (jI x6)), none, some (.int (jI x8)), none]) (st1 := [.int (jI x8), .int (jI x4)]) (σ1 := js E A) zM_X7_areInodes dX7_areInodes_159 rfl rfl rfl rfl ?_
  refine jw_add zM_X7_areInodes dX7_areInodes_161 ?_
  refine zw_go (pc1 := 164) (L1 := [some (.ref 49), some (.int (jI x1)), some (.int (jI x2)), some (.int (jI x3)), some (.int (jI (x4 + x8))), some (.int (jI x5)), some (.int (jI x6)), none, some (.int (jI x8)), none]) (st1 := []) (σ1 := js E A) zM_X7_areInodes dX7_areInodes_162 rfl rfl rfl rfl ?_
  refine jw_iinc (x := x6) (L1 := [some (.ref 49), some (.int (jI x1)), some (.int (jI x2)), some (.int (jI x3)), some (.int (jI (x4 + x8))), some (.int (jI x5)), some (.int (jI (x6 + 1))), none, some (.int (jI x8)), none]) zM_X7_areInodes dX7_areInodes_164 rfl (show 6 < 10 by decide) rfl ?_
  refine zw_goto (tgt := 21) zM_X7_areInodes dX7_areInodes_167 rfl ?_
  exact zw_weak2 (h hA) ⟨rfl, rfl, rfl, rfl, rfl, rfl, rfl, trivial⟩
set_option maxHeartbeats 4000000 in
set_option maxRecDepth 100000 in
theorem vd_X7_areTails_0 (x1 : Int) (r_x1 : jW x1) (x2 : Int) (r_x2 : jW x2) (E : jE) (A : jA) (K : Int → jA → Prop) (h : jrI 210 0 [some (.ref 49), some (.int (jI x1)), some (.int (jI 10))] [] E A (fun v3 A1 => jrI 210 0 [some (.ref 49), some (.int (jI x1)), some (.int (jI 12))] [] E A1 (fun v7 A5 => jW (v7 - v3) ∧ 0 ≤ (v7 - v3) ∧ ((¬ ((v7 - v3) % 5) = (0 : Int) → jrI 140 31 [some (.ref 49), some (.int (jI x1)), some (.int (jI x2)), some (.int (jI v3)), some (.int (jI v7)), none, none, none] [.int (jI 0)] E A5 K) ∧ (((v7 - v3) % 5) = (0 : Int) → jrI 140 31 [some (.ref 49), some (.int (jI x1)), some (.int (jI x2)), some (.int (jI v3)), some (.int (jI v7)), none, none, none] [.int (jI 1)] E A5 K))))) : jrI 140 0 [some (.ref 49), some (.int (jI x1)), some (.int (jI x2)), none, none, none, none, none] [] E A K := by
  intro hA
  refine zw_go (pc1 := 1) (L1 := [some (.ref 49), some (.int (jI x1)), some (.int (jI x2)), none, none, none, none, none]) (st1 := [.ref 49]) (σ1 := js E A) zM_X7_areTails dX7_areTails_0 rfl rfl rfl rfl ?_
  refine zw_go (pc1 := 2) (L1 := [some (.ref 49), some (.int (jI x1)), some (.int (jI x2)), none, none, none, none, none]) (st1 := [.int (jI x1), .ref 49]) (σ1 := js E A) zM_X7_areTails dX7_areTails_1 rfl rfl rfl rfl ?_
  refine jw_bipush (v := 10) zM_X7_areTails dX7_areTails_2 (by decide) ?_
  refine jw_callI (as := [.ref 49, .int (jI x1), .int (jI 10)]) (rest := []) zM_X7_areTails dX7_areTails_4 (zx_calV zC_7_201) zM_X7_word rfl rfl rfl rfl rfl (j_args0 rfl rfl) rfl hA h (fun v3 A1 rv4 hA2 h => ?_)
  refine zw_go (pc1 := 8) (L1 := [some (.ref 49), some (.int (jI x1)), some (.int (jI x2)), some (.int (jI v3)), none, none, none, none]) (st1 := []) (σ1 := js E A1) zM_X7_areTails dX7_areTails_7 rfl rfl rfl rfl ?_
  refine zw_go (pc1 := 9) (L1 := [some (.ref 49), some (.int (jI x1)), some (.int (jI x2)), some (.int (jI v3)), none, none, none, none]) (st1 := [.ref 49]) (σ1 := js E A1) zM_X7_areTails dX7_areTails_8 rfl rfl rfl rfl ?_
  refine zw_go (pc1 := 10) (L1 := [some (.ref 49), some (.int (jI x1)), some (.int (jI x2)), some (.int (jI v3)), none, none, none, none]) (st1 := [.int (jI x1), .ref 49]) (σ1 := js E A1) zM_X7_areTails dX7_areTails_9 rfl rfl rfl rfl ?_
  refine jw_bipush (v := 12) zM_X7_areTails dX7_areTails_10 (by decide) ?_
  refine jw_callI (as := [.ref 49, .int (jI x1), .int (jI 12)]) (rest := []) zM_X7_areTails dX7_areTails_12 (zx_calV zC_7_201) zM_X7_word rfl rfl rfl rfl rfl (j_args0 rfl rfl) rfl hA2 h (fun v7 A5 rv8 hA6 h => ?_)
  refine zw_go (pc1 := 17) (L1 := [some (.ref 49), some (.int (jI x1)), some (.int (jI x2)), some (.int (jI v3)), some (.int (jI v7)), none, none, none]) (st1 := []) (σ1 := js E A5) zM_X7_areTails dX7_areTails_15 rfl rfl rfl rfl ?_
  refine zw_go (pc1 := 19) (L1 := [some (.ref 49), some (.int (jI x1)), some (.int (jI x2)), some (.int (jI v3)), some (.int (jI v7)), none, none, none]) (st1 := [.int (jI v7)]) (σ1 := js E A5) zM_X7_areTails dX7_areTails_17 rfl rfl rfl rfl ?_
  refine zw_go (pc1 := 20) (L1 := [some (.ref 49), some (.int (jI x1)), some (.int (jI x2)), some (.int (jI v3)), some (.int (jI v7)), none, none, none]) (st1 := [.int (jI v3), .int (jI v7)]) (σ1 := js E A5) zM_X7_areTails dX7_areTails_19 rfl rfl rfl rfl ?_
  refine jw_sub zM_X7_areTails dX7_areTails_20 ?_
  refine jw_iconst (v := 5) zM_X7_areTails dX7_areTails_21 rfl ?_
  obtain ⟨hw9, h⟩ := h
  obtain ⟨hz10, h⟩ := h
  refine jw_rem zM_X7_areTails dX7_areTails_22 hw9 (show jW 5 from ⟨by decide, by decide⟩) hz10 (by decide) ?_
  refine jw_if_ne (tgt := 30) zM_X7_areTails dX7_areTails_23 rfl (show jW ((v7 - v3) % 5) from ⟨by omega, by omega⟩) (fun q => ?_) (fun q => ?_)
  · replace h := h.1 q
    refine jw_iconst (v := 0) zM_X7_areTails dX7_areTails_30 rfl ?_
    exact zw_weak2 (h hA6) ⟨rfl, rfl, rfl, rfl, rfl, trivial⟩
  · replace h := h.2 q
    refine jw_iconst (v := 1) zM_X7_areTails dX7_areTails_26 rfl ?_
    refine zw_goto (tgt := 31) zM_X7_areTails dX7_areTails_27 rfl ?_
    exact zw_weak2 (h hA6) ⟨rfl, rfl, rfl, rfl, rfl, trivial⟩
set_option maxHeartbeats 4000000 in
set_option maxRecDepth 100000 in
theorem vd_X7_areTails_31 (x1 : Int) (r_x1 : jW x1) (x2 : Int) (r_x2 : jW x2) (x3 : Int) (r_x3 : jW x3) (x4 : Int) (r_x4 : jW x4) (y0 : Int) (r_y0 : jW y0) (E : jE) (A : jA) (K : Int → jA → Prop) (h : jrI 140 36 [some (.ref 49), some (.int (jI x1)), some (.int (jI x2)), none, some (.int (jI x4)), some (.int (jI y0)), some (.int (jI x3)), none] [] E A K) : jrI 140 31 [some (.ref 49), some (.int (jI x1)), some (.int (jI x2)), some (.int (jI x3)), some (.int (jI x4)), none, none, none] [.int (jI y0)] E A K := by
  intro hA
  refine zw_go (pc1 := 33) (L1 := [some (.ref 49), some (.int (jI x1)), some (.int (jI x2)), some (.int (jI x3)), some (.int (jI x4)), some (.int (jI y0)), none, none]) (st1 := []) (σ1 := js E A) zM_X7_areTails dX7_areTails_31 rfl rfl rfl rfl ?_
  refine zw_go (pc1 := 34) (L1 := [some (.ref 49), some (.int (jI x1)), some (.int (jI x2)), some (.int (jI x3)), some (.int (jI x4)), some (.int (jI y0)), none, none]) (st1 := [.int (jI x3)]) (σ1 := js E A) zM_X7_areTails dX7_areTails_33 rfl rfl rfl rfl ?_
  refine zw_go (pc1 := 36) (L1 := [some (.ref 49), some (.int (jI x1)), some (.int (jI x2)), some (.int (jI x3)), some (.int (jI x4)), some (.int (jI y0)), some (.int (jI x3)), none]) (st1 := []) (σ1 := js E A) zM_X7_areTails dX7_areTails_34 rfl rfl rfl rfl ?_
  exact zw_weak2 (h hA) ⟨rfl, rfl, rfl, rfl, rfl, rfl, trivial⟩
set_option maxHeartbeats 4000000 in
set_option maxRecDepth 100000 in
theorem vd_X7_areTails_36 (x1 : Int) (r_x1 : jW x1) (x2 : Int) (r_x2 : jW x2) (x4 : Int) (r_x4 : jW x4) (x5 : Int) (r_x5 : jW x5) (x6 : Int) (r_x6 : jW x6) (E : jE) (A : jA) (K : Int → jA → Prop) (h : ((x4 ≤ x6 → (x5 = 0 ∨ x5 = 1) ∧ K x5 A) ∧ (x6 < x4 → ((x5 = (0 : Int) → (x5 = 0 ∨ x5 = 1) ∧ K x5 A) ∧ (¬ x5 = (0 : Int) → jrI 143 0 [some (.ref 49), some (.int (jI x1)), some (.int (jI (x6 + 4)))] [] E A (fun v5 A3 => jrI 160 0 [some (.int (jI v5)), some (.int (jI 1)), some (.int (jI x2))] [] E A3 (fun v9 A7 => ((v9 = (0 : Int) → jrI 140 99 [some (.ref 49), some (.int (jI x1)), some (.int (jI x2)), none, some (.int (jI x4)), none, some (.int (jI x6)), none] [] E A7 K) ∧ (¬ v9 = (0 : Int) → jrI 210 0 [some (.ref 49), some (.int (jI x1)), some (.int (jI x6))] [] E A7 (fun v13 A11 => jrI 210 0 [some (.ref 49), some (.int (jI x1)), some (.int (jI (x6 + 2)))] [] E A11 (fun v17 A15 => jrI 144 0 [some (.ref 49), some (.int (jI x1)), some (.int (jI v13)), some (.int (jI v17)), some (.int (jI v5)), none, none, none, none] [] E A15 (fun v21 A19 => ((v21 = (0 : Int) → jrI 140 99 [some (.ref 49), some (.int (jI x1)), some (.int (jI x2)), none, some (.int (jI x4)), none, some (.int (jI x6)), none] [] E A19 K) ∧ (¬ v21 = (0 : Int) → jrI 140 100 [some (.ref 49), some (.int (jI x1)), some (.int (jI x2)), none, some (.int (jI x4)), none, some (.int (jI x6)), none] [.int (jI 1)] E A19 K)))))))))))))) : jrI 140 36 [some (.ref 49), some (.int (jI x1)), some (.int (jI x2)), none, some (.int (jI x4)), some (.int (jI x5)), some (.int (jI x6)), none] [] E A K := by
  intro hA
  refine zw_go (pc1 := 38) (L1 := [some (.ref 49), some (.int (jI x1)), some (.int (jI x2)), none, some (.int (jI x4)), some (.int (jI x5)), some (.int (jI x6)), none]) (st1 := [.int (jI x6)]) (σ1 := js E A) zM_X7_areTails dX7_areTails_36 rfl rfl rfl rfl ?_
  refine zw_go (pc1 := 40) (L1 := [some (.ref 49), some (.int (jI x1)), some (.int (jI x2)), none, some (.int (jI x4)), some (.int (jI x5)), some (.int (jI x6)), none]) (st1 := [.int (jI x4), .int (jI x6)]) (σ1 := js E A) zM_X7_areTails dX7_areTails_38 rfl rfl rfl rfl ?_
  refine jw_icmp_ge (tgt := 108) zM_X7_areTails dX7_areTails_40 rfl r_x6 r_x4 (fun q => ?_) (fun q => ?_)
  · replace h := h.1 q
    refine zw_go (pc1 := 110) (L1 := [some (.ref 49), some (.int (jI x1)), some (.int (jI x2)), none, some (.int (jI x4)), some (.int (jI x5)), some (.int (jI x6)), none]) (st1 := [.int (jI x5)]) (σ1 := js E A) zM_X7_areTails dX7_areTails_108 rfl rfl rfl rfl ?_
    obtain ⟨hv1, h⟩ := h
    exact jw_retz zM_X7_areTails dX7_areTails_110 rfl hv1 hA h
  · replace h := h.2 q
    refine zw_go (pc1 := 45) (L1 := [some (.ref 49), some (.int (jI x1)), some (.int (jI x2)), none, some (.int (jI x4)), some (.int (jI x5)), some (.int (jI x6)), none]) (st1 := [.int (jI x5)]) (σ1 := js E A) zM_X7_areTails dX7_areTails_43 rfl rfl rfl rfl ?_
    refine jw_if_eq (tgt := 108) zM_X7_areTails dX7_areTails_45 rfl r_x5 (fun q => ?_) (fun q => ?_)
    · replace h := h.1 q
      refine zw_go (pc1 := 110) (L1 := [some (.ref 49), some (.int (jI x1)), some (.int (jI x2)), none, some (.int (jI x4)), some (.int (jI x5)), some (.int (jI x6)), none]) (st1 := [.int (jI x5)]) (σ1 := js E A) zM_X7_areTails dX7_areTails_108 rfl rfl rfl rfl ?_
      obtain ⟨hv2, h⟩ := h
      exact jw_retz zM_X7_areTails dX7_areTails_110 rfl hv2 hA h
    · replace h := h.2 q
      refine zw_go (pc1 := 49) (L1 := [some (.ref 49), some (.int (jI x1)), some (.int (jI x2)), none, some (.int (jI x4)), some (.int (jI x5)), some (.int (jI x6)), none]) (st1 := [.ref 49]) (σ1 := js E A) zM_X7_areTails dX7_areTails_48 rfl rfl rfl rfl ?_
      refine zw_go (pc1 := 50) (L1 := [some (.ref 49), some (.int (jI x1)), some (.int (jI x2)), none, some (.int (jI x4)), some (.int (jI x5)), some (.int (jI x6)), none]) (st1 := [.int (jI x1), .ref 49]) (σ1 := js E A) zM_X7_areTails dX7_areTails_49 rfl rfl rfl rfl ?_
      refine zw_go (pc1 := 52) (L1 := [some (.ref 49), some (.int (jI x1)), some (.int (jI x2)), none, some (.int (jI x4)), some (.int (jI x5)), some (.int (jI x6)), none]) (st1 := [.int (jI x6), .int (jI x1), .ref 49]) (σ1 := js E A) zM_X7_areTails dX7_areTails_50 rfl rfl rfl rfl ?_
      refine jw_iconst (v := 4) zM_X7_areTails dX7_areTails_52 rfl ?_
      refine jw_add zM_X7_areTails dX7_areTails_53 ?_
      refine jw_callI (as := [.ref 49, .int (jI x1), .int (jI (x6 + 4))]) (rest := []) zM_X7_areTails dX7_areTails_54 (zx_calV zC_7_198) zM_X7_byteAt rfl rfl rfl rfl rfl (j_args0 rfl rfl) rfl hA h (fun v5 A3 rv6 hA4 h => ?_)
      refine zw_go (pc1 := 59) (L1 := [some (.ref 49), some (.int (jI x1)), some (.int (jI x2)), none, some (.int (jI x4)), some (.int (jI x5)), some (.int (jI x6)), some (.int (jI v5))]) (st1 := []) (σ1 := js E A3) zM_X7_areTails dX7_areTails_57 rfl rfl rfl rfl ?_
      refine zw_go (pc1 := 61) (L1 := [some (.ref 49), some (.int (jI x1)), some (.int (jI x2)), none, some (.int (jI x4)), some (.int (jI x5)), some (.int (jI x6)), some (.int (jI v5))]) (st1 := [.int (jI v5)]) (σ1 := js E A3) zM_X7_areTails dX7_areTails_59 rfl rfl rfl rfl ?_
      refine jw_iconst (v := 1) zM_X7_areTails dX7_areTails_61 rfl ?_
      refine zw_go (pc1 := 63) (L1 := [some (.ref 49), some (.int (jI x1)), some (.int (jI x2)), none, some (.int (jI x4)), some (.int (jI x5)), some (.int (jI x6)), some (.int (jI v5))]) (st1 := [.int (jI x2), .int (jI 1), .int (jI v5)]) (σ1 := js E A3) zM_X7_areTails dX7_areTails_62 rfl rfl rfl rfl ?_
      refine jw_callI (as := [.int (jI v5), .int (jI 1), .int (jI x2)]) (rest := []) zM_X7_areTails dX7_areTails_63 (zx_calS zC_7_101) zM_X7_in rfl rfl rfl rfl rfl rfl rfl hA4 h (fun v9 A7 rv10 hA8 h => ?_)
      refine jw_if_eq (tgt := 99) zM_X7_areTails dX7_areTails_66 rfl rv10 (fun q => ?_) (fun q => ?_)
      · replace h := h.1 q
        exact zw_weak2 (h hA8) ⟨rfl, rfl, rfl, rfl, rfl, trivial⟩
      · replace h := h.2 q
        refine zw_go (pc1 := 70) (L1 := [some (.ref 49), some (.int (jI x1)), some (.int (jI x2)), none, some (.int (jI x4)), some (.int (jI x5)), some (.int (jI x6)), some (.int (jI v5))]) (st1 := [.ref 49]) (σ1 := js E A7) zM_X7_areTails dX7_areTails_69 rfl rfl rfl rfl ?_
        refine zw_go (pc1 := 71) (L1 := [some (.ref 49), some (.int (jI x1)), some (.int (jI x2)), none, some (.int (jI x4)), some (.int (jI x5)), some (.int (jI x6)), some (.int (jI v5))]) (st1 := [.int (jI x1), .ref 49]) (σ1 := js E A7) zM_X7_areTails dX7_areTails_70 rfl rfl rfl rfl ?_
        refine zw_go (pc1 := 72) (L1 := [some (.ref 49), some (.int (jI x1)), some (.int (jI x2)), none, some (.int (jI x4)), some (.int (jI x5)), some (.int (jI x6)), some (.int (jI v5))]) (st1 := [.ref 49, .int (jI x1), .ref 49]) (σ1 := js E A7) zM_X7_areTails dX7_areTails_71 rfl rfl rfl rfl ?_
        refine zw_go (pc1 := 73) (L1 := [some (.ref 49), some (.int (jI x1)), some (.int (jI x2)), none, some (.int (jI x4)), some (.int (jI x5)), some (.int (jI x6)), some (.int (jI v5))]) (st1 := [.int (jI x1), .ref 49, .int (jI x1), .ref 49]) (σ1 := js E A7) zM_X7_areTails dX7_areTails_72 rfl rfl rfl rfl ?_
        refine zw_go (pc1 := 75) (L1 := [some (.ref 49), some (.int (jI x1)), some (.int (jI x2)), none, some (.int (jI x4)), some (.int (jI x5)), some (.int (jI x6)), some (.int (jI v5))]) (st1 := [.int (jI x6), .int (jI x1), .ref 49, .int (jI x1), .ref 49]) (σ1 := js E A7) zM_X7_areTails dX7_areTails_73 rfl rfl rfl rfl ?_
        refine jw_callI (as := [.ref 49, .int (jI x1), .int (jI x6)]) (rest := [.int (jI x1), .ref 49]) zM_X7_areTails dX7_areTails_75 (zx_calV zC_7_201) zM_X7_word rfl rfl rfl rfl rfl (j_args0 rfl rfl) rfl hA8 h (fun v13 A11 rv14 hA12 h => ?_)
        refine zw_go (pc1 := 79) (L1 := [some (.ref 49), some (.int (jI x1)), some (.int (jI x2)), none, some (.int (jI x4)), some (.int (jI x5)), some (.int (jI x6)), some (.int (jI v5))]) (st1 := [.ref 49, .int (jI v13), .int (jI x1), .ref 49]) (σ1 := js E A11) zM_X7_areTails dX7_areTails_78 rfl rfl rfl rfl ?_
        refine zw_go (pc1 := 80) (L1 := [some (.ref 49), some (.int (jI x1)), some (.int (jI x2)), none, some (.int (jI x4)), some (.int (jI x5)), some (.int (jI x6)), some (.int (jI v5))]) (st1 := [.int (jI x1), .ref 49, .int (jI v13), .int (jI x1), .ref 49]) (σ1 := js E A11) zM_X7_areTails dX7_areTails_79 rfl rfl rfl rfl ?_
        refine zw_go (pc1 := 82) (L1 := [some (.ref 49), some (.int (jI x1)), some (.int (jI x2)), none, some (.int (jI x4)), some (.int (jI x5)), some (.int (jI x6)), some (.int (jI v5))]) (st1 := [.int (jI x6), .int (jI x1), .ref 49, .int (jI v13), .int (jI x1), .ref 49]) (σ1 := js E A11) zM_X7_areTails dX7_areTails_80 rfl rfl rfl rfl ?_
        refine jw_iconst (v := 2) zM_X7_areTails dX7_areTails_82 rfl ?_
        refine jw_add zM_X7_areTails dX7_areTails_83 ?_
        refine jw_callI (as := [.ref 49, .int (jI x1), .int (jI (x6 + 2))]) (rest := [.int (jI v13), .int (jI x1), .ref 49]) zM_X7_areTails dX7_areTails_84 (zx_calV zC_7_201) zM_X7_word rfl rfl rfl rfl rfl (j_args0 rfl rfl) rfl hA12 h (fun v17 A15 rv18 hA16 h => ?_)
        refine zw_go (pc1 := 89) (L1 := [some (.ref 49), some (.int (jI x1)), some (.int (jI x2)), none, some (.int (jI x4)), some (.int (jI x5)), some (.int (jI x6)), some (.int (jI v5))]) (st1 := [.int (jI v5), .int (jI v17), .int (jI v13), .int (jI x1), .ref 49]) (σ1 := js E A15) zM_X7_areTails dX7_areTails_87 rfl rfl rfl rfl ?_
        refine jw_callI (as := [.ref 49, .int (jI x1), .int (jI v13), .int (jI v17), .int (jI v5)]) (rest := []) zM_X7_areTails dX7_areTails_89 (zx_calV zC_7_222) zM_X7_canBe rfl rfl rfl rfl rfl (j_args0 rfl rfl) rfl hA16 h (fun v21 A19 rv22 hA20 h => ?_)
        refine jw_if_eq (tgt := 99) zM_X7_areTails dX7_areTails_92 rfl rv22 (fun q => ?_) (fun q => ?_)
        · replace h := h.1 q
          exact zw_weak2 (h hA20) ⟨rfl, rfl, rfl, rfl, rfl, trivial⟩
        · replace h := h.2 q
          refine jw_iconst (v := 1) zM_X7_areTails dX7_areTails_95 rfl ?_
          refine zw_goto (tgt := 100) zM_X7_areTails dX7_areTails_96 rfl ?_
          exact zw_weak2 (h hA20) ⟨rfl, rfl, rfl, rfl, rfl, trivial⟩
set_option maxHeartbeats 4000000 in
set_option maxRecDepth 100000 in
theorem vd_X7_areTails_99 (x1 : Int) (r_x1 : jW x1) (x2 : Int) (r_x2 : jW x2) (x4 : Int) (r_x4 : jW x4) (x6 : Int) (r_x6 : jW x6) (E : jE) (A : jA) (K : Int → jA → Prop) (h : jrI 140 100 [some (.ref 49), some (.int (jI x1)), some (.int (jI x2)), none, some (.int (jI x4)), none, some (.int (jI x6)), none] [.int (jI 0)] E A K) : jrI 140 99 [some (.ref 49), some (.int (jI x1)), some (.int (jI x2)), none, some (.int (jI x4)), none, some (.int (jI x6)), none] [] E A K := by
  intro hA
  refine jw_iconst (v := 0) zM_X7_areTails dX7_areTails_99 rfl ?_
  exact zw_weak2 (h hA) ⟨rfl, rfl, rfl, rfl, rfl, trivial⟩
set_option maxHeartbeats 4000000 in
set_option maxRecDepth 100000 in
theorem vd_X7_areTails_100 (x1 : Int) (r_x1 : jW x1) (x2 : Int) (r_x2 : jW x2) (x4 : Int) (r_x4 : jW x4) (x6 : Int) (r_x6 : jW x6) (y0 : Int) (r_y0 : jW y0) (E : jE) (A : jA) (K : Int → jA → Prop) (h : jrI 140 36 [some (.ref 49), some (.int (jI x1)), some (.int (jI x2)), none, some (.int (jI x4)), some (.int (jI y0)), some (.int (jI (x6 + 5))), none] [] E A K) : jrI 140 100 [some (.ref 49), some (.int (jI x1)), some (.int (jI x2)), none, some (.int (jI x4)), none, some (.int (jI x6)), none] [.int (jI y0)] E A K := by
  intro hA
  refine zw_go (pc1 := 102) (L1 := [some (.ref 49), some (.int (jI x1)), some (.int (jI x2)), none, some (.int (jI x4)), some (.int (jI y0)), some (.int (jI x6)), none]) (st1 := []) (σ1 := js E A) zM_X7_areTails dX7_areTails_100 rfl rfl rfl rfl ?_
  refine jw_iinc (x := x6) (L1 := [some (.ref 49), some (.int (jI x1)), some (.int (jI x2)), none, some (.int (jI x4)), some (.int (jI y0)), some (.int (jI (x6 + 5))), none]) zM_X7_areTails dX7_areTails_102 rfl (show 6 < 8 by decide) rfl ?_
  refine zw_goto (tgt := 36) zM_X7_areTails dX7_areTails_105 rfl ?_
  exact zw_weak2 (h hA) ⟨rfl, rfl, rfl, rfl, rfl, rfl, trivial⟩
set_option maxHeartbeats 4000000 in
set_option maxRecDepth 100000 in
theorem vd_X7_bare_0  (E : jE) (A : jA) (K : Int → jA → Prop) (h : ∀ A1 : jA, A1 = jup A 49 0 0 → ∀ A4 : jA, A4 = jup A1 49 35 0 → jrV 154 0 [some (.ref 49), none] [] E A4 (fun A7 => K (A1 49 35) A7)) : jrI 141 0 [some (.ref 49), none] [] E A K := by
  intro hA
  refine zw_go (pc1 := 1) (L1 := [some (.ref 49), none]) (st1 := [.ref 49]) (σ1 := js E A) zM_X7_bare dX7_bare_0 rfl rfl rfl rfl ?_
  refine jw_iconst (v := 0) zM_X7_bare dX7_bare_1 rfl ?_
  obtain ⟨A1, e2⟩ : ∃ z9 : jA, z9 = jup A 49 0 0 := ⟨_, rfl⟩
  replace h := h A1 e2
  have hA3 : jOK A1 := jOK.up hA (show jW 0 from ⟨by decide, by decide⟩) e2
  refine jw_putI zM_X7_bare dX7_bare_2 zF_7_98 rfl rfl rfl rfl e2 ?_
  refine zw_go (pc1 := 6) (L1 := [some (.ref 49), none]) (st1 := [.ref 49]) (σ1 := js E A1) zM_X7_bare dX7_bare_5 rfl rfl rfl rfl ?_
  refine jw_getI zM_X7_bare dX7_bare_6 zF_7_257 rfl rfl rfl ?_
  refine zw_go (pc1 := 10) (L1 := [some (.ref 49), some (.int (jI (A1 49 35)))]) (st1 := []) (σ1 := js E A1) zM_X7_bare dX7_bare_9 rfl rfl rfl rfl ?_
  refine zw_go (pc1 := 11) (L1 := [some (.ref 49), some (.int (jI (A1 49 35)))]) (st1 := [.ref 49]) (σ1 := js E A1) zM_X7_bare dX7_bare_10 rfl rfl rfl rfl ?_
  refine jw_iconst (v := 0) zM_X7_bare dX7_bare_11 rfl ?_
  obtain ⟨A4, e5⟩ : ∃ z9 : jA, z9 = jup A1 49 35 0 := ⟨_, rfl⟩
  replace h := h A4 e5
  have hA6 : jOK A4 := jOK.up hA3 (show jW 0 from ⟨by decide, by decide⟩) e5
  refine jw_putI zM_X7_bare dX7_bare_12 zF_7_257 rfl rfl rfl rfl e5 ?_
  refine zw_go (pc1 := 16) (L1 := [some (.ref 49), some (.int (jI (A1 49 35)))]) (st1 := [.ref 49]) (σ1 := js E A4) zM_X7_bare dX7_bare_15 rfl rfl rfl rfl ?_
  refine jw_callV (as := [.ref 49]) (rest := []) zM_X7_bare dX7_bare_16 (zx_calV zC_7_272) zM_X7_first rfl rfl rfl rfl rfl (j_args0 rfl rfl) rfl hA6 h (fun A7 hA8 h => ?_)
  refine zw_go (pc1 := 20) (L1 := [some (.ref 49), some (.int (jI (A1 49 35)))]) (st1 := [.int (jI (A1 49 35))]) (σ1 := js E A7) zM_X7_bare dX7_bare_19 rfl rfl rfl rfl ?_
  exact jw_reti zM_X7_bare dX7_bare_20 rfl (hA3 49 35) hA8 h
