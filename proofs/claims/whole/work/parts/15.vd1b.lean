set_option maxHeartbeats 4000000 in
set_option maxRecDepth 100000 in
theorem vd_X1_sum_0 (a0 : Nat) (i_a0 : jim a0) (E : jE) (A : jA) (K : Int → jA → Prop) (h : jrI 46 4 [some (.ref a0), some (.long (jJ 0)), none, some (.int (jI 0))] [] E A K) : jrI 46 0 [some (.ref a0), none, none, none] [] E A K := by
  intro hA
  refine jw_lconst (w := 0) zM_X1_sum dX1_sum_0 (by decide) ?_
  refine zw_go (pc1 := 2) (L1 := [some (.ref a0), some (.long (jJ 0)), none, none]) (st1 := []) (σ1 := js E A) zM_X1_sum dX1_sum_1 rfl rfl rfl rfl ?_
  refine jw_iconst (v := 0) zM_X1_sum dX1_sum_2 rfl ?_
  refine zw_go (pc1 := 4) (L1 := [some (.ref a0), some (.long (jJ 0)), none, some (.int (jI 0))]) (st1 := []) (σ1 := js E A) zM_X1_sum dX1_sum_3 rfl rfl rfl rfl ?_
  exact zw_weak2 (h hA) ⟨rfl, rfl, rfl, trivial⟩
set_option maxHeartbeats 4000000 in
set_option maxRecDepth 100000 in
theorem vd_X1_sum_4 (a0 : Nat) (i_a0 : jim a0) (w1 : Int) (x3 : Int) (r_x3 : jW x3) (E : jE) (A : jA) (K : Int → jA → Prop) (h : (((A a0 1) ≤ x3 → 0 ≤ w1 ∧ w1 < 9223372036854775807 ∧ K (w1 % 65521) A) ∧ (x3 < (A a0 1) → ((x3 < (16 : Int) → jrI 46 24 [some (.ref a0), some (.long (jJ w1)), none, some (.int (jI x3))] [] E A K) ∧ ((16 : Int) ≤ x3 → ((x3 < (18 : Int) → jrI 46 39 [some (.ref a0), some (.long (jJ w1)), none, some (.int (jI x3))] [] E A K) ∧ ((18 : Int) ≤ x3 → jrI 46 24 [some (.ref a0), some (.long (jJ w1)), none, some (.int (jI x3))] [] E A K))))))) : jrI 46 4 [some (.ref a0), some (.long (jJ w1)), none, some (.int (jI x3))] [] E A K := by
  intro hA
  refine zw_go (pc1 := 5) (L1 := [some (.ref a0), some (.long (jJ w1)), none, some (.int (jI x3))]) (st1 := [.int (jI x3)]) (σ1 := js E A) zM_X1_sum dX1_sum_4 rfl rfl rfl rfl ?_
  refine zw_go (pc1 := 6) (L1 := [some (.ref a0), some (.long (jJ w1)), none, some (.int (jI x3))]) (st1 := [.ref a0, .int (jI x3)]) (σ1 := js E A) zM_X1_sum dX1_sum_5 rfl rfl rfl rfl ?_
  refine jw_getI zM_X1_sum dX1_sum_6 zF_1_15 rfl rfl (jim.K i_a0) ?_
  refine jw_icmp_ge (tgt := 45) zM_X1_sum dX1_sum_9 rfl r_x3 (hA a0 1) (fun q => ?_) (fun q => ?_)
  · replace h := h.1 q
    refine zw_go (pc1 := 46) (L1 := [some (.ref a0), some (.long (jJ w1)), none, some (.int (jI x3))]) (st1 := [.long (jJ w1)]) (σ1 := js E A) zM_X1_sum dX1_sum_45 rfl rfl rfl rfl ?_
    refine jw_ldc2 (w := 65521) zM_X1_sum dX1_sum_46 zJ_1_66 (by decide) ?_
    obtain ⟨hz1, h⟩ := h
    obtain ⟨hz2, h⟩ := h
    refine jw_lrem zM_X1_sum dX1_sum_49 hz2 (by decide) hz1 (by decide) ?_
    refine jw_l2i zM_X1_sum dX1_sum_50 ?_
    exact jw_reti zM_X1_sum dX1_sum_51 rfl (show jW (w1 % 65521) from ⟨by omega, by omega⟩) hA h
  · replace h := h.2 q
    refine zw_go (pc1 := 13) (L1 := [some (.ref a0), some (.long (jJ w1)), none, some (.int (jI x3))]) (st1 := [.int (jI x3)]) (σ1 := js E A) zM_X1_sum dX1_sum_12 rfl rfl rfl rfl ?_
    refine jw_bipush (v := 16) zM_X1_sum dX1_sum_13 (by decide) ?_
    refine jw_icmp_lt (tgt := 24) zM_X1_sum dX1_sum_15 rfl r_x3 (show jW 16 from ⟨by decide, by decide⟩) (fun q => ?_) (fun q => ?_)
    · replace h := h.1 q
      exact zw_weak2 (h hA) ⟨rfl, rfl, rfl, trivial⟩
    · replace h := h.2 q
      refine zw_go (pc1 := 19) (L1 := [some (.ref a0), some (.long (jJ w1)), none, some (.int (jI x3))]) (st1 := [.int (jI x3)]) (σ1 := js E A) zM_X1_sum dX1_sum_18 rfl rfl rfl rfl ?_
      refine jw_bipush (v := 18) zM_X1_sum dX1_sum_19 (by decide) ?_
      refine jw_icmp_lt (tgt := 39) zM_X1_sum dX1_sum_21 rfl r_x3 (show jW 18 from ⟨by decide, by decide⟩) (fun q => ?_) (fun q => ?_)
      · replace h := h.1 q
        exact zw_weak2 (h hA) ⟨rfl, rfl, rfl, trivial⟩
      · replace h := h.2 q
        exact zw_weak2 (h hA) ⟨rfl, rfl, rfl, trivial⟩
set_option maxHeartbeats 4000000 in
set_option maxRecDepth 100000 in
theorem vd_X1_sum_24 (a0 : Nat) (i_a0 : jim a0) (w1 : Int) (x3 : Int) (r_x3 : jW x3) (E : jE) (A : jA) (K : Int → jA → Prop) (h : (0 ≤ x3 ∧ x3 < (jN (a0 + 1) : Int)) ∧ jW (x3 + 1) ∧ jrI 46 39 [some (.ref a0), some (.long (jJ (w1 + ((A (a0 + 1) x3) * (x3 + 1))))), none, some (.int (jI x3))] [] E A K) : jrI 46 24 [some (.ref a0), some (.long (jJ w1)), none, some (.int (jI x3))] [] E A K := by
  intro hA
  refine zw_go (pc1 := 25) (L1 := [some (.ref a0), some (.long (jJ w1)), none, some (.int (jI x3))]) (st1 := [.long (jJ w1)]) (σ1 := js E A) zM_X1_sum dX1_sum_24 rfl rfl rfl rfl ?_
  refine zw_go (pc1 := 26) (L1 := [some (.ref a0), some (.long (jJ w1)), none, some (.int (jI x3))]) (st1 := [.ref a0, .long (jJ w1)]) (σ1 := js E A) zM_X1_sum dX1_sum_25 rfl rfl rfl rfl ?_
  refine jw_getR (a := (a0 + 1)) zM_X1_sum dX1_sum_26 zF_1_9 rfl (jim.K i_a0) (jim.R i_a0 _) ?_
  refine zw_go (pc1 := 30) (L1 := [some (.ref a0), some (.long (jJ w1)), none, some (.int (jI x3))]) (st1 := [.int (jI x3), .ref (a0 + 1), .long (jJ w1)]) (σ1 := js E A) zM_X1_sum dX1_sum_29 rfl rfl rfl rfl ?_
  obtain ⟨hi1, h⟩ := h
  refine jw_iald zM_X1_sum dX1_sum_30 (jim.B i_a0) rfl hi1 ?_
  refine jw_i2l zM_X1_sum (hA (a0 + 1) x3) dX1_sum_31 ?_
  refine zw_go (pc1 := 33) (L1 := [some (.ref a0), some (.long (jJ w1)), none, some (.int (jI x3))]) (st1 := [.int (jI x3), .long (jJ (A (a0 + 1) x3)), .long (jJ w1)]) (σ1 := js E A) zM_X1_sum dX1_sum_32 rfl rfl rfl rfl ?_
  refine jw_iconst (v := 1) zM_X1_sum dX1_sum_33 rfl ?_
  refine jw_add zM_X1_sum dX1_sum_34 ?_
  obtain ⟨hw2, h⟩ := h
  refine jw_i2l zM_X1_sum hw2 dX1_sum_35 ?_
  refine jw_lmul zM_X1_sum dX1_sum_36 ?_
  refine jw_ladd zM_X1_sum dX1_sum_37 ?_
  refine zw_go (pc1 := 39) (L1 := [some (.ref a0), some (.long (jJ (w1 + ((A (a0 + 1) x3) * (x3 + 1))))), none, some (.int (jI x3))]) (st1 := []) (σ1 := js E A) zM_X1_sum dX1_sum_38 rfl rfl rfl rfl ?_
  exact zw_weak2 (h hA) ⟨rfl, rfl, rfl, trivial⟩
set_option maxHeartbeats 4000000 in
set_option maxRecDepth 100000 in
theorem vd_X1_sum_39 (a0 : Nat) (i_a0 : jim a0) (w1 : Int) (x3 : Int) (r_x3 : jW x3) (E : jE) (A : jA) (K : Int → jA → Prop) (h : jrI 46 4 [some (.ref a0), some (.long (jJ w1)), none, some (.int (jI (x3 + 1)))] [] E A K) : jrI 46 39 [some (.ref a0), some (.long (jJ w1)), none, some (.int (jI x3))] [] E A K := by
  intro hA
  refine jw_iinc (x := x3) (L1 := [some (.ref a0), some (.long (jJ w1)), none, some (.int (jI (x3 + 1)))]) zM_X1_sum dX1_sum_39 rfl (show 3 < 4 by decide) rfl ?_
  refine zw_goto (tgt := 4) zM_X1_sum dX1_sum_42 rfl ?_
  exact zw_weak2 (h hA) ⟨rfl, rfl, rfl, trivial⟩
set_option maxHeartbeats 4000000 in
set_option maxRecDepth 100000 in
theorem vd_X1_tailBlocks_0 (a0 : Nat) (i_a0 : jim a0) (E : jE) (A : jA) (K : Int → jA → Prop) (h : jW ((A a0 7) - (A a0 6)) ∧ 0 ≤ ((A a0 7) - (A a0 6)) ∧ jW (((A a0 7) - (A a0 6)) / 5) ∧ K (((A a0 7) - (A a0 6)) / 5) A) : jrI 47 0 [some (.ref a0)] [] E A K := by
  intro hA
  refine zw_go (pc1 := 1) (L1 := [some (.ref a0)]) (st1 := [.ref a0]) (σ1 := js E A) zM_X1_tailBlocks dX1_tailBlocks_0 rfl rfl rfl rfl ?_
  refine jw_getI zM_X1_tailBlocks dX1_tailBlocks_1 zF_1_63 rfl rfl (jim.K i_a0) ?_
  refine zw_go (pc1 := 5) (L1 := [some (.ref a0)]) (st1 := [.ref a0, .int (jI (A a0 7))]) (σ1 := js E A) zM_X1_tailBlocks dX1_tailBlocks_4 rfl rfl rfl rfl ?_
  refine jw_getI zM_X1_tailBlocks dX1_tailBlocks_5 zF_1_60 rfl rfl (jim.K i_a0) ?_
  refine jw_sub zM_X1_tailBlocks dX1_tailBlocks_8 ?_
  refine jw_iconst (v := 5) zM_X1_tailBlocks dX1_tailBlocks_9 rfl ?_
  obtain ⟨hw1, h⟩ := h
  obtain ⟨hz2, h⟩ := h
  refine jw_div zM_X1_tailBlocks dX1_tailBlocks_10 hw1 (show jW 5 from ⟨by decide, by decide⟩) hz2 (by decide) ?_
  obtain ⟨hw3, h⟩ := h
  exact jw_reti zM_X1_tailBlocks dX1_tailBlocks_11 rfl hw3 hA h
set_option maxHeartbeats 4000000 in
set_option maxRecDepth 100000 in
theorem vd_X1_tailRow_0 (a0 : Nat) (i_a0 : jim a0) (x1 : Int) (r_x1 : jW x1) (E : jE) (A : jA) (K : Int → jA → Prop) (h : jW ((A a0 6) + (5 * x1)) ∧ K ((A a0 6) + (5 * x1)) A) : jrI 48 0 [some (.ref a0), some (.int (jI x1))] [] E A K := by
  intro hA
  refine zw_go (pc1 := 1) (L1 := [some (.ref a0), some (.int (jI x1))]) (st1 := [.ref a0]) (σ1 := js E A) zM_X1_tailRow dX1_tailRow_0 rfl rfl rfl rfl ?_
  refine jw_getI zM_X1_tailRow dX1_tailRow_1 zF_1_60 rfl rfl (jim.K i_a0) ?_
  refine jw_iconst (v := 5) zM_X1_tailRow dX1_tailRow_4 rfl ?_
  refine zw_go (pc1 := 6) (L1 := [some (.ref a0), some (.int (jI x1))]) (st1 := [.int (jI x1), .int (jI 5), .int (jI (A a0 6))]) (σ1 := js E A) zM_X1_tailRow dX1_tailRow_5 rfl rfl rfl rfl ?_
  refine jw_mul zM_X1_tailRow dX1_tailRow_6 ?_
  refine jw_add zM_X1_tailRow dX1_tailRow_7 ?_
  obtain ⟨hw1, h⟩ := h
  exact jw_reti zM_X1_tailRow dX1_tailRow_8 rfl hw1 hA h
set_option maxHeartbeats 4000000 in
set_option maxRecDepth 100000 in
theorem vd_X1_targetOf_0 (a0 : Nat) (i_a0 : jim a0) (x1 : Int) (r_x1 : jW x1) (x2 : Int) (r_x2 : jW x2) (E : jE) (A : jA) (K : Int → jA → Prop) (h : jrI 25 0 [some (.ref a0), some (.int (jI x1))] [] E A (fun v3 A1 => jrI 44 0 [some (.ref a0), some (.int (jI x1)), none, none] [] E A1 (fun v7 A5 => jrI 49 16 [some (.ref a0), none, some (.int (jI x2)), some (.int (jI v3)), some (.int (jI v7)), some (.int (jI 0)), none] [] E A5 K))) : jrI 49 0 [some (.ref a0), some (.int (jI x1)), some (.int (jI x2)), none, none, none, none] [] E A K := by
  intro hA
  refine zw_go (pc1 := 1) (L1 := [some (.ref a0), some (.int (jI x1)), some (.int (jI x2)), none, none, none, none]) (st1 := [.ref a0]) (σ1 := js E A) zM_X1_targetOf dX1_targetOf_0 rfl rfl rfl rfl ?_
  refine zw_go (pc1 := 2) (L1 := [some (.ref a0), some (.int (jI x1)), some (.int (jI x2)), none, none, none, none]) (st1 := [.int (jI x1), .ref a0]) (σ1 := js E A) zM_X1_targetOf dX1_targetOf_1 rfl rfl rfl rfl ?_
  refine jw_callI (as := [.ref a0, .int (jI x1)]) (rest := []) zM_X1_targetOf dX1_targetOf_2 (zx_calV zC_1_71) zM_X1_firstNamePlace rfl rfl rfl rfl rfl (j_args0 (jim.K i_a0) rfl) rfl hA h (fun v3 A1 rv4 hA2 h => ?_)
  refine zw_go (pc1 := 6) (L1 := [some (.ref a0), some (.int (jI x1)), some (.int (jI x2)), some (.int (jI v3)), none, none, none]) (st1 := []) (σ1 := js E A1) zM_X1_targetOf dX1_targetOf_5 rfl rfl rfl rfl ?_
  refine zw_go (pc1 := 7) (L1 := [some (.ref a0), some (.int (jI x1)), some (.int (jI x2)), some (.int (jI v3)), none, none, none]) (st1 := [.ref a0]) (σ1 := js E A1) zM_X1_targetOf dX1_targetOf_6 rfl rfl rfl rfl ?_
  refine zw_go (pc1 := 8) (L1 := [some (.ref a0), some (.int (jI x1)), some (.int (jI x2)), some (.int (jI v3)), none, none, none]) (st1 := [.int (jI x1), .ref a0]) (σ1 := js E A1) zM_X1_targetOf dX1_targetOf_7 rfl rfl rfl rfl ?_
  refine jw_callI (as := [.ref a0, .int (jI x1)]) (rest := []) zM_X1_targetOf dX1_targetOf_8 (zx_calV zC_1_74) zM_X1_sizeOf rfl rfl rfl rfl rfl (j_args0 (jim.K i_a0) rfl) rfl hA2 h (fun v7 A5 rv8 hA6 h => ?_)
  refine zw_go (pc1 := 13) (L1 := [some (.ref a0), some (.int (jI x1)), some (.int (jI x2)), some (.int (jI v3)), some (.int (jI v7)), none, none]) (st1 := []) (σ1 := js E A5) zM_X1_targetOf dX1_targetOf_11 rfl rfl rfl rfl ?_
  refine jw_iconst (v := 0) zM_X1_targetOf dX1_targetOf_13 rfl ?_
  refine zw_go (pc1 := 16) (L1 := [some (.ref a0), some (.int (jI x1)), some (.int (jI x2)), some (.int (jI v3)), some (.int (jI v7)), some (.int (jI 0)), none]) (st1 := []) (σ1 := js E A5) zM_X1_targetOf dX1_targetOf_14 rfl rfl rfl rfl ?_
  exact zw_weak2 (h hA6) ⟨rfl, rfl, rfl, rfl, rfl, trivial⟩
set_option maxHeartbeats 4000000 in
set_option maxRecDepth 100000 in
theorem vd_X1_targetOf_16 (a0 : Nat) (i_a0 : jim a0) (x2 : Int) (r_x2 : jW x2) (x3 : Int) (r_x3 : jW x3) (x4 : Int) (r_x4 : jW x4) (x5 : Int) (r_x5 : jW x5) (E : jE) (A : jA) (K : Int → jA → Prop) (h : ((x4 ≤ x5 → K 0 A) ∧ (x5 < x4 → jrI 51 0 [some (.ref a0), some (.int (jI (x3 + (4 * x5))))] [] E A (fun v3 A1 => ((¬ v3 = x2 → jrI 49 16 [some (.ref a0), none, some (.int (jI x2)), some (.int (jI x3)), some (.int (jI x4)), some (.int (jI (x5 + 1))), none] [] E A1 K) ∧ (v3 = x2 → jrI 51 0 [some (.ref a0), some (.int (jI ((x3 + (4 * x5)) + 2)))] [] E A1 (fun v7 A5 => K v7 A5))))))) : jrI 49 16 [some (.ref a0), none, some (.int (jI x2)), some (.int (jI x3)), some (.int (jI x4)), some (.int (jI x5)), none] [] E A K := by
  intro hA
  refine zw_go (pc1 := 18) (L1 := [some (.ref a0), none, some (.int (jI x2)), some (.int (jI x3)), some (.int (jI x4)), some (.int (jI x5)), none]) (st1 := [.int (jI x5)]) (σ1 := js E A) zM_X1_targetOf dX1_targetOf_16 rfl rfl rfl rfl ?_
  refine zw_go (pc1 := 20) (L1 := [some (.ref a0), none, some (.int (jI x2)), some (.int (jI x3)), some (.int (jI x4)), some (.int (jI x5)), none]) (st1 := [.int (jI x4), .int (jI x5)]) (σ1 := js E A) zM_X1_targetOf dX1_targetOf_18 rfl rfl rfl rfl ?_
  refine jw_icmp_ge (tgt := 56) zM_X1_targetOf dX1_targetOf_20 rfl r_x5 r_x4 (fun q => ?_) (fun q => ?_)
  · replace h := h.1 q
    refine jw_iconst (v := 0) zM_X1_targetOf dX1_targetOf_56 rfl ?_
    exact jw_reti zM_X1_targetOf dX1_targetOf_57 rfl (show jW 0 from ⟨by decide, by decide⟩) hA h
  · replace h := h.2 q
    refine zw_go (pc1 := 24) (L1 := [some (.ref a0), none, some (.int (jI x2)), some (.int (jI x3)), some (.int (jI x4)), some (.int (jI x5)), none]) (st1 := [.int (jI x3)]) (σ1 := js E A) zM_X1_targetOf dX1_targetOf_23 rfl rfl rfl rfl ?_
    refine jw_iconst (v := 4) zM_X1_targetOf dX1_targetOf_24 rfl ?_
    refine zw_go (pc1 := 27) (L1 := [some (.ref a0), none, some (.int (jI x2)), some (.int (jI x3)), some (.int (jI x4)), some (.int (jI x5)), none]) (st1 := [.int (jI x5), .int (jI 4), .int (jI x3)]) (σ1 := js E A) zM_X1_targetOf dX1_targetOf_25 rfl rfl rfl rfl ?_
    refine jw_mul zM_X1_targetOf dX1_targetOf_27 ?_
    refine jw_add zM_X1_targetOf dX1_targetOf_28 ?_
    refine zw_go (pc1 := 31) (L1 := [some (.ref a0), none, some (.int (jI x2)), some (.int (jI x3)), some (.int (jI x4)), some (.int (jI x5)), some (.int (jI (x3 + (4 * x5))))]) (st1 := []) (σ1 := js E A) zM_X1_targetOf dX1_targetOf_29 rfl rfl rfl rfl ?_
    refine zw_go (pc1 := 32) (L1 := [some (.ref a0), none, some (.int (jI x2)), some (.int (jI x3)), some (.int (jI x4)), some (.int (jI x5)), some (.int (jI (x3 + (4 * x5))))]) (st1 := [.ref a0]) (σ1 := js E A) zM_X1_targetOf dX1_targetOf_31 rfl rfl rfl rfl ?_
    refine zw_go (pc1 := 34) (L1 := [some (.ref a0), none, some (.int (jI x2)), some (.int (jI x3)), some (.int (jI x4)), some (.int (jI x5)), some (.int (jI (x3 + (4 * x5))))]) (st1 := [.int (jI (x3 + (4 * x5))), .ref a0]) (σ1 := js E A) zM_X1_targetOf dX1_targetOf_32 rfl rfl rfl rfl ?_
    refine jw_callI (as := [.ref a0, .int (jI (x3 + (4 * x5)))]) (rest := []) zM_X1_targetOf dX1_targetOf_34 (zx_calV zC_1_48) zM_X1_wordAt rfl rfl rfl rfl rfl (j_args0 (jim.K i_a0) rfl) rfl hA h (fun v3 A1 rv4 hA2 h => ?_)
    refine zw_go (pc1 := 38) (L1 := [some (.ref a0), none, some (.int (jI x2)), some (.int (jI x3)), some (.int (jI x4)), some (.int (jI x5)), some (.int (jI (x3 + (4 * x5))))]) (st1 := [.int (jI x2), .int (jI v3)]) (σ1 := js E A1) zM_X1_targetOf dX1_targetOf_37 rfl rfl rfl rfl ?_
    refine jw_icmp_ne (tgt := 50) zM_X1_targetOf dX1_targetOf_38 rfl rv4 r_x2 (fun q => ?_) (fun q => ?_)
    · replace h := h.1 q
      refine jw_iinc (x := x5) (L1 := [some (.ref a0), none, some (.int (jI x2)), some (.int (jI x3)), some (.int (jI x4)), some (.int (jI (x5 + 1))), some (.int (jI (x3 + (4 * x5))))]) zM_X1_targetOf dX1_targetOf_50 rfl (show 5 < 7 by decide) rfl ?_
      refine zw_goto (tgt := 16) zM_X1_targetOf dX1_targetOf_53 rfl ?_
      exact zw_weak2 (h hA2) ⟨rfl, rfl, rfl, rfl, rfl, trivial⟩
    · replace h := h.2 q
      refine zw_go (pc1 := 42) (L1 := [some (.ref a0), none, some (.int (jI x2)), some (.int (jI x3)), some (.int (jI x4)), some (.int (jI x5)), some (.int (jI (x3 + (4 * x5))))]) (st1 := [.ref a0]) (σ1 := js E A1) zM_X1_targetOf dX1_targetOf_41 rfl rfl rfl rfl ?_
      refine zw_go (pc1 := 44) (L1 := [some (.ref a0), none, some (.int (jI x2)), some (.int (jI x3)), some (.int (jI x4)), some (.int (jI x5)), some (.int (jI (x3 + (4 * x5))))]) (st1 := [.int (jI (x3 + (4 * x5))), .ref a0]) (σ1 := js E A1) zM_X1_targetOf dX1_targetOf_42 rfl rfl rfl rfl ?_
      refine jw_iconst (v := 2) zM_X1_targetOf dX1_targetOf_44 rfl ?_
      refine jw_add zM_X1_targetOf dX1_targetOf_45 ?_
      refine jw_callI (as := [.ref a0, .int (jI ((x3 + (4 * x5)) + 2))]) (rest := []) zM_X1_targetOf dX1_targetOf_46 (zx_calV zC_1_48) zM_X1_wordAt rfl rfl rfl rfl rfl (j_args0 (jim.K i_a0) rfl) rfl hA2 h (fun v7 A5 rv8 hA6 h => ?_)
      exact jw_reti zM_X1_targetOf dX1_targetOf_49 rfl rv8 hA6 h
set_option maxHeartbeats 4000000 in
set_option maxRecDepth 100000 in
theorem vd_X1_wholeBlocks_0 (a0 : Nat) (i_a0 : jim a0) (x1 : Int) (r_x1 : jW x1) (E : jE) (A : jA) (K : Int → jA → Prop) (h : (((1 : Int) ≤ (A a0 2) → 0 ≤ x1 ∧ 0 < (A a0 2) ∧ jW (x1 / (A a0 2)) ∧ K (x1 / (A a0 2)) A) ∧ ((A a0 2) < (1 : Int) → K 0 A))) : jrI 50 0 [some (.ref a0), some (.int (jI x1))] [] E A K := by
  intro hA
  refine zw_go (pc1 := 1) (L1 := [some (.ref a0), some (.int (jI x1))]) (st1 := [.ref a0]) (σ1 := js E A) zM_X1_wholeBlocks dX1_wholeBlocks_0 rfl rfl rfl rfl ?_
  refine jw_getI zM_X1_wholeBlocks dX1_wholeBlocks_1 zF_1_45 rfl rfl (jim.K i_a0) ?_
  refine jw_iconst (v := 1) zM_X1_wholeBlocks dX1_wholeBlocks_4 rfl ?_
  refine jw_icmp_ge (tgt := 12) zM_X1_wholeBlocks dX1_wholeBlocks_5 rfl (hA a0 2) (show jW 1 from ⟨by decide, by decide⟩) (fun q => ?_) (fun q => ?_)
  · replace h := h.1 q
    refine zw_go (pc1 := 13) (L1 := [some (.ref a0), some (.int (jI x1))]) (st1 := [.int (jI x1)]) (σ1 := js E A) zM_X1_wholeBlocks dX1_wholeBlocks_12 rfl rfl rfl rfl ?_
    refine zw_go (pc1 := 14) (L1 := [some (.ref a0), some (.int (jI x1))]) (st1 := [.ref a0, .int (jI x1)]) (σ1 := js E A) zM_X1_wholeBlocks dX1_wholeBlocks_13 rfl rfl rfl rfl ?_
    refine jw_getI zM_X1_wholeBlocks dX1_wholeBlocks_14 zF_1_45 rfl rfl (jim.K i_a0) ?_
    obtain ⟨hz1, h⟩ := h
    obtain ⟨hz2, h⟩ := h
    refine jw_div zM_X1_wholeBlocks dX1_wholeBlocks_17 r_x1 (hA a0 2) hz1 hz2 ?_
    obtain ⟨hw3, h⟩ := h
    exact jw_reti zM_X1_wholeBlocks dX1_wholeBlocks_18 rfl hw3 hA h
  · replace h := h.2 q
    refine jw_iconst (v := 0) zM_X1_wholeBlocks dX1_wholeBlocks_8 rfl ?_
    refine zw_goto (tgt := 18) zM_X1_wholeBlocks dX1_wholeBlocks_9 rfl ?_
    exact jw_reti zM_X1_wholeBlocks dX1_wholeBlocks_18 rfl (show jW 0 from ⟨by decide, by decide⟩) hA h
set_option maxHeartbeats 4000000 in
set_option maxRecDepth 100000 in
theorem vd_X1_wordAt_0 (a0 : Nat) (i_a0 : jim a0) (x1 : Int) (r_x1 : jW x1) (E : jE) (A : jA) (K : Int → jA → Prop) (h : ((x1 < (0 : Int) → K 0 A) ∧ ((0 : Int) ≤ x1 → jW ((A a0 1) - 1) ∧ ((x1 < ((A a0 1) - 1) → (0 ≤ x1 ∧ x1 < (jN (a0 + 1) : Int)) ∧ (0 ≤ (x1 + 1) ∧ (x1 + 1) < (jN (a0 + 1) : Int)) ∧ jW (((A (a0 + 1) x1) * 256) + (A (a0 + 1) (x1 + 1))) ∧ K (((A (a0 + 1) x1) * 256) + (A (a0 + 1) (x1 + 1))) A) ∧ (((A a0 1) - 1) ≤ x1 → K 0 A))))) : jrI 51 0 [some (.ref a0), some (.int (jI x1))] [] E A K := by
  intro hA
  refine zw_go (pc1 := 1) (L1 := [some (.ref a0), some (.int (jI x1))]) (st1 := [.int (jI x1)]) (σ1 := js E A) zM_X1_wordAt dX1_wordAt_0 rfl rfl rfl rfl ?_
  refine jw_if_lt (tgt := 14) zM_X1_wordAt dX1_wordAt_1 rfl r_x1 (fun q => ?_) (fun q => ?_)
  · replace h := h.1 q
    refine jw_iconst (v := 0) zM_X1_wordAt dX1_wordAt_14 rfl ?_
    refine zw_goto (tgt := 37) zM_X1_wordAt dX1_wordAt_15 rfl ?_
    exact jw_reti zM_X1_wordAt dX1_wordAt_37 rfl (show jW 0 from ⟨by decide, by decide⟩) hA h
  · replace h := h.2 q
    refine zw_go (pc1 := 5) (L1 := [some (.ref a0), some (.int (jI x1))]) (st1 := [.int (jI x1)]) (σ1 := js E A) zM_X1_wordAt dX1_wordAt_4 rfl rfl rfl rfl ?_
    refine zw_go (pc1 := 6) (L1 := [some (.ref a0), some (.int (jI x1))]) (st1 := [.ref a0, .int (jI x1)]) (σ1 := js E A) zM_X1_wordAt dX1_wordAt_5 rfl rfl rfl rfl ?_
    refine jw_getI zM_X1_wordAt dX1_wordAt_6 zF_1_15 rfl rfl (jim.K i_a0) ?_
    refine jw_iconst (v := 1) zM_X1_wordAt dX1_wordAt_9 rfl ?_
    refine jw_sub zM_X1_wordAt dX1_wordAt_10 ?_
    obtain ⟨hw1, h⟩ := h
    refine jw_icmp_lt (tgt := 18) zM_X1_wordAt dX1_wordAt_11 rfl r_x1 hw1 (fun q => ?_) (fun q => ?_)
    · replace h := h.1 q
      refine zw_go (pc1 := 19) (L1 := [some (.ref a0), some (.int (jI x1))]) (st1 := [.ref a0]) (σ1 := js E A) zM_X1_wordAt dX1_wordAt_18 rfl rfl rfl rfl ?_
      refine jw_getR (a := (a0 + 1)) zM_X1_wordAt dX1_wordAt_19 zF_1_9 rfl (jim.K i_a0) (jim.R i_a0 _) ?_
      refine zw_go (pc1 := 23) (L1 := [some (.ref a0), some (.int (jI x1))]) (st1 := [.int (jI x1), .ref (a0 + 1)]) (σ1 := js E A) zM_X1_wordAt dX1_wordAt_22 rfl rfl rfl rfl ?_
      obtain ⟨hi2, h⟩ := h
      refine jw_iald zM_X1_wordAt dX1_wordAt_23 (jim.B i_a0) rfl hi2 ?_
      refine jw_sipush (v := 256) zM_X1_wordAt dX1_wordAt_24 (by decide) ?_
      refine jw_mul zM_X1_wordAt dX1_wordAt_27 ?_
      refine zw_go (pc1 := 29) (L1 := [some (.ref a0), some (.int (jI x1))]) (st1 := [.ref a0, .int (jI ((A (a0 + 1) x1) * 256))]) (σ1 := js E A) zM_X1_wordAt dX1_wordAt_28 rfl rfl rfl rfl ?_
      refine jw_getR (a := (a0 + 1)) zM_X1_wordAt dX1_wordAt_29 zF_1_9 rfl (jim.K i_a0) (jim.R i_a0 _) ?_
      refine zw_go (pc1 := 33) (L1 := [some (.ref a0), some (.int (jI x1))]) (st1 := [.int (jI x1), .ref (a0 + 1), .int (jI ((A (a0 + 1) x1) * 256))]) (σ1 := js E A) zM_X1_wordAt dX1_wordAt_32 rfl rfl rfl rfl ?_
      refine jw_iconst (v := 1) zM_X1_wordAt dX1_wordAt_33 rfl ?_
      refine jw_add zM_X1_wordAt dX1_wordAt_34 ?_
      obtain ⟨hi3, h⟩ := h
      refine jw_iald zM_X1_wordAt dX1_wordAt_35 (jim.B i_a0) rfl hi3 ?_
      refine jw_add zM_X1_wordAt dX1_wordAt_36 ?_
      obtain ⟨hw4, h⟩ := h
      exact jw_reti zM_X1_wordAt dX1_wordAt_37 rfl hw4 hA h
    · replace h := h.2 q
      refine jw_iconst (v := 0) zM_X1_wordAt dX1_wordAt_14 rfl ?_
      refine zw_goto (tgt := 37) zM_X1_wordAt dX1_wordAt_15 rfl ?_
      exact jw_reti zM_X1_wordAt dX1_wordAt_37 rfl (show jW 0 from ⟨by decide, by decide⟩) hA h
