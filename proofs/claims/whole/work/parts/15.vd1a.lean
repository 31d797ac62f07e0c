set_option maxHeartbeats 4000000 in
set_option maxRecDepth 100000 in
theorem vd_X1_blockByte_0 (a0 : Nat) (i_a0 : jim a0) (x1 : Int) (r_x1 : jW x1) (x2 : Int) (r_x2 : jW x2) (x3 : Int) (r_x3 : jW x3) (E : jE) (A : jA) (K : Int → jA → Prop) (h : ((¬ x2 = (0 : Int) → ((x2 < (32768 : Int) → jrI 33 0 [some (.ref a0), some (.int (jI x1)), some (.int (jI x2)), some (.int (jI x3)), none, none, none, none] [] E A (fun v3 A1 => K v3 A1)) ∧ ((32768 : Int) ≤ x2 → jrI 21 0 [some (.ref a0), some (.int (jI (x1 + x3)))] [] E A (fun v7 A5 => K v7 A5)))) ∧ (x2 = (0 : Int) → K 0 A))) : jrI 20 0 [some (.ref a0), some (.int (jI x1)), some (.int (jI x2)), some (.int (jI x3))] [] E A K := by
  intro hA
  refine zw_go (pc1 := 1) (L1 := [some (.ref a0), some (.int (jI x1)), some (.int (jI x2)), some (.int (jI x3))]) (st1 := [.int (jI x2)]) (σ1 := js E A) zM_X1_blockByte dX1_blockByte_0 rfl rfl rfl rfl ?_
  refine jw_if_ne (tgt := 6) zM_X1_blockByte dX1_blockByte_1 rfl r_x2 (fun q => ?_) (fun q => ?_)
  · replace h := h.1 q
    refine zw_go (pc1 := 7) (L1 := [some (.ref a0), some (.int (jI x1)), some (.int (jI x2)), some (.int (jI x3))]) (st1 := [.int (jI x2)]) (σ1 := js E A) zM_X1_blockByte dX1_blockByte_6 rfl rfl rfl rfl ?_
    refine jw_ldc (w := 32768) zM_X1_blockByte dX1_blockByte_7 zK_1_90 (by decide) ?_
    refine jw_icmp_lt (tgt := 22) zM_X1_blockByte dX1_blockByte_9 rfl r_x2 (show jW 32768 from ⟨by decide, by decide⟩) (fun q => ?_) (fun q => ?_)
    · replace h := h.1 q
      refine zw_go (pc1 := 23) (L1 := [some (.ref a0), some (.int (jI x1)), some (.int (jI x2)), some (.int (jI x3))]) (st1 := [.ref a0]) (σ1 := js E A) zM_X1_blockByte dX1_blockByte_22 rfl rfl rfl rfl ?_
      refine zw_go (pc1 := 24) (L1 := [some (.ref a0), some (.int (jI x1)), some (.int (jI x2)), some (.int (jI x3))]) (st1 := [.int (jI x1), .ref a0]) (σ1 := js E A) zM_X1_blockByte dX1_blockByte_23 rfl rfl rfl rfl ?_
      refine zw_go (pc1 := 25) (L1 := [some (.ref a0), some (.int (jI x1)), some (.int (jI x2)), some (.int (jI x3))]) (st1 := [.int (jI x2), .int (jI x1), .ref a0]) (σ1 := js E A) zM_X1_blockByte dX1_blockByte_24 rfl rfl rfl rfl ?_
      refine zw_go (pc1 := 26) (L1 := [some (.ref a0), some (.int (jI x1)), some (.int (jI x2)), some (.int (jI x3))]) (st1 := [.int (jI x3), .int (jI x2), .int (jI x1), .ref a0]) (σ1 := js E A) zM_X1_blockByte dX1_blockByte_25 rfl rfl rfl rfl ?_
      refine jw_callI (as := [.ref a0, .int (jI x1), .int (jI x2), .int (jI x3)]) (rest := []) zM_X1_blockByte dX1_blockByte_26 (zx_calV zC_1_94) zM_X1_openedByte rfl rfl rfl rfl rfl (j_args0 (jim.K i_a0) rfl) rfl hA h (fun v3 A1 rv4 hA2 h => ?_)
      exact jw_reti zM_X1_blockByte dX1_blockByte_29 rfl rv4 hA2 h
    · replace h := h.2 q
      refine zw_go (pc1 := 13) (L1 := [some (.ref a0), some (.int (jI x1)), some (.int (jI x2)), some (.int (jI x3))]) (st1 := [.ref a0]) (σ1 := js E A) zM_X1_blockByte dX1_blockByte_12 rfl rfl rfl rfl ?_
      refine zw_go (pc1 := 14) (L1 := [some (.ref a0), some (.int (jI x1)), some (.int (jI x2)), some (.int (jI x3))]) (st1 := [.int (jI x1), .ref a0]) (σ1 := js E A) zM_X1_blockByte dX1_blockByte_13 rfl rfl rfl rfl ?_
      refine zw_go (pc1 := 15) (L1 := [some (.ref a0), some (.int (jI x1)), some (.int (jI x2)), some (.int (jI x3))]) (st1 := [.int (jI x3), .int (jI x1), .ref a0]) (σ1 := js E A) zM_X1_blockByte dX1_blockByte_14 rfl rfl rfl rfl ?_
      refine jw_add zM_X1_blockByte dX1_blockByte_15 ?_
      refine jw_callI (as := [.ref a0, .int (jI (x1 + x3))]) (rest := []) zM_X1_blockByte dX1_blockByte_16 (zx_calV zC_1_41) zM_X1_byteAt rfl rfl rfl rfl rfl (j_args0 (jim.K i_a0) rfl) rfl hA h (fun v7 A5 rv8 hA6 h => ?_)
      refine zw_goto (tgt := 29) zM_X1_blockByte dX1_blockByte_19 rfl ?_
      exact jw_reti zM_X1_blockByte dX1_blockByte_29 rfl rv8 hA6 h
  · replace h := h.2 q
    refine jw_iconst (v := 0) zM_X1_blockByte dX1_blockByte_4 rfl ?_
    exact jw_reti zM_X1_blockByte dX1_blockByte_5 rfl (show jW 0 from ⟨by decide, by decide⟩) hA h
set_option maxHeartbeats 4000000 in
set_option maxRecDepth 100000 in
theorem vd_X1_byteAt_0 (a0 : Nat) (i_a0 : jim a0) (x1 : Int) (r_x1 : jW x1) (E : jE) (A : jA) (K : Int → jA → Prop) (h : ((x1 < (0 : Int) → K 0 A) ∧ ((0 : Int) ≤ x1 → ((x1 < (A a0 1) → (0 ≤ x1 ∧ x1 < (jN (a0 + 1) : Int)) ∧ K (A (a0 + 1) x1) A) ∧ ((A a0 1) ≤ x1 → K 0 A))))) : jrI 21 0 [some (.ref a0), some (.int (jI x1))] [] E A K := by
  intro hA
  refine zw_go (pc1 := 1) (L1 := [some (.ref a0), some (.int (jI x1))]) (st1 := [.int (jI x1)]) (σ1 := js E A) zM_X1_byteAt dX1_byteAt_0 rfl rfl rfl rfl ?_
  refine jw_if_lt (tgt := 12) zM_X1_byteAt dX1_byteAt_1 rfl r_x1 (fun q => ?_) (fun q => ?_)
  · replace h := h.1 q
    refine jw_iconst (v := 0) zM_X1_byteAt dX1_byteAt_12 rfl ?_
    refine zw_goto (tgt := 22) zM_X1_byteAt dX1_byteAt_13 rfl ?_
    exact jw_reti zM_X1_byteAt dX1_byteAt_22 rfl (show jW 0 from ⟨by decide, by decide⟩) hA h
  · replace h := h.2 q
    refine zw_go (pc1 := 5) (L1 := [some (.ref a0), some (.int (jI x1))]) (st1 := [.int (jI x1)]) (σ1 := js E A) zM_X1_byteAt dX1_byteAt_4 rfl rfl rfl rfl ?_
    refine zw_go (pc1 := 6) (L1 := [some (.ref a0), some (.int (jI x1))]) (st1 := [.ref a0, .int (jI x1)]) (σ1 := js E A) zM_X1_byteAt dX1_byteAt_5 rfl rfl rfl rfl ?_
    refine jw_getI zM_X1_byteAt dX1_byteAt_6 zF_1_15 rfl rfl (jim.K i_a0) ?_
    refine jw_icmp_lt (tgt := 16) zM_X1_byteAt dX1_byteAt_9 rfl r_x1 (hA a0 1) (fun q => ?_) (fun q => ?_)
    · replace h := h.1 q
      refine zw_go (pc1 := 17) (L1 := [some (.ref a0), some (.int (jI x1))]) (st1 := [.ref a0]) (σ1 := js E A) zM_X1_byteAt dX1_byteAt_16 rfl rfl rfl rfl ?_
      refine jw_getR (a := (a0 + 1)) zM_X1_byteAt dX1_byteAt_17 zF_1_9 rfl (jim.K i_a0) (jim.R i_a0 _) ?_
      refine zw_go (pc1 := 21) (L1 := [some (.ref a0), some (.int (jI x1))]) (st1 := [.int (jI x1), .ref (a0 + 1)]) (σ1 := js E A) zM_X1_byteAt dX1_byteAt_20 rfl rfl rfl rfl ?_
      obtain ⟨hi1, h⟩ := h
      refine jw_iald zM_X1_byteAt dX1_byteAt_21 (jim.B i_a0) rfl hi1 ?_
      exact jw_reti zM_X1_byteAt dX1_byteAt_22 rfl (hA (a0 + 1) x1) hA h
    · replace h := h.2 q
      refine jw_iconst (v := 0) zM_X1_byteAt dX1_byteAt_12 rfl ?_
      refine zw_goto (tgt := 22) zM_X1_byteAt dX1_byteAt_13 rfl ?_
      exact jw_reti zM_X1_byteAt dX1_byteAt_22 rfl (show jW 0 from ⟨by decide, by decide⟩) hA h
set_option maxHeartbeats 4000000 in
set_option maxRecDepth 100000 in
theorem vd_X1_canBeBlock_0 (a0 : Nat) (i_a0 : jim a0) (x1 : Int) (r_x1 : jW x1) (x2 : Int) (r_x2 : jW x2) (x3 : Int) (r_x3 : jW x3) (E : jE) (A : jA) (K : Int → jA → Prop) (h : ((¬ x2 = (0 : Int) → ((x1 < (18 : Int) → K 0 A) ∧ ((18 : Int) ≤ x1 → jrI 45 0 [some (.int (jI x2))] [] E A (fun v3 A1 => jW (x1 + v3) ∧ (((x1 + v3) ≤ (A1 a0 4) → ((x2 < (32768 : Int) → jrI 34 0 [some (.ref a0), some (.int (jI x1)), some (.int (jI x2)), none, none, none, none] [] E A1 (fun v8 A6 => ((¬ v8 = x3 → K 0 A6) ∧ (v8 = x3 → K 1 A6)))) ∧ ((32768 : Int) ≤ x2 → jW (32768 + x3) ∧ ((¬ x2 = (32768 + x3) → K 0 A1) ∧ (x2 = (32768 + x3) → K 1 A1))))) ∧ ((A1 a0 4) < (x1 + v3) → K 0 A1)))))) ∧ (x2 = (0 : Int) → K 1 A))) : jrI 22 0 [some (.ref a0), some (.int (jI x1)), some (.int (jI x2)), some (.int (jI x3))] [] E A K := by
  intro hA
  refine zw_go (pc1 := 1) (L1 := [some (.ref a0), some (.int (jI x1)), some (.int (jI x2)), some (.int (jI x3))]) (st1 := [.int (jI x2)]) (σ1 := js E A) zM_X1_canBeBlock dX1_canBeBlock_0 rfl rfl rfl rfl ?_
  refine jw_if_ne (tgt := 6) zM_X1_canBeBlock dX1_canBeBlock_1 rfl r_x2 (fun q => ?_) (fun q => ?_)
  · replace h := h.1 q
    refine zw_go (pc1 := 7) (L1 := [some (.ref a0), some (.int (jI x1)), some (.int (jI x2)), some (.int (jI x3))]) (st1 := [.int (jI x1)]) (σ1 := js E A) zM_X1_canBeBlock dX1_canBeBlock_6 rfl rfl rfl rfl ?_
    refine jw_bipush (v := 18) zM_X1_canBeBlock dX1_canBeBlock_7 (by decide) ?_
    refine jw_icmp_lt (tgt := 25) zM_X1_canBeBlock dX1_canBeBlock_9 rfl r_x1 (show jW 18 from ⟨by decide, by decide⟩) (fun q => ?_) (fun q => ?_)
    · replace h := h.1 q
      refine jw_iconst (v := 0) zM_X1_canBeBlock dX1_canBeBlock_25 rfl ?_
      exact jw_retz zM_X1_canBeBlock dX1_canBeBlock_26 rfl (Or.inl rfl) hA h
    · replace h := h.2 q
      refine zw_go (pc1 := 13) (L1 := [some (.ref a0), some (.int (jI x1)), some (.int (jI x2)), some (.int (jI x3))]) (st1 := [.int (jI x1)]) (σ1 := js E A) zM_X1_canBeBlock dX1_canBeBlock_12 rfl rfl rfl rfl ?_
      refine zw_go (pc1 := 14) (L1 := [some (.ref a0), some (.int (jI x1)), some (.int (jI x2)), some (.int (jI x3))]) (st1 := [.int (jI x2), .int (jI x1)]) (σ1 := js E A) zM_X1_canBeBlock dX1_canBeBlock_13 rfl rfl rfl rfl ?_
      refine jw_callI (as := [.int (jI x2)]) (rest := [.int (jI x1)]) zM_X1_canBeBlock dX1_canBeBlock_14 (zx_calS zC_1_87) zM_X1_storedBytes rfl rfl rfl rfl rfl rfl rfl hA h (fun v3 A1 rv4 hA2 h => ?_)
      refine jw_add zM_X1_canBeBlock dX1_canBeBlock_17 ?_
      refine zw_go (pc1 := 19) (L1 := [some (.ref a0), some (.int (jI x1)), some (.int (jI x2)), some (.int (jI x3))]) (st1 := [.ref a0, .int (jI (x1 + v3))]) (σ1 := js E A1) zM_X1_canBeBlock dX1_canBeBlock_18 rfl rfl rfl rfl ?_
      refine jw_getI zM_X1_canBeBlock dX1_canBeBlock_19 zF_1_54 rfl rfl (jim.K i_a0) ?_
      obtain ⟨hw5, h⟩ := h
      refine jw_icmp_le (tgt := 27) zM_X1_canBeBlock dX1_canBeBlock_22 rfl hw5 (hA2 a0 4) (fun q => ?_) (fun q => ?_)
      · replace h := h.1 q
        refine zw_go (pc1 := 28) (L1 := [some (.ref a0), some (.int (jI x1)), some (.int (jI x2)), some (.int (jI x3))]) (st1 := [.int (jI x2)]) (σ1 := js E A1) zM_X1_canBeBlock dX1_canBeBlock_27 rfl rfl rfl rfl ?_
        refine jw_ldc (w := 32768) zM_X1_canBeBlock dX1_canBeBlock_28 zK_1_90 (by decide) ?_
        refine jw_icmp_lt (tgt := 49) zM_X1_canBeBlock dX1_canBeBlock_30 rfl r_x2 (show jW 32768 from ⟨by decide, by decide⟩) (fun q => ?_) (fun q => ?_)
        · replace h := h.1 q
          refine zw_go (pc1 := 50) (L1 := [some (.ref a0), some (.int (jI x1)), some (.int (jI x2)), some (.int (jI x3))]) (st1 := [.ref a0]) (σ1 := js E A1) zM_X1_canBeBlock dX1_canBeBlock_49 rfl rfl rfl rfl ?_
          refine zw_go (pc1 := 51) (L1 := [some (.ref a0), some (.int (jI x1)), some (.int (jI x2)), some (.int (jI x3))]) (st1 := [.int (jI x1), .ref a0]) (σ1 := js E A1) zM_X1_canBeBlock dX1_canBeBlock_50 rfl rfl rfl rfl ?_
          refine zw_go (pc1 := 52) (L1 := [some (.ref a0), some (.int (jI x1)), some (.int (jI x2)), some (.int (jI x3))]) (st1 := [.int (jI x2), .int (jI x1), .ref a0]) (σ1 := js E A1) zM_X1_canBeBlock dX1_canBeBlock_51 rfl rfl rfl rfl ?_
          refine jw_callI (as := [.ref a0, .int (jI x1), .int (jI x2)]) (rest := []) zM_X1_canBeBlock dX1_canBeBlock_52 (zx_calV zC_1_91) zM_X1_openedBytes rfl rfl rfl rfl rfl (j_args0 (jim.K i_a0) rfl) rfl hA2 h (fun v8 A6 rv9 hA7 h => ?_)
          refine zw_go (pc1 := 56) (L1 := [some (.ref a0), some (.int (jI x1)), some (.int (jI x2)), some (.int (jI x3))]) (st1 := [.int (jI x3), .int (jI v8)]) (σ1 := js E A6) zM_X1_canBeBlock dX1_canBeBlock_55 rfl rfl rfl rfl ?_
          refine jw_icmp_ne (tgt := 63) zM_X1_canBeBlock dX1_canBeBlock_56 rfl rv9 r_x3 (fun q => ?_) (fun q => ?_)
          · replace h := h.1 q
            refine jw_iconst (v := 0) zM_X1_canBeBlock dX1_canBeBlock_63 rfl ?_
            exact jw_retz zM_X1_canBeBlock dX1_canBeBlock_64 rfl (Or.inl rfl) hA7 h
          · replace h := h.2 q
            refine jw_iconst (v := 1) zM_X1_canBeBlock dX1_canBeBlock_59 rfl ?_
            refine zw_goto (tgt := 64) zM_X1_canBeBlock dX1_canBeBlock_60 rfl ?_
            exact jw_retz zM_X1_canBeBlock dX1_canBeBlock_64 rfl (Or.inr rfl) hA7 h
        · replace h := h.2 q
          refine zw_go (pc1 := 34) (L1 := [some (.ref a0), some (.int (jI x1)), some (.int (jI x2)), some (.int (jI x3))]) (st1 := [.int (jI x2)]) (σ1 := js E A1) zM_X1_canBeBlock dX1_canBeBlock_33 rfl rfl rfl rfl ?_
          refine jw_ldc (w := 32768) zM_X1_canBeBlock dX1_canBeBlock_34 zK_1_90 (by decide) ?_
          refine zw_go (pc1 := 37) (L1 := [some (.ref a0), some (.int (jI x1)), some (.int (jI x2)), some (.int (jI x3))]) (st1 := [.int (jI x3), .int (jI 32768), .int (jI x2)]) (σ1 := js E A1) zM_X1_canBeBlock dX1_canBeBlock_36 rfl rfl rfl rfl ?_
          refine jw_add zM_X1_canBeBlock dX1_canBeBlock_37 ?_
          obtain ⟨hw10, h⟩ := h
          refine jw_icmp_ne (tgt := 45) zM_X1_canBeBlock dX1_canBeBlock_38 rfl r_x2 hw10 (fun q => ?_) (fun q => ?_)
          · replace h := h.1 q
            refine jw_iconst (v := 0) zM_X1_canBeBlock dX1_canBeBlock_45 rfl ?_
            refine zw_goto (tgt := 64) zM_X1_canBeBlock dX1_canBeBlock_46 rfl ?_
            exact jw_retz zM_X1_canBeBlock dX1_canBeBlock_64 rfl (Or.inl rfl) hA2 h
          · replace h := h.2 q
            refine jw_iconst (v := 1) zM_X1_canBeBlock dX1_canBeBlock_41 rfl ?_
            refine zw_goto (tgt := 64) zM_X1_canBeBlock dX1_canBeBlock_42 rfl ?_
            exact jw_retz zM_X1_canBeBlock dX1_canBeBlock_64 rfl (Or.inr rfl) hA2 h
      · replace h := h.2 q
        refine jw_iconst (v := 0) zM_X1_canBeBlock dX1_canBeBlock_25 rfl ?_
        exact jw_retz zM_X1_canBeBlock dX1_canBeBlock_26 rfl (Or.inl rfl) hA2 h
  · replace h := h.2 q
    refine jw_iconst (v := 1) zM_X1_canBeBlock dX1_canBeBlock_4 rfl ?_
    exact jw_retz zM_X1_canBeBlock dX1_canBeBlock_5 rfl (Or.inr rfl) hA h
set_option maxHeartbeats 4000000 in
set_option maxRecDepth 100000 in
theorem vd_X1_copyFrom_0 (a0 : Nat) (i_a0 : jim a0) (a1 : Nat) (i_a1 : jim a1) (E : jE) (A : jA) (K : jA → Prop) (h : ∀ A1 : jA, A1 = jup A a0 1 (min (A a1 1) (jN (a0 + 1) : Int)) → (0 ≤ (0 : Int) ∧ 0 ≤ (0 : Int) ∧ 0 ≤ (A1 a0 1) ∧ 0 + (A1 a0 1) ≤ (jN (a1 + 1) : Int) ∧ 0 + (A1 a0 1) ≤ (jN (a0 + 1) : Int)) ∧ ∀ A5 : jA, A5 = jcp A1 (a1 + 1) (a0 + 1) 0 0 (A1 a0 1) → jrV 41 0 [some (.ref a0)] [] E A5 (fun A8 => K A8)) : jrV 23 0 [some (.ref a0), some (.ref a1)] [] E A K := by
  intro hA
  refine zw_go (pc1 := 1) (L1 := [some (.ref a0), some (.ref a1)]) (st1 := [.ref a0]) (σ1 := js E A) zM_X1_copyFrom dX1_copyFrom_0 rfl rfl rfl rfl ?_
  refine zw_go (pc1 := 2) (L1 := [some (.ref a0), some (.ref a1)]) (st1 := [.ref a1, .ref a0]) (σ1 := js E A) zM_X1_copyFrom dX1_copyFrom_1 rfl rfl rfl rfl ?_
  refine jw_getI zM_X1_copyFrom dX1_copyFrom_2 zF_1_15 rfl rfl (jim.K i_a1) ?_
  refine zw_go (pc1 := 6) (L1 := [some (.ref a0), some (.ref a1)]) (st1 := [.ref a0, .int (jI (A a1 1)), .ref a0]) (σ1 := js E A) zM_X1_copyFrom dX1_copyFrom_5 rfl rfl rfl rfl ?_
  refine jw_getR (a := (a0 + 1)) zM_X1_copyFrom dX1_copyFrom_6 zF_1_9 rfl (jim.K i_a0) (jim.R i_a0 _) ?_
  refine jw_alen zM_X1_copyFrom dX1_copyFrom_9 (jim.B i_a0) rfl ?_
  refine jw_min zM_X1_copyFrom dX1_copyFrom_10 zC_1_26 (by decide) rfl (hA a1 1) (show jW (jN (a0 + 1) : Int) from ⟨by have := jN_le (a0 + 1); omega, by have := jN_le (a0 + 1); omega⟩) ?_
  obtain ⟨A1, e2⟩ : ∃ z9 : jA, z9 = jup A a0 1 (min (A a1 1) (jN (a0 + 1) : Int)) := ⟨_, rfl⟩
  replace h := h A1 e2
  have hA3 : jOK A1 := jOK.up hA (show jW (min (A a1 1) (jN (a0 + 1) : Int)) from ⟨by have := (hA a1 1); have := (show jW (jN (a0 + 1) : Int) from ⟨by have := jN_le (a0 + 1); omega, by have := jN_le (a0 + 1); omega⟩); omega, by have := (hA a1 1); have := (show jW (jN (a0 + 1) : Int) from ⟨by have := jN_le (a0 + 1); omega, by have := jN_le (a0 + 1); omega⟩); omega⟩) e2
  refine jw_putI zM_X1_copyFrom dX1_copyFrom_13 zF_1_15 rfl rfl rfl (jim.K i_a0) e2 ?_
  refine zw_go (pc1 := 17) (L1 := [some (.ref a0), some (.ref a1)]) (st1 := [.ref a1]) (σ1 := js E A1) zM_X1_copyFrom dX1_copyFrom_16 rfl rfl rfl rfl ?_
  refine jw_getR (a := (a1 + 1)) zM_X1_copyFrom dX1_copyFrom_17 zF_1_9 rfl (jim.K i_a1) (jim.R i_a1 _) ?_
  refine jw_iconst (v := 0) zM_X1_copyFrom dX1_copyFrom_20 rfl ?_
  refine zw_go (pc1 := 22) (L1 := [some (.ref a0), some (.ref a1)]) (st1 := [.ref a0, .int (jI 0), .ref (a1 + 1)]) (σ1 := js E A1) zM_X1_copyFrom dX1_copyFrom_21 rfl rfl rfl rfl ?_
  refine jw_getR (a := (a0 + 1)) zM_X1_copyFrom dX1_copyFrom_22 zF_1_9 rfl (jim.K i_a0) (jim.R i_a0 _) ?_
  refine jw_iconst (v := 0) zM_X1_copyFrom dX1_copyFrom_25 rfl ?_
  refine zw_go (pc1 := 27) (L1 := [some (.ref a0), some (.ref a1)]) (st1 := [.ref a0, .int (jI 0), .ref (a0 + 1), .int (jI 0), .ref (a1 + 1)]) (σ1 := js E A1) zM_X1_copyFrom dX1_copyFrom_26 rfl rfl rfl rfl ?_
  refine jw_getI zM_X1_copyFrom dX1_copyFrom_27 zF_1_15 rfl rfl (jim.K i_a0) ?_
  obtain ⟨hc4, h⟩ := h
  obtain ⟨A5, e6⟩ : ∃ z9 : jA, z9 = jcp A1 (a1 + 1) (a0 + 1) 0 0 (A1 a0 1) := ⟨_, rfl⟩
  replace h := h A5 e6
  have hA7 : jOK A5 := jOK.cp hA3 e6
  refine jw_cpy zM_X1_copyFrom dX1_copyFrom_30 zC_1_32 (by decide) rfl (jim.B i_a1) (jim.B i_a0) rfl rfl hc4 e6 ?_
  refine zw_go (pc1 := 34) (L1 := [some (.ref a0), some (.ref a1)]) (st1 := [.ref a0]) (σ1 := js E A5) zM_X1_copyFrom dX1_copyFrom_33 rfl rfl rfl rfl ?_
  refine jw_callV (as := [.ref a0]) (rest := []) zM_X1_copyFrom dX1_copyFrom_34 (zx_calV zC_1_38) zM_X1_readHead rfl rfl rfl rfl rfl (j_args0 (jim.K i_a0) rfl) rfl hA7 h (fun A8 hA9 h => ?_)
  exact jw_retv zM_X1_copyFrom dX1_copyFrom_37 rfl hA9 h
set_option maxHeartbeats 4000000 in
set_option maxRecDepth 100000 in
theorem vd_X1_fileByte_0 (a0 : Nat) (i_a0 : jim a0) (x1 : Int) (r_x1 : jW x1) (x2 : Int) (r_x2 : jW x2) (E : jE) (A : jA) (K : Int → jA → Prop) (h : jrI 42 0 [some (.ref a0), some (.int (jI x1))] [] E A (fun v3 A1 => jrI 50 0 [some (.ref a0), some (.int (jI x2))] [] E A1 (fun v7 A5 => jrI 51 0 [some (.ref a0), some (.int (jI (v3 + 6)))] [] E A5 (fun v11 A9 => jrI 50 0 [some (.ref a0), some (.int (jI v11))] [] E A9 (fun v15 A13 => ((v7 < v15 → jrI 51 0 [some (.ref a0), some (.int (jI (v3 + 8)))] [] E A13 (fun v19 A17 => jrI 24 100 [some (.ref a0), none, none, some (.int (jI v3)), some (.int (jI v7)), some (.int (jI (x2 - (v7 * (A5 a0 2))))), some (.int (jI v19)), some (.int (jI 0))] [] E A17 K)) ∧ (v15 ≤ v7 → jrI 21 0 [some (.ref a0), some (.int (jI (v3 + 10)))] [] E A13 (fun v23 A21 => jrI 48 0 [some (.ref a0), some (.int (jI (v23 - 1)))] [] E A21 (fun v27 A25 => jrI 51 0 [some (.ref a0), some (.int (jI v27))] [] E A25 (fun v31 A29 => jrI 51 0 [some (.ref a0), some (.int (jI (v27 + 2)))] [] E A29 (fun v35 A33 => jrI 21 0 [some (.ref a0), some (.int (jI (v3 + 11)))] [] E A33 (fun v39 A37 => jrI 20 0 [some (.ref a0), some (.int (jI v31)), some (.int (jI v35)), some (.int (jI (v39 + (x2 - (v7 * (A5 a0 2))))))] [] E A37 (fun v43 A41 => K v43 A41))))))))))))) : jrI 24 0 [some (.ref a0), some (.int (jI x1)), some (.int (jI x2)), none, none, none, none, none] [] E A K := by
  intro hA
  refine zw_go (pc1 := 1) (L1 := [some (.ref a0), some (.int (jI x1)), some (.int (jI x2)), none, none, none, none, none]) (st1 := [.ref a0]) (σ1 := js E A) zM_X1_fileByte dX1_fileByte_0 rfl rfl rfl rfl ?_
  refine zw_go (pc1 := 2) (L1 := [some (.ref a0), some (.int (jI x1)), some (.int (jI x2)), none, none, none, none, none]) (st1 := [.int (jI x1), .ref a0]) (σ1 := js E A) zM_X1_fileByte dX1_fileByte_1 rfl rfl rfl rfl ?_
  refine jw_callI (as := [.ref a0, .int (jI x1)]) (rest := []) zM_X1_fileByte dX1_fileByte_2 (zx_calV zC_1_68) zM_X1_rowOf rfl rfl rfl rfl rfl (j_args0 (jim.K i_a0) rfl) rfl hA h (fun v3 A1 rv4 hA2 h => ?_)
  refine zw_go (pc1 := 6) (L1 := [some (.ref a0), some (.int (jI x1)), some (.int (jI x2)), some (.int (jI v3)), none, none, none, none]) (st1 := []) (σ1 := js E A1) zM_X1_fileByte dX1_fileByte_5 rfl rfl rfl rfl ?_
  refine zw_go (pc1 := 7) (L1 := [some (.ref a0), some (.int (jI x1)), some (.int (jI x2)), some (.int (jI v3)), none, none, none, none]) (st1 := [.ref a0]) (σ1 := js E A1) zM_X1_fileByte dX1_fileByte_6 rfl rfl rfl rfl ?_
  refine zw_go (pc1 := 8) (L1 := [some (.ref a0), some (.int (jI x1)), some (.int (jI x2)), some (.int (jI v3)), none, none, none, none]) (st1 := [.int (jI x2), .ref a0]) (σ1 := js E A1) zM_X1_fileByte dX1_fileByte_7 rfl rfl rfl rfl ?_
  refine jw_callI (as := [.ref a0, .int (jI x2)]) (rest := []) zM_X1_fileByte dX1_fileByte_8 (zx_calV zC_1_77) zM_X1_wholeBlocks rfl rfl rfl rfl rfl (j_args0 (jim.K i_a0) rfl) rfl hA2 h (fun v7 A5 rv8 hA6 h => ?_)
  refine zw_go (pc1 := 13) (L1 := [some (.ref a0), some (.int (jI x1)), some (.int (jI x2)), some (.int (jI v3)), some (.int (jI v7)), none, none, none]) (st1 := []) (σ1 := js E A5) zM_X1_fileByte dX1_fileByte_11 rfl rfl rfl rfl ?_
  refine zw_go (pc1 := 14) (L1 := [some (.ref a0), some (.int (jI x1)), some (.int (jI x2)), some (.int (jI v3)), some (.int (jI v7)), none, none, none]) (st1 := [.int (jI x2)]) (σ1 := js E A5) zM_X1_fileByte dX1_fileByte_13 rfl rfl rfl rfl ?_
  refine zw_go (pc1 := 16) (L1 := [some (.ref a0), some (.int (jI x1)), some (.int (jI x2)), some (.int (jI v3)), some (.int (jI v7)), none, none, none]) (st1 := [.int (jI v7), .int (jI x2)]) (σ1 := js E A5) zM_X1_fileByte dX1_fileByte_14 rfl rfl rfl rfl ?_
  refine zw_go (pc1 := 17) (L1 := [some (.ref a0), some (.int (jI x1)), some (.int (jI x2)), some (.int (jI v3)), some (.int (jI v7)), none, none, none]) (st1 := [.ref a0, .int (jI v7), .int (jI x2)]) (σ1 := js E A5) zM_X1_fileByte dX1_fileByte_16 rfl rfl rfl rfl ?_
  refine jw_getI zM_X1_fileByte dX1_fileByte_17 zF_1_45 rfl rfl (jim.K i_a0) ?_
  refine jw_mul zM_X1_fileByte dX1_fileByte_20 ?_
  refine jw_sub zM_X1_fileByte dX1_fileByte_21 ?_
  refine zw_go (pc1 := 24) (L1 := [some (.ref a0), some (.int (jI x1)), some (.int (jI x2)), some (.int (jI v3)), some (.int (jI v7)), some (.int (jI (x2 - (v7 * (A5 a0 2))))), none, none]) (st1 := []) (σ1 := js E A5) zM_X1_fileByte dX1_fileByte_22 rfl rfl rfl rfl ?_
  refine zw_go (pc1 := 26) (L1 := [some (.ref a0), some (.int (jI x1)), some (.int (jI x2)), some (.int (jI v3)), some (.int (jI v7)), some (.int (jI (x2 - (v7 * (A5 a0 2))))), none, none]) (st1 := [.int (jI v7)]) (σ1 := js E A5) zM_X1_fileByte dX1_fileByte_24 rfl rfl rfl rfl ?_
  refine zw_go (pc1 := 27) (L1 := [some (.ref a0), some (.int (jI x1)), some (.int (jI x2)), some (.int (jI v3)), some (.int (jI v7)), some (.int (jI (x2 - (v7 * (A5 a0 2))))), none, none]) (st1 := [.ref a0, .int (jI v7)]) (σ1 := js E A5) zM_X1_fileByte dX1_fileByte_26 rfl rfl rfl rfl ?_
  refine zw_go (pc1 := 28) (L1 := [some (.ref a0), some (.int (jI x1)), some (.int (jI x2)), some (.int (jI v3)), some (.int (jI v7)), some (.int (jI (x2 - (v7 * (A5 a0 2))))), none, none]) (st1 := [.ref a0, .ref a0, .int (jI v7)]) (σ1 := js E A5) zM_X1_fileByte dX1_fileByte_27 rfl rfl rfl rfl ?_
  refine zw_go (pc1 := 29) (L1 := [some (.ref a0), some (.int (jI x1)), some (.int (jI x2)), some (.int (jI v3)), some (.int (jI v7)), some (.int (jI (x2 - (v7 * (A5 a0 2))))), none, none]) (st1 := [.int (jI v3), .ref a0, .ref a0, .int (jI v7)]) (σ1 := js E A5) zM_X1_fileByte dX1_fileByte_28 rfl rfl rfl rfl ?_
  refine jw_bipush (v := 6) zM_X1_fileByte dX1_fileByte_29 (by decide) ?_
  refine jw_add zM_X1_fileByte dX1_fileByte_31 ?_
  refine jw_callI (as := [.ref a0, .int (jI (v3 + 6))]) (rest := [.ref a0, .int (jI v7)]) zM_X1_fileByte dX1_fileByte_32 (zx_calV zC_1_48) zM_X1_wordAt rfl rfl rfl rfl rfl (j_args0 (jim.K i_a0) rfl) rfl hA6 h (fun v11 A9 rv12 hA10 h => ?_)
  refine jw_callI (as := [.ref a0, .int (jI v11)]) (rest := [.int (jI v7)]) zM_X1_fileByte dX1_fileByte_35 (zx_calV zC_1_77) zM_X1_wholeBlocks rfl rfl rfl rfl rfl (j_args0 (jim.K i_a0) rfl) rfl hA10 h (fun v15 A13 rv16 hA14 h => ?_)
  refine jw_icmp_lt (tgt := 87) zM_X1_fileByte dX1_fileByte_38 rfl rv8 rv16 (fun q => ?_) (fun q => ?_)
  · replace h := h.1 q
    refine zw_go (pc1 := 88) (L1 := [some (.ref a0), some (.int (jI x1)), some (.int (jI x2)), some (.int (jI v3)), some (.int (jI v7)), some (.int (jI (x2 - (v7 * (A5 a0 2))))), none, none]) (st1 := [.ref a0]) (σ1 := js E A13) zM_X1_fileByte dX1_fileByte_87 rfl rfl rfl rfl ?_
    refine zw_go (pc1 := 89) (L1 := [some (.ref a0), some (.int (jI x1)), some (.int (jI x2)), some (.int (jI v3)), some (.int (jI v7)), some (.int (jI (x2 - (v7 * (A5 a0 2))))), none, none]) (st1 := [.int (jI v3), .ref a0]) (σ1 := js E A13) zM_X1_fileByte dX1_fileByte_88 rfl rfl rfl rfl ?_
    refine jw_bipush (v := 8) zM_X1_fileByte dX1_fileByte_89 (by decide) ?_
    refine jw_add zM_X1_fileByte dX1_fileByte_91 ?_
    refine jw_callI (as := [.ref a0, .int (jI (v3 + 8))]) (rest := []) zM_X1_fileByte dX1_fileByte_92 (zx_calV zC_1_48) zM_X1_wordAt rfl rfl rfl rfl rfl (j_args0 (jim.K i_a0) rfl) rfl hA14 h (fun v19 A17 rv20 hA18 h => ?_)
    refine zw_go (pc1 := 97) (L1 := [some (.ref a0), some (.int (jI x1)), some (.int (jI x2)), some (.int (jI v3)), some (.int (jI v7)), some (.int (jI (x2 - (v7 * (A5 a0 2))))), some (.int (jI v19)), none]) (st1 := []) (σ1 := js E A17) zM_X1_fileByte dX1_fileByte_95 rfl rfl rfl rfl ?_
    refine jw_iconst (v := 0) zM_X1_fileByte dX1_fileByte_97 rfl ?_
    refine zw_go (pc1 := 100) (L1 := [some (.ref a0), some (.int (jI x1)), some (.int (jI x2)), some (.int (jI v3)), some (.int (jI v7)), some (.int (jI (x2 - (v7 * (A5 a0 2))))), some (.int (jI v19)), some (.int (jI 0))]) (st1 := []) (σ1 := js E A17) zM_X1_fileByte dX1_fileByte_98 rfl rfl rfl rfl ?_
    exact zw_weak2 (h hA18) ⟨rfl, rfl, rfl, rfl, rfl, rfl, trivial⟩
  · replace h := h.2 q
    refine zw_go (pc1 := 42) (L1 := [some (.ref a0), some (.int (jI x1)), some (.int (jI x2)), some (.int (jI v3)), some (.int (jI v7)), some (.int (jI (x2 - (v7 * (A5 a0 2))))), none, none]) (st1 := [.ref a0]) (σ1 := js E A13) zM_X1_fileByte dX1_fileByte_41 rfl rfl rfl rfl ?_
    refine zw_go (pc1 := 43) (L1 := [some (.ref a0), some (.int (jI x1)), some (.int (jI x2)), some (.int (jI v3)), some (.int (jI v7)), some (.int (jI (x2 - (v7 * (A5 a0 2))))), none, none]) (st1 := [.ref a0, .ref a0]) (σ1 := js E A13) zM_X1_fileByte dX1_fileByte_42 rfl rfl rfl rfl ?_
    refine zw_go (pc1 := 44) (L1 := [some (.ref a0), some (.int (jI x1)), some (.int (jI x2)), some (.int (jI v3)), some (.int (jI v7)), some (.int (jI (x2 - (v7 * (A5 a0 2))))), none, none]) (st1 := [.int (jI v3), .ref a0, .ref a0]) (σ1 := js E A13) zM_X1_fileByte dX1_fileByte_43 rfl rfl rfl rfl ?_
    refine jw_bipush (v := 10) zM_X1_fileByte dX1_fileByte_44 (by decide) ?_
    refine jw_add zM_X1_fileByte dX1_fileByte_46 ?_
    refine jw_callI (as := [.ref a0, .int (jI (v3 + 10))]) (rest := [.ref a0]) zM_X1_fileByte dX1_fileByte_47 (zx_calV zC_1_41) zM_X1_byteAt rfl rfl rfl rfl rfl (j_args0 (jim.K i_a0) rfl) rfl hA14 h (fun v23 A21 rv24 hA22 h => ?_)
    refine jw_iconst (v := 1) zM_X1_fileByte dX1_fileByte_50 rfl ?_
    refine jw_sub zM_X1_fileByte dX1_fileByte_51 ?_
    refine jw_callI (as := [.ref a0, .int (jI (v23 - 1))]) (rest := []) zM_X1_fileByte dX1_fileByte_52 (zx_calV zC_1_80) zM_X1_tailRow rfl rfl rfl rfl rfl (j_args0 (jim.K i_a0) rfl) rfl hA22 h (fun v27 A25 rv28 hA26 h => ?_)
    refine zw_go (pc1 := 57) (L1 := [some (.ref a0), some (.int (jI x1)), some (.int (jI x2)), some (.int (jI v3)), some (.int (jI v7)), some (.int (jI (x2 - (v7 * (A5 a0 2))))), some (.int (jI v27)), none]) (st1 := []) (σ1 := js E A25) zM_X1_fileByte dX1_fileByte_55 rfl rfl rfl rfl ?_
    refine zw_go (pc1 := 58) (L1 := [some (.ref a0), some (.int (jI x1)), some (.int (jI x2)), some (.int (jI v3)), some (.int (jI v7)), some (.int (jI (x2 - (v7 * (A5 a0 2))))), some (.int (jI v27)), none]) (st1 := [.ref a0]) (σ1 := js E A25) zM_X1_fileByte dX1_fileByte_57 rfl rfl rfl rfl ?_
    refine zw_go (pc1 := 59) (L1 := [some (.ref a0), some (.int (jI x1)), some (.int (jI x2)), some (.int (jI v3)), some (.int (jI v7)), some (.int (jI (x2 - (v7 * (A5 a0 2))))), some (.int (jI v27)), none]) (st1 := [.ref a0, .ref a0]) (σ1 := js E A25) zM_X1_fileByte dX1_fileByte_58 rfl rfl rfl rfl ?_
    refine zw_go (pc1 := 61) (L1 := [some (.ref a0), some (.int (jI x1)), some (.int (jI x2)), some (.int (jI v3)), some (.int (jI v7)), some (.int (jI (x2 - (v7 * (A5 a0 2))))), some (.int (jI v27)), none]) (st1 := [.int (jI v27), .ref a0, .ref a0]) (σ1 := js E A25) zM_X1_fileByte dX1_fileByte_59 rfl rfl rfl rfl ?_
    refine jw_callI (as := [.ref a0, .int (jI v27)]) (rest := [.ref a0]) zM_X1_fileByte dX1_fileByte_61 (zx_calV zC_1_48) zM_X1_wordAt rfl rfl rfl rfl rfl (j_args0 (jim.K i_a0) rfl) rfl hA26 h (fun v31 A29 rv32 hA30 h => ?_)
    refine zw_go (pc1 := 65) (L1 := [some (.ref a0), some (.int (jI x1)), some (.int (jI x2)), some (.int (jI v3)), some (.int (jI v7)), some (.int (jI (x2 - (v7 * (A5 a0 2))))), some (.int (jI v27)), none]) (st1 := [.ref a0, .int (jI v31), .ref a0]) (σ1 := js E A29) zM_X1_fileByte dX1_fileByte_64 rfl rfl rfl rfl ?_
    refine zw_go (pc1 := 67) (L1 := [some (.ref a0), some (.int (jI x1)), some (.int (jI x2)), some (.int (jI v3)), some (.int (jI v7)), some (.int (jI (x2 - (v7 * (A5 a0 2))))), some (.int (jI v27)), none]) (st1 := [.int (jI v27), .ref a0, .int (jI v31), .ref a0]) (σ1 := js E A29) zM_X1_fileByte dX1_fileByte_65 rfl rfl rfl rfl ?_
    refine jw_iconst (v := 2) zM_X1_fileByte dX1_fileByte_67 rfl ?_
    refine jw_add zM_X1_fileByte dX1_fileByte_68 ?_
    refine jw_callI (as := [.ref a0, .int (jI (v27 + 2))]) (rest := [.int (jI v31), .ref a0]) zM_X1_fileByte dX1_fileByte_69 (zx_calV zC_1_48) zM_X1_wordAt rfl rfl rfl rfl rfl (j_args0 (jim.K i_a0) rfl) rfl hA30 h (fun v35 A33 rv36 hA34 h => ?_)
    refine zw_go (pc1 := 73) (L1 := [some (.ref a0), some (.int (jI x1)), some (.int (jI x2)), some (.int (jI v3)), some (.int (jI v7)), some (.int (jI (x2 - (v7 * (A5 a0 2))))), some (.int (jI v27)), none]) (st1 := [.ref a0, .int (jI v35), .int (jI v31), .ref a0]) (σ1 := js E A33) zM_X1_fileByte dX1_fileByte_72 rfl rfl rfl rfl ?_
    refine zw_go (pc1 := 74) (L1 := [some (.ref a0), some (.int (jI x1)), some (.int (jI x2)), some (.int (jI v3)), some (.int (jI v7)), some (.int (jI (x2 - (v7 * (A5 a0 2))))), some (.int (jI v27)), none]) (st1 := [.int (jI v3), .ref a0, .int (jI v35), .int (jI v31), .ref a0]) (σ1 := js E A33) zM_X1_fileByte dX1_fileByte_73 rfl rfl rfl rfl ?_
    refine jw_bipush (v := 11) zM_X1_fileByte dX1_fileByte_74 (by decide) ?_
    refine jw_add zM_X1_fileByte dX1_fileByte_76 ?_
    refine jw_callI (as := [.ref a0, .int (jI (v3 + 11))]) (rest := [.int (jI v35), .int (jI v31), .ref a0]) zM_X1_fileByte dX1_fileByte_77 (zx_calV zC_1_41) zM_X1_byteAt rfl rfl rfl rfl rfl (j_args0 (jim.K i_a0) rfl) rfl hA34 h (fun v39 A37 rv40 hA38 h => ?_)
    refine zw_go (pc1 := 82) (L1 := [some (.ref a0), some (.int (jI x1)), some (.int (jI x2)), some (.int (jI v3)), some (.int (jI v7)), some (.int (jI (x2 - (v7 * (A5 a0 2))))), some (.int (jI v27)), none]) (st1 := [.int (jI (x2 - (v7 * (A5 a0 2)))), .int (jI v39), .int (jI v35), .int (jI v31), .ref a0]) (σ1 := js E A37) zM_X1_fileByte dX1_fileByte_80 rfl rfl rfl rfl ?_
    refine jw_add zM_X1_fileByte dX1_fileByte_82 ?_
    refine jw_callI (as := [.ref a0, .int (jI v31), .int (jI v35), .int (jI (v39 + (x2 - (v7 * (A5 a0 2)))))]) (rest := []) zM_X1_fileByte dX1_fileByte_83 (zx_calV zC_1_83) zM_X1_blockByte rfl rfl rfl rfl rfl (j_args0 (jim.K i_a0) rfl) rfl hA38 h (fun v43 A41 rv44 hA42 h => ?_)
    exact jw_reti zM_X1_fileByte dX1_fileByte_86 rfl rv44 hA42 h
set_option maxHeartbeats 4000000 in
set_option maxRecDepth 100000 in
theorem vd_X1_fileByte_100 (a0 : Nat) (i_a0 : jim a0) (x3 : Int) (r_x3 : jW x3) (x4 : Int) (r_x4 : jW x4) (x5 : Int) (r_x5 : jW x5) (x6 : Int) (r_x6 : jW x6) (x7 : Int) (r_x7 : jW x7) (E : jE) (A : jA) (K : Int → jA → Prop) (h : ((x4 ≤ x7 → jrI 51 0 [some (.ref a0), some (.int (jI ((x3 + 12) + (2 * x4))))] [] E A (fun v3 A1 => jrI 20 0 [some (.ref a0), some (.int (jI x6)), some (.int (jI v3)), some (.int (jI x5))] [] E A1 (fun v7 A5 => K v7 A5))) ∧ (x7 < x4 → jrI 51 0 [some (.ref a0), some (.int (jI ((x3 + 12) + (2 * x7))))] [] E A (fun v11 A9 => jrI 45 0 [some (.int (jI v11))] [] E A9 (fun v15 A13 => jrI 24 100 [some (.ref a0), none, none, some (.int (jI x3)), some (.int (jI x4)), some (.int (jI x5)), some (.int (jI (x6 + v15))), some (.int (jI (x7 + 1)))] [] E A13 K))))) : jrI 24 100 [some (.ref a0), none, none, some (.int (jI x3)), some (.int (jI x4)), some (.int (jI x5)), some (.int (jI x6)), some (.int (jI x7))] [] E A K := by
  intro hA
  refine zw_go (pc1 := 102) (L1 := [some (.ref a0), none, none, some (.int (jI x3)), some (.int (jI x4)), some (.int (jI x5)), some (.int (jI x6)), some (.int (jI x7))]) (st1 := [.int (jI x7)]) (σ1 := js E A) zM_X1_fileByte dX1_fileByte_100 rfl rfl rfl rfl ?_
  refine zw_go (pc1 := 104) (L1 := [some (.ref a0), none, none, some (.int (jI x3)), some (.int (jI x4)), some (.int (jI x5)), some (.int (jI x6)), some (.int (jI x7))]) (st1 := [.int (jI x4), .int (jI x7)]) (σ1 := js E A) zM_X1_fileByte dX1_fileByte_102 rfl rfl rfl rfl ?_
  refine jw_icmp_ge (tgt := 134) zM_X1_fileByte dX1_fileByte_104 rfl r_x7 r_x4 (fun q => ?_) (fun q => ?_)
  · replace h := h.1 q
    refine zw_go (pc1 := 135) (L1 := [some (.ref a0), none, none, some (.int (jI x3)), some (.int (jI x4)), some (.int (jI x5)), some (.int (jI x6)), some (.int (jI x7))]) (st1 := [.ref a0]) (σ1 := js E A) zM_X1_fileByte dX1_fileByte_134 rfl rfl rfl rfl ?_
    refine zw_go (pc1 := 137) (L1 := [some (.ref a0), none, none, some (.int (jI x3)), some (.int (jI x4)), some (.int (jI x5)), some (.int (jI x6)), some (.int (jI x7))]) (st1 := [.int (jI x6), .ref a0]) (σ1 := js E A) zM_X1_fileByte dX1_fileByte_135 rfl rfl rfl rfl ?_
    refine zw_go (pc1 := 138) (L1 := [some (.ref a0), none, none, some (.int (jI x3)), some (.int (jI x4)), some (.int (jI x5)), some (.int (jI x6)), some (.int (jI x7))]) (st1 := [.ref a0, .int (jI x6), .ref a0]) (σ1 := js E A) zM_X1_fileByte dX1_fileByte_137 rfl rfl rfl rfl ?_
    refine zw_go (pc1 := 139) (L1 := [some (.ref a0), none, none, some (.int (jI x3)), some (.int (jI x4)), some (.int (jI x5)), some (.int (jI x6)), some (.int (jI x7))]) (st1 := [.int (jI x3), .ref a0, .int (jI x6), .ref a0]) (σ1 := js E A) zM_X1_fileByte dX1_fileByte_138 rfl rfl rfl rfl ?_
    refine jw_bipush (v := 12) zM_X1_fileByte dX1_fileByte_139 (by decide) ?_
    refine jw_add zM_X1_fileByte dX1_fileByte_141 ?_
    refine jw_iconst (v := 2) zM_X1_fileByte dX1_fileByte_142 rfl ?_
    refine zw_go (pc1 := 145) (L1 := [some (.ref a0), none, none, some (.int (jI x3)), some (.int (jI x4)), some (.int (jI x5)), some (.int (jI x6)), some (.int (jI x7))]) (st1 := [.int (jI x4), .int (jI 2), .int (jI (x3 + 12)), .ref a0, .int (jI x6), .ref a0]) (σ1 := js E A) zM_X1_fileByte dX1_fileByte_143 rfl rfl rfl rfl ?_
    refine jw_mul zM_X1_fileByte dX1_fileByte_145 ?_
    refine jw_add zM_X1_fileByte dX1_fileByte_146 ?_
    refine jw_callI (as := [.ref a0, .int (jI ((x3 + 12) + (2 * x4)))]) (rest := [.int (jI x6), .ref a0]) zM_X1_fileByte dX1_fileByte_147 (zx_calV zC_1_48) zM_X1_wordAt rfl rfl rfl rfl rfl (j_args0 (jim.K i_a0) rfl) rfl hA h (fun v3 A1 rv4 hA2 h => ?_)
    refine zw_go (pc1 := 152) (L1 := [some (.ref a0), none, none, some (.int (jI x3)), some (.int (jI x4)), some (.int (jI x5)), some (.int (jI x6)), some (.int (jI x7))]) (st1 := [.int (jI x5), .int (jI v3), .int (jI x6), .ref a0]) (σ1 := js E A1) zM_X1_fileByte dX1_fileByte_150 rfl rfl rfl rfl ?_
    refine jw_callI (as := [.ref a0, .int (jI x6), .int (jI v3), .int (jI x5)]) (rest := []) zM_X1_fileByte dX1_fileByte_152 (zx_calV zC_1_83) zM_X1_blockByte rfl rfl rfl rfl rfl (j_args0 (jim.K i_a0) rfl) rfl hA2 h (fun v7 A5 rv8 hA6 h => ?_)
    exact jw_reti zM_X1_fileByte dX1_fileByte_155 rfl rv8 hA6 h
  · replace h := h.2 q
    refine zw_go (pc1 := 109) (L1 := [some (.ref a0), none, none, some (.int (jI x3)), some (.int (jI x4)), some (.int (jI x5)), some (.int (jI x6)), some (.int (jI x7))]) (st1 := [.int (jI x6)]) (σ1 := js E A) zM_X1_fileByte dX1_fileByte_107 rfl rfl rfl rfl ?_
    refine zw_go (pc1 := 110) (L1 := [some (.ref a0), none, none, some (.int (jI x3)), some (.int (jI x4)), some (.int (jI x5)), some (.int (jI x6)), some (.int (jI x7))]) (st1 := [.ref a0, .int (jI x6)]) (σ1 := js E A) zM_X1_fileByte dX1_fileByte_109 rfl rfl rfl rfl ?_
    refine zw_go (pc1 := 111) (L1 := [some (.ref a0), none, none, some (.int (jI x3)), some (.int (jI x4)), some (.int (jI x5)), some (.int (jI x6)), some (.int (jI x7))]) (st1 := [.int (jI x3), .ref a0, .int (jI x6)]) (σ1 := js E A) zM_X1_fileByte dX1_fileByte_110 rfl rfl rfl rfl ?_
    refine jw_bipush (v := 12) zM_X1_fileByte dX1_fileByte_111 (by decide) ?_
    refine jw_add zM_X1_fileByte dX1_fileByte_113 ?_
    refine jw_iconst (v := 2) zM_X1_fileByte dX1_fileByte_114 rfl ?_
    refine zw_go (pc1 := 117) (L1 := [some (.ref a0), none, none, some (.int (jI x3)), some (.int (jI x4)), some (.int (jI x5)), some (.int (jI x6)), some (.int (jI x7))]) (st1 := [.int (jI x7), .int (jI 2), .int (jI (x3 + 12)), .ref a0, .int (jI x6)]) (σ1 := js E A) zM_X1_fileByte dX1_fileByte_115 rfl rfl rfl rfl ?_
    refine jw_mul zM_X1_fileByte dX1_fileByte_117 ?_
    refine jw_add zM_X1_fileByte dX1_fileByte_118 ?_
    refine jw_callI (as := [.ref a0, .int (jI ((x3 + 12) + (2 * x7)))]) (rest := [.int (jI x6)]) zM_X1_fileByte dX1_fileByte_119 (zx_calV zC_1_48) zM_X1_wordAt rfl rfl rfl rfl rfl (j_args0 (jim.K i_a0) rfl) rfl hA h (fun v11 A9 rv12 hA10 h => ?_)
    refine jw_callI (as := [.int (jI v11)]) (rest := [.int (jI x6)]) zM_X1_fileByte dX1_fileByte_122 (zx_calS zC_1_87) zM_X1_storedBytes rfl rfl rfl rfl rfl rfl rfl hA10 h (fun v15 A13 rv16 hA14 h => ?_)
    refine jw_add zM_X1_fileByte dX1_fileByte_125 ?_
    refine zw_go (pc1 := 128) (L1 := [some (.ref a0), none, none, some (.int (jI x3)), some (.int (jI x4)), some (.int (jI x5)), some (.int (jI (x6 + v15))), some (.int (jI x7))]) (st1 := []) (σ1 := js E A13) zM_X1_fileByte dX1_fileByte_126 rfl rfl rfl rfl ?_
    refine jw_iinc (x := x7) (L1 := [some (.ref a0), none, none, some (.int (jI x3)), some (.int (jI x4)), some (.int (jI x5)), some (.int (jI (x6 + v15))), some (.int (jI (x7 + 1)))]) zM_X1_fileByte dX1_fileByte_128 rfl (show 7 < 8 by decide) rfl ?_
    refine zw_goto (tgt := 100) zM_X1_fileByte dX1_fileByte_131 rfl ?_
    exact zw_weak2 (h hA14) ⟨rfl, rfl, rfl, rfl, rfl, rfl, trivial⟩
set_option maxHeartbeats 4000000 in
set_option maxRecDepth 100000 in
theorem vd_X1_firstNamePlace_0 (a0 : Nat) (i_a0 : jim a0) (x1 : Int) (r_x1 : jW x1) (E : jE) (A : jA) (K : Int → jA → Prop) (h : jrI 42 0 [some (.ref a0), some (.int (jI x1))] [] E A (fun v3 A1 => jrI 51 0 [some (.ref a0), some (.int (jI (v3 + 6)))] [] E A1 (fun v7 A5 => jW ((A a0 5) + v7) ∧ K ((A a0 5) + v7) A5))) : jrI 25 0 [some (.ref a0), some (.int (jI x1))] [] E A K := by
  intro hA
  refine zw_go (pc1 := 1) (L1 := [some (.ref a0), some (.int (jI x1))]) (st1 := [.ref a0]) (σ1 := js E A) zM_X1_firstNamePlace dX1_firstNamePlace_0 rfl rfl rfl rfl ?_
  refine jw_getI zM_X1_firstNamePlace dX1_firstNamePlace_1 zF_1_57 rfl rfl (jim.K i_a0) ?_
  refine zw_go (pc1 := 5) (L1 := [some (.ref a0), some (.int (jI x1))]) (st1 := [.ref a0, .int (jI (A a0 5))]) (σ1 := js E A) zM_X1_firstNamePlace dX1_firstNamePlace_4 rfl rfl rfl rfl ?_
  refine zw_go (pc1 := 6) (L1 := [some (.ref a0), some (.int (jI x1))]) (st1 := [.ref a0, .ref a0, .int (jI (A a0 5))]) (σ1 := js E A) zM_X1_firstNamePlace dX1_firstNamePlace_5 rfl rfl rfl rfl ?_
  refine zw_go (pc1 := 7) (L1 := [some (.ref a0), some (.int (jI x1))]) (st1 := [.int (jI x1), .ref a0, .ref a0, .int (jI (A a0 5))]) (σ1 := js E A) zM_X1_firstNamePlace dX1_firstNamePlace_6 rfl rfl rfl rfl ?_
  refine jw_callI (as := [.ref a0, .int (jI x1)]) (rest := [.ref a0, .int (jI (A a0 5))]) zM_X1_firstNamePlace dX1_firstNamePlace_7 (zx_calV zC_1_68) zM_X1_rowOf rfl rfl rfl rfl rfl (j_args0 (jim.K i_a0) rfl) rfl hA h (fun v3 A1 rv4 hA2 h => ?_)
  refine jw_bipush (v := 6) zM_X1_firstNamePlace dX1_firstNamePlace_10 (by decide) ?_
  refine jw_add zM_X1_firstNamePlace dX1_firstNamePlace_12 ?_
  refine jw_callI (as := [.ref a0, .int (jI (v3 + 6))]) (rest := [.int (jI (A a0 5))]) zM_X1_firstNamePlace dX1_firstNamePlace_13 (zx_calV zC_1_48) zM_X1_wordAt rfl rfl rfl rfl rfl (j_args0 (jim.K i_a0) rfl) rfl hA2 h (fun v7 A5 rv8 hA6 h => ?_)
  refine jw_add zM_X1_firstNamePlace dX1_firstNamePlace_16 ?_
  obtain ⟨hw9, h⟩ := h
  exact jw_reti zM_X1_firstNamePlace dX1_firstNamePlace_17 rfl hw9 hA6 h
set_option maxHeartbeats 4000000 in
set_option maxRecDepth 100000 in
theorem vd_X1_hasBytesOf_0 (a0 : Nat) (i_a0 : jim a0) (a1 : Nat) (i_a1 : jim a1) (E : jE) (A : jA) (K : Int → jA → Prop) (h : (((A a0 1) = (A a1 1) → jrI 26 15 [some (.ref a0), some (.ref a1), some (.int (jI 0))] [] E A K) ∧ (¬ (A a0 1) = (A a1 1) → K 0 A))) : jrI 26 0 [some (.ref a0), some (.ref a1), none] [] E A K := by
  intro hA
  refine zw_go (pc1 := 1) (L1 := [some (.ref a0), some (.ref a1), none]) (st1 := [.ref a0]) (σ1 := js E A) zM_X1_hasBytesOf dX1_hasBytesOf_0 rfl rfl rfl rfl ?_
  refine jw_getI zM_X1_hasBytesOf dX1_hasBytesOf_1 zF_1_15 rfl rfl (jim.K i_a0) ?_
  refine zw_go (pc1 := 5) (L1 := [some (.ref a0), some (.ref a1), none]) (st1 := [.ref a1, .int (jI (A a0 1))]) (σ1 := js E A) zM_X1_hasBytesOf dX1_hasBytesOf_4 rfl rfl rfl rfl ?_
  refine jw_getI zM_X1_hasBytesOf dX1_hasBytesOf_5 zF_1_15 rfl rfl (jim.K i_a1) ?_
  refine jw_icmp_eq (tgt := 13) zM_X1_hasBytesOf dX1_hasBytesOf_8 rfl (hA a0 1) (hA a1 1) (fun q => ?_) (fun q => ?_)
  · replace h := h.1 q
    refine jw_iconst (v := 0) zM_X1_hasBytesOf dX1_hasBytesOf_13 rfl ?_
    refine zw_go (pc1 := 15) (L1 := [some (.ref a0), some (.ref a1), some (.int (jI 0))]) (st1 := []) (σ1 := js E A) zM_X1_hasBytesOf dX1_hasBytesOf_14 rfl rfl rfl rfl ?_
    exact zw_weak2 (h hA) ⟨rfl, rfl, rfl, trivial⟩
  · replace h := h.2 q
    refine jw_iconst (v := 0) zM_X1_hasBytesOf dX1_hasBytesOf_11 rfl ?_
    exact jw_retz zM_X1_hasBytesOf dX1_hasBytesOf_12 rfl (Or.inl rfl) hA h
set_option maxHeartbeats 4000000 in
set_option maxRecDepth 100000 in
theorem vd_X1_hasBytesOf_15 (a0 : Nat) (i_a0 : jim a0) (a1 : Nat) (i_a1 : jim a1) (x2 : Int) (r_x2 : jW x2) (E : jE) (A : jA) (K : Int → jA → Prop) (h : (((A a0 1) ≤ x2 → K 1 A) ∧ (x2 < (A a0 1) → (0 ≤ x2 ∧ x2 < (jN (a0 + 1) : Int)) ∧ (0 ≤ x2 ∧ x2 < (jN (a1 + 1) : Int)) ∧ (((A (a0 + 1) x2) = (A (a1 + 1) x2) → jrI 26 15 [some (.ref a0), some (.ref a1), some (.int (jI (x2 + 1)))] [] E A K) ∧ (¬ (A (a0 + 1) x2) = (A (a1 + 1) x2) → K 0 A))))) : jrI 26 15 [some (.ref a0), some (.ref a1), some (.int (jI x2))] [] E A K := by
  intro hA
  refine zw_go (pc1 := 16) (L1 := [some (.ref a0), some (.ref a1), some (.int (jI x2))]) (st1 := [.int (jI x2)]) (σ1 := js E A) zM_X1_hasBytesOf dX1_hasBytesOf_15 rfl rfl rfl rfl ?_
  refine zw_go (pc1 := 17) (L1 := [some (.ref a0), some (.ref a1), some (.int (jI x2))]) (st1 := [.ref a0, .int (jI x2)]) (σ1 := js E A) zM_X1_hasBytesOf dX1_hasBytesOf_16 rfl rfl rfl rfl ?_
  refine jw_getI zM_X1_hasBytesOf dX1_hasBytesOf_17 zF_1_15 rfl rfl (jim.K i_a0) ?_
  refine jw_icmp_ge (tgt := 46) zM_X1_hasBytesOf dX1_hasBytesOf_20 rfl r_x2 (hA a0 1) (fun q => ?_) (fun q => ?_)
  · replace h := h.1 q
    refine jw_iconst (v := 1) zM_X1_hasBytesOf dX1_hasBytesOf_46 rfl ?_
    exact jw_retz zM_X1_hasBytesOf dX1_hasBytesOf_47 rfl (Or.inr rfl) hA h
  · replace h := h.2 q
    refine zw_go (pc1 := 24) (L1 := [some (.ref a0), some (.ref a1), some (.int (jI x2))]) (st1 := [.ref a0]) (σ1 := js E A) zM_X1_hasBytesOf dX1_hasBytesOf_23 rfl rfl rfl rfl ?_
    refine jw_getR (a := (a0 + 1)) zM_X1_hasBytesOf dX1_hasBytesOf_24 zF_1_9 rfl (jim.K i_a0) (jim.R i_a0 _) ?_
    refine zw_go (pc1 := 28) (L1 := [some (.ref a0), some (.ref a1), some (.int (jI x2))]) (st1 := [.int (jI x2), .ref (a0 + 1)]) (σ1 := js E A) zM_X1_hasBytesOf dX1_hasBytesOf_27 rfl rfl rfl rfl ?_
    obtain ⟨hi1, h⟩ := h
    refine jw_iald zM_X1_hasBytesOf dX1_hasBytesOf_28 (jim.B i_a0) rfl hi1 ?_
    refine zw_go (pc1 := 30) (L1 := [some (.ref a0), some (.ref a1), some (.int (jI x2))]) (st1 := [.ref a1, .int (jI (A (a0 + 1) x2))]) (σ1 := js E A) zM_X1_hasBytesOf dX1_hasBytesOf_29 rfl rfl rfl rfl ?_
    refine jw_getR (a := (a1 + 1)) zM_X1_hasBytesOf dX1_hasBytesOf_30 zF_1_9 rfl (jim.K i_a1) (jim.R i_a1 _) ?_
    refine zw_go (pc1 := 34) (L1 := [some (.ref a0), some (.ref a1), some (.int (jI x2))]) (st1 := [.int (jI x2), .ref (a1 + 1), .int (jI (A (a0 + 1) x2))]) (σ1 := js E A) zM_X1_hasBytesOf dX1_hasBytesOf_33 rfl rfl rfl rfl ?_
    obtain ⟨hi2, h⟩ := h
    refine jw_iald zM_X1_hasBytesOf dX1_hasBytesOf_34 (jim.B i_a1) rfl hi2 ?_
    refine jw_icmp_eq (tgt := 40) zM_X1_hasBytesOf dX1_hasBytesOf_35 rfl (hA (a0 + 1) x2) (hA (a1 + 1) x2) (fun q => ?_) (fun q => ?_)
    · replace h := h.1 q
      refine jw_iinc (x := x2) (L1 := [some (.ref a0), some (.ref a1), some (.int (jI (x2 + 1)))]) zM_X1_hasBytesOf dX1_hasBytesOf_40 rfl (show 2 < 3 by decide) rfl ?_
      refine zw_goto (tgt := 15) zM_X1_hasBytesOf dX1_hasBytesOf_43 rfl ?_
      exact zw_weak2 (h hA) ⟨rfl, rfl, rfl, trivial⟩
    · replace h := h.2 q
      refine jw_iconst (v := 0) zM_X1_hasBytesOf dX1_hasBytesOf_38 rfl ?_
      exact jw_retz zM_X1_hasBytesOf dX1_hasBytesOf_39 rfl (Or.inl rfl) hA h
set_option maxHeartbeats 4000000 in
set_option maxRecDepth 100000 in
theorem vd_X1_hasNumber_0 (a0 : Nat) (i_a0 : jim a0) (x1 : Int) (r_x1 : jW x1) (E : jE) (A : jA) (K : Int → jA → Prop) (h : ((x1 < (1 : Int) → K 0 A) ∧ ((1 : Int) ≤ x1 → (((A a0 3) < x1 → K 0 A) ∧ (x1 ≤ (A a0 3) → K 1 A))))) : jrI 27 0 [some (.ref a0), some (.int (jI x1))] [] E A K := by
  intro hA
  refine zw_go (pc1 := 1) (L1 := [some (.ref a0), some (.int (jI x1))]) (st1 := [.int (jI x1)]) (σ1 := js E A) zM_X1_hasNumber dX1_hasNumber_0 rfl rfl rfl rfl ?_
  refine jw_iconst (v := 1) zM_X1_hasNumber dX1_hasNumber_1 rfl ?_
  refine jw_icmp_lt (tgt := 17) zM_X1_hasNumber dX1_hasNumber_2 rfl r_x1 (show jW 1 from ⟨by decide, by decide⟩) (fun q => ?_) (fun q => ?_)
  · replace h := h.1 q
    refine jw_iconst (v := 0) zM_X1_hasNumber dX1_hasNumber_17 rfl ?_
    exact jw_retz zM_X1_hasNumber dX1_hasNumber_18 rfl (Or.inl rfl) hA h
  · replace h := h.2 q
    refine zw_go (pc1 := 6) (L1 := [some (.ref a0), some (.int (jI x1))]) (st1 := [.int (jI x1)]) (σ1 := js E A) zM_X1_hasNumber dX1_hasNumber_5 rfl rfl rfl rfl ?_
    refine zw_go (pc1 := 7) (L1 := [some (.ref a0), some (.int (jI x1))]) (st1 := [.ref a0, .int (jI x1)]) (σ1 := js E A) zM_X1_hasNumber dX1_hasNumber_6 rfl rfl rfl rfl ?_
    refine jw_getI zM_X1_hasNumber dX1_hasNumber_7 zF_1_51 rfl rfl (jim.K i_a0) ?_
    refine jw_icmp_gt (tgt := 17) zM_X1_hasNumber dX1_hasNumber_10 rfl r_x1 (hA a0 3) (fun q => ?_) (fun q => ?_)
    · replace h := h.1 q
      refine jw_iconst (v := 0) zM_X1_hasNumber dX1_hasNumber_17 rfl ?_
      exact jw_retz zM_X1_hasNumber dX1_hasNumber_18 rfl (Or.inl rfl) hA h
    · replace h := h.2 q
      refine jw_iconst (v := 1) zM_X1_hasNumber dX1_hasNumber_13 rfl ?_
      refine zw_goto (tgt := 18) zM_X1_hasNumber dX1_hasNumber_14 rfl ?_
      exact jw_retz zM_X1_hasNumber dX1_hasNumber_18 rfl (Or.inr rfl) hA h
set_option maxHeartbeats 4000000 in
set_option maxRecDepth 100000 in
theorem vd_X1_homeOf_0 (a0 : Nat) (i_a0 : jim a0) (x1 : Int) (r_x1 : jW x1) (E : jE) (A : jA) (K : Int → jA → Prop) (h : jrI 42 0 [some (.ref a0), some (.int (jI x1))] [] E A (fun v3 A1 => jrI 51 0 [some (.ref a0), some (.int (jI (v3 + 10)))] [] E A1 (fun v7 A5 => K v7 A5))) : jrI 28 0 [some (.ref a0), some (.int (jI x1))] [] E A K := by
  intro hA
  refine zw_go (pc1 := 1) (L1 := [some (.ref a0), some (.int (jI x1))]) (st1 := [.ref a0]) (σ1 := js E A) zM_X1_homeOf dX1_homeOf_0 rfl rfl rfl rfl ?_
  refine zw_go (pc1 := 2) (L1 := [some (.ref a0), some (.int (jI x1))]) (st1 := [.ref a0, .ref a0]) (σ1 := js E A) zM_X1_homeOf dX1_homeOf_1 rfl rfl rfl rfl ?_
  refine zw_go (pc1 := 3) (L1 := [some (.ref a0), some (.int (jI x1))]) (st1 := [.int (jI x1), .ref a0, .ref a0]) (σ1 := js E A) zM_X1_homeOf dX1_homeOf_2 rfl rfl rfl rfl ?_
  refine jw_callI (as := [.ref a0, .int (jI x1)]) (rest := [.ref a0]) zM_X1_homeOf dX1_homeOf_3 (zx_calV zC_1_68) zM_X1_rowOf rfl rfl rfl rfl rfl (j_args0 (jim.K i_a0) rfl) rfl hA h (fun v3 A1 rv4 hA2 h => ?_)
  refine jw_bipush (v := 10) zM_X1_homeOf dX1_homeOf_6 (by decide) ?_
  refine jw_add zM_X1_homeOf dX1_homeOf_8 ?_
  refine jw_callI (as := [.ref a0, .int (jI (v3 + 10))]) (rest := []) zM_X1_homeOf dX1_homeOf_9 (zx_calV zC_1_48) zM_X1_wordAt rfl rfl rfl rfl rfl (j_args0 (jim.K i_a0) rfl) rfl hA2 h (fun v7 A5 rv8 hA6 h => ?_)
  exact jw_reti zM_X1_homeOf dX1_homeOf_12 rfl rv8 hA6 h
set_option maxHeartbeats 4000000 in
set_option maxRecDepth 100000 in
theorem vd_X1_kindOf_0 (a0 : Nat) (i_a0 : jim a0) (x1 : Int) (r_x1 : jW x1) (E : jE) (A : jA) (K : Int → jA → Prop) (h : jrI 42 0 [some (.ref a0), some (.int (jI x1))] [] E A (fun v3 A1 => jrI 21 0 [some (.ref a0), some (.int (jI v3))] [] E A1 (fun v7 A5 => K v7 A5))) : jrI 30 0 [some (.ref a0), some (.int (jI x1))] [] E A K := by
  intro hA
  refine zw_go (pc1 := 1) (L1 := [some (.ref a0), some (.int (jI x1))]) (st1 := [.ref a0]) (σ1 := js E A) zM_X1_kindOf dX1_kindOf_0 rfl rfl rfl rfl ?_
  refine zw_go (pc1 := 2) (L1 := [some (.ref a0), some (.int (jI x1))]) (st1 := [.ref a0, .ref a0]) (σ1 := js E A) zM_X1_kindOf dX1_kindOf_1 rfl rfl rfl rfl ?_
  refine zw_go (pc1 := 3) (L1 := [some (.ref a0), some (.int (jI x1))]) (st1 := [.int (jI x1), .ref a0, .ref a0]) (σ1 := js E A) zM_X1_kindOf dX1_kindOf_2 rfl rfl rfl rfl ?_
  refine jw_callI (as := [.ref a0, .int (jI x1)]) (rest := [.ref a0]) zM_X1_kindOf dX1_kindOf_3 (zx_calV zC_1_68) zM_X1_rowOf rfl rfl rfl rfl rfl (j_args0 (jim.K i_a0) rfl) rfl hA h (fun v3 A1 rv4 hA2 h => ?_)
  refine jw_callI (as := [.ref a0, .int (jI v3)]) (rest := []) zM_X1_kindOf dX1_kindOf_6 (zx_calV zC_1_41) zM_X1_byteAt rfl rfl rfl rfl rfl (j_args0 (jim.K i_a0) rfl) rfl hA2 h (fun v7 A5 rv8 hA6 h => ?_)
  exact jw_reti zM_X1_kindOf dX1_kindOf_9 rfl rv8 hA6 h
set_option maxHeartbeats 4000000 in
set_option maxRecDepth 100000 in
theorem vd_X1_modeOf_0 (a0 : Nat) (i_a0 : jim a0) (x1 : Int) (r_x1 : jW x1) (E : jE) (A : jA) (K : Int → jA → Prop) (h : jrI 42 0 [some (.ref a0), some (.int (jI x1))] [] E A (fun v3 A1 => jrI 51 0 [some (.ref a0), some (.int (jI (v3 + 1)))] [] E A1 (fun v7 A5 => K v7 A5))) : jrI 31 0 [some (.ref a0), some (.int (jI x1))] [] E A K := by
  intro hA
  refine zw_go (pc1 := 1) (L1 := [some (.ref a0), some (.int (jI x1))]) (st1 := [.ref a0]) (σ1 := js E A) zM_X1_modeOf dX1_modeOf_0 rfl rfl rfl rfl ?_
  refine zw_go (pc1 := 2) (L1 := [some (.ref a0), some (.int (jI x1))]) (st1 := [.ref a0, .ref a0]) (σ1 := js E A) zM_X1_modeOf dX1_modeOf_1 rfl rfl rfl rfl ?_
  refine zw_go (pc1 := 3) (L1 := [some (.ref a0), some (.int (jI x1))]) (st1 := [.int (jI x1), .ref a0, .ref a0]) (σ1 := js E A) zM_X1_modeOf dX1_modeOf_2 rfl rfl rfl rfl ?_
  refine jw_callI (as := [.ref a0, .int (jI x1)]) (rest := [.ref a0]) zM_X1_modeOf dX1_modeOf_3 (zx_calV zC_1_68) zM_X1_rowOf rfl rfl rfl rfl rfl (j_args0 (jim.K i_a0) rfl) rfl hA h (fun v3 A1 rv4 hA2 h => ?_)
  refine jw_iconst (v := 1) zM_X1_modeOf dX1_modeOf_6 rfl ?_
  refine jw_add zM_X1_modeOf dX1_modeOf_7 ?_
  refine jw_callI (as := [.ref a0, .int (jI (v3 + 1))]) (rest := []) zM_X1_modeOf dX1_modeOf_8 (zx_calV zC_1_48) zM_X1_wordAt rfl rfl rfl rfl rfl (j_args0 (jim.K i_a0) rfl) rfl hA2 h (fun v7 A5 rv8 hA6 h => ?_)
  exact jw_reti zM_X1_modeOf dX1_modeOf_11 rfl rv8 hA6 h
set_option maxHeartbeats 4000000 in
set_option maxRecDepth 100000 in
theorem vd_X1_namesOf_0 (a0 : Nat) (i_a0 : jim a0) (x1 : Int) (r_x1 : jW x1) (E : jE) (A : jA) (K : Int → jA → Prop) (h : jrI 42 0 [some (.ref a0), some (.int (jI x1))] [] E A (fun v3 A1 => jrI 21 0 [some (.ref a0), some (.int (jI (v3 + 5)))] [] E A1 (fun v7 A5 => K v7 A5))) : jrI 32 0 [some (.ref a0), some (.int (jI x1))] [] E A K := by
  intro hA
  refine zw_go (pc1 := 1) (L1 := [some (.ref a0), some (.int (jI x1))]) (st1 := [.ref a0]) (σ1 := js E A) zM_X1_namesOf dX1_namesOf_0 rfl rfl rfl rfl ?_
  refine zw_go (pc1 := 2) (L1 := [some (.ref a0), some (.int (jI x1))]) (st1 := [.ref a0, .ref a0]) (σ1 := js E A) zM_X1_namesOf dX1_namesOf_1 rfl rfl rfl rfl ?_
  refine zw_go (pc1 := 3) (L1 := [some (.ref a0), some (.int (jI x1))]) (st1 := [.int (jI x1), .ref a0, .ref a0]) (σ1 := js E A) zM_X1_namesOf dX1_namesOf_2 rfl rfl rfl rfl ?_
  refine jw_callI (as := [.ref a0, .int (jI x1)]) (rest := [.ref a0]) zM_X1_namesOf dX1_namesOf_3 (zx_calV zC_1_68) zM_X1_rowOf rfl rfl rfl rfl rfl (j_args0 (jim.K i_a0) rfl) rfl hA h (fun v3 A1 rv4 hA2 h => ?_)
  refine jw_iconst (v := 5) zM_X1_namesOf dX1_namesOf_6 rfl ?_
  refine jw_add zM_X1_namesOf dX1_namesOf_7 ?_
  refine jw_callI (as := [.ref a0, .int (jI (v3 + 5))]) (rest := []) zM_X1_namesOf dX1_namesOf_8 (zx_calV zC_1_41) zM_X1_byteAt rfl rfl rfl rfl rfl (j_args0 (jim.K i_a0) rfl) rfl hA2 h (fun v7 A5 rv8 hA6 h => ?_)
  exact jw_reti zM_X1_namesOf dX1_namesOf_11 rfl rv8 hA6 h
set_option maxHeartbeats 4000000 in
set_option maxRecDepth 100000 in
theorem vd_X1_openedByte_0 (a0 : Nat) (i_a0 : jim a0) (x1 : Int) (r_x1 : jW x1) (x2 : Int) (r_x2 : jW x2) (x3 : Int) (r_x3 : jW x3) (E : jE) (A : jA) (K : Int → jA → Prop) (h : jrI 33 9 [some (.ref a0), some (.int (jI x1)), some (.int (jI x2)), some (.int (jI x3)), some (.int (jI 0)), some (.int (jI 0)), some (.int (jI 0)), none] [] E A K) : jrI 33 0 [some (.ref a0), some (.int (jI x1)), some (.int (jI x2)), some (.int (jI x3)), none, none, none, none] [] E A K := by
  intro hA
  refine jw_iconst (v := 0) zM_X1_openedByte dX1_openedByte_0 rfl ?_
  refine zw_go (pc1 := 3) (L1 := [some (.ref a0), some (.int (jI x1)), some (.int (jI x2)), some (.int (jI x3)), some (.int (jI 0)), none, none, none]) (st1 := []) (σ1 := js E A) zM_X1_openedByte dX1_openedByte_1 rfl rfl rfl rfl ?_
  refine jw_iconst (v := 0) zM_X1_openedByte dX1_openedByte_3 rfl ?_
  refine zw_go (pc1 := 6) (L1 := [some (.ref a0), some (.int (jI x1)), some (.int (jI x2)), some (.int (jI x3)), some (.int (jI 0)), some (.int (jI 0)), none, none]) (st1 := []) (σ1 := js E A) zM_X1_openedByte dX1_openedByte_4 rfl rfl rfl rfl ?_
  refine jw_iconst (v := 0) zM_X1_openedByte dX1_openedByte_6 rfl ?_
  refine zw_go (pc1 := 9) (L1 := [some (.ref a0), some (.int (jI x1)), some (.int (jI x2)), some (.int (jI x3)), some (.int (jI 0)), some (.int (jI 0)), some (.int (jI 0)), none]) (st1 := []) (σ1 := js E A) zM_X1_openedByte dX1_openedByte_7 rfl rfl rfl rfl ?_
  exact zw_weak2 (h hA) ⟨rfl, rfl, rfl, rfl, rfl, rfl, rfl, trivial⟩
set_option maxHeartbeats 4000000 in
set_option maxRecDepth 100000 in
theorem vd_X1_openedByte_9 (a0 : Nat) (i_a0 : jim a0) (x1 : Int) (r_x1 : jW x1) (x2 : Int) (r_x2 : jW x2) (x3 : Int) (r_x3 : jW x3) (x4 : Int) (r_x4 : jW x4) (x5 : Int) (r_x5 : jW x5) (x6 : Int) (r_x6 : jW x6) (E : jE) (A : jA) (K : Int → jA → Prop) (h : ((x2 ≤ x6 → K 0 A) ∧ (x6 < x2 → ((x2 ≤ x5 → K 0 A) ∧ (x5 < x2 → jrI 21 0 [some (.ref a0), some (.int (jI (x1 + x5)))] [] E A (fun v3 A1 => jrI 35 0 [some (.int (jI v3))] [] E A1 (fun v7 A5 => jW (x4 + v7) ∧ (((x4 + v7) ≤ x3 → jrI 35 0 [some (.int (jI v3))] [] E A5 (fun v12 A10 => jrI 37 0 [some (.int (jI v3))] [] E A10 (fun v16 A14 => jrI 33 9 [some (.ref a0), some (.int (jI x1)), some (.int (jI x2)), some (.int (jI x3)), some (.int (jI (x4 + v12))), some (.int (jI (x5 + v16))), some (.int (jI (x6 + 1))), none] [] E A14 K))) ∧ (x3 < (x4 + v7) → (((128 : Int) ≤ v3 → jrI 33 66 [none, none, none, none, none, none, none, none] [.int (jI 0), .int (jI ((x1 + x5) + 1)), .ref a0] E A5 K) ∧ (v3 < (128 : Int) → jrI 33 66 [none, none, none, none, none, none, none, none] [.int (jI (x3 - x4)), .int (jI ((x1 + x5) + 1)), .ref a0] E A5 K))))))))))) : jrI 33 9 [some (.ref a0), some (.int (jI x1)), some (.int (jI x2)), some (.int (jI x3)), some (.int (jI x4)), some (.int (jI x5)), some (.int (jI x6)), none] [] E A K := by
  intro hA
  refine zw_go (pc1 := 11) (L1 := [some (.ref a0), some (.int (jI x1)), some (.int (jI x2)), some (.int (jI x3)), some (.int (jI x4)), some (.int (jI x5)), some (.int (jI x6)), none]) (st1 := [.int (jI x6)]) (σ1 := js E A) zM_X1_openedByte dX1_openedByte_9 rfl rfl rfl rfl ?_
  refine zw_go (pc1 := 12) (L1 := [some (.ref a0), some (.int (jI x1)), some (.int (jI x2)), some (.int (jI x3)), some (.int (jI x4)), some (.int (jI x5)), some (.int (jI x6)), none]) (st1 := [.int (jI x2), .int (jI x6)]) (σ1 := js E A) zM_X1_openedByte dX1_openedByte_11 rfl rfl rfl rfl ?_
  refine jw_icmp_ge (tgt := 97) zM_X1_openedByte dX1_openedByte_12 rfl r_x6 r_x2 (fun q => ?_) (fun q => ?_)
  · replace h := h.1 q
    refine jw_iconst (v := 0) zM_X1_openedByte dX1_openedByte_97 rfl ?_
    exact jw_reti zM_X1_openedByte dX1_openedByte_98 rfl (show jW 0 from ⟨by decide, by decide⟩) hA h
  · replace h := h.2 q
    refine zw_go (pc1 := 17) (L1 := [some (.ref a0), some (.int (jI x1)), some (.int (jI x2)), some (.int (jI x3)), some (.int (jI x4)), some (.int (jI x5)), some (.int (jI x6)), none]) (st1 := [.int (jI x5)]) (σ1 := js E A) zM_X1_openedByte dX1_openedByte_15 rfl rfl rfl rfl ?_
    refine zw_go (pc1 := 18) (L1 := [some (.ref a0), some (.int (jI x1)), some (.int (jI x2)), some (.int (jI x3)), some (.int (jI x4)), some (.int (jI x5)), some (.int (jI x6)), none]) (st1 := [.int (jI x2), .int (jI x5)]) (σ1 := js E A) zM_X1_openedByte dX1_openedByte_17 rfl rfl rfl rfl ?_
    refine jw_icmp_ge (tgt := 97) zM_X1_openedByte dX1_openedByte_18 rfl r_x5 r_x2 (fun q => ?_) (fun q => ?_)
    · replace h := h.1 q
      refine jw_iconst (v := 0) zM_X1_openedByte dX1_openedByte_97 rfl ?_
      exact jw_reti zM_X1_openedByte dX1_openedByte_98 rfl (show jW 0 from ⟨by decide, by decide⟩) hA h
    · replace h := h.2 q
      refine zw_go (pc1 := 22) (L1 := [some (.ref a0), some (.int (jI x1)), some (.int (jI x2)), some (.int (jI x3)), some (.int (jI x4)), some (.int (jI x5)), some (.int (jI x6)), none]) (st1 := [.ref a0]) (σ1 := js E A) zM_X1_openedByte dX1_openedByte_21 rfl rfl rfl rfl ?_
      refine zw_go (pc1 := 23) (L1 := [some (.ref a0), some (.int (jI x1)), some (.int (jI x2)), some (.int (jI x3)), some (.int (jI x4)), some (.int (jI x5)), some (.int (jI x6)), none]) (st1 := [.int (jI x1), .ref a0]) (σ1 := js E A) zM_X1_openedByte dX1_openedByte_22 rfl rfl rfl rfl ?_
      refine zw_go (pc1 := 25) (L1 := [some (.ref a0), some (.int (jI x1)), some (.int (jI x2)), some (.int (jI x3)), some (.int (jI x4)), some (.int (jI x5)), some (.int (jI x6)), none]) (st1 := [.int (jI x5), .int (jI x1), .ref a0]) (σ1 := js E A) zM_X1_openedByte dX1_openedByte_23 rfl rfl rfl rfl ?_
      refine jw_add zM_X1_openedByte dX1_openedByte_25 ?_
      refine jw_callI (as := [.ref a0, .int (jI (x1 + x5))]) (rest := []) zM_X1_openedByte dX1_openedByte_26 (zx_calV zC_1_41) zM_X1_byteAt rfl rfl rfl rfl rfl (j_args0 (jim.K i_a0) rfl) rfl hA h (fun v3 A1 rv4 hA2 h => ?_)
      refine zw_go (pc1 := 31) (L1 := [some (.ref a0), some (.int (jI x1)), some (.int (jI x2)), some (.int (jI x3)), some (.int (jI x4)), some (.int (jI x5)), some (.int (jI x6)), some (.int (jI v3))]) (st1 := []) (σ1 := js E A1) zM_X1_openedByte dX1_openedByte_29 rfl rfl rfl rfl ?_
      refine zw_go (pc1 := 32) (L1 := [some (.ref a0), some (.int (jI x1)), some (.int (jI x2)), some (.int (jI x3)), some (.int (jI x4)), some (.int (jI x5)), some (.int (jI x6)), some (.int (jI v3))]) (st1 := [.int (jI x3)]) (σ1 := js E A1) zM_X1_openedByte dX1_openedByte_31 rfl rfl rfl rfl ?_
      refine zw_go (pc1 := 34) (L1 := [some (.ref a0), some (.int (jI x1)), some (.int (jI x2)), some (.int (jI x3)), some (.int (jI x4)), some (.int (jI x5)), some (.int (jI x6)), some (.int (jI v3))]) (st1 := [.int (jI x4), .int (jI x3)]) (σ1 := js E A1) zM_X1_openedByte dX1_openedByte_32 rfl rfl rfl rfl ?_
      refine zw_go (pc1 := 36) (L1 := [some (.ref a0), some (.int (jI x1)), some (.int (jI x2)), some (.int (jI x3)), some (.int (jI x4)), some (.int (jI x5)), some (.int (jI x6)), some (.int (jI v3))]) (st1 := [.int (jI v3), .int (jI x4), .int (jI x3)]) (σ1 := js E A1) zM_X1_openedByte dX1_openedByte_34 rfl rfl rfl rfl ?_
      refine jw_callI (as := [.int (jI v3)]) (rest := [.int (jI x4), .int (jI x3)]) zM_X1_openedByte dX1_openedByte_36 (zx_calS zC_1_97) zM_X1_opensTo rfl rfl rfl rfl rfl rfl rfl hA2 h (fun v7 A5 rv8 hA6 h => ?_)
      refine jw_add zM_X1_openedByte dX1_openedByte_39 ?_
      obtain ⟨hw9, h⟩ := h
      refine jw_icmp_ge (tgt := 71) zM_X1_openedByte dX1_openedByte_40 rfl r_x3 hw9 (fun q => ?_) (fun q => ?_)
      · replace h := h.1 q
        refine zw_go (pc1 := 73) (L1 := [some (.ref a0), some (.int (jI x1)), some (.int (jI x2)), some (.int (jI x3)), some (.int (jI x4)), some (.int (jI x5)), some (.int (jI x6)), some (.int (jI v3))]) (st1 := [.int (jI x4)]) (σ1 := js E A5) zM_X1_openedByte dX1_openedByte_71 rfl rfl rfl rfl ?_
        refine zw_go (pc1 := 75) (L1 := [some (.ref a0), some (.int (jI x1)), some (.int (jI x2)), some (.int (jI x3)), some (.int (jI x4)), some (.int (jI x5)), some (.int (jI x6)), some (.int (jI v3))]) (st1 := [.int (jI v3), .int (jI x4)]) (σ1 := js E A5) zM_X1_openedByte dX1_openedByte_73 rfl rfl rfl rfl ?_
        refine jw_callI (as := [.int (jI v3)]) (rest := [.int (jI x4)]) zM_X1_openedByte dX1_openedByte_75 (zx_calS zC_1_97) zM_X1_opensTo rfl rfl rfl rfl rfl rfl rfl hA6 h (fun v12 A10 rv13 hA11 h => ?_)
        refine jw_add zM_X1_openedByte dX1_openedByte_78 ?_
        refine zw_go (pc1 := 81) (L1 := [some (.ref a0), some (.int (jI x1)), some (.int (jI x2)), some (.int (jI x3)), some (.int (jI (x4 + v12))), some (.int (jI x5)), some (.int (jI x6)), some (.int (jI v3))]) (st1 := []) (σ1 := js E A10) zM_X1_openedByte dX1_openedByte_79 rfl rfl rfl rfl ?_
        refine zw_go (pc1 := 83) (L1 := [some (.ref a0), some (.int (jI x1)), some (.int (jI x2)), some (.int (jI x3)), some (.int (jI (x4 + v12))), some (.int (jI x5)), some (.int (jI x6)), some (.int (jI v3))]) (st1 := [.int (jI x5)]) (σ1 := js E A10) zM_X1_openedByte dX1_openedByte_81 rfl rfl rfl rfl ?_
        refine zw_go (pc1 := 85) (L1 := [some (.ref a0), some (.int (jI x1)), some (.int (jI x2)), some (.int (jI x3)), some (.int (jI (x4 + v12))), some (.int (jI x5)), some (.int (jI x6)), some (.int (jI v3))]) (st1 := [.int (jI v3), .int (jI x5)]) (σ1 := js E A10) zM_X1_openedByte dX1_openedByte_83 rfl rfl rfl rfl ?_
        refine jw_callI (as := [.int (jI v3)]) (rest := [.int (jI x5)]) zM_X1_openedByte dX1_openedByte_85 (zx_calS zC_1_100) zM_X1_packetBytes rfl rfl rfl rfl rfl rfl rfl hA11 h (fun v16 A14 rv17 hA15 h => ?_)
        refine jw_add zM_X1_openedByte dX1_openedByte_88 ?_
        refine zw_go (pc1 := 91) (L1 := [some (.ref a0), some (.int (jI x1)), some (.int (jI x2)), some (.int (jI x3)), some (.int (jI (x4 + v12))), some (.int (jI (x5 + v16))), some (.int (jI x6)), some (.int (jI v3))]) (st1 := []) (σ1 := js E A14) zM_X1_openedByte dX1_openedByte_89 rfl rfl rfl rfl ?_
        refine jw_iinc (x := x6) (L1 := [some (.ref a0), some (.int (jI x1)), some (.int (jI x2)), some (.int (jI x3)), some (.int (jI (x4 + v12))), some (.int (jI (x5 + v16))), some (.int (jI (x6 + 1))), some (.int (jI v3))]) zM_X1_openedByte dX1_openedByte_91 rfl (show 6 < 8 by decide) rfl ?_
        refine zw_goto (tgt := 9) zM_X1_openedByte dX1_openedByte_94 rfl ?_
        exact zw_weak2 (h hA15) ⟨rfl, rfl, rfl, rfl, rfl, rfl, rfl, trivial⟩
      · replace h := h.2 q
        refine zw_go (pc1 := 44) (L1 := [some (.ref a0), some (.int (jI x1)), some (.int (jI x2)), some (.int (jI x3)), some (.int (jI x4)), some (.int (jI x5)), some (.int (jI x6)), some (.int (jI v3))]) (st1 := [.ref a0]) (σ1 := js E A5) zM_X1_openedByte dX1_openedByte_43 rfl rfl rfl rfl ?_
        refine zw_go (pc1 := 45) (L1 := [some (.ref a0), some (.int (jI x1)), some (.int (jI x2)), some (.int (jI x3)), some (.int (jI x4)), some (.int (jI x5)), some (.int (jI x6)), some (.int (jI v3))]) (st1 := [.int (jI x1), .ref a0]) (σ1 := js E A5) zM_X1_openedByte dX1_openedByte_44 rfl rfl rfl rfl ?_
        refine zw_go (pc1 := 47) (L1 := [some (.ref a0), some (.int (jI x1)), some (.int (jI x2)), some (.int (jI x3)), some (.int (jI x4)), some (.int (jI x5)), some (.int (jI x6)), some (.int (jI v3))]) (st1 := [.int (jI x5), .int (jI x1), .ref a0]) (σ1 := js E A5) zM_X1_openedByte dX1_openedByte_45 rfl rfl rfl rfl ?_
        refine jw_add zM_X1_openedByte dX1_openedByte_47 ?_
        refine jw_iconst (v := 1) zM_X1_openedByte dX1_openedByte_48 rfl ?_
        refine jw_add zM_X1_openedByte dX1_openedByte_49 ?_
        refine zw_go (pc1 := 52) (L1 := [some (.ref a0), some (.int (jI x1)), some (.int (jI x2)), some (.int (jI x3)), some (.int (jI x4)), some (.int (jI x5)), some (.int (jI x6)), some (.int (jI v3))]) (st1 := [.int (jI v3), .int (jI ((x1 + x5) + 1)), .ref a0]) (σ1 := js E A5) zM_X1_openedByte dX1_openedByte_50 rfl rfl rfl rfl ?_
        refine jw_sipush (v := 128) zM_X1_openedByte dX1_openedByte_52 (by decide) ?_
        refine jw_icmp_ge (tgt := 65) zM_X1_openedByte dX1_openedByte_55 rfl rv4 (show jW 128 from ⟨by decide, by decide⟩) (fun q => ?_) (fun q => ?_)
        · replace h := h.1 q
          refine jw_iconst (v := 0) zM_X1_openedByte dX1_openedByte_65 rfl ?_
          exact zw_weak2 (h hA6) trivial
        · replace h := h.2 q
          refine zw_go (pc1 := 59) (L1 := [some (.ref a0), some (.int (jI x1)), some (.int (jI x2)), some (.int (jI x3)), some (.int (jI x4)), some (.int (jI x5)), some (.int (jI x6)), some (.int (jI v3))]) (st1 := [.int (jI x3), .int (jI ((x1 + x5) + 1)), .ref a0]) (σ1 := js E A5) zM_X1_openedByte dX1_openedByte_58 rfl rfl rfl rfl ?_
          refine zw_go (pc1 := 61) (L1 := [some (.ref a0), some (.int (jI x1)), some (.int (jI x2)), some (.int (jI x3)), some (.int (jI x4)), some (.int (jI x5)), some (.int (jI x6)), some (.int (jI v3))]) (st1 := [.int (jI x4), .int (jI x3), .int (jI ((x1 + x5) + 1)), .ref a0]) (σ1 := js E A5) zM_X1_openedByte dX1_openedByte_59 rfl rfl rfl rfl ?_
          refine jw_sub zM_X1_openedByte dX1_openedByte_61 ?_
          refine zw_goto (tgt := 66) zM_X1_openedByte dX1_openedByte_62 rfl ?_
          exact zw_weak2 (h hA6) trivial
set_option maxHeartbeats 4000000 in
set_option maxRecDepth 100000 in
theorem vd_X1_openedByte_66 (y0 : Int) (r_y0 : jW y0) (y1 : Int) (r_y1 : jW y1) (c2 : Nat) (i_c2 : jim c2) (E : jE) (A : jA) (K : Int → jA → Prop) (h : jrI 21 0 [some (.ref c2), some (.int (jI (y1 + y0)))] [] E A (fun v3 A1 => K v3 A1)) : jrI 33 66 [none, none, none, none, none, none, none, none] [.int (jI y0), .int (jI y1), .ref c2] E A K := by
  intro hA
  refine jw_add zM_X1_openedByte dX1_openedByte_66 ?_
  refine jw_callI (as := [.ref c2, .int (jI (y1 + y0))]) (rest := []) zM_X1_openedByte dX1_openedByte_67 (zx_calV zC_1_41) zM_X1_byteAt rfl rfl rfl rfl rfl (j_args0 (jim.K i_c2) rfl) rfl hA h (fun v3 A1 rv4 hA2 h => ?_)
  exact jw_reti zM_X1_openedByte dX1_openedByte_70 rfl rv4 hA2 h
set_option maxHeartbeats 4000000 in
set_option maxRecDepth 100000 in
theorem vd_X1_openedBytes_0 (a0 : Nat) (i_a0 : jim a0) (x1 : Int) (r_x1 : jW x1) (x2 : Int) (r_x2 : jW x2) (E : jE) (A : jA) (K : Int → jA → Prop) (h : jrI 34 8 [some (.ref a0), some (.int (jI x1)), some (.int (jI x2)), some (.int (jI 0)), some (.int (jI 0)), some (.int (jI 0)), none] [] E A K) : jrI 34 0 [some (.ref a0), some (.int (jI x1)), some (.int (jI x2)), none, none, none, none] [] E A K := by
  intro hA
  refine jw_iconst (v := 0) zM_X1_openedBytes dX1_openedBytes_0 rfl ?_
  refine zw_go (pc1 := 2) (L1 := [some (.ref a0), some (.int (jI x1)), some (.int (jI x2)), some (.int (jI 0)), none, none, none]) (st1 := []) (σ1 := js E A) zM_X1_openedBytes dX1_openedBytes_1 rfl rfl rfl rfl ?_
  refine jw_iconst (v := 0) zM_X1_openedBytes dX1_openedBytes_2 rfl ?_
  refine zw_go (pc1 := 5) (L1 := [some (.ref a0), some (.int (jI x1)), some (.int (jI x2)), some (.int (jI 0)), some (.int (jI 0)), none, none]) (st1 := []) (σ1 := js E A) zM_X1_openedBytes dX1_openedBytes_3 rfl rfl rfl rfl ?_
  refine jw_iconst (v := 0) zM_X1_openedBytes dX1_openedBytes_5 rfl ?_
  refine zw_go (pc1 := 8) (L1 := [some (.ref a0), some (.int (jI x1)), some (.int (jI x2)), some (.int (jI 0)), some (.int (jI 0)), some (.int (jI 0)), none]) (st1 := []) (σ1 := js E A) zM_X1_openedBytes dX1_openedBytes_6 rfl rfl rfl rfl ?_
  exact zw_weak2 (h hA) ⟨rfl, rfl, rfl, rfl, rfl, rfl, trivial⟩
set_option maxHeartbeats 4000000 in
set_option maxRecDepth 100000 in
theorem vd_X1_openedBytes_8 (a0 : Nat) (i_a0 : jim a0) (x1 : Int) (r_x1 : jW x1) (x2 : Int) (r_x2 : jW x2) (x3 : Int) (r_x3 : jW x3) (x4 : Int) (r_x4 : jW x4) (x5 : Int) (r_x5 : jW x5) (E : jE) (A : jA) (K : Int → jA → Prop) (h : ((x2 ≤ x5 → jrI 34 54 [none, none, some (.int (jI x2)), some (.int (jI x3)), some (.int (jI x4)), none, none] [] E A K) ∧ (x5 < x2 → ((x2 ≤ x4 → jrI 34 54 [none, none, some (.int (jI x2)), some (.int (jI x3)), some (.int (jI x4)), none, none] [] E A K) ∧ (x4 < x2 → jrI 21 0 [some (.ref a0), some (.int (jI (x1 + x4)))] [] E A (fun v3 A1 => jrI 35 0 [some (.int (jI v3))] [] E A1 (fun v7 A5 => jrI 37 0 [some (.int (jI v3))] [] E A5 (fun v11 A9 => jrI 34 8 [some (.ref a0), some (.int (jI x1)), some (.int (jI x2)), some (.int (jI (x3 + v7))), some (.int (jI (x4 + v11))), some (.int (jI (x5 + 1))), none] [] E A9 K)))))))) : jrI 34 8 [some (.ref a0), some (.int (jI x1)), some (.int (jI x2)), some (.int (jI x3)), some (.int (jI x4)), some (.int (jI x5)), none] [] E A K := by
  intro hA
  refine zw_go (pc1 := 10) (L1 := [some (.ref a0), some (.int (jI x1)), some (.int (jI x2)), some (.int (jI x3)), some (.int (jI x4)), some (.int (jI x5)), none]) (st1 := [.int (jI x5)]) (σ1 := js E A) zM_X1_openedBytes dX1_openedBytes_8 rfl rfl rfl rfl ?_
  refine zw_go (pc1 := 11) (L1 := [some (.ref a0), some (.int (jI x1)), some (.int (jI x2)), some (.int (jI x3)), some (.int (jI x4)), some (.int (jI x5)), none]) (st1 := [.int (jI x2), .int (jI x5)]) (σ1 := js E A) zM_X1_openedBytes dX1_openedBytes_10 rfl rfl rfl rfl ?_
  refine jw_icmp_ge (tgt := 54) zM_X1_openedBytes dX1_openedBytes_11 rfl r_x5 r_x2 (fun q => ?_) (fun q => ?_)
  · replace h := h.1 q
    exact zw_weak2 (h hA) ⟨rfl, rfl, rfl, trivial⟩
  · replace h := h.2 q
    refine zw_go (pc1 := 16) (L1 := [some (.ref a0), some (.int (jI x1)), some (.int (jI x2)), some (.int (jI x3)), some (.int (jI x4)), some (.int (jI x5)), none]) (st1 := [.int (jI x4)]) (σ1 := js E A) zM_X1_openedBytes dX1_openedBytes_14 rfl rfl rfl rfl ?_
    refine zw_go (pc1 := 17) (L1 := [some (.ref a0), some (.int (jI x1)), some (.int (jI x2)), some (.int (jI x3)), some (.int (jI x4)), some (.int (jI x5)), none]) (st1 := [.int (jI x2), .int (jI x4)]) (σ1 := js E A) zM_X1_openedBytes dX1_openedBytes_16 rfl rfl rfl rfl ?_
    refine jw_icmp_ge (tgt := 54) zM_X1_openedBytes dX1_openedBytes_17 rfl r_x4 r_x2 (fun q => ?_) (fun q => ?_)
    · replace h := h.1 q
      exact zw_weak2 (h hA) ⟨rfl, rfl, rfl, trivial⟩
    · replace h := h.2 q
      refine zw_go (pc1 := 21) (L1 := [some (.ref a0), some (.int (jI x1)), some (.int (jI x2)), some (.int (jI x3)), some (.int (jI x4)), some (.int (jI x5)), none]) (st1 := [.ref a0]) (σ1 := js E A) zM_X1_openedBytes dX1_openedBytes_20 rfl rfl rfl rfl ?_
      refine zw_go (pc1 := 22) (L1 := [some (.ref a0), some (.int (jI x1)), some (.int (jI x2)), some (.int (jI x3)), some (.int (jI x4)), some (.int (jI x5)), none]) (st1 := [.int (jI x1), .ref a0]) (σ1 := js E A) zM_X1_openedBytes dX1_openedBytes_21 rfl rfl rfl rfl ?_
      refine zw_go (pc1 := 24) (L1 := [some (.ref a0), some (.int (jI x1)), some (.int (jI x2)), some (.int (jI x3)), some (.int (jI x4)), some (.int (jI x5)), none]) (st1 := [.int (jI x4), .int (jI x1), .ref a0]) (σ1 := js E A) zM_X1_openedBytes dX1_openedBytes_22 rfl rfl rfl rfl ?_
      refine jw_add zM_X1_openedBytes dX1_openedBytes_24 ?_
      refine jw_callI (as := [.ref a0, .int (jI (x1 + x4))]) (rest := []) zM_X1_openedBytes dX1_openedBytes_25 (zx_calV zC_1_41) zM_X1_byteAt rfl rfl rfl rfl rfl (j_args0 (jim.K i_a0) rfl) rfl hA h (fun v3 A1 rv4 hA2 h => ?_)
      refine zw_go (pc1 := 30) (L1 := [some (.ref a0), some (.int (jI x1)), some (.int (jI x2)), some (.int (jI x3)), some (.int (jI x4)), some (.int (jI x5)), some (.int (jI v3))]) (st1 := []) (σ1 := js E A1) zM_X1_openedBytes dX1_openedBytes_28 rfl rfl rfl rfl ?_
      refine zw_go (pc1 := 31) (L1 := [some (.ref a0), some (.int (jI x1)), some (.int (jI x2)), some (.int (jI x3)), some (.int (jI x4)), some (.int (jI x5)), some (.int (jI v3))]) (st1 := [.int (jI x3)]) (σ1 := js E A1) zM_X1_openedBytes dX1_openedBytes_30 rfl rfl rfl rfl ?_
      refine zw_go (pc1 := 33) (L1 := [some (.ref a0), some (.int (jI x1)), some (.int (jI x2)), some (.int (jI x3)), some (.int (jI x4)), some (.int (jI x5)), some (.int (jI v3))]) (st1 := [.int (jI v3), .int (jI x3)]) (σ1 := js E A1) zM_X1_openedBytes dX1_openedBytes_31 rfl rfl rfl rfl ?_
      refine jw_callI (as := [.int (jI v3)]) (rest := [.int (jI x3)]) zM_X1_openedBytes dX1_openedBytes_33 (zx_calS zC_1_97) zM_X1_opensTo rfl rfl rfl rfl rfl rfl rfl hA2 h (fun v7 A5 rv8 hA6 h => ?_)
      refine jw_add zM_X1_openedBytes dX1_openedBytes_36 ?_
      refine zw_go (pc1 := 38) (L1 := [some (.ref a0), some (.int (jI x1)), some (.int (jI x2)), some (.int (jI (x3 + v7))), some (.int (jI x4)), some (.int (jI x5)), some (.int (jI v3))]) (st1 := []) (σ1 := js E A5) zM_X1_openedBytes dX1_openedBytes_37 rfl rfl rfl rfl ?_
      refine zw_go (pc1 := 40) (L1 := [some (.ref a0), some (.int (jI x1)), some (.int (jI x2)), some (.int (jI (x3 + v7))), some (.int (jI x4)), some (.int (jI x5)), some (.int (jI v3))]) (st1 := [.int (jI x4)]) (σ1 := js E A5) zM_X1_openedBytes dX1_openedBytes_38 rfl rfl rfl rfl ?_
      refine zw_go (pc1 := 42) (L1 := [some (.ref a0), some (.int (jI x1)), some (.int (jI x2)), some (.int (jI (x3 + v7))), some (.int (jI x4)), some (.int (jI x5)), some (.int (jI v3))]) (st1 := [.int (jI v3), .int (jI x4)]) (σ1 := js E A5) zM_X1_openedBytes dX1_openedBytes_40 rfl rfl rfl rfl ?_
      refine jw_callI (as := [.int (jI v3)]) (rest := [.int (jI x4)]) zM_X1_openedBytes dX1_openedBytes_42 (zx_calS zC_1_100) zM_X1_packetBytes rfl rfl rfl rfl rfl rfl rfl hA6 h (fun v11 A9 rv12 hA10 h => ?_)
      refine jw_add zM_X1_openedBytes dX1_openedBytes_45 ?_
      refine zw_go (pc1 := 48) (L1 := [some (.ref a0), some (.int (jI x1)), some (.int (jI x2)), some (.int (jI (x3 + v7))), some (.int (jI (x4 + v11))), some (.int (jI x5)), some (.int (jI v3))]) (st1 := []) (σ1 := js E A9) zM_X1_openedBytes dX1_openedBytes_46 rfl rfl rfl rfl ?_
      refine jw_iinc (x := x5) (L1 := [some (.ref a0), some (.int (jI x1)), some (.int (jI x2)), some (.int (jI (x3 + v7))), some (.int (jI (x4 + v11))), some (.int (jI (x5 + 1))), some (.int (jI v3))]) zM_X1_openedBytes dX1_openedBytes_48 rfl (show 5 < 7 by decide) rfl ?_
      refine zw_goto (tgt := 8) zM_X1_openedBytes dX1_openedBytes_51 rfl ?_
      exact zw_weak2 (h hA10) ⟨rfl, rfl, rfl, rfl, rfl, rfl, trivial⟩
set_option maxHeartbeats 4000000 in
set_option maxRecDepth 100000 in
theorem vd_X1_openedBytes_54 (x2 : Int) (r_x2 : jW x2) (x3 : Int) (r_x3 : jW x3) (x4 : Int) (r_x4 : jW x4) (E : jE) (A : jA) (K : Int → jA → Prop) (h : ((¬ x4 = x2 → K (-1) A) ∧ (x4 = x2 → K x3 A))) : jrI 34 54 [none, none, some (.int (jI x2)), some (.int (jI x3)), some (.int (jI x4)), none, none] [] E A K := by
  intro hA
  refine zw_go (pc1 := 56) (L1 := [none, none, some (.int (jI x2)), some (.int (jI x3)), some (.int (jI x4)), none, none]) (st1 := [.int (jI x4)]) (σ1 := js E A) zM_X1_openedBytes dX1_openedBytes_54 rfl rfl rfl rfl ?_
  refine zw_go (pc1 := 57) (L1 := [none, none, some (.int (jI x2)), some (.int (jI x3)), some (.int (jI x4)), none, none]) (st1 := [.int (jI x2), .int (jI x4)]) (σ1 := js E A) zM_X1_openedBytes dX1_openedBytes_56 rfl rfl rfl rfl ?_
  refine jw_icmp_ne (tgt := 64) zM_X1_openedBytes dX1_openedBytes_57 rfl r_x4 r_x2 (fun q => ?_) (fun q => ?_)
  · replace h := h.1 q
    refine jw_iconst (v := (-1)) zM_X1_openedBytes dX1_openedBytes_64 rfl ?_
    exact jw_reti zM_X1_openedBytes dX1_openedBytes_65 rfl (show jW (-1) from ⟨by decide, by decide⟩) hA h
  · replace h := h.2 q
    refine zw_go (pc1 := 61) (L1 := [none, none, some (.int (jI x2)), some (.int (jI x3)), some (.int (jI x4)), none, none]) (st1 := [.int (jI x3)]) (σ1 := js E A) zM_X1_openedBytes dX1_openedBytes_60 rfl rfl rfl rfl ?_
    refine zw_goto (tgt := 65) zM_X1_openedBytes dX1_openedBytes_61 rfl ?_
    exact jw_reti zM_X1_openedBytes dX1_openedBytes_65 rfl r_x3 hA h
set_option maxHeartbeats 4000000 in
set_option maxRecDepth 100000 in
theorem vd_X1_opensTo_0 (x0 : Int) (r_x0 : jW x0) (E : jE) (A : jA) (K : Int → jA → Prop) (h : (((128 : Int) ≤ x0 → ((¬ x0 = (128 : Int) → jW (257 - x0) ∧ K (257 - x0) A) ∧ (x0 = (128 : Int) → K 0 A))) ∧ (x0 < (128 : Int) → jW (x0 + 1) ∧ K (x0 + 1) A))) : jrI 35 0 [some (.int (jI x0))] [] E A K := by
  intro hA
  refine zw_go (pc1 := 1) (L1 := [some (.int (jI x0))]) (st1 := [.int (jI x0)]) (σ1 := js E A) zM_X1_opensTo dX1_opensTo_0 rfl rfl rfl rfl ?_
  refine jw_sipush (v := 128) zM_X1_opensTo dX1_opensTo_1 (by decide) ?_
  refine jw_icmp_ge (tgt := 13) zM_X1_opensTo dX1_opensTo_4 rfl r_x0 (show jW 128 from ⟨by decide, by decide⟩) (fun q => ?_) (fun q => ?_)
  · replace h := h.1 q
    refine zw_go (pc1 := 14) (L1 := [some (.int (jI x0))]) (st1 := [.int (jI x0)]) (σ1 := js E A) zM_X1_opensTo dX1_opensTo_13 rfl rfl rfl rfl ?_
    refine jw_sipush (v := 128) zM_X1_opensTo dX1_opensTo_14 (by decide) ?_
    refine jw_icmp_ne (tgt := 24) zM_X1_opensTo dX1_opensTo_17 rfl r_x0 (show jW 128 from ⟨by decide, by decide⟩) (fun q => ?_) (fun q => ?_)
    · replace h := h.1 q
      refine jw_sipush (v := 257) zM_X1_opensTo dX1_opensTo_24 (by decide) ?_
      refine zw_go (pc1 := 28) (L1 := [some (.int (jI x0))]) (st1 := [.int (jI x0), .int (jI 257)]) (σ1 := js E A) zM_X1_opensTo dX1_opensTo_27 rfl rfl rfl rfl ?_
      refine jw_sub zM_X1_opensTo dX1_opensTo_28 ?_
      obtain ⟨hw1, h⟩ := h
      exact jw_reti zM_X1_opensTo dX1_opensTo_29 rfl hw1 hA h
    · replace h := h.2 q
      refine jw_iconst (v := 0) zM_X1_opensTo dX1_opensTo_20 rfl ?_
      refine zw_goto (tgt := 29) zM_X1_opensTo dX1_opensTo_21 rfl ?_
      exact jw_reti zM_X1_opensTo dX1_opensTo_29 rfl (show jW 0 from ⟨by decide, by decide⟩) hA h
  · replace h := h.2 q
    refine zw_go (pc1 := 8) (L1 := [some (.int (jI x0))]) (st1 := [.int (jI x0)]) (σ1 := js E A) zM_X1_opensTo dX1_opensTo_7 rfl rfl rfl rfl ?_
    refine jw_iconst (v := 1) zM_X1_opensTo dX1_opensTo_8 rfl ?_
    refine jw_add zM_X1_opensTo dX1_opensTo_9 ?_
    refine zw_goto (tgt := 29) zM_X1_opensTo dX1_opensTo_10 rfl ?_
    obtain ⟨hw2, h⟩ := h
    exact jw_reti zM_X1_opensTo dX1_opensTo_29 rfl hw2 hA h
set_option maxHeartbeats 4000000 in
set_option maxRecDepth 100000 in
theorem vd_X1_ownerOf_0 (a0 : Nat) (i_a0 : jim a0) (x1 : Int) (r_x1 : jW x1) (E : jE) (A : jA) (K : Int → jA → Prop) (h : jrI 42 0 [some (.ref a0), some (.int (jI x1))] [] E A (fun v3 A1 => jrI 51 0 [some (.ref a0), some (.int (jI (v3 + 3)))] [] E A1 (fun v7 A5 => K v7 A5))) : jrI 36 0 [some (.ref a0), some (.int (jI x1))] [] E A K := by
  intro hA
  refine zw_go (pc1 := 1) (L1 := [some (.ref a0), some (.int (jI x1))]) (st1 := [.ref a0]) (σ1 := js E A) zM_X1_ownerOf dX1_ownerOf_0 rfl rfl rfl rfl ?_
  refine zw_go (pc1 := 2) (L1 := [some (.ref a0), some (.int (jI x1))]) (st1 := [.ref a0, .ref a0]) (σ1 := js E A) zM_X1_ownerOf dX1_ownerOf_1 rfl rfl rfl rfl ?_
  refine zw_go (pc1 := 3) (L1 := [some (.ref a0), some (.int (jI x1))]) (st1 := [.int (jI x1), .ref a0, .ref a0]) (σ1 := js E A) zM_X1_ownerOf dX1_ownerOf_2 rfl rfl rfl rfl ?_
  refine jw_callI (as := [.ref a0, .int (jI x1)]) (rest := [.ref a0]) zM_X1_ownerOf dX1_ownerOf_3 (zx_calV zC_1_68) zM_X1_rowOf rfl rfl rfl rfl rfl (j_args0 (jim.K i_a0) rfl) rfl hA h (fun v3 A1 rv4 hA2 h => ?_)
  refine jw_iconst (v := 3) zM_X1_ownerOf dX1_ownerOf_6 rfl ?_
  refine jw_add zM_X1_ownerOf dX1_ownerOf_7 ?_
  refine jw_callI (as := [.ref a0, .int (jI (v3 + 3))]) (rest := []) zM_X1_ownerOf dX1_ownerOf_8 (zx_calV zC_1_48) zM_X1_wordAt rfl rfl rfl rfl rfl (j_args0 (jim.K i_a0) rfl) rfl hA2 h (fun v7 A5 rv8 hA6 h => ?_)
  exact jw_reti zM_X1_ownerOf dX1_ownerOf_11 rfl rv8 hA6 h
set_option maxHeartbeats 4000000 in
set_option maxRecDepth 100000 in
theorem vd_X1_packetBytes_0 (x0 : Int) (r_x0 : jW x0) (E : jE) (A : jA) (K : Int → jA → Prop) (h : (((128 : Int) ≤ x0 → ((¬ x0 = (128 : Int) → K 2 A) ∧ (x0 = (128 : Int) → K 1 A))) ∧ (x0 < (128 : Int) → jW (x0 + 2) ∧ K (x0 + 2) A))) : jrI 37 0 [some (.int (jI x0))] [] E A K := by
  intro hA
  refine zw_go (pc1 := 1) (L1 := [some (.int (jI x0))]) (st1 := [.int (jI x0)]) (σ1 := js E A) zM_X1_packetBytes dX1_packetBytes_0 rfl rfl rfl rfl ?_
  refine jw_sipush (v := 128) zM_X1_packetBytes dX1_packetBytes_1 (by decide) ?_
  refine jw_icmp_ge (tgt := 13) zM_X1_packetBytes dX1_packetBytes_4 rfl r_x0 (show jW 128 from ⟨by decide, by decide⟩) (fun q => ?_) (fun q => ?_)
  · replace h := h.1 q
    refine zw_go (pc1 := 14) (L1 := [some (.int (jI x0))]) (st1 := [.int (jI x0)]) (σ1 := js E A) zM_X1_packetBytes dX1_packetBytes_13 rfl rfl rfl rfl ?_
    refine jw_sipush (v := 128) zM_X1_packetBytes dX1_packetBytes_14 (by decide) ?_
    refine jw_icmp_ne (tgt := 24) zM_X1_packetBytes dX1_packetBytes_17 rfl r_x0 (show jW 128 from ⟨by decide, by decide⟩) (fun q => ?_) (fun q => ?_)
    · replace h := h.1 q
      refine jw_iconst (v := 2) zM_X1_packetBytes dX1_packetBytes_24 rfl ?_
      exact jw_reti zM_X1_packetBytes dX1_packetBytes_25 rfl (show jW 2 from ⟨by decide, by decide⟩) hA h
    · replace h := h.2 q
      refine jw_iconst (v := 1) zM_X1_packetBytes dX1_packetBytes_20 rfl ?_
      refine zw_goto (tgt := 25) zM_X1_packetBytes dX1_packetBytes_21 rfl ?_
      exact jw_reti zM_X1_packetBytes dX1_packetBytes_25 rfl (show jW 1 from ⟨by decide, by decide⟩) hA h
  · replace h := h.2 q
    refine zw_go (pc1 := 8) (L1 := [some (.int (jI x0))]) (st1 := [.int (jI x0)]) (σ1 := js E A) zM_X1_packetBytes dX1_packetBytes_7 rfl rfl rfl rfl ?_
    refine jw_iconst (v := 2) zM_X1_packetBytes dX1_packetBytes_8 rfl ?_
    refine jw_add zM_X1_packetBytes dX1_packetBytes_9 ?_
    refine zw_goto (tgt := 25) zM_X1_packetBytes dX1_packetBytes_10 rfl ?_
    obtain ⟨hw1, h⟩ := h
    exact jw_reti zM_X1_packetBytes dX1_packetBytes_25 rfl hw1 hA h
set_option maxHeartbeats 4000000 in
set_option maxRecDepth 100000 in
theorem vd_X1_putByte_0 (a0 : Nat) (i_a0 : jim a0) (x1 : Int) (r_x1 : jW x1) (E : jE) (A : jA) (K : jA → Prop) (h : (((jN (a0 + 1) : Int) ≤ (A a0 1) → K A) ∧ ((A a0 1) < (jN (a0 + 1) : Int) → (0 ≤ (A a0 1) ∧ (A a0 1) < (jN (a0 + 1) : Int)) ∧ ∀ A2 : jA, A2 = jup A (a0 + 1) (A a0 1) (x1 % 256) → jW ((A2 a0 1) + 1) ∧ ∀ A6 : jA, A6 = jup A2 a0 1 ((A2 a0 1) + 1) → K A6))) : jrV 38 0 [some (.ref a0), some (.int (jI x1))] [] E A K := by
  intro hA
  refine zw_go (pc1 := 1) (L1 := [some (.ref a0), some (.int (jI x1))]) (st1 := [.ref a0]) (σ1 := js E A) zM_X1_putByte dX1_putByte_0 rfl rfl rfl rfl ?_
  refine jw_getI zM_X1_putByte dX1_putByte_1 zF_1_15 rfl rfl (jim.K i_a0) ?_
  refine zw_go (pc1 := 5) (L1 := [some (.ref a0), some (.int (jI x1))]) (st1 := [.ref a0, .int (jI (A a0 1))]) (σ1 := js E A) zM_X1_putByte dX1_putByte_4 rfl rfl rfl rfl ?_
  refine jw_getR (a := (a0 + 1)) zM_X1_putByte dX1_putByte_5 zF_1_9 rfl (jim.K i_a0) (jim.R i_a0 _) ?_
  refine jw_alen zM_X1_putByte dX1_putByte_8 (jim.B i_a0) rfl ?_
  refine jw_icmp_ge (tgt := 36) zM_X1_putByte dX1_putByte_9 rfl (hA a0 1) (show jW (jN (a0 + 1) : Int) from ⟨by have := jN_le (a0 + 1); omega, by have := jN_le (a0 + 1); omega⟩) (fun q => ?_) (fun q => ?_)
  · replace h := h.1 q
    exact jw_retv zM_X1_putByte dX1_putByte_36 rfl hA h
  · replace h := h.2 q
    refine zw_go (pc1 := 13) (L1 := [some (.ref a0), some (.int (jI x1))]) (st1 := [.ref a0]) (σ1 := js E A) zM_X1_putByte dX1_putByte_12 rfl rfl rfl rfl ?_
    refine jw_getR (a := (a0 + 1)) zM_X1_putByte dX1_putByte_13 zF_1_9 rfl (jim.K i_a0) (jim.R i_a0 _) ?_
    refine zw_go (pc1 := 17) (L1 := [some (.ref a0), some (.int (jI x1))]) (st1 := [.ref a0, .ref (a0 + 1)]) (σ1 := js E A) zM_X1_putByte dX1_putByte_16 rfl rfl rfl rfl ?_
    refine jw_getI zM_X1_putByte dX1_putByte_17 zF_1_15 rfl rfl (jim.K i_a0) ?_
    refine zw_go (pc1 := 21) (L1 := [some (.ref a0), some (.int (jI x1))]) (st1 := [.int (jI x1), .int (jI (A a0 1)), .ref (a0 + 1)]) (σ1 := js E A) zM_X1_putByte dX1_putByte_20 rfl rfl rfl rfl ?_
    refine jw_sipush (v := 255) zM_X1_putByte dX1_putByte_21 (by decide) ?_
    refine jw_and zM_X1_putByte dX1_putByte_24 rfl ?_
    obtain ⟨hi1, h⟩ := h
    obtain ⟨A2, e3⟩ : ∃ z9 : jA, z9 = jup A (a0 + 1) (A a0 1) (x1 % 256) := ⟨_, rfl⟩
    replace h := h A2 e3
    have hA4 : jOK A2 := jOK.up hA (show jW (x1 % 256) from ⟨by omega, by omega⟩) e3
    refine jw_iast zM_X1_putByte dX1_putByte_25 (jim.B i_a0) rfl hi1 e3 ?_
    refine zw_go (pc1 := 27) (L1 := [some (.ref a0), some (.int (jI x1))]) (st1 := [.ref a0]) (σ1 := js E A2) zM_X1_putByte dX1_putByte_26 rfl rfl rfl rfl ?_
    refine zw_go (pc1 := 28) (L1 := [some (.ref a0), some (.int (jI x1))]) (st1 := [.ref a0, .ref a0]) (σ1 := js E A2) zM_X1_putByte dX1_putByte_27 rfl rfl rfl rfl ?_
    refine jw_getI zM_X1_putByte dX1_putByte_28 zF_1_15 rfl rfl (jim.K i_a0) ?_
    refine jw_iconst (v := 1) zM_X1_putByte dX1_putByte_31 rfl ?_
    refine jw_add zM_X1_putByte dX1_putByte_32 ?_
    obtain ⟨hw5, h⟩ := h
    obtain ⟨A6, e7⟩ : ∃ z9 : jA, z9 = jup A2 a0 1 ((A2 a0 1) + 1) := ⟨_, rfl⟩
    replace h := h A6 e7
    have hA8 : jOK A6 := jOK.up hA4 hw5 e7
    refine jw_putI zM_X1_putByte dX1_putByte_33 zF_1_15 rfl rfl rfl (jim.K i_a0) e7 ?_
    exact jw_retv zM_X1_putByte dX1_putByte_36 rfl hA8 h
set_option maxHeartbeats 4000000 in
set_option maxRecDepth 100000 in
theorem vd_X1_putInt_0 (a0 : Nat) (i_a0 : jim a0) (x1 : Int) (r_x1 : jW x1) (E : jE) (A : jA) (K : jA → Prop) (h : jrV 40 0 [some (.ref a0), some (.int (jI (x1 / 65536)))] [] E A (fun A1 => jrV 40 0 [some (.ref a0), some (.int (jI x1))] [] E A1 (fun A3 => K A3))) : jrV 39 0 [some (.ref a0), some (.int (jI x1))] [] E A K := by
  intro hA
  refine zw_go (pc1 := 1) (L1 := [some (.ref a0), some (.int (jI x1))]) (st1 := [.ref a0]) (σ1 := js E A) zM_X1_putInt dX1_putInt_0 rfl rfl rfl rfl ?_
  refine zw_go (pc1 := 2) (L1 := [some (.ref a0), some (.int (jI x1))]) (st1 := [.int (jI x1), .ref a0]) (σ1 := js E A) zM_X1_putInt dX1_putInt_1 rfl rfl rfl rfl ?_
  refine jw_bipush (v := 16) zM_X1_putInt dX1_putInt_2 (by decide) ?_
  refine jw_shrC (p := 65536) zM_X1_putInt dX1_putInt_4 r_x1 ⟨by decide, by decide⟩ (by decide) ?_
  refine jw_callV (as := [.ref a0, .int (jI (x1 / 65536))]) (rest := []) zM_X1_putInt dX1_putInt_5 (zx_calV zC_1_23) zM_X1_putWord rfl rfl rfl rfl rfl (j_args0 (jim.K i_a0) rfl) rfl hA h (fun A1 hA2 h => ?_)
  refine zw_go (pc1 := 9) (L1 := [some (.ref a0), some (.int (jI x1))]) (st1 := [.ref a0]) (σ1 := js E A1) zM_X1_putInt dX1_putInt_8 rfl rfl rfl rfl ?_
  refine zw_go (pc1 := 10) (L1 := [some (.ref a0), some (.int (jI x1))]) (st1 := [.int (jI x1), .ref a0]) (σ1 := js E A1) zM_X1_putInt dX1_putInt_9 rfl rfl rfl rfl ?_
  refine jw_callV (as := [.ref a0, .int (jI x1)]) (rest := []) zM_X1_putInt dX1_putInt_10 (zx_calV zC_1_23) zM_X1_putWord rfl rfl rfl rfl rfl (j_args0 (jim.K i_a0) rfl) rfl hA2 h (fun A3 hA4 h => ?_)
  exact jw_retv zM_X1_putInt dX1_putInt_13 rfl hA4 h
set_option maxHeartbeats 4000000 in
set_option maxRecDepth 100000 in
theorem vd_X1_putWord_0 (a0 : Nat) (i_a0 : jim a0) (x1 : Int) (r_x1 : jW x1) (E : jE) (A : jA) (K : jA → Prop) (h : jrV 38 0 [some (.ref a0), some (.int (jI (x1 / 256)))] [] E A (fun A1 => jrV 38 0 [some (.ref a0), some (.int (jI x1))] [] E A1 (fun A3 => K A3))) : jrV 40 0 [some (.ref a0), some (.int (jI x1))] [] E A K := by
  intro hA
  refine zw_go (pc1 := 1) (L1 := [some (.ref a0), some (.int (jI x1))]) (st1 := [.ref a0]) (σ1 := js E A) zM_X1_putWord dX1_putWord_0 rfl rfl rfl rfl ?_
  refine zw_go (pc1 := 2) (L1 := [some (.ref a0), some (.int (jI x1))]) (st1 := [.int (jI x1), .ref a0]) (σ1 := js E A) zM_X1_putWord dX1_putWord_1 rfl rfl rfl rfl ?_
  refine jw_bipush (v := 8) zM_X1_putWord dX1_putWord_2 (by decide) ?_
  refine jw_shrC (p := 256) zM_X1_putWord dX1_putWord_4 r_x1 ⟨by decide, by decide⟩ (by decide) ?_
  refine jw_callV (as := [.ref a0, .int (jI (x1 / 256))]) (rest := []) zM_X1_putWord dX1_putWord_5 (zx_calV zC_1_19) zM_X1_putByte rfl rfl rfl rfl rfl (j_args0 (jim.K i_a0) rfl) rfl hA h (fun A1 hA2 h => ?_)
  refine zw_go (pc1 := 9) (L1 := [some (.ref a0), some (.int (jI x1))]) (st1 := [.ref a0]) (σ1 := js E A1) zM_X1_putWord dX1_putWord_8 rfl rfl rfl rfl ?_
  refine zw_go (pc1 := 10) (L1 := [some (.ref a0), some (.int (jI x1))]) (st1 := [.int (jI x1), .ref a0]) (σ1 := js E A1) zM_X1_putWord dX1_putWord_9 rfl rfl rfl rfl ?_
  refine jw_callV (as := [.ref a0, .int (jI x1)]) (rest := []) zM_X1_putWord dX1_putWord_10 (zx_calV zC_1_19) zM_X1_putByte rfl rfl rfl rfl rfl (j_args0 (jim.K i_a0) rfl) rfl hA2 h (fun A3 hA4 h => ?_)
  exact jw_retv zM_X1_putWord dX1_putWord_13 rfl hA4 h
set_option maxHeartbeats 4000000 in
set_option maxRecDepth 100000 in
theorem vd_X1_readHead_0 (a0 : Nat) (i_a0 : jim a0) (E : jE) (A : jA) (K : jA → Prop) (h : jrI 21 0 [some (.ref a0), some (.int (jI 2))] [] E A (fun v3 A1 => ∀ A5 : jA, A5 = jup A1 a0 2 v3 → jrI 51 0 [some (.ref a0), some (.int (jI 4))] [] E A5 (fun v10 A8 => ∀ A12 : jA, A12 = jup A8 a0 3 v10 → jrI 51 0 [some (.ref a0), some (.int (jI 6))] [] E A12 (fun v17 A15 => ∀ A19 : jA, A19 = jup A15 a0 4 v17 → jrI 51 0 [some (.ref a0), some (.int (jI 8))] [] E A19 (fun v24 A22 => ∀ A26 : jA, A26 = jup A22 a0 5 v24 → jrI 51 0 [some (.ref a0), some (.int (jI 10))] [] E A26 (fun v31 A29 => ∀ A33 : jA, A33 = jup A29 a0 6 v31 → jrI 51 0 [some (.ref a0), some (.int (jI 12))] [] E A33 (fun v38 A36 => ∀ A40 : jA, A40 = jup A36 a0 7 v38 → K A40))))))) : jrV 41 0 [some (.ref a0)] [] E A K := by
  intro hA
  refine zw_go (pc1 := 1) (L1 := [some (.ref a0)]) (st1 := [.ref a0]) (σ1 := js E A) zM_X1_readHead dX1_readHead_0 rfl rfl rfl rfl ?_
  refine zw_go (pc1 := 2) (L1 := [some (.ref a0)]) (st1 := [.ref a0, .ref a0]) (σ1 := js E A) zM_X1_readHead dX1_readHead_1 rfl rfl rfl rfl ?_
  refine jw_iconst (v := 2) zM_X1_readHead dX1_readHead_2 rfl ?_
  refine jw_callI (as := [.ref a0, .int (jI 2)]) (rest := [.ref a0]) zM_X1_readHead dX1_readHead_3 (zx_calV zC_1_41) zM_X1_byteAt rfl rfl rfl rfl rfl (j_args0 (jim.K i_a0) rfl) rfl hA h (fun v3 A1 rv4 hA2 h => ?_)
  obtain ⟨A5, e6⟩ : ∃ z9 : jA, z9 = jup A1 a0 2 v3 := ⟨_, rfl⟩
  replace h := h A5 e6
  have hA7 : jOK A5 := jOK.up hA2 rv4 e6
  refine jw_putI zM_X1_readHead dX1_readHead_6 zF_1_45 rfl rfl rfl (jim.K i_a0) e6 ?_
  refine zw_go (pc1 := 10) (L1 := [some (.ref a0)]) (st1 := [.ref a0]) (σ1 := js E A5) zM_X1_readHead dX1_readHead_9 rfl rfl rfl rfl ?_
  refine zw_go (pc1 := 11) (L1 := [some (.ref a0)]) (st1 := [.ref a0, .ref a0]) (σ1 := js E A5) zM_X1_readHead dX1_readHead_10 rfl rfl rfl rfl ?_
  refine jw_iconst (v := 4) zM_X1_readHead dX1_readHead_11 rfl ?_
  refine jw_callI (as := [.ref a0, .int (jI 4)]) (rest := [.ref a0]) zM_X1_readHead dX1_readHead_12 (zx_calV zC_1_48) zM_X1_wordAt rfl rfl rfl rfl rfl (j_args0 (jim.K i_a0) rfl) rfl hA7 h (fun v10 A8 rv11 hA9 h => ?_)
  obtain ⟨A12, e13⟩ : ∃ z9 : jA, z9 = jup A8 a0 3 v10 := ⟨_, rfl⟩
  replace h := h A12 e13
  have hA14 : jOK A12 := jOK.up hA9 rv11 e13
  refine jw_putI zM_X1_readHead dX1_readHead_15 zF_1_51 rfl rfl rfl (jim.K i_a0) e13 ?_
  refine zw_go (pc1 := 19) (L1 := [some (.ref a0)]) (st1 := [.ref a0]) (σ1 := js E A12) zM_X1_readHead dX1_readHead_18 rfl rfl rfl rfl ?_
  refine zw_go (pc1 := 20) (L1 := [some (.ref a0)]) (st1 := [.ref a0, .ref a0]) (σ1 := js E A12) zM_X1_readHead dX1_readHead_19 rfl rfl rfl rfl ?_
  refine jw_bipush (v := 6) zM_X1_readHead dX1_readHead_20 (by decide) ?_
  refine jw_callI (as := [.ref a0, .int (jI 6)]) (rest := [.ref a0]) zM_X1_readHead dX1_readHead_22 (zx_calV zC_1_48) zM_X1_wordAt rfl rfl rfl rfl rfl (j_args0 (jim.K i_a0) rfl) rfl hA14 h (fun v17 A15 rv18 hA16 h => ?_)
  obtain ⟨A19, e20⟩ : ∃ z9 : jA, z9 = jup A15 a0 4 v17 := ⟨_, rfl⟩
  replace h := h A19 e20
  have hA21 : jOK A19 := jOK.up hA16 rv18 e20
  refine jw_putI zM_X1_readHead dX1_readHead_25 zF_1_54 rfl rfl rfl (jim.K i_a0) e20 ?_
  refine zw_go (pc1 := 29) (L1 := [some (.ref a0)]) (st1 := [.ref a0]) (σ1 := js E A19) zM_X1_readHead dX1_readHead_28 rfl rfl rfl rfl ?_
  refine zw_go (pc1 := 30) (L1 := [some (.ref a0)]) (st1 := [.ref a0, .ref a0]) (σ1 := js E A19) zM_X1_readHead dX1_readHead_29 rfl rfl rfl rfl ?_
  refine jw_bipush (v := 8) zM_X1_readHead dX1_readHead_30 (by decide) ?_
  refine jw_callI (as := [.ref a0, .int (jI 8)]) (rest := [.ref a0]) zM_X1_readHead dX1_readHead_32 (zx_calV zC_1_48) zM_X1_wordAt rfl rfl rfl rfl rfl (j_args0 (jim.K i_a0) rfl) rfl hA21 h (fun v24 A22 rv25 hA23 h => ?_)
  obtain ⟨A26, e27⟩ : ∃ z9 : jA, z9 = jup A22 a0 5 v24 := ⟨_, rfl⟩
  replace h := h A26 e27
  have hA28 : jOK A26 := jOK.up hA23 rv25 e27
  refine jw_putI zM_X1_readHead dX1_readHead_35 zF_1_57 rfl rfl rfl (jim.K i_a0) e27 ?_
  refine zw_go (pc1 := 39) (L1 := [some (.ref a0)]) (st1 := [.ref a0]) (σ1 := js E A26) zM_X1_readHead dX1_readHead_38 rfl rfl rfl rfl ?_
  refine zw_go (pc1 := 40) (L1 := [some (.ref a0)]) (st1 := [.ref a0, .ref a0]) (σ1 := js E A26) zM_X1_readHead dX1_readHead_39 rfl rfl rfl rfl ?_
  refine jw_bipush (v := 10) zM_X1_readHead dX1_readHead_40 (by decide) ?_
  refine jw_callI (as := [.ref a0, .int (jI 10)]) (rest := [.ref a0]) zM_X1_readHead dX1_readHead_42 (zx_calV zC_1_48) zM_X1_wordAt rfl rfl rfl rfl rfl (j_args0 (jim.K i_a0) rfl) rfl hA28 h (fun v31 A29 rv32 hA30 h => ?_)
  obtain ⟨A33, e34⟩ : ∃ z9 : jA, z9 = jup A29 a0 6 v31 := ⟨_, rfl⟩
  replace h := h A33 e34
  have hA35 : jOK A33 := jOK.up hA30 rv32 e34
  refine jw_putI zM_X1_readHead dX1_readHead_45 zF_1_60 rfl rfl rfl (jim.K i_a0) e34 ?_
  refine zw_go (pc1 := 49) (L1 := [some (.ref a0)]) (st1 := [.ref a0]) (σ1 := js E A33) zM_X1_readHead dX1_readHead_48 rfl rfl rfl rfl ?_
  refine zw_go (pc1 := 50) (L1 := [some (.ref a0)]) (st1 := [.ref a0, .ref a0]) (σ1 := js E A33) zM_X1_readHead dX1_readHead_49 rfl rfl rfl rfl ?_
  refine jw_bipush (v := 12) zM_X1_readHead dX1_readHead_50 (by decide) ?_
  refine jw_callI (as := [.ref a0, .int (jI 12)]) (rest := [.ref a0]) zM_X1_readHead dX1_readHead_52 (zx_calV zC_1_48) zM_X1_wordAt rfl rfl rfl rfl rfl (j_args0 (jim.K i_a0) rfl) rfl hA35 h (fun v38 A36 rv39 hA37 h => ?_)
  obtain ⟨A40, e41⟩ : ∃ z9 : jA, z9 = jup A36 a0 7 v38 := ⟨_, rfl⟩
  replace h := h A40 e41
  have hA42 : jOK A40 := jOK.up hA37 rv39 e41
  refine jw_putI zM_X1_readHead dX1_readHead_55 zF_1_63 rfl rfl rfl (jim.K i_a0) e41 ?_
  exact jw_retv zM_X1_readHead dX1_readHead_58 rfl hA42 h
set_option maxHeartbeats 4000000 in
set_option maxRecDepth 100000 in
theorem vd_X1_rowOf_0 (a0 : Nat) (i_a0 : jim a0) (x1 : Int) (r_x1 : jW x1) (E : jE) (A : jA) (K : Int → jA → Prop) (h : jrI 51 0 [some (.ref a0), some (.int (jI ((A a0 7) + (2 * (x1 - 1)))))] [] E A (fun v3 A1 => jW ((A a0 4) + v3) ∧ K ((A a0 4) + v3) A1)) : jrI 42 0 [some (.ref a0), some (.int (jI x1))] [] E A K := by
  intro hA
  refine zw_go (pc1 := 1) (L1 := [some (.ref a0), some (.int (jI x1))]) (st1 := [.ref a0]) (σ1 := js E A) zM_X1_rowOf dX1_rowOf_0 rfl rfl rfl rfl ?_
  refine jw_getI zM_X1_rowOf dX1_rowOf_1 zF_1_54 rfl rfl (jim.K i_a0) ?_
  refine zw_go (pc1 := 5) (L1 := [some (.ref a0), some (.int (jI x1))]) (st1 := [.ref a0, .int (jI (A a0 4))]) (σ1 := js E A) zM_X1_rowOf dX1_rowOf_4 rfl rfl rfl rfl ?_
  refine zw_go (pc1 := 6) (L1 := [some (.ref a0), some (.int (jI x1))]) (st1 := [.ref a0, .ref a0, .int (jI (A a0 4))]) (σ1 := js E A) zM_X1_rowOf dX1_rowOf_5 rfl rfl rfl rfl ?_
  refine jw_getI zM_X1_rowOf dX1_rowOf_6 zF_1_63 rfl rfl (jim.K i_a0) ?_
  refine jw_iconst (v := 2) zM_X1_rowOf dX1_rowOf_9 rfl ?_
  refine zw_go (pc1 := 11) (L1 := [some (.ref a0), some (.int (jI x1))]) (st1 := [.int (jI x1), .int (jI 2), .int (jI (A a0 7)), .ref a0, .int (jI (A a0 4))]) (σ1 := js E A) zM_X1_rowOf dX1_rowOf_10 rfl rfl rfl rfl ?_
  refine jw_iconst (v := 1) zM_X1_rowOf dX1_rowOf_11 rfl ?_
  refine jw_sub zM_X1_rowOf dX1_rowOf_12 ?_
  refine jw_mul zM_X1_rowOf dX1_rowOf_13 ?_
  refine jw_add zM_X1_rowOf dX1_rowOf_14 ?_
  refine jw_callI (as := [.ref a0, .int (jI ((A a0 7) + (2 * (x1 - 1))))]) (rest := [.int (jI (A a0 4))]) zM_X1_rowOf dX1_rowOf_15 (zx_calV zC_1_48) zM_X1_wordAt rfl rfl rfl rfl rfl (j_args0 (jim.K i_a0) rfl) rfl hA h (fun v3 A1 rv4 hA2 h => ?_)
  refine jw_add zM_X1_rowOf dX1_rowOf_18 ?_
  obtain ⟨hw5, h⟩ := h
  exact jw_reti zM_X1_rowOf dX1_rowOf_19 rfl hw5 hA2 h
set_option maxHeartbeats 4000000 in
set_option maxRecDepth 100000 in
theorem vd_X1_setWord_0 (a0 : Nat) (i_a0 : jim a0) (x1 : Int) (r_x1 : jW x1) (x2 : Int) (r_x2 : jW x2) (E : jE) (A : jA) (K : jA → Prop) (h : ((x1 < (0 : Int) → K A) ∧ ((0 : Int) ≤ x1 → jW (x1 + 1) ∧ (((A a0 1) ≤ (x1 + 1) → K A) ∧ ((x1 + 1) < (A a0 1) → (0 ≤ x1 ∧ x1 < (jN (a0 + 1) : Int)) ∧ ∀ A3 : jA, A3 = jup A (a0 + 1) x1 ((x2 / 256) % 256) → (0 ≤ (x1 + 1) ∧ (x1 + 1) < (jN (a0 + 1) : Int)) ∧ ∀ A7 : jA, A7 = jup A3 (a0 + 1) (x1 + 1) (x2 % 256) → K A7))))) : jrV 43 0 [some (.ref a0), some (.int (jI x1)), some (.int (jI x2))] [] E A K := by
  intro hA
  refine zw_go (pc1 := 1) (L1 := [some (.ref a0), some (.int (jI x1)), some (.int (jI x2))]) (st1 := [.int (jI x1)]) (σ1 := js E A) zM_X1_setWord dX1_setWord_0 rfl rfl rfl rfl ?_
  refine jw_if_lt (tgt := 41) zM_X1_setWord dX1_setWord_1 rfl r_x1 (fun q => ?_) (fun q => ?_)
  · replace h := h.1 q
    exact jw_retv zM_X1_setWord dX1_setWord_41 rfl hA h
  · replace h := h.2 q
    refine zw_go (pc1 := 5) (L1 := [some (.ref a0), some (.int (jI x1)), some (.int (jI x2))]) (st1 := [.int (jI x1)]) (σ1 := js E A) zM_X1_setWord dX1_setWord_4 rfl rfl rfl rfl ?_
    refine jw_iconst (v := 1) zM_X1_setWord dX1_setWord_5 rfl ?_
    refine jw_add zM_X1_setWord dX1_setWord_6 ?_
    refine zw_go (pc1 := 8) (L1 := [some (.ref a0), some (.int (jI x1)), some (.int (jI x2))]) (st1 := [.ref a0, .int (jI (x1 + 1))]) (σ1 := js E A) zM_X1_setWord dX1_setWord_7 rfl rfl rfl rfl ?_
    refine jw_getI zM_X1_setWord dX1_setWord_8 zF_1_15 rfl rfl (jim.K i_a0) ?_
    obtain ⟨hw1, h⟩ := h
    refine jw_icmp_ge (tgt := 41) zM_X1_setWord dX1_setWord_11 rfl hw1 (hA a0 1) (fun q => ?_) (fun q => ?_)
    · replace h := h.1 q
      exact jw_retv zM_X1_setWord dX1_setWord_41 rfl hA h
    · replace h := h.2 q
      refine zw_go (pc1 := 15) (L1 := [some (.ref a0), some (.int (jI x1)), some (.int (jI x2))]) (st1 := [.ref a0]) (σ1 := js E A) zM_X1_setWord dX1_setWord_14 rfl rfl rfl rfl ?_
      refine jw_getR (a := (a0 + 1)) zM_X1_setWord dX1_setWord_15 zF_1_9 rfl (jim.K i_a0) (jim.R i_a0 _) ?_
      refine zw_go (pc1 := 19) (L1 := [some (.ref a0), some (.int (jI x1)), some (.int (jI x2))]) (st1 := [.int (jI x1), .ref (a0 + 1)]) (σ1 := js E A) zM_X1_setWord dX1_setWord_18 rfl rfl rfl rfl ?_
      refine zw_go (pc1 := 20) (L1 := [some (.ref a0), some (.int (jI x1)), some (.int (jI x2))]) (st1 := [.int (jI x2), .int (jI x1), .ref (a0 + 1)]) (σ1 := js E A) zM_X1_setWord dX1_setWord_19 rfl rfl rfl rfl ?_
      refine jw_bipush (v := 8) zM_X1_setWord dX1_setWord_20 (by decide) ?_
      refine jw_shrC (p := 256) zM_X1_setWord dX1_setWord_22 r_x2 ⟨by decide, by decide⟩ (by decide) ?_
      refine jw_sipush (v := 255) zM_X1_setWord dX1_setWord_23 (by decide) ?_
      refine jw_and zM_X1_setWord dX1_setWord_26 rfl ?_
      obtain ⟨hi2, h⟩ := h
      obtain ⟨A3, e4⟩ : ∃ z9 : jA, z9 = jup A (a0 + 1) x1 ((x2 / 256) % 256) := ⟨_, rfl⟩
      replace h := h A3 e4
      have hA5 : jOK A3 := jOK.up hA (show jW ((x2 / 256) % 256) from ⟨by omega, by omega⟩) e4
      refine jw_iast zM_X1_setWord dX1_setWord_27 (jim.B i_a0) rfl hi2 e4 ?_
      refine zw_go (pc1 := 29) (L1 := [some (.ref a0), some (.int (jI x1)), some (.int (jI x2))]) (st1 := [.ref a0]) (σ1 := js E A3) zM_X1_setWord dX1_setWord_28 rfl rfl rfl rfl ?_
      refine jw_getR (a := (a0 + 1)) zM_X1_setWord dX1_setWord_29 zF_1_9 rfl (jim.K i_a0) (jim.R i_a0 _) ?_
      refine zw_go (pc1 := 33) (L1 := [some (.ref a0), some (.int (jI x1)), some (.int (jI x2))]) (st1 := [.int (jI x1), .ref (a0 + 1)]) (σ1 := js E A3) zM_X1_setWord dX1_setWord_32 rfl rfl rfl rfl ?_
      refine jw_iconst (v := 1) zM_X1_setWord dX1_setWord_33 rfl ?_
      refine jw_add zM_X1_setWord dX1_setWord_34 ?_
      refine zw_go (pc1 := 36) (L1 := [some (.ref a0), some (.int (jI x1)), some (.int (jI x2))]) (st1 := [.int (jI x2), .int (jI (x1 + 1)), .ref (a0 + 1)]) (σ1 := js E A3) zM_X1_setWord dX1_setWord_35 rfl rfl rfl rfl ?_
      refine jw_sipush (v := 255) zM_X1_setWord dX1_setWord_36 (by decide) ?_
      refine jw_and zM_X1_setWord dX1_setWord_39 rfl ?_
      obtain ⟨hi6, h⟩ := h
      obtain ⟨A7, e8⟩ : ∃ z9 : jA, z9 = jup A3 (a0 + 1) (x1 + 1) (x2 % 256) := ⟨_, rfl⟩
      replace h := h A7 e8
      have hA9 : jOK A7 := jOK.up hA5 (show jW (x2 % 256) from ⟨by omega, by omega⟩) e8
      refine jw_iast zM_X1_setWord dX1_setWord_40 (jim.B i_a0) rfl hi6 e8 ?_
      exact jw_retv zM_X1_setWord dX1_setWord_41 rfl hA9 h
set_option maxHeartbeats 4000000 in
set_option maxRecDepth 100000 in
theorem vd_X1_sizeOf_0 (a0 : Nat) (i_a0 : jim a0) (x1 : Int) (r_x1 : jW x1) (E : jE) (A : jA) (K : Int → jA → Prop) (h : jrI 42 0 [some (.ref a0), some (.int (jI x1))] [] E A (fun v3 A1 => jrI 21 0 [some (.ref a0), some (.int (jI v3))] [] E A1 (fun v7 A5 => ((¬ v7 = (2 : Int) → ((¬ v7 = (1 : Int) → K 0 A5) ∧ (v7 = (1 : Int) → jrI 51 0 [some (.ref a0), some (.int (jI (v3 + 8)))] [] E A5 (fun v11 A9 => K v11 A9)))) ∧ (v7 = (2 : Int) → jrI 51 0 [some (.ref a0), some (.int (jI (v3 + 6)))] [] E A5 (fun v15 A13 => K v15 A13)))))) : jrI 44 0 [some (.ref a0), some (.int (jI x1)), none, none] [] E A K := by
  intro hA
  refine zw_go (pc1 := 1) (L1 := [some (.ref a0), some (.int (jI x1)), none, none]) (st1 := [.ref a0]) (σ1 := js E A) zM_X1_sizeOf dX1_sizeOf_0 rfl rfl rfl rfl ?_
  refine zw_go (pc1 := 2) (L1 := [some (.ref a0), some (.int (jI x1)), none, none]) (st1 := [.int (jI x1), .ref a0]) (σ1 := js E A) zM_X1_sizeOf dX1_sizeOf_1 rfl rfl rfl rfl ?_
  refine jw_callI (as := [.ref a0, .int (jI x1)]) (rest := []) zM_X1_sizeOf dX1_sizeOf_2 (zx_calV zC_1_68) zM_X1_rowOf rfl rfl rfl rfl rfl (j_args0 (jim.K i_a0) rfl) rfl hA h (fun v3 A1 rv4 hA2 h => ?_)
  refine zw_go (pc1 := 6) (L1 := [some (.ref a0), some (.int (jI x1)), some (.int (jI v3)), none]) (st1 := []) (σ1 := js E A1) zM_X1_sizeOf dX1_sizeOf_5 rfl rfl rfl rfl ?_
  refine zw_go (pc1 := 7) (L1 := [some (.ref a0), some (.int (jI x1)), some (.int (jI v3)), none]) (st1 := [.ref a0]) (σ1 := js E A1) zM_X1_sizeOf dX1_sizeOf_6 rfl rfl rfl rfl ?_
  refine zw_go (pc1 := 8) (L1 := [some (.ref a0), some (.int (jI x1)), some (.int (jI v3)), none]) (st1 := [.int (jI v3), .ref a0]) (σ1 := js E A1) zM_X1_sizeOf dX1_sizeOf_7 rfl rfl rfl rfl ?_
  refine jw_callI (as := [.ref a0, .int (jI v3)]) (rest := []) zM_X1_sizeOf dX1_sizeOf_8 (zx_calV zC_1_41) zM_X1_byteAt rfl rfl rfl rfl rfl (j_args0 (jim.K i_a0) rfl) rfl hA2 h (fun v7 A5 rv8 hA6 h => ?_)
  refine zw_go (pc1 := 12) (L1 := [some (.ref a0), some (.int (jI x1)), some (.int (jI v3)), some (.int (jI v7))]) (st1 := []) (σ1 := js E A5) zM_X1_sizeOf dX1_sizeOf_11 rfl rfl rfl rfl ?_
  refine zw_go (pc1 := 13) (L1 := [some (.ref a0), some (.int (jI x1)), some (.int (jI v3)), some (.int (jI v7))]) (st1 := [.int (jI v7)]) (σ1 := js E A5) zM_X1_sizeOf dX1_sizeOf_12 rfl rfl rfl rfl ?_
  refine jw_iconst (v := 2) zM_X1_sizeOf dX1_sizeOf_13 rfl ?_
  refine jw_icmp_ne (tgt := 28) zM_X1_sizeOf dX1_sizeOf_14 rfl rv8 (show jW 2 from ⟨by decide, by decide⟩) (fun q => ?_) (fun q => ?_)
  · replace h := h.1 q
    refine zw_go (pc1 := 29) (L1 := [some (.ref a0), some (.int (jI x1)), some (.int (jI v3)), some (.int (jI v7))]) (st1 := [.int (jI v7)]) (σ1 := js E A5) zM_X1_sizeOf dX1_sizeOf_28 rfl rfl rfl rfl ?_
    refine jw_iconst (v := 1) zM_X1_sizeOf dX1_sizeOf_29 rfl ?_
    refine jw_icmp_ne (tgt := 44) zM_X1_sizeOf dX1_sizeOf_30 rfl rv8 (show jW 1 from ⟨by decide, by decide⟩) (fun q => ?_) (fun q => ?_)
    · replace h := h.1 q
      refine jw_iconst (v := 0) zM_X1_sizeOf dX1_sizeOf_44 rfl ?_
      exact jw_reti zM_X1_sizeOf dX1_sizeOf_45 rfl (show jW 0 from ⟨by decide, by decide⟩) hA6 h
    · replace h := h.2 q
      refine zw_go (pc1 := 34) (L1 := [some (.ref a0), some (.int (jI x1)), some (.int (jI v3)), some (.int (jI v7))]) (st1 := [.ref a0]) (σ1 := js E A5) zM_X1_sizeOf dX1_sizeOf_33 rfl rfl rfl rfl ?_
      refine zw_go (pc1 := 35) (L1 := [some (.ref a0), some (.int (jI x1)), some (.int (jI v3)), some (.int (jI v7))]) (st1 := [.int (jI v3), .ref a0]) (σ1 := js E A5) zM_X1_sizeOf dX1_sizeOf_34 rfl rfl rfl rfl ?_
      refine jw_bipush (v := 8) zM_X1_sizeOf dX1_sizeOf_35 (by decide) ?_
      refine jw_add zM_X1_sizeOf dX1_sizeOf_37 ?_
      refine jw_callI (as := [.ref a0, .int (jI (v3 + 8))]) (rest := []) zM_X1_sizeOf dX1_sizeOf_38 (zx_calV zC_1_48) zM_X1_wordAt rfl rfl rfl rfl rfl (j_args0 (jim.K i_a0) rfl) rfl hA6 h (fun v11 A9 rv12 hA10 h => ?_)
      refine zw_goto (tgt := 45) zM_X1_sizeOf dX1_sizeOf_41 rfl ?_
      exact jw_reti zM_X1_sizeOf dX1_sizeOf_45 rfl rv12 hA10 h
  · replace h := h.2 q
    refine zw_go (pc1 := 18) (L1 := [some (.ref a0), some (.int (jI x1)), some (.int (jI v3)), some (.int (jI v7))]) (st1 := [.ref a0]) (σ1 := js E A5) zM_X1_sizeOf dX1_sizeOf_17 rfl rfl rfl rfl ?_
    refine zw_go (pc1 := 19) (L1 := [some (.ref a0), some (.int (jI x1)), some (.int (jI v3)), some (.int (jI v7))]) (st1 := [.int (jI v3), .ref a0]) (σ1 := js E A5) zM_X1_sizeOf dX1_sizeOf_18 rfl rfl rfl rfl ?_
    refine jw_bipush (v := 6) zM_X1_sizeOf dX1_sizeOf_19 (by decide) ?_
    refine jw_add zM_X1_sizeOf dX1_sizeOf_21 ?_
    refine jw_callI (as := [.ref a0, .int (jI (v3 + 6))]) (rest := []) zM_X1_sizeOf dX1_sizeOf_22 (zx_calV zC_1_48) zM_X1_wordAt rfl rfl rfl rfl rfl (j_args0 (jim.K i_a0) rfl) rfl hA6 h (fun v15 A13 rv16 hA14 h => ?_)
    refine zw_goto (tgt := 45) zM_X1_sizeOf dX1_sizeOf_25 rfl ?_
    exact jw_reti zM_X1_sizeOf dX1_sizeOf_45 rfl rv16 hA14 h
set_option maxHeartbeats 4000000 in
set_option maxRecDepth 100000 in
theorem vd_X1_storedBytes_0 (x0 : Int) (r_x0 : jW x0) (E : jE) (A : jA) (K : Int → jA → Prop) (h : ((x0 < (32768 : Int) → K x0 A) ∧ ((32768 : Int) ≤ x0 → jW (x0 - 32768) ∧ K (x0 - 32768) A))) : jrI 45 0 [some (.int (jI x0))] [] E A K := by
  intro hA
  refine zw_go (pc1 := 1) (L1 := [some (.int (jI x0))]) (st1 := [.int (jI x0)]) (σ1 := js E A) zM_X1_storedBytes dX1_storedBytes_0 rfl rfl rfl rfl ?_
  refine jw_ldc (w := 32768) zM_X1_storedBytes dX1_storedBytes_1 zK_1_90 (by decide) ?_
  refine jw_icmp_lt (tgt := 13) zM_X1_storedBytes dX1_storedBytes_3 rfl r_x0 (show jW 32768 from ⟨by decide, by decide⟩) (fun q => ?_) (fun q => ?_)
  · replace h := h.1 q
    refine zw_go (pc1 := 14) (L1 := [some (.int (jI x0))]) (st1 := [.int (jI x0)]) (σ1 := js E A) zM_X1_storedBytes dX1_storedBytes_13 rfl rfl rfl rfl ?_
    exact jw_reti zM_X1_storedBytes dX1_storedBytes_14 rfl r_x0 hA h
  · replace h := h.2 q
    refine zw_go (pc1 := 7) (L1 := [some (.int (jI x0))]) (st1 := [.int (jI x0)]) (σ1 := js E A) zM_X1_storedBytes dX1_storedBytes_6 rfl rfl rfl rfl ?_
    refine jw_ldc (w := 32768) zM_X1_storedBytes dX1_storedBytes_7 zK_1_90 (by decide) ?_
    refine jw_sub zM_X1_storedBytes dX1_storedBytes_9 ?_
    refine zw_goto (tgt := 14) zM_X1_storedBytes dX1_storedBytes_10 rfl ?_
    obtain ⟨hw1, h⟩ := h
    exact jw_reti zM_X1_storedBytes dX1_storedBytes_14 rfl hw1 hA h
