set_option maxHeartbeats 4000000 in
set_option maxRecDepth 100000 in
theorem vd_X3_addFound_0  (E : jE) (A : jA) (K : jA → Prop) (h : jrV 66 2 [some (.ref 38), some (.int (jI 0))] [] E A K) : jrV 66 0 [some (.ref 38), none] [] E A K := by
  intro hA
  refine jw_iconst (v := 0) zM_X3_addFound dX3_addFound_0 rfl ?_
  refine zw_go (pc1 := 2) (L1 := [some (.ref 38), some (.int (jI 0))]) (st1 := []) (σ1 := js E A) zM_X3_addFound dX3_addFound_1 rfl rfl rfl rfl ?_
  exact zw_weak2 (h hA) ⟨rfl, rfl, trivial⟩
set_option maxHeartbeats 4000000 in
set_option maxRecDepth 100000 in
theorem vd_X3_addFound_2 (x1 : Int) (r_x1 : jW x1) (E : jE) (A : jA) (K : jA → Prop) (h : (((A 38 8) ≤ x1 → (0 ≤ (A 38 11) ∧ (A 38 11) < 60) ∧ ∀ A2 : jA, A2 = jup A 41 (A 38 11) (A 38 8) → jW ((A2 38 11) + 1) ∧ ∀ A6 : jA, A6 = jup A2 38 11 ((A2 38 11) + 1) → K A6) ∧ (x1 < (A 38 8) → (0 ≤ x1 ∧ x1 < 3) ∧ (0 ≤ (((A 38 11) * 3) + x1) ∧ (((A 38 11) * 3) + x1) < 180) ∧ ∀ A11 : jA, A11 = jup A 42 (((A 38 11) * 3) + x1) (A 44 x1) → (0 ≤ x1 ∧ x1 < 3) ∧ (0 ≤ (((A11 38 11) * 3) + x1) ∧ (((A11 38 11) * 3) + x1) < 180) ∧ ∀ A16 : jA, A16 = jup A11 43 (((A11 38 11) * 3) + x1) (A11 45 x1) → jrV 66 2 [some (.ref 38), some (.int (jI (x1 + 1)))] [] E A16 K))) : jrV 66 2 [some (.ref 38), some (.int (jI x1))] [] E A K := by
  intro hA
  refine zw_go (pc1 := 3) (L1 := [some (.ref 38), some (.int (jI x1))]) (st1 := [.int (jI x1)]) (σ1 := js E A) zM_X3_addFound dX3_addFound_2 rfl rfl rfl rfl ?_
  refine zw_go (pc1 := 4) (L1 := [some (.ref 38), some (.int (jI x1))]) (st1 := [.ref 38, .int (jI x1)]) (σ1 := js E A) zM_X3_addFound dX3_addFound_3 rfl rfl rfl rfl ?_
  refine jw_getI zM_X3_addFound dX3_addFound_4 zF_3_99 rfl rfl rfl ?_
  refine jw_icmp_ge (tgt := 54) zM_X3_addFound dX3_addFound_7 rfl r_x1 (hA 38 8) (fun q => ?_) (fun q => ?_)
  · replace h := h.1 q
    refine zw_go (pc1 := 55) (L1 := [some (.ref 38), some (.int (jI x1))]) (st1 := [.ref 38]) (σ1 := js E A) zM_X3_addFound dX3_addFound_54 rfl rfl rfl rfl ?_
    refine jw_getR (a := 41) zM_X3_addFound dX3_addFound_55 zF_3_21 rfl rfl rfl ?_
    refine zw_go (pc1 := 59) (L1 := [some (.ref 38), some (.int (jI x1))]) (st1 := [.ref 38, .ref 41]) (σ1 := js E A) zM_X3_addFound dX3_addFound_58 rfl rfl rfl rfl ?_
    refine jw_getI zM_X3_addFound dX3_addFound_59 zF_3_49 rfl rfl rfl ?_
    refine zw_go (pc1 := 63) (L1 := [some (.ref 38), some (.int (jI x1))]) (st1 := [.ref 38, .int (jI (A 38 11)), .ref 41]) (σ1 := js E A) zM_X3_addFound dX3_addFound_62 rfl rfl rfl rfl ?_
    refine jw_getI zM_X3_addFound dX3_addFound_63 zF_3_99 rfl rfl rfl ?_
    obtain ⟨hi1, h⟩ := h
    obtain ⟨A2, e3⟩ : ∃ z9 : jA, z9 = jup A 41 (A 38 11) (A 38 8) := ⟨_, rfl⟩
    replace h := h A2 e3
    have hA4 : jOK A2 := jOK.up hA (hA 38 8) e3
    refine jw_iast zM_X3_addFound dX3_addFound_66 rfl rfl hi1 e3 ?_
    refine zw_go (pc1 := 68) (L1 := [some (.ref 38), some (.int (jI x1))]) (st1 := [.ref 38]) (σ1 := js E A2) zM_X3_addFound dX3_addFound_67 rfl rfl rfl rfl ?_
    refine zw_go (pc1 := 69) (L1 := [some (.ref 38), some (.int (jI x1))]) (st1 := [.ref 38, .ref 38]) (σ1 := js E A2) zM_X3_addFound dX3_addFound_68 rfl rfl rfl rfl ?_
    refine jw_getI zM_X3_addFound dX3_addFound_69 zF_3_49 rfl rfl rfl ?_
    refine jw_iconst (v := 1) zM_X3_addFound dX3_addFound_72 rfl ?_
    refine jw_add zM_X3_addFound dX3_addFound_73 ?_
    obtain ⟨hw5, h⟩ := h
    obtain ⟨A6, e7⟩ : ∃ z9 : jA, z9 = jup A2 38 11 ((A2 38 11) + 1) := ⟨_, rfl⟩
    replace h := h A6 e7
    have hA8 : jOK A6 := jOK.up hA4 hw5 e7
    refine jw_putI zM_X3_addFound dX3_addFound_74 zF_3_49 rfl rfl rfl rfl e7 ?_
    exact jw_retv zM_X3_addFound dX3_addFound_77 rfl hA8 h
  · replace h := h.2 q
    refine zw_go (pc1 := 11) (L1 := [some (.ref 38), some (.int (jI x1))]) (st1 := [.ref 38]) (σ1 := js E A) zM_X3_addFound dX3_addFound_10 rfl rfl rfl rfl ?_
    refine jw_getR (a := 42) zM_X3_addFound dX3_addFound_11 zF_3_24 rfl rfl rfl ?_
    refine zw_go (pc1 := 15) (L1 := [some (.ref 38), some (.int (jI x1))]) (st1 := [.ref 38, .ref 42]) (σ1 := js E A) zM_X3_addFound dX3_addFound_14 rfl rfl rfl rfl ?_
    refine jw_getI zM_X3_addFound dX3_addFound_15 zF_3_49 rfl rfl rfl ?_
    refine jw_iconst (v := 3) zM_X3_addFound dX3_addFound_18 rfl ?_
    refine jw_mul zM_X3_addFound dX3_addFound_19 ?_
    refine zw_go (pc1 := 21) (L1 := [some (.ref 38), some (.int (jI x1))]) (st1 := [.int (jI x1), .int (jI ((A 38 11) * 3)), .ref 42]) (σ1 := js E A) zM_X3_addFound dX3_addFound_20 rfl rfl rfl rfl ?_
    refine jw_add zM_X3_addFound dX3_addFound_21 ?_
    refine zw_go (pc1 := 23) (L1 := [some (.ref 38), some (.int (jI x1))]) (st1 := [.ref 38, .int (jI (((A 38 11) * 3) + x1)), .ref 42]) (σ1 := js E A) zM_X3_addFound dX3_addFound_22 rfl rfl rfl rfl ?_
    refine jw_getR (a := 44) zM_X3_addFound dX3_addFound_23 zF_3_30 rfl rfl rfl ?_
    refine zw_go (pc1 := 27) (L1 := [some (.ref 38), some (.int (jI x1))]) (st1 := [.int (jI x1), .ref 44, .int (jI (((A 38 11) * 3) + x1)), .ref 42]) (σ1 := js E A) zM_X3_addFound dX3_addFound_26 rfl rfl rfl rfl ?_
    obtain ⟨hi9, h⟩ := h
    refine jw_iald zM_X3_addFound dX3_addFound_27 rfl rfl hi9 ?_
    obtain ⟨hi10, h⟩ := h
    obtain ⟨A11, e12⟩ : ∃ z9 : jA, z9 = jup A 42 (((A 38 11) * 3) + x1) (A 44 x1) := ⟨_, rfl⟩
    replace h := h A11 e12
    have hA13 : jOK A11 := jOK.up hA (hA 44 x1) e12
    refine jw_iast zM_X3_addFound dX3_addFound_28 rfl rfl hi10 e12 ?_
    refine zw_go (pc1 := 30) (L1 := [some (.ref 38), some (.int (jI x1))]) (st1 := [.ref 38]) (σ1 := js E A11) zM_X3_addFound dX3_addFound_29 rfl rfl rfl rfl ?_
    refine jw_getR (a := 43) zM_X3_addFound dX3_addFound_30 zF_3_27 rfl rfl rfl ?_
    refine zw_go (pc1 := 34) (L1 := [some (.ref 38), some (.int (jI x1))]) (st1 := [.ref 38, .ref 43]) (σ1 := js E A11) zM_X3_addFound dX3_addFound_33 rfl rfl rfl rfl ?_
    refine jw_getI zM_X3_addFound dX3_addFound_34 zF_3_49 rfl rfl rfl ?_
    refine jw_iconst (v := 3) zM_X3_addFound dX3_addFound_37 rfl ?_
    refine jw_mul zM_X3_addFound dX3_addFound_38 ?_
    refine zw_go (pc1 := 40) (L1 := [some (.ref 38), some (.int (jI x1))]) (st1 := [.int (jI x1), .int (jI ((A11 38 11) * 3)), .ref 43]) (σ1 := js E A11) zM_X3_addFound dX3_addFound_39 rfl rfl rfl rfl ?_
    refine jw_add zM_X3_addFound dX3_addFound_40 ?_
    refine zw_go (pc1 := 42) (L1 := [some (.ref 38), some (.int (jI x1))]) (st1 := [.ref 38, .int (jI (((A11 38 11) * 3) + x1)), .ref 43]) (σ1 := js E A11) zM_X3_addFound dX3_addFound_41 rfl rfl rfl rfl ?_
    refine jw_getR (a := 45) zM_X3_addFound dX3_addFound_42 zF_3_33 rfl rfl rfl ?_
    refine zw_go (pc1 := 46) (L1 := [some (.ref 38), some (.int (jI x1))]) (st1 := [.int (jI x1), .ref 45, .int (jI (((A11 38 11) * 3) + x1)), .ref 43]) (σ1 := js E A11) zM_X3_addFound dX3_addFound_45 rfl rfl rfl rfl ?_
    obtain ⟨hi14, h⟩ := h
    refine jw_iald zM_X3_addFound dX3_addFound_46 rfl rfl hi14 ?_
    obtain ⟨hi15, h⟩ := h
    obtain ⟨A16, e17⟩ : ∃ z9 : jA, z9 = jup A11 43 (((A11 38 11) * 3) + x1) (A11 45 x1) := ⟨_, rfl⟩
    replace h := h A16 e17
    have hA18 : jOK A16 := jOK.up hA13 (hA13 45 x1) e17
    refine jw_iast zM_X3_addFound dX3_addFound_47 rfl rfl hi15 e17 ?_
    refine jw_iinc (x := x1) (L1 := [some (.ref 38), some (.int (jI (x1 + 1)))]) zM_X3_addFound dX3_addFound_48 rfl (show 1 < 2 by decide) rfl ?_
    refine zw_goto (tgt := 2) zM_X3_addFound dX3_addFound_51 rfl ?_
    exact zw_weak2 (h hA18) ⟨rfl, rfl, trivial⟩
set_option maxHeartbeats 4000000 in
set_option maxRecDepth 100000 in
theorem vd_X3_addToFound_0 (x1 : Int) (r_x1 : jW x1) (x2 : Int) (r_x2 : jW x2) (E : jE) (A : jA) (K : jA → Prop) (h : (((3 : Int) ≤ (A 38 8) → K A) ∧ ((A 38 8) < (3 : Int) → (0 ≤ (A 38 8) ∧ (A 38 8) < 3) ∧ ∀ A2 : jA, A2 = jup A 44 (A 38 8) x1 → (0 ≤ (A2 38 8) ∧ (A2 38 8) < 3) ∧ ∀ A6 : jA, A6 = jup A2 45 (A2 38 8) x2 → jW ((A6 38 8) + 1) ∧ ∀ A10 : jA, A10 = jup A6 38 8 ((A6 38 8) + 1) → K A10))) : jrV 67 0 [some (.ref 38), some (.int (jI x1)), some (.int (jI x2))] [] E A K := by
  intro hA
  refine zw_go (pc1 := 1) (L1 := [some (.ref 38), some (.int (jI x1)), some (.int (jI x2))]) (st1 := [.ref 38]) (σ1 := js E A) zM_X3_addToFound dX3_addToFound_0 rfl rfl rfl rfl ?_
  refine jw_getI zM_X3_addToFound dX3_addToFound_1 zF_3_99 rfl rfl rfl ?_
  refine jw_iconst (v := 3) zM_X3_addToFound dX3_addToFound_4 rfl ?_
  refine jw_icmp_ge (tgt := 38) zM_X3_addToFound dX3_addToFound_5 rfl (hA 38 8) (show jW 3 from ⟨by decide, by decide⟩) (fun q => ?_) (fun q => ?_)
  · replace h := h.1 q
    exact jw_retv zM_X3_addToFound dX3_addToFound_38 rfl hA h
  · replace h := h.2 q
    refine zw_go (pc1 := 9) (L1 := [some (.ref 38), some (.int (jI x1)), some (.int (jI x2))]) (st1 := [.ref 38]) (σ1 := js E A) zM_X3_addToFound dX3_addToFound_8 rfl rfl rfl rfl ?_
    refine jw_getR (a := 44) zM_X3_addToFound dX3_addToFound_9 zF_3_30 rfl rfl rfl ?_
    refine zw_go (pc1 := 13) (L1 := [some (.ref 38), some (.int (jI x1)), some (.int (jI x2))]) (st1 := [.ref 38, .ref 44]) (σ1 := js E A) zM_X3_addToFound dX3_addToFound_12 rfl rfl rfl rfl ?_
    refine jw_getI zM_X3_addToFound dX3_addToFound_13 zF_3_99 rfl rfl rfl ?_
    refine zw_go (pc1 := 17) (L1 := [some (.ref 38), some (.int (jI x1)), some (.int (jI x2))]) (st1 := [.int (jI x1), .int (jI (A 38 8)), .ref 44]) (σ1 := js E A) zM_X3_addToFound dX3_addToFound_16 rfl rfl rfl rfl ?_
    obtain ⟨hi1, h⟩ := h
    obtain ⟨A2, e3⟩ : ∃ z9 : jA, z9 = jup A 44 (A 38 8) x1 := ⟨_, rfl⟩
    replace h := h A2 e3
    have hA4 : jOK A2 := jOK.up hA r_x1 e3
    refine jw_iast zM_X3_addToFound dX3_addToFound_17 rfl rfl hi1 e3 ?_
    refine zw_go (pc1 := 19) (L1 := [some (.ref 38), some (.int (jI x1)), some (.int (jI x2))]) (st1 := [.ref 38]) (σ1 := js E A2) zM_X3_addToFound dX3_addToFound_18 rfl rfl rfl rfl ?_
    refine jw_getR (a := 45) zM_X3_addToFound dX3_addToFound_19 zF_3_33 rfl rfl rfl ?_
    refine zw_go (pc1 := 23) (L1 := [some (.ref 38), some (.int (jI x1)), some (.int (jI x2))]) (st1 := [.ref 38, .ref 45]) (σ1 := js E A2) zM_X3_addToFound dX3_addToFound_22 rfl rfl rfl rfl ?_
    refine jw_getI zM_X3_addToFound dX3_addToFound_23 zF_3_99 rfl rfl rfl ?_
    refine zw_go (pc1 := 27) (L1 := [some (.ref 38), some (.int (jI x1)), some (.int (jI x2))]) (st1 := [.int (jI x2), .int (jI (A2 38 8)), .ref 45]) (σ1 := js E A2) zM_X3_addToFound dX3_addToFound_26 rfl rfl rfl rfl ?_
    obtain ⟨hi5, h⟩ := h
    obtain ⟨A6, e7⟩ : ∃ z9 : jA, z9 = jup A2 45 (A2 38 8) x2 := ⟨_, rfl⟩
    replace h := h A6 e7
    have hA8 : jOK A6 := jOK.up hA4 r_x2 e7
    refine jw_iast zM_X3_addToFound dX3_addToFound_27 rfl rfl hi5 e7 ?_
    refine zw_go (pc1 := 29) (L1 := [some (.ref 38), some (.int (jI x1)), some (.int (jI x2))]) (st1 := [.ref 38]) (σ1 := js E A6) zM_X3_addToFound dX3_addToFound_28 rfl rfl rfl rfl ?_
    refine zw_go (pc1 := 30) (L1 := [some (.ref 38), some (.int (jI x1)), some (.int (jI x2))]) (st1 := [.ref 38, .ref 38]) (σ1 := js E A6) zM_X3_addToFound dX3_addToFound_29 rfl rfl rfl rfl ?_
    refine jw_getI zM_X3_addToFound dX3_addToFound_30 zF_3_99 rfl rfl rfl ?_
    refine jw_iconst (v := 1) zM_X3_addToFound dX3_addToFound_33 rfl ?_
    refine jw_add zM_X3_addToFound dX3_addToFound_34 ?_
    obtain ⟨hw9, h⟩ := h
    obtain ⟨A10, e11⟩ : ∃ z9 : jA, z9 = jup A6 38 8 ((A6 38 8) + 1) := ⟨_, rfl⟩
    replace h := h A10 e11
    have hA12 : jOK A10 := jOK.up hA8 hw9 e11
    refine jw_putI zM_X3_addToFound dX3_addToFound_35 zF_3_99 rfl rfl rfl rfl e11 ?_
    exact jw_retv zM_X3_addToFound dX3_addToFound_38 rfl hA12 h
set_option maxHeartbeats 4000000 in
set_option maxRecDepth 100000 in
theorem vd_X3_byteOf_0 (x1 : Int) (r_x1 : jW x1) (x2 : Int) (r_x2 : jW x2) (E : jE) (A : jA) (K : Int → jA → Prop) (h : jrR 87 0 [some (.ref 38), some (.int (jI x1))] [] E A (fun b3 A1 => jim b3 ∧ jrI 81 0 [some (.ref 38), some (.int (jI x1))] [] E A1 (fun v7 A5 => jrI 24 0 [some (.ref b3), some (.int (jI v7)), some (.int (jI x2)), none, none, none, none, none] [] E A5 (fun v11 A9 => K v11 A9)))) : jrI 68 0 [some (.ref 38), some (.int (jI x1)), some (.int (jI x2))] [] E A K := by
  intro hA
  refine zw_go (pc1 := 1) (L1 := [some (.ref 38), some (.int (jI x1)), some (.int (jI x2))]) (st1 := [.ref 38]) (σ1 := js E A) zM_X3_byteOf dX3_byteOf_0 rfl rfl rfl rfl ?_
  refine zw_go (pc1 := 2) (L1 := [some (.ref 38), some (.int (jI x1)), some (.int (jI x2))]) (st1 := [.int (jI x1), .ref 38]) (σ1 := js E A) zM_X3_byteOf dX3_byteOf_1 rfl rfl rfl rfl ?_
  refine jw_callR (as := [.ref 38, .int (jI x1)]) (rest := []) zM_X3_byteOf dX3_byteOf_2 (zx_calV zC_3_52) zM_X3_upperImage rfl rfl rfl rfl rfl (j_args0 rfl rfl) rfl hA h (fun b3 A1 hA2 h => ?_)
  obtain ⟨hj4, h⟩ := h
  refine zw_go (pc1 := 6) (L1 := [some (.ref 38), some (.int (jI x1)), some (.int (jI x2))]) (st1 := [.ref 38, .ref b3]) (σ1 := js E A1) zM_X3_byteOf dX3_byteOf_5 rfl rfl rfl rfl ?_
  refine zw_go (pc1 := 7) (L1 := [some (.ref 38), some (.int (jI x1)), some (.int (jI x2))]) (st1 := [.int (jI x1), .ref 38, .ref b3]) (σ1 := js E A1) zM_X3_byteOf dX3_byteOf_6 rfl rfl rfl rfl ?_
  refine jw_callI (as := [.ref 38, .int (jI x1)]) (rest := [.ref b3]) zM_X3_byteOf dX3_byteOf_7 (zx_calV zC_3_56) zM_X3_numberOf rfl rfl rfl rfl rfl (j_args0 rfl rfl) rfl hA2 h (fun v7 A5 rv8 hA6 h => ?_)
  refine zw_go (pc1 := 11) (L1 := [some (.ref 38), some (.int (jI x1)), some (.int (jI x2))]) (st1 := [.int (jI x2), .int (jI v7), .ref b3]) (σ1 := js E A5) zM_X3_byteOf dX3_byteOf_10 rfl rfl rfl rfl ?_
  refine jw_callI (as := [.ref b3, .int (jI v7), .int (jI x2)]) (rest := []) zM_X3_byteOf dX3_byteOf_11 (zx_calV zC_3_92) zM_X1_fileByte rfl rfl rfl rfl rfl (j_args0 (jim.K hj4) rfl) rfl hA6 h (fun v11 A9 rv12 hA10 h => ?_)
  exact jw_reti zM_X3_byteOf dX3_byteOf_14 rfl rv12 hA10 h
set_option maxHeartbeats 4000000 in
set_option maxRecDepth 100000 in
theorem vd_X3_depthOf_0 (x1 : Int) (r_x1 : jW x1) (E : jE) (A : jA) (K : Int → jA → Prop) (h : (0 ≤ x1 ∧ x1 < 60) ∧ K (A 41 x1) A) : jrI 69 0 [some (.ref 38), some (.int (jI x1))] [] E A K := by
  intro hA
  refine zw_go (pc1 := 1) (L1 := [some (.ref 38), some (.int (jI x1))]) (st1 := [.ref 38]) (σ1 := js E A) zM_X3_depthOf dX3_depthOf_0 rfl rfl rfl rfl ?_
  refine jw_getR (a := 41) zM_X3_depthOf dX3_depthOf_1 zF_3_21 rfl rfl rfl ?_
  refine zw_go (pc1 := 5) (L1 := [some (.ref 38), some (.int (jI x1))]) (st1 := [.int (jI x1), .ref 41]) (σ1 := js E A) zM_X3_depthOf dX3_depthOf_4 rfl rfl rfl rfl ?_
  obtain ⟨hi1, h⟩ := h
  refine jw_iald zM_X3_depthOf dX3_depthOf_5 rfl rfl hi1 ?_
  exact jw_reti zM_X3_depthOf dX3_depthOf_6 rfl (hA 41 x1) hA h
set_option maxHeartbeats 4000000 in
set_option maxRecDepth 100000 in
theorem vd_X3_find_0 (x1 : Int) (r_x1 : jW x1) (x2 : Int) (r_x2 : jW x2) (E : jE) (A : jA) (K : jA → Prop) (h : ∀ A1 : jA, A1 = jup A 38 8 0 → jrV 70 7 [some (.ref 38), some (.int (jI x1)), some (.int (jI x2)), some (.int (jI 0)), none, none, none, none] [] E A1 K) : jrV 70 0 [some (.ref 38), some (.int (jI x1)), some (.int (jI x2)), none, none, none, none, none] [] E A K := by
  intro hA
  refine zw_go (pc1 := 1) (L1 := [some (.ref 38), some (.int (jI x1)), some (.int (jI x2)), none, none, none, none, none]) (st1 := [.ref 38]) (σ1 := js E A) zM_X3_find dX3_find_0 rfl rfl rfl rfl ?_
  refine jw_iconst (v := 0) zM_X3_find dX3_find_1 rfl ?_
  obtain ⟨A1, e2⟩ : ∃ z9 : jA, z9 = jup A 38 8 0 := ⟨_, rfl⟩
  replace h := h A1 e2
  have hA3 : jOK A1 := jOK.up hA (show jW 0 from ⟨by decide, by decide⟩) e2
  refine jw_putI zM_X3_find dX3_find_2 zF_3_99 rfl rfl rfl rfl e2 ?_
  refine jw_iconst (v := 0) zM_X3_find dX3_find_5 rfl ?_
  refine zw_go (pc1 := 7) (L1 := [some (.ref 38), some (.int (jI x1)), some (.int (jI x2)), some (.int (jI 0)), none, none, none, none]) (st1 := []) (σ1 := js E A1) zM_X3_find dX3_find_6 rfl rfl rfl rfl ?_
  exact zw_weak2 (h hA3) ⟨rfl, rfl, rfl, rfl, trivial⟩
set_option maxHeartbeats 4000000 in
set_option maxRecDepth 100000 in
theorem vd_X3_find_7 (x1 : Int) (r_x1 : jW x1) (x2 : Int) (r_x2 : jW x2) (x3 : Int) (r_x3 : jW x3) (E : jE) (hE : ∀ k, k < 3 → jim (E.2.1 k)) (A : jA) (K : jA → Prop) (h : (0 ≤ x1 ∧ x1 < 60) ∧ (((A 41 x1) ≤ x3 → K A) ∧ (x3 < (A 41 x1) → (0 ≤ ((x1 * 3) + x3) ∧ ((x1 * 3) + x3) < 180) ∧ (0 ≤ (A 42 ((x1 * 3) + x3)) ∧ (A 42 ((x1 * 3) + x3)) < 3) ∧ (0 ≤ ((x1 * 3) + x3) ∧ ((x1 * 3) + x3) < 180) ∧ jrI 49 0 [some (.ref (E.2.1 (A 42 ((x1 * 3) + x3)).toNat)), some (.int (jI (A 43 ((x1 * 3) + x3)))), some (.int (jI x2)), none, none, none, none] [] E A (fun v7 A5 => ((v7 = (0 : Int) → jrV 70 104 [some (.ref 38), some (.int (jI x1)), some (.int (jI x2)), some (.int (jI x3)), none, none, none, none] [] E A5 K) ∧ (¬ v7 = (0 : Int) → jrI 30 0 [some (.ref (E.2.1 (A 42 ((x1 * 3) + x3)).toNat)), some (.int (jI v7))] [] E A5 (fun v11 A9 => ((v11 = (1 : Int) → jrV 70 89 [some (.ref 38), some (.int (jI x1)), some (.int (jI x2)), some (.int (jI x3)), some (.int (jI (A 42 ((x1 * 3) + x3)))), none, some (.int (jI v7)), some (.int (jI v11))] [] E A9 K) ∧ (¬ v11 = (1 : Int) → ((¬ v11 = (2 : Int) → jrV 70 97 [some (.ref 38), some (.int (jI x1)), some (.int (jI x2)), some (.int (jI x3)), none, none, none, some (.int (jI v11))] [] E A9 K) ∧ (v11 = (2 : Int) → ((¬ (A9 38 8) = (0 : Int) → jrV 70 97 [some (.ref 38), some (.int (jI x1)), some (.int (jI x2)), some (.int (jI x3)), none, none, none, some (.int (jI v11))] [] E A9 K) ∧ ((A9 38 8) = (0 : Int) → jrV 70 89 [some (.ref 38), some (.int (jI x1)), some (.int (jI x2)), some (.int (jI x3)), some (.int (jI (A 42 ((x1 * 3) + x3)))), none, some (.int (jI v7)), some (.int (jI v11))] [] E A9 K))))))))))))) : jrV 70 7 [some (.ref 38), some (.int (jI x1)), some (.int (jI x2)), some (.int (jI x3)), none, none, none, none] [] E A K := by
  intro hA
  refine zw_go (pc1 := 8) (L1 := [some (.ref 38), some (.int (jI x1)), some (.int (jI x2)), some (.int (jI x3)), none, none, none, none]) (st1 := [.int (jI x3)]) (σ1 := js E A) zM_X3_find dX3_find_7 rfl rfl rfl rfl ?_
  refine zw_go (pc1 := 9) (L1 := [some (.ref 38), some (.int (jI x1)), some (.int (jI x2)), some (.int (jI x3)), none, none, none, none]) (st1 := [.ref 38, .int (jI x3)]) (σ1 := js E A) zM_X3_find dX3_find_8 rfl rfl rfl rfl ?_
  refine jw_getR (a := 41) zM_X3_find dX3_find_9 zF_3_21 rfl rfl rfl ?_
  refine zw_go (pc1 := 13) (L1 := [some (.ref 38), some (.int (jI x1)), some (.int (jI x2)), some (.int (jI x3)), none, none, none, none]) (st1 := [.int (jI x1), .ref 41, .int (jI x3)]) (σ1 := js E A) zM_X3_find dX3_find_12 rfl rfl rfl rfl ?_
  obtain ⟨hi1, h⟩ := h
  refine jw_iald zM_X3_find dX3_find_13 rfl rfl hi1 ?_
  refine jw_icmp_ge (tgt := 110) zM_X3_find dX3_find_14 rfl r_x3 (hA 41 x1) (fun q => ?_) (fun q => ?_)
  · replace h := h.1 q
    exact jw_retv zM_X3_find dX3_find_110 rfl hA h
  · replace h := h.2 q
    refine zw_go (pc1 := 18) (L1 := [some (.ref 38), some (.int (jI x1)), some (.int (jI x2)), some (.int (jI x3)), none, none, none, none]) (st1 := [.ref 38]) (σ1 := js E A) zM_X3_find dX3_find_17 rfl rfl rfl rfl ?_
    refine jw_getR (a := 42) zM_X3_find dX3_find_18 zF_3_24 rfl rfl rfl ?_
    refine zw_go (pc1 := 22) (L1 := [some (.ref 38), some (.int (jI x1)), some (.int (jI x2)), some (.int (jI x3)), none, none, none, none]) (st1 := [.int (jI x1), .ref 42]) (σ1 := js E A) zM_X3_find dX3_find_21 rfl rfl rfl rfl ?_
    refine jw_iconst (v := 3) zM_X3_find dX3_find_22 rfl ?_
    refine jw_mul zM_X3_find dX3_find_23 ?_
    refine zw_go (pc1 := 25) (L1 := [some (.ref 38), some (.int (jI x1)), some (.int (jI x2)), some (.int (jI x3)), none, none, none, none]) (st1 := [.int (jI x3), .int (jI (x1 * 3)), .ref 42]) (σ1 := js E A) zM_X3_find dX3_find_24 rfl rfl rfl rfl ?_
    refine jw_add zM_X3_find dX3_find_25 ?_
    obtain ⟨hi2, h⟩ := h
    refine jw_iald zM_X3_find dX3_find_26 rfl rfl hi2 ?_
    refine zw_go (pc1 := 29) (L1 := [some (.ref 38), some (.int (jI x1)), some (.int (jI x2)), some (.int (jI x3)), some (.int (jI (A 42 ((x1 * 3) + x3)))), none, none, none]) (st1 := []) (σ1 := js E A) zM_X3_find dX3_find_27 rfl rfl rfl rfl ?_
    refine zw_go (pc1 := 30) (L1 := [some (.ref 38), some (.int (jI x1)), some (.int (jI x2)), some (.int (jI x3)), some (.int (jI (A 42 ((x1 * 3) + x3)))), none, none, none]) (st1 := [.ref 38]) (σ1 := js E A) zM_X3_find dX3_find_29 rfl rfl rfl rfl ?_
    refine jw_getR (a := 40) zM_X3_find dX3_find_30 zF_3_17 rfl rfl rfl ?_
    refine zw_go (pc1 := 35) (L1 := [some (.ref 38), some (.int (jI x1)), some (.int (jI x2)), some (.int (jI x3)), some (.int (jI (A 42 ((x1 * 3) + x3)))), none, none, none]) (st1 := [.int (jI (A 42 ((x1 * 3) + x3))), .ref 40]) (σ1 := js E A) zM_X3_find dX3_find_33 rfl rfl rfl rfl ?_
    obtain ⟨hi3, h⟩ := h
    refine jw_aaldL zM_X3_find dX3_find_35 hi3 ?_
    refine zw_go (pc1 := 38) (L1 := [some (.ref 38), some (.int (jI x1)), some (.int (jI x2)), some (.int (jI x3)), some (.int (jI (A 42 ((x1 * 3) + x3)))), some (.ref (E.2.1 (A 42 ((x1 * 3) + x3)).toNat)), none, none]) (st1 := []) (σ1 := js E A) zM_X3_find dX3_find_36 rfl rfl rfl rfl ?_
    refine zw_go (pc1 := 40) (L1 := [some (.ref 38), some (.int (jI x1)), some (.int (jI x2)), some (.int (jI x3)), some (.int (jI (A 42 ((x1 * 3) + x3)))), some (.ref (E.2.1 (A 42 ((x1 * 3) + x3)).toNat)), none, none]) (st1 := [.ref (E.2.1 (A 42 ((x1 * 3) + x3)).toNat)]) (σ1 := js E A) zM_X3_find dX3_find_38 rfl rfl rfl rfl ?_
    refine zw_go (pc1 := 41) (L1 := [some (.ref 38), some (.int (jI x1)), some (.int (jI x2)), some (.int (jI x3)), some (.int (jI (A 42 ((x1 * 3) + x3)))), some (.ref (E.2.1 (A 42 ((x1 * 3) + x3)).toNat)), none, none]) (st1 := [.ref 38, .ref (E.2.1 (A 42 ((x1 * 3) + x3)).toNat)]) (σ1 := js E A) zM_X3_find dX3_find_40 rfl rfl rfl rfl ?_
    refine jw_getR (a := 43) zM_X3_find dX3_find_41 zF_3_27 rfl rfl rfl ?_
    refine zw_go (pc1 := 45) (L1 := [some (.ref 38), some (.int (jI x1)), some (.int (jI x2)), some (.int (jI x3)), some (.int (jI (A 42 ((x1 * 3) + x3)))), some (.ref (E.2.1 (A 42 ((x1 * 3) + x3)).toNat)), none, none]) (st1 := [.int (jI x1), .ref 43, .ref (E.2.1 (A 42 ((x1 * 3) + x3)).toNat)]) (σ1 := js E A) zM_X3_find dX3_find_44 rfl rfl rfl rfl ?_
    refine jw_iconst (v := 3) zM_X3_find dX3_find_45 rfl ?_
    refine jw_mul zM_X3_find dX3_find_46 ?_
    refine zw_go (pc1 := 48) (L1 := [some (.ref 38), some (.int (jI x1)), some (.int (jI x2)), some (.int (jI x3)), some (.int (jI (A 42 ((x1 * 3) + x3)))), some (.ref (E.2.1 (A 42 ((x1 * 3) + x3)).toNat)), none, none]) (st1 := [.int (jI x3), .int (jI (x1 * 3)), .ref 43, .ref (E.2.1 (A 42 ((x1 * 3) + x3)).toNat)]) (σ1 := js E A) zM_X3_find dX3_find_47 rfl rfl rfl rfl ?_
    refine jw_add zM_X3_find dX3_find_48 ?_
    obtain ⟨hi4, h⟩ := h
    refine jw_iald zM_X3_find dX3_find_49 rfl rfl hi4 ?_
    refine zw_go (pc1 := 51) (L1 := [some (.ref 38), some (.int (jI x1)), some (.int (jI x2)), some (.int (jI x3)), some (.int (jI (A 42 ((x1 * 3) + x3)))), some (.ref (E.2.1 (A 42 ((x1 * 3) + x3)).toNat)), none, none]) (st1 := [.int (jI x2), .int (jI (A 43 ((x1 * 3) + x3))), .ref (E.2.1 (A 42 ((x1 * 3) + x3)).toNat)]) (σ1 := js E A) zM_X3_find dX3_find_50 rfl rfl rfl rfl ?_
    refine jw_callI (as := [.ref (E.2.1 (A 42 ((x1 * 3) + x3)).toNat), .int (jI (A 43 ((x1 * 3) + x3))), .int (jI x2)]) (rest := []) zM_X3_find dX3_find_51 (zx_calV zC_3_108) zM_X1_targetOf rfl rfl rfl rfl rfl (j_args0 (jim.K (hE _ (by have := hi3; omega))) rfl) rfl hA h (fun v7 A5 rv8 hA6 h => ?_)
    refine zw_go (pc1 := 56) (L1 := [some (.ref 38), some (.int (jI x1)), some (.int (jI x2)), some (.int (jI x3)), some (.int (jI (A 42 ((x1 * 3) + x3)))), some (.ref (E.2.1 (A 42 ((x1 * 3) + x3)).toNat)), some (.int (jI v7)), none]) (st1 := []) (σ1 := js E A5) zM_X3_find dX3_find_54 rfl rfl rfl rfl ?_
    refine zw_go (pc1 := 58) (L1 := [some (.ref 38), some (.int (jI x1)), some (.int (jI x2)), some (.int (jI x3)), some (.int (jI (A 42 ((x1 * 3) + x3)))), some (.ref (E.2.1 (A 42 ((x1 * 3) + x3)).toNat)), some (.int (jI v7)), none]) (st1 := [.int (jI v7)]) (σ1 := js E A5) zM_X3_find dX3_find_56 rfl rfl rfl rfl ?_
    refine jw_if_eq (tgt := 104) zM_X3_find dX3_find_58 rfl rv8 (fun q => ?_) (fun q => ?_)
    · replace h := h.1 q
      exact zw_weak2 (h hA6) ⟨rfl, rfl, rfl, rfl, trivial⟩
    · replace h := h.2 q
      refine zw_go (pc1 := 63) (L1 := [some (.ref 38), some (.int (jI x1)), some (.int (jI x2)), some (.int (jI x3)), some (.int (jI (A 42 ((x1 * 3) + x3)))), some (.ref (E.2.1 (A 42 ((x1 * 3) + x3)).toNat)), some (.int (jI v7)), none]) (st1 := [.ref (E.2.1 (A 42 ((x1 * 3) + x3)).toNat)]) (σ1 := js E A5) zM_X3_find dX3_find_61 rfl rfl rfl rfl ?_
      refine zw_go (pc1 := 65) (L1 := [some (.ref 38), some (.int (jI x1)), some (.int (jI x2)), some (.int (jI x3)), some (.int (jI (A 42 ((x1 * 3) + x3)))), some (.ref (E.2.1 (A 42 ((x1 * 3) + x3)).toNat)), some (.int (jI v7)), none]) (st1 := [.int (jI v7), .ref (E.2.1 (A 42 ((x1 * 3) + x3)).toNat)]) (σ1 := js E A5) zM_X3_find dX3_find_63 rfl rfl rfl rfl ?_
      refine jw_callI (as := [.ref (E.2.1 (A 42 ((x1 * 3) + x3)).toNat), .int (jI v7)]) (rest := []) zM_X3_find dX3_find_65 (zx_calV zC_3_60) zM_X1_kindOf rfl rfl rfl rfl rfl (j_args0 (jim.K (hE _ (by have := hi3; omega))) rfl) rfl hA6 h (fun v11 A9 rv12 hA10 h => ?_)
      refine zw_go (pc1 := 70) (L1 := [some (.ref 38), some (.int (jI x1)), some (.int (jI x2)), some (.int (jI x3)), some (.int (jI (A 42 ((x1 * 3) + x3)))), some (.ref (E.2.1 (A 42 ((x1 * 3) + x3)).toNat)), some (.int (jI v7)), some (.int (jI v11))]) (st1 := []) (σ1 := js E A9) zM_X3_find dX3_find_68 rfl rfl rfl rfl ?_
      refine zw_go (pc1 := 72) (L1 := [some (.ref 38), some (.int (jI x1)), some (.int (jI x2)), some (.int (jI x3)), some (.int (jI (A 42 ((x1 * 3) + x3)))), some (.ref (E.2.1 (A 42 ((x1 * 3) + x3)).toNat)), some (.int (jI v7)), some (.int (jI v11))]) (st1 := [.int (jI v11)]) (σ1 := js E A9) zM_X3_find dX3_find_70 rfl rfl rfl rfl ?_
      refine jw_iconst (v := 1) zM_X3_find dX3_find_72 rfl ?_
      refine jw_icmp_eq (tgt := 89) zM_X3_find dX3_find_73 rfl rv12 (show jW 1 from ⟨by decide, by decide⟩) (fun q => ?_) (fun q => ?_)
      · replace h := h.1 q
        exact zw_weak2 (h hA10) ⟨rfl, rfl, rfl, rfl, rfl, rfl, rfl, trivial⟩
      · replace h := h.2 q
        refine zw_go (pc1 := 78) (L1 := [some (.ref 38), some (.int (jI x1)), some (.int (jI x2)), some (.int (jI x3)), some (.int (jI (A 42 ((x1 * 3) + x3)))), some (.ref (E.2.1 (A 42 ((x1 * 3) + x3)).toNat)), some (.int (jI v7)), some (.int (jI v11))]) (st1 := [.int (jI v11)]) (σ1 := js E A9) zM_X3_find dX3_find_76 rfl rfl rfl rfl ?_
        refine jw_iconst (v := 2) zM_X3_find dX3_find_78 rfl ?_
        refine jw_icmp_ne (tgt := 97) zM_X3_find dX3_find_79 rfl rv12 (show jW 2 from ⟨by decide, by decide⟩) (fun q => ?_) (fun q => ?_)
        · replace h := h.1 q
          exact zw_weak2 (h hA10) ⟨rfl, rfl, rfl, rfl, rfl, trivial⟩
        · replace h := h.2 q
          refine zw_go (pc1 := 83) (L1 := [some (.ref 38), some (.int (jI x1)), some (.int (jI x2)), some (.int (jI x3)), some (.int (jI (A 42 ((x1 * 3) + x3)))), some (.ref (E.2.1 (A 42 ((x1 * 3) + x3)).toNat)), some (.int (jI v7)), some (.int (jI v11))]) (st1 := [.ref 38]) (σ1 := js E A9) zM_X3_find dX3_find_82 rfl rfl rfl rfl ?_
          refine jw_getI zM_X3_find dX3_find_83 zF_3_99 rfl rfl rfl ?_
          refine jw_if_ne (tgt := 97) zM_X3_find dX3_find_86 rfl (hA10 38 8) (fun q => ?_) (fun q => ?_)
          · replace h := h.1 q
            exact zw_weak2 (h hA10) ⟨rfl, rfl, rfl, rfl, rfl, trivial⟩
          · replace h := h.2 q
            exact zw_weak2 (h hA10) ⟨rfl, rfl, rfl, rfl, rfl, rfl, rfl, trivial⟩
set_option maxHeartbeats 4000000 in
set_option maxRecDepth 100000 in
theorem vd_X3_find_89 (x1 : Int) (r_x1 : jW x1) (x2 : Int) (r_x2 : jW x2) (x3 : Int) (r_x3 : jW x3) (x4 : Int) (r_x4 : jW x4) (x6 : Int) (r_x6 : jW x6) (x7 : Int) (r_x7 : jW x7) (E : jE) (A : jA) (K : jA → Prop) (h : jrV 67 0 [some (.ref 38), some (.int (jI x4)), some (.int (jI x6))] [] E A (fun A1 => jrV 70 97 [some (.ref 38), some (.int (jI x1)), some (.int (jI x2)), some (.int (jI x3)), none, none, none, some (.int (jI x7))] [] E A1 K)) : jrV 70 89 [some (.ref 38), some (.int (jI x1)), some (.int (jI x2)), some (.int (jI x3)), some (.int (jI x4)), none, some (.int (jI x6)), some (.int (jI x7))] [] E A K := by
  intro hA
  refine zw_go (pc1 := 90) (L1 := [some (.ref 38), some (.int (jI x1)), some (.int (jI x2)), some (.int (jI x3)), some (.int (jI x4)), none, some (.int (jI x6)), some (.int (jI x7))]) (st1 := [.ref 38]) (σ1 := js E A) zM_X3_find dX3_find_89 rfl rfl rfl rfl ?_
  refine zw_go (pc1 := 92) (L1 := [some (.ref 38), some (.int (jI x1)), some (.int (jI x2)), some (.int (jI x3)), some (.int (jI x4)), none, some (.int (jI x6)), some (.int (jI x7))]) (st1 := [.int (jI x4), .ref 38]) (σ1 := js E A) zM_X3_find dX3_find_90 rfl rfl rfl rfl ?_
  refine zw_go (pc1 := 94) (L1 := [some (.ref 38), some (.int (jI x1)), some (.int (jI x2)), some (.int (jI x3)), some (.int (jI x4)), none, some (.int (jI x6)), some (.int (jI x7))]) (st1 := [.int (jI x6), .int (jI x4), .ref 38]) (σ1 := js E A) zM_X3_find dX3_find_92 rfl rfl rfl rfl ?_
  refine jw_callV (as := [.ref 38, .int (jI x4), .int (jI x6)]) (rest := []) zM_X3_find dX3_find_94 (zx_calV zC_3_105) zM_X3_addToFound rfl rfl rfl rfl rfl (j_args0 rfl rfl) rfl hA h (fun A1 hA2 h => ?_)
  exact zw_weak2 (h hA2) ⟨rfl, rfl, rfl, rfl, rfl, trivial⟩
set_option maxHeartbeats 4000000 in
set_option maxRecDepth 100000 in
theorem vd_X3_find_97 (x1 : Int) (r_x1 : jW x1) (x2 : Int) (r_x2 : jW x2) (x3 : Int) (r_x3 : jW x3) (x7 : Int) (r_x7 : jW x7) (E : jE) (A : jA) (K : jA → Prop) (h : ((x7 = (1 : Int) → jrV 70 104 [some (.ref 38), some (.int (jI x1)), some (.int (jI x2)), some (.int (jI x3)), none, none, none, none] [] E A K) ∧ (¬ x7 = (1 : Int) → K A))) : jrV 70 97 [some (.ref 38), some (.int (jI x1)), some (.int (jI x2)), some (.int (jI x3)), none, none, none, some (.int (jI x7))] [] E A K := by
  intro hA
  refine zw_go (pc1 := 99) (L1 := [some (.ref 38), some (.int (jI x1)), some (.int (jI x2)), some (.int (jI x3)), none, none, none, some (.int (jI x7))]) (st1 := [.int (jI x7)]) (σ1 := js E A) zM_X3_find dX3_find_97 rfl rfl rfl rfl ?_
  refine jw_iconst (v := 1) zM_X3_find dX3_find_99 rfl ?_
  refine jw_icmp_eq (tgt := 104) zM_X3_find dX3_find_100 rfl r_x7 (show jW 1 from ⟨by decide, by decide⟩) (fun q => ?_) (fun q => ?_)
  · replace h := h.1 q
    exact zw_weak2 (h hA) ⟨rfl, rfl, rfl, rfl, trivial⟩
  · replace h := h.2 q
    exact jw_retv zM_X3_find dX3_find_103 rfl hA h
set_option maxHeartbeats 4000000 in
set_option maxRecDepth 100000 in
theorem vd_X3_find_104 (x1 : Int) (r_x1 : jW x1) (x2 : Int) (r_x2 : jW x2) (x3 : Int) (r_x3 : jW x3) (E : jE) (A : jA) (K : jA → Prop) (h : jrV 70 7 [some (.ref 38), some (.int (jI x1)), some (.int (jI x2)), some (.int (jI (x3 + 1))), none, none, none, none] [] E A K) : jrV 70 104 [some (.ref 38), some (.int (jI x1)), some (.int (jI x2)), some (.int (jI x3)), none, none, none, none] [] E A K := by
  intro hA
  refine jw_iinc (x := x3) (L1 := [some (.ref 38), some (.int (jI x1)), some (.int (jI x2)), some (.int (jI (x3 + 1))), none, none, none, none]) zM_X3_find dX3_find_104 rfl (show 3 < 8 by decide) rfl ?_
  refine zw_goto (tgt := 7) zM_X3_find dX3_find_107 rfl ?_
  exact zw_weak2 (h hA) ⟨rfl, rfl, rfl, rfl, trivial⟩
set_option maxHeartbeats 4000000 in
set_option maxRecDepth 100000 in
theorem vd_X3_hasView_0 (x1 : Int) (r_x1 : jW x1) (E : jE) (A : jA) (K : Int → jA → Prop) (h : ((x1 < (0 : Int) → K 0 A) ∧ ((0 : Int) ≤ x1 → (((A 38 11) ≤ x1 → K 0 A) ∧ (x1 < (A 38 11) → K 1 A))))) : jrI 71 0 [some (.ref 38), some (.int (jI x1))] [] E A K := by
  intro hA
  refine zw_go (pc1 := 1) (L1 := [some (.ref 38), some (.int (jI x1))]) (st1 := [.int (jI x1)]) (σ1 := js E A) zM_X3_hasView dX3_hasView_0 rfl rfl rfl rfl ?_
  refine jw_if_lt (tgt := 16) zM_X3_hasView dX3_hasView_1 rfl r_x1 (fun q => ?_) (fun q => ?_)
  · replace h := h.1 q
    refine jw_iconst (v := 0) zM_X3_hasView dX3_hasView_16 rfl ?_
    exact jw_retz zM_X3_hasView dX3_hasView_17 rfl (Or.inl rfl) hA h
  · replace h := h.2 q
    refine zw_go (pc1 := 5) (L1 := [some (.ref 38), some (.int (jI x1))]) (st1 := [.int (jI x1)]) (σ1 := js E A) zM_X3_hasView dX3_hasView_4 rfl rfl rfl rfl ?_
    refine zw_go (pc1 := 6) (L1 := [some (.ref 38), some (.int (jI x1))]) (st1 := [.ref 38, .int (jI x1)]) (σ1 := js E A) zM_X3_hasView dX3_hasView_5 rfl rfl rfl rfl ?_
    refine jw_getI zM_X3_hasView dX3_hasView_6 zF_3_49 rfl rfl rfl ?_
    refine jw_icmp_ge (tgt := 16) zM_X3_hasView dX3_hasView_9 rfl r_x1 (hA 38 11) (fun q => ?_) (fun q => ?_)
    · replace h := h.1 q
      refine jw_iconst (v := 0) zM_X3_hasView dX3_hasView_16 rfl ?_
      exact jw_retz zM_X3_hasView dX3_hasView_17 rfl (Or.inl rfl) hA h
    · replace h := h.2 q
      refine jw_iconst (v := 1) zM_X3_hasView dX3_hasView_12 rfl ?_
      refine zw_goto (tgt := 17) zM_X3_hasView dX3_hasView_13 rfl ?_
      exact jw_retz zM_X3_hasView dX3_hasView_17 rfl (Or.inr rfl) hA h
set_option maxHeartbeats 4000000 in
set_option maxRecDepth 100000 in
theorem vd_X3_imageOf_0 (x1 : Int) (r_x1 : jW x1) (E : jE) (A : jA) (K : Int → jA → Prop) (h : (0 ≤ (x1 * 3) ∧ (x1 * 3) < 180) ∧ (0 ≤ (A 42 (x1 * 3)) ∧ (A 42 (x1 * 3)) < 3) ∧ K (A 39 (A 42 (x1 * 3))) A) : jrI 72 0 [some (.ref 38), some (.int (jI x1))] [] E A K := by
  intro hA
  refine zw_go (pc1 := 1) (L1 := [some (.ref 38), some (.int (jI x1))]) (st1 := [.ref 38]) (σ1 := js E A) zM_X3_imageOf dX3_imageOf_0 rfl rfl rfl rfl ?_
  refine jw_getR (a := 39) zM_X3_imageOf dX3_imageOf_1 zF_3_9 rfl rfl rfl ?_
  refine zw_go (pc1 := 5) (L1 := [some (.ref 38), some (.int (jI x1))]) (st1 := [.ref 38, .ref 39]) (σ1 := js E A) zM_X3_imageOf dX3_imageOf_4 rfl rfl rfl rfl ?_
  refine jw_getR (a := 42) zM_X3_imageOf dX3_imageOf_5 zF_3_24 rfl rfl rfl ?_
  refine zw_go (pc1 := 9) (L1 := [some (.ref 38), some (.int (jI x1))]) (st1 := [.int (jI x1), .ref 42, .ref 39]) (σ1 := js E A) zM_X3_imageOf dX3_imageOf_8 rfl rfl rfl rfl ?_
  refine jw_iconst (v := 3) zM_X3_imageOf dX3_imageOf_9 rfl ?_
  refine jw_mul zM_X3_imageOf dX3_imageOf_10 ?_
  obtain ⟨hi1, h⟩ := h
  refine jw_iald zM_X3_imageOf dX3_imageOf_11 rfl rfl hi1 ?_
  obtain ⟨hi2, h⟩ := h
  refine jw_iald zM_X3_imageOf dX3_imageOf_12 rfl rfl hi2 ?_
  exact jw_reti zM_X3_imageOf dX3_imageOf_13 rfl (hA 39 (A 42 (x1 * 3))) hA h
set_option maxHeartbeats 4000000 in
set_option maxRecDepth 100000 in
theorem vd_X3_isLaid_0 (x1 : Int) (r_x1 : jW x1) (E : jE) (A : jA) (K : Int → jA → Prop) (h : jrI 74 2 [some (.ref 38), some (.int (jI x1)), some (.int (jI 0))] [] E A K) : jrI 74 0 [some (.ref 38), some (.int (jI x1)), none] [] E A K := by
  intro hA
  refine jw_iconst (v := 0) zM_X3_isLaid dX3_isLaid_0 rfl ?_
  refine zw_go (pc1 := 2) (L1 := [some (.ref 38), some (.int (jI x1)), some (.int (jI 0))]) (st1 := []) (σ1 := js E A) zM_X3_isLaid dX3_isLaid_1 rfl rfl rfl rfl ?_
  exact zw_weak2 (h hA) ⟨rfl, rfl, rfl, trivial⟩
set_option maxHeartbeats 4000000 in
set_option maxRecDepth 100000 in
theorem vd_X3_isLaid_2 (x1 : Int) (r_x1 : jW x1) (x2 : Int) (r_x2 : jW x2) (E : jE) (A : jA) (K : Int → jA → Prop) (h : (((A 38 10) ≤ x2 → K 0 A) ∧ (x2 < (A 38 10) → (0 ≤ x2 ∧ x2 < 3) ∧ ((¬ (A 39 x2) = x1 → jrI 74 2 [some (.ref 38), some (.int (jI x1)), some (.int (jI (x2 + 1)))] [] E A K) ∧ ((A 39 x2) = x1 → K 1 A))))) : jrI 74 2 [some (.ref 38), some (.int (jI x1)), some (.int (jI x2))] [] E A K := by
  intro hA
  refine zw_go (pc1 := 3) (L1 := [some (.ref 38), some (.int (jI x1)), some (.int (jI x2))]) (st1 := [.int (jI x2)]) (σ1 := js E A) zM_X3_isLaid dX3_isLaid_2 rfl rfl rfl rfl ?_
  refine zw_go (pc1 := 4) (L1 := [some (.ref 38), some (.int (jI x1)), some (.int (jI x2))]) (st1 := [.ref 38, .int (jI x2)]) (σ1 := js E A) zM_X3_isLaid dX3_isLaid_3 rfl rfl rfl rfl ?_
  refine jw_getI zM_X3_isLaid dX3_isLaid_4 zF_3_42 rfl rfl rfl ?_
  refine jw_icmp_ge (tgt := 28) zM_X3_isLaid dX3_isLaid_7 rfl r_x2 (hA 38 10) (fun q => ?_) (fun q => ?_)
  · replace h := h.1 q
    refine jw_iconst (v := 0) zM_X3_isLaid dX3_isLaid_28 rfl ?_
    exact jw_retz zM_X3_isLaid dX3_isLaid_29 rfl (Or.inl rfl) hA h
  · replace h := h.2 q
    refine zw_go (pc1 := 11) (L1 := [some (.ref 38), some (.int (jI x1)), some (.int (jI x2))]) (st1 := [.ref 38]) (σ1 := js E A) zM_X3_isLaid dX3_isLaid_10 rfl rfl rfl rfl ?_
    refine jw_getR (a := 39) zM_X3_isLaid dX3_isLaid_11 zF_3_9 rfl rfl rfl ?_
    refine zw_go (pc1 := 15) (L1 := [some (.ref 38), some (.int (jI x1)), some (.int (jI x2))]) (st1 := [.int (jI x2), .ref 39]) (σ1 := js E A) zM_X3_isLaid dX3_isLaid_14 rfl rfl rfl rfl ?_
    obtain ⟨hi1, h⟩ := h
    refine jw_iald zM_X3_isLaid dX3_isLaid_15 rfl rfl hi1 ?_
    refine zw_go (pc1 := 17) (L1 := [some (.ref 38), some (.int (jI x1)), some (.int (jI x2))]) (st1 := [.int (jI x1), .int (jI (A 39 x2))]) (σ1 := js E A) zM_X3_isLaid dX3_isLaid_16 rfl rfl rfl rfl ?_
    refine jw_icmp_ne (tgt := 22) zM_X3_isLaid dX3_isLaid_17 rfl (hA 39 x2) r_x1 (fun q => ?_) (fun q => ?_)
    · replace h := h.1 q
      refine jw_iinc (x := x2) (L1 := [some (.ref 38), some (.int (jI x1)), some (.int (jI (x2 + 1)))]) zM_X3_isLaid dX3_isLaid_22 rfl (show 2 < 3 by decide) rfl ?_
      refine zw_goto (tgt := 2) zM_X3_isLaid dX3_isLaid_25 rfl ?_
      exact zw_weak2 (h hA) ⟨rfl, rfl, rfl, trivial⟩
    · replace h := h.2 q
      refine jw_iconst (v := 1) zM_X3_isLaid dX3_isLaid_20 rfl ?_
      exact jw_retz zM_X3_isLaid dX3_isLaid_21 rfl (Or.inr rfl) hA h
set_option maxHeartbeats 4000000 in
set_option maxRecDepth 100000 in
theorem vd_X3_kindOf_0 (x1 : Int) (r_x1 : jW x1) (E : jE) (A : jA) (K : Int → jA → Prop) (h : jrR 87 0 [some (.ref 38), some (.int (jI x1))] [] E A (fun b3 A1 => jim b3 ∧ jrI 81 0 [some (.ref 38), some (.int (jI x1))] [] E A1 (fun v7 A5 => jrI 30 0 [some (.ref b3), some (.int (jI v7))] [] E A5 (fun v11 A9 => K v11 A9)))) : jrI 75 0 [some (.ref 38), some (.int (jI x1))] [] E A K := by
  intro hA
  refine zw_go (pc1 := 1) (L1 := [some (.ref 38), some (.int (jI x1))]) (st1 := [.ref 38]) (σ1 := js E A) zM_X3_kindOf dX3_kindOf_0 rfl rfl rfl rfl ?_
  refine zw_go (pc1 := 2) (L1 := [some (.ref 38), some (.int (jI x1))]) (st1 := [.int (jI x1), .ref 38]) (σ1 := js E A) zM_X3_kindOf dX3_kindOf_1 rfl rfl rfl rfl ?_
  refine jw_callR (as := [.ref 38, .int (jI x1)]) (rest := []) zM_X3_kindOf dX3_kindOf_2 (zx_calV zC_3_52) zM_X3_upperImage rfl rfl rfl rfl rfl (j_args0 rfl rfl) rfl hA h (fun b3 A1 hA2 h => ?_)
  obtain ⟨hj4, h⟩ := h
  refine zw_go (pc1 := 6) (L1 := [some (.ref 38), some (.int (jI x1))]) (st1 := [.ref 38, .ref b3]) (σ1 := js E A1) zM_X3_kindOf dX3_kindOf_5 rfl rfl rfl rfl ?_
  refine zw_go (pc1 := 7) (L1 := [some (.ref 38), some (.int (jI x1))]) (st1 := [.int (jI x1), .ref 38, .ref b3]) (σ1 := js E A1) zM_X3_kindOf dX3_kindOf_6 rfl rfl rfl rfl ?_
  refine jw_callI (as := [.ref 38, .int (jI x1)]) (rest := [.ref b3]) zM_X3_kindOf dX3_kindOf_7 (zx_calV zC_3_56) zM_X3_numberOf rfl rfl rfl rfl rfl (j_args0 rfl rfl) rfl hA2 h (fun v7 A5 rv8 hA6 h => ?_)
  refine jw_callI (as := [.ref b3, .int (jI v7)]) (rest := []) zM_X3_kindOf dX3_kindOf_10 (zx_calV zC_3_60) zM_X1_kindOf rfl rfl rfl rfl rfl (j_args0 (jim.K hj4) rfl) rfl hA6 h (fun v11 A9 rv12 hA10 h => ?_)
  exact jw_reti zM_X3_kindOf dX3_kindOf_13 rfl rv12 hA10 h
set_option maxHeartbeats 4000000 in
set_option maxRecDepth 100000 in
theorem vd_X3_lead_0 (x1 : Int) (r_x1 : jW x1) (x2 : Int) (r_x2 : jW x2) (E : jE) (A : jA) (K : Int → jA → Prop) (h : jrV 70 0 [some (.ref 38), some (.int (jI x1)), some (.int (jI x2)), none, none, none, none, none] [] E A (fun A1 => ((¬ (A1 38 8) = (0 : Int) → jrI 77 17 [some (.ref 38), none, none, some (.int (jI 0))] [] E A1 K) ∧ ((A1 38 8) = (0 : Int) → K 0 A1)))) : jrI 77 0 [some (.ref 38), some (.int (jI x1)), some (.int (jI x2)), none] [] E A K := by
  intro hA
  refine zw_go (pc1 := 1) (L1 := [some (.ref 38), some (.int (jI x1)), some (.int (jI x2)), none]) (st1 := [.ref 38]) (σ1 := js E A) zM_X3_lead dX3_lead_0 rfl rfl rfl rfl ?_
  refine zw_go (pc1 := 2) (L1 := [some (.ref 38), some (.int (jI x1)), some (.int (jI x2)), none]) (st1 := [.int (jI x1), .ref 38]) (σ1 := js E A) zM_X3_lead dX3_lead_1 rfl rfl rfl rfl ?_
  refine zw_go (pc1 := 3) (L1 := [some (.ref 38), some (.int (jI x1)), some (.int (jI x2)), none]) (st1 := [.int (jI x2), .int (jI x1), .ref 38]) (σ1 := js E A) zM_X3_lead dX3_lead_2 rfl rfl rfl rfl ?_
  refine jw_callV (as := [.ref 38, .int (jI x1), .int (jI x2)]) (rest := []) zM_X3_lead dX3_lead_3 (zx_calV zC_3_95) zM_X3_find rfl rfl rfl rfl rfl (j_args0 rfl rfl) rfl hA h (fun A1 hA2 h => ?_)
  refine zw_go (pc1 := 7) (L1 := [some (.ref 38), some (.int (jI x1)), some (.int (jI x2)), none]) (st1 := [.ref 38]) (σ1 := js E A1) zM_X3_lead dX3_lead_6 rfl rfl rfl rfl ?_
  refine jw_getI zM_X3_lead dX3_lead_7 zF_3_99 rfl rfl rfl ?_
  refine jw_if_ne (tgt := 15) zM_X3_lead dX3_lead_10 rfl (hA2 38 8) (fun q => ?_) (fun q => ?_)
  · replace h := h.1 q
    refine jw_iconst (v := 0) zM_X3_lead dX3_lead_15 rfl ?_
    refine zw_go (pc1 := 17) (L1 := [some (.ref 38), some (.int (jI x1)), some (.int (jI x2)), some (.int (jI 0))]) (st1 := []) (σ1 := js E A1) zM_X3_lead dX3_lead_16 rfl rfl rfl rfl ?_
    exact zw_weak2 (h hA2) ⟨rfl, rfl, trivial⟩
  · replace h := h.2 q
    refine jw_iconst (v := 0) zM_X3_lead dX3_lead_13 rfl ?_
    exact jw_reti zM_X3_lead dX3_lead_14 rfl (show jW 0 from ⟨by decide, by decide⟩) hA2 h
set_option maxHeartbeats 4000000 in
set_option maxRecDepth 100000 in
theorem vd_X3_lead_17 (x3 : Int) (r_x3 : jW x3) (E : jE) (A : jA) (K : Int → jA → Prop) (h : (((A 38 11) ≤ x3 → (((A 38 11) < (60 : Int) → jrV 66 0 [some (.ref 38), none] [] E A (fun A1 => jW ((A1 38 11) - 1) ∧ K ((A1 38 11) - 1) A1)) ∧ ((60 : Int) ≤ (A 38 11) → K (-4) A))) ∧ (x3 < (A 38 11) → (0 ≤ (x3 * 3) ∧ (x3 * 3) < 180) ∧ ((¬ (A 42 (x3 * 3)) = (A 44 0) → jrI 77 58 [some (.ref 38), none, none, some (.int (jI x3))] [] E A K) ∧ ((A 42 (x3 * 3)) = (A 44 0) → jrI 81 0 [some (.ref 38), some (.int (jI x3))] [] E A (fun v8 A6 => ((¬ v8 = (A6 45 0) → jrI 77 58 [some (.ref 38), none, none, some (.int (jI x3))] [] E A6 K) ∧ (v8 = (A6 45 0) → K x3 A6)))))))) : jrI 77 17 [some (.ref 38), none, none, some (.int (jI x3))] [] E A K := by
  intro hA
  refine zw_go (pc1 := 18) (L1 := [some (.ref 38), none, none, some (.int (jI x3))]) (st1 := [.int (jI x3)]) (σ1 := js E A) zM_X3_lead dX3_lead_17 rfl rfl rfl rfl ?_
  refine zw_go (pc1 := 19) (L1 := [some (.ref 38), none, none, some (.int (jI x3))]) (st1 := [.ref 38, .int (jI x3)]) (σ1 := js E A) zM_X3_lead dX3_lead_18 rfl rfl rfl rfl ?_
  refine jw_getI zM_X3_lead dX3_lead_19 zF_3_49 rfl rfl rfl ?_
  refine jw_icmp_ge (tgt := 64) zM_X3_lead dX3_lead_22 rfl r_x3 (hA 38 11) (fun q => ?_) (fun q => ?_)
  · replace h := h.1 q
    refine zw_go (pc1 := 65) (L1 := [some (.ref 38), none, none, some (.int (jI x3))]) (st1 := [.ref 38]) (σ1 := js E A) zM_X3_lead dX3_lead_64 rfl rfl rfl rfl ?_
    refine jw_getI zM_X3_lead dX3_lead_65 zF_3_49 rfl rfl rfl ?_
    refine jw_bipush (v := 60) zM_X3_lead dX3_lead_68 (by decide) ?_
    refine jw_icmp_lt (tgt := 76) zM_X3_lead dX3_lead_70 rfl (hA 38 11) (show jW 60 from ⟨by decide, by decide⟩) (fun q => ?_) (fun q => ?_)
    · replace h := h.1 q
      refine zw_go (pc1 := 77) (L1 := [some (.ref 38), none, none, some (.int (jI x3))]) (st1 := [.ref 38]) (σ1 := js E A) zM_X3_lead dX3_lead_76 rfl rfl rfl rfl ?_
      refine jw_callV (as := [.ref 38]) (rest := []) zM_X3_lead dX3_lead_77 (zx_calV zC_3_102) zM_X3_addFound rfl rfl rfl rfl rfl (j_args0 rfl rfl) rfl hA h (fun A1 hA2 h => ?_)
      refine zw_go (pc1 := 81) (L1 := [some (.ref 38), none, none, some (.int (jI x3))]) (st1 := [.ref 38]) (σ1 := js E A1) zM_X3_lead dX3_lead_80 rfl rfl rfl rfl ?_
      refine jw_getI zM_X3_lead dX3_lead_81 zF_3_49 rfl rfl rfl ?_
      refine jw_iconst (v := 1) zM_X3_lead dX3_lead_84 rfl ?_
      refine jw_sub zM_X3_lead dX3_lead_85 ?_
      obtain ⟨hw3, h⟩ := h
      exact jw_reti zM_X3_lead dX3_lead_86 rfl hw3 hA2 h
    · replace h := h.2 q
      refine jw_bipush (v := (-4)) zM_X3_lead dX3_lead_73 (by decide) ?_
      exact jw_reti zM_X3_lead dX3_lead_75 rfl (show jW (-4) from ⟨by decide, by decide⟩) hA h
  · replace h := h.2 q
    refine zw_go (pc1 := 26) (L1 := [some (.ref 38), none, none, some (.int (jI x3))]) (st1 := [.ref 38]) (σ1 := js E A) zM_X3_lead dX3_lead_25 rfl rfl rfl rfl ?_
    refine jw_getR (a := 42) zM_X3_lead dX3_lead_26 zF_3_24 rfl rfl rfl ?_
    refine zw_go (pc1 := 30) (L1 := [some (.ref 38), none, none, some (.int (jI x3))]) (st1 := [.int (jI x3), .ref 42]) (σ1 := js E A) zM_X3_lead dX3_lead_29 rfl rfl rfl rfl ?_
    refine jw_iconst (v := 3) zM_X3_lead dX3_lead_30 rfl ?_
    refine jw_mul zM_X3_lead dX3_lead_31 ?_
    obtain ⟨hi4, h⟩ := h
    refine jw_iald zM_X3_lead dX3_lead_32 rfl rfl hi4 ?_
    refine zw_go (pc1 := 34) (L1 := [some (.ref 38), none, none, some (.int (jI x3))]) (st1 := [.ref 38, .int (jI (A 42 (x3 * 3)))]) (σ1 := js E A) zM_X3_lead dX3_lead_33 rfl rfl rfl rfl ?_
    refine jw_getR (a := 44) zM_X3_lead dX3_lead_34 zF_3_30 rfl rfl rfl ?_
    refine jw_iconst (v := 0) zM_X3_lead dX3_lead_37 rfl ?_
    refine jw_iald zM_X3_lead dX3_lead_38 rfl rfl ⟨by decide, by decide⟩ ?_
    refine jw_icmp_ne (tgt := 58) zM_X3_lead dX3_lead_39 rfl (hA 42 (x3 * 3)) (hA 44 0) (fun q => ?_) (fun q => ?_)
    · replace h := h.1 q
      exact zw_weak2 (h hA) ⟨rfl, rfl, trivial⟩
    · replace h := h.2 q
      refine zw_go (pc1 := 43) (L1 := [some (.ref 38), none, none, some (.int (jI x3))]) (st1 := [.ref 38]) (σ1 := js E A) zM_X3_lead dX3_lead_42 rfl rfl rfl rfl ?_
      refine zw_go (pc1 := 44) (L1 := [some (.ref 38), none, none, some (.int (jI x3))]) (st1 := [.int (jI x3), .ref 38]) (σ1 := js E A) zM_X3_lead dX3_lead_43 rfl rfl rfl rfl ?_
      refine jw_callI (as := [.ref 38, .int (jI x3)]) (rest := []) zM_X3_lead dX3_lead_44 (zx_calV zC_3_56) zM_X3_numberOf rfl rfl rfl rfl rfl (j_args0 rfl rfl) rfl hA h (fun v8 A6 rv9 hA7 h => ?_)
      refine zw_go (pc1 := 48) (L1 := [some (.ref 38), none, none, some (.int (jI x3))]) (st1 := [.ref 38, .int (jI v8)]) (σ1 := js E A6) zM_X3_lead dX3_lead_47 rfl rfl rfl rfl ?_
      refine jw_getR (a := 45) zM_X3_lead dX3_lead_48 zF_3_33 rfl rfl rfl ?_
      refine jw_iconst (v := 0) zM_X3_lead dX3_lead_51 rfl ?_
      refine jw_iald zM_X3_lead dX3_lead_52 rfl rfl ⟨by decide, by decide⟩ ?_
      refine jw_icmp_ne (tgt := 58) zM_X3_lead dX3_lead_53 rfl rv9 (hA7 45 0) (fun q => ?_) (fun q => ?_)
      · replace h := h.1 q
        exact zw_weak2 (h hA7) ⟨rfl, rfl, trivial⟩
      · replace h := h.2 q
        refine zw_go (pc1 := 57) (L1 := [some (.ref 38), none, none, some (.int (jI x3))]) (st1 := [.int (jI x3)]) (σ1 := js E A6) zM_X3_lead dX3_lead_56 rfl rfl rfl rfl ?_
        exact jw_reti zM_X3_lead dX3_lead_57 rfl r_x3 hA7 h
set_option maxHeartbeats 4000000 in
set_option maxRecDepth 100000 in
theorem vd_X3_lead_58 (x3 : Int) (r_x3 : jW x3) (E : jE) (A : jA) (K : Int → jA → Prop) (h : jrI 77 17 [some (.ref 38), none, none, some (.int (jI (x3 + 1)))] [] E A K) : jrI 77 58 [some (.ref 38), none, none, some (.int (jI x3))] [] E A K := by
  intro hA
  refine jw_iinc (x := x3) (L1 := [some (.ref 38), none, none, some (.int (jI (x3 + 1)))]) zM_X3_lead dX3_lead_58 rfl (show 3 < 4 by decide) rfl ?_
  refine zw_goto (tgt := 17) zM_X3_lead dX3_lead_61 rfl ?_
  exact zw_weak2 (h hA) ⟨rfl, rfl, trivial⟩
set_option maxHeartbeats 4000000 in
set_option maxRecDepth 100000 in
theorem vd_X3_modeOf_0 (x1 : Int) (r_x1 : jW x1) (E : jE) (A : jA) (K : Int → jA → Prop) (h : jrR 87 0 [some (.ref 38), some (.int (jI x1))] [] E A (fun b3 A1 => jim b3 ∧ jrI 81 0 [some (.ref 38), some (.int (jI x1))] [] E A1 (fun v7 A5 => jrI 31 0 [some (.ref b3), some (.int (jI v7))] [] E A5 (fun v11 A9 => K v11 A9)))) : jrI 78 0 [some (.ref 38), some (.int (jI x1))] [] E A K := by
  intro hA
  refine zw_go (pc1 := 1) (L1 := [some (.ref 38), some (.int (jI x1))]) (st1 := [.ref 38]) (σ1 := js E A) zM_X3_modeOf dX3_modeOf_0 rfl rfl rfl rfl ?_
  refine zw_go (pc1 := 2) (L1 := [some (.ref 38), some (.int (jI x1))]) (st1 := [.int (jI x1), .ref 38]) (σ1 := js E A) zM_X3_modeOf dX3_modeOf_1 rfl rfl rfl rfl ?_
  refine jw_callR (as := [.ref 38, .int (jI x1)]) (rest := []) zM_X3_modeOf dX3_modeOf_2 (zx_calV zC_3_52) zM_X3_upperImage rfl rfl rfl rfl rfl (j_args0 rfl rfl) rfl hA h (fun b3 A1 hA2 h => ?_)
  obtain ⟨hj4, h⟩ := h
  refine zw_go (pc1 := 6) (L1 := [some (.ref 38), some (.int (jI x1))]) (st1 := [.ref 38, .ref b3]) (σ1 := js E A1) zM_X3_modeOf dX3_modeOf_5 rfl rfl rfl rfl ?_
  refine zw_go (pc1 := 7) (L1 := [some (.ref 38), some (.int (jI x1))]) (st1 := [.int (jI x1), .ref 38, .ref b3]) (σ1 := js E A1) zM_X3_modeOf dX3_modeOf_6 rfl rfl rfl rfl ?_
  refine jw_callI (as := [.ref 38, .int (jI x1)]) (rest := [.ref b3]) zM_X3_modeOf dX3_modeOf_7 (zx_calV zC_3_56) zM_X3_numberOf rfl rfl rfl rfl rfl (j_args0 rfl rfl) rfl hA2 h (fun v7 A5 rv8 hA6 h => ?_)
  refine jw_callI (as := [.ref b3, .int (jI v7)]) (rest := []) zM_X3_modeOf dX3_modeOf_10 (zx_calV zC_3_63) zM_X1_modeOf rfl rfl rfl rfl rfl (j_args0 (jim.K hj4) rfl) rfl hA6 h (fun v11 A9 rv12 hA10 h => ?_)
  exact jw_reti zM_X3_modeOf dX3_modeOf_13 rfl rv12 hA10 h
set_option maxHeartbeats 4000000 in
set_option maxRecDepth 100000 in
theorem vd_X3_nameBelow_0 (x1 : Int) (r_x1 : jW x1) (x2 : Int) (r_x2 : jW x2) (E : jE) (A : jA) (K : Int → jA → Prop) (h : jrV 0 0 [some (.ref 46), some (.int (jI 0)), none, none] [] E A (fun A1 => ∀ A3 : jA, A3 = jup A1 38 9 0 → jrI 80 0 [some (.ref 38), some (.int (jI x1)), none, none, none, none, none] [] E A3 (fun v8 A6 => jrI 79 22 [some (.ref 38), some (.int (jI x1)), some (.int (jI x2)), some (.int (jI v8)), some (.int (jI 0))] [] E A6 K))) : jrI 79 0 [some (.ref 38), some (.int (jI x1)), some (.int (jI x2)), none, none] [] E A K := by
  intro hA
  refine zw_go (pc1 := 1) (L1 := [some (.ref 38), some (.int (jI x1)), some (.int (jI x2)), none, none]) (st1 := [.ref 38]) (σ1 := js E A) zM_X3_nameBelow dX3_nameBelow_0 rfl rfl rfl rfl ?_
  refine jw_getR (a := 46) zM_X3_nameBelow dX3_nameBelow_1 zF_3_36 rfl rfl rfl ?_
  refine jw_iconst (v := 0) zM_X3_nameBelow dX3_nameBelow_4 rfl ?_
  refine jw_callV (as := [.ref 46, .int (jI 0)]) (rest := []) zM_X3_nameBelow dX3_nameBelow_5 (zx_calS zC_3_80) zM_J7_fill_53178 rfl rfl rfl rfl rfl rfl rfl hA h (fun A1 hA2 h => ?_)
  refine zw_go (pc1 := 9) (L1 := [some (.ref 38), some (.int (jI x1)), some (.int (jI x2)), none, none]) (st1 := [.ref 38]) (σ1 := js E A1) zM_X3_nameBelow dX3_nameBelow_8 rfl rfl rfl rfl ?_
  refine jw_iconst (v := 0) zM_X3_nameBelow dX3_nameBelow_9 rfl ?_
  obtain ⟨A3, e4⟩ : ∃ z9 : jA, z9 = jup A1 38 9 0 := ⟨_, rfl⟩
  replace h := h A3 e4
  have hA5 : jOK A3 := jOK.up hA2 (show jW 0 from ⟨by decide, by decide⟩) e4
  refine jw_putI zM_X3_nameBelow dX3_nameBelow_10 zF_3_77 rfl rfl rfl rfl e4 ?_
  refine zw_go (pc1 := 14) (L1 := [some (.ref 38), some (.int (jI x1)), some (.int (jI x2)), none, none]) (st1 := [.ref 38]) (σ1 := js E A3) zM_X3_nameBelow dX3_nameBelow_13 rfl rfl rfl rfl ?_
  refine zw_go (pc1 := 15) (L1 := [some (.ref 38), some (.int (jI x1)), some (.int (jI x2)), none, none]) (st1 := [.int (jI x1), .ref 38]) (σ1 := js E A3) zM_X3_nameBelow dX3_nameBelow_14 rfl rfl rfl rfl ?_
  refine jw_callI (as := [.ref 38, .int (jI x1)]) (rest := []) zM_X3_nameBelow dX3_nameBelow_15 (zx_calV zC_3_86) zM_X3_nextName rfl rfl rfl rfl rfl (j_args0 rfl rfl) rfl hA5 h (fun v8 A6 rv9 hA7 h => ?_)
  refine zw_go (pc1 := 19) (L1 := [some (.ref 38), some (.int (jI x1)), some (.int (jI x2)), some (.int (jI v8)), none]) (st1 := []) (σ1 := js E A6) zM_X3_nameBelow dX3_nameBelow_18 rfl rfl rfl rfl ?_
  refine jw_iconst (v := 0) zM_X3_nameBelow dX3_nameBelow_19 rfl ?_
  refine zw_go (pc1 := 22) (L1 := [some (.ref 38), some (.int (jI x1)), some (.int (jI x2)), some (.int (jI v8)), some (.int (jI 0))]) (st1 := []) (σ1 := js E A6) zM_X3_nameBelow dX3_nameBelow_20 rfl rfl rfl rfl ?_
  exact zw_weak2 (h hA7) ⟨rfl, rfl, rfl, rfl, rfl, trivial⟩
set_option maxHeartbeats 4000000 in
set_option maxRecDepth 100000 in
theorem vd_X3_nameBelow_22 (x1 : Int) (r_x1 : jW x1) (x2 : Int) (r_x2 : jW x2) (x3 : Int) (r_x3 : jW x3) (x4 : Int) (r_x4 : jW x4) (E : jE) (A : jA) (K : Int → jA → Prop) (h : (((999 : Int) ≤ x4 → K 0 A) ∧ (x4 < (999 : Int) → ((x3 = (0 : Int) → K 0 A) ∧ (¬ x3 = (0 : Int) → jrI 83 0 [some (.ref 38), some (.int (jI x1)), some (.int (jI x3)), none, none, none, none, none] [] E A (fun v3 A1 => ((v3 = (3 : Int) → jrI 79 64 [some (.ref 38), some (.int (jI x1)), some (.int (jI x2)), none, some (.int (jI x4))] [] E A1 K) ∧ (¬ v3 = (3 : Int) → ((¬ (A1 38 9) = x2 → jW ((A1 38 9) + 1) ∧ ∀ A6 : jA, A6 = jup A1 38 9 ((A1 38 9) + 1) → jrI 79 64 [some (.ref 38), some (.int (jI x1)), some (.int (jI x2)), none, some (.int (jI x4))] [] E A6 K) ∧ ((A1 38 9) = x2 → K x3 A1)))))))))) : jrI 79 22 [some (.ref 38), some (.int (jI x1)), some (.int (jI x2)), some (.int (jI x3)), some (.int (jI x4))] [] E A K := by
  intro hA
  refine zw_go (pc1 := 24) (L1 := [some (.ref 38), some (.int (jI x1)), some (.int (jI x2)), some (.int (jI x3)), some (.int (jI x4))]) (st1 := [.int (jI x4)]) (σ1 := js E A) zM_X3_nameBelow dX3_nameBelow_22 rfl rfl rfl rfl ?_
  refine jw_sipush (v := 999) zM_X3_nameBelow dX3_nameBelow_24 (by decide) ?_
  refine jw_icmp_ge (tgt := 76) zM_X3_nameBelow dX3_nameBelow_27 rfl r_x4 (show jW 999 from ⟨by decide, by decide⟩) (fun q => ?_) (fun q => ?_)
  · replace h := h.1 q
    refine jw_iconst (v := 0) zM_X3_nameBelow dX3_nameBelow_76 rfl ?_
    exact jw_reti zM_X3_nameBelow dX3_nameBelow_77 rfl (show jW 0 from ⟨by decide, by decide⟩) hA h
  · replace h := h.2 q
    refine zw_go (pc1 := 31) (L1 := [some (.ref 38), some (.int (jI x1)), some (.int (jI x2)), some (.int (jI x3)), some (.int (jI x4))]) (st1 := [.int (jI x3)]) (σ1 := js E A) zM_X3_nameBelow dX3_nameBelow_30 rfl rfl rfl rfl ?_
    refine jw_if_eq (tgt := 76) zM_X3_nameBelow dX3_nameBelow_31 rfl r_x3 (fun q => ?_) (fun q => ?_)
    · replace h := h.1 q
      refine jw_iconst (v := 0) zM_X3_nameBelow dX3_nameBelow_76 rfl ?_
      exact jw_reti zM_X3_nameBelow dX3_nameBelow_77 rfl (show jW 0 from ⟨by decide, by decide⟩) hA h
    · replace h := h.2 q
      refine zw_go (pc1 := 35) (L1 := [some (.ref 38), some (.int (jI x1)), some (.int (jI x2)), some (.int (jI x3)), some (.int (jI x4))]) (st1 := [.ref 38]) (σ1 := js E A) zM_X3_nameBelow dX3_nameBelow_34 rfl rfl rfl rfl ?_
      refine zw_go (pc1 := 36) (L1 := [some (.ref 38), some (.int (jI x1)), some (.int (jI x2)), some (.int (jI x3)), some (.int (jI x4))]) (st1 := [.int (jI x1), .ref 38]) (σ1 := js E A) zM_X3_nameBelow dX3_nameBelow_35 rfl rfl rfl rfl ?_
      refine zw_go (pc1 := 37) (L1 := [some (.ref 38), some (.int (jI x1)), some (.int (jI x2)), some (.int (jI x3)), some (.int (jI x4))]) (st1 := [.int (jI x3), .int (jI x1), .ref 38]) (σ1 := js E A) zM_X3_nameBelow dX3_nameBelow_36 rfl rfl rfl rfl ?_
      refine jw_callI (as := [.ref 38, .int (jI x1), .int (jI x3)]) (rest := []) zM_X3_nameBelow dX3_nameBelow_37 (zx_calV zC_3_89) zM_X3_passName rfl rfl rfl rfl rfl (j_args0 rfl rfl) rfl hA h (fun v3 A1 rv4 hA2 h => ?_)
      refine jw_iconst (v := 3) zM_X3_nameBelow dX3_nameBelow_40 rfl ?_
      refine jw_icmp_eq (tgt := 64) zM_X3_nameBelow dX3_nameBelow_41 rfl rv4 (show jW 3 from ⟨by decide, by decide⟩) (fun q => ?_) (fun q => ?_)
      · replace h := h.1 q
        exact zw_weak2 (h hA2) ⟨rfl, rfl, rfl, rfl, trivial⟩
      · replace h := h.2 q
        refine zw_go (pc1 := 45) (L1 := [some (.ref 38), some (.int (jI x1)), some (.int (jI x2)), some (.int (jI x3)), some (.int (jI x4))]) (st1 := [.ref 38]) (σ1 := js E A1) zM_X3_nameBelow dX3_nameBelow_44 rfl rfl rfl rfl ?_
        refine jw_getI zM_X3_nameBelow dX3_nameBelow_45 zF_3_77 rfl rfl rfl ?_
        refine zw_go (pc1 := 49) (L1 := [some (.ref 38), some (.int (jI x1)), some (.int (jI x2)), some (.int (jI x3)), some (.int (jI x4))]) (st1 := [.int (jI x2), .int (jI (A1 38 9))]) (σ1 := js E A1) zM_X3_nameBelow dX3_nameBelow_48 rfl rfl rfl rfl ?_
        refine jw_icmp_ne (tgt := 54) zM_X3_nameBelow dX3_nameBelow_49 rfl (hA2 38 9) r_x2 (fun q => ?_) (fun q => ?_)
        · replace h := h.1 q
          refine zw_go (pc1 := 55) (L1 := [some (.ref 38), some (.int (jI x1)), some (.int (jI x2)), some (.int (jI x3)), some (.int (jI x4))]) (st1 := [.ref 38]) (σ1 := js E A1) zM_X3_nameBelow dX3_nameBelow_54 rfl rfl rfl rfl ?_
          refine zw_go (pc1 := 56) (L1 := [some (.ref 38), some (.int (jI x1)), some (.int (jI x2)), some (.int (jI x3)), some (.int (jI x4))]) (st1 := [.ref 38, .ref 38]) (σ1 := js E A1) zM_X3_nameBelow dX3_nameBelow_55 rfl rfl rfl rfl ?_
          refine jw_getI zM_X3_nameBelow dX3_nameBelow_56 zF_3_77 rfl rfl rfl ?_
          refine jw_iconst (v := 1) zM_X3_nameBelow dX3_nameBelow_59 rfl ?_
          refine jw_add zM_X3_nameBelow dX3_nameBelow_60 ?_
          obtain ⟨hw5, h⟩ := h
          obtain ⟨A6, e7⟩ : ∃ z9 : jA, z9 = jup A1 38 9 ((A1 38 9) + 1) := ⟨_, rfl⟩
          replace h := h A6 e7
          have hA8 : jOK A6 := jOK.up hA2 hw5 e7
          refine jw_putI zM_X3_nameBelow dX3_nameBelow_61 zF_3_77 rfl rfl rfl rfl e7 ?_
          exact zw_weak2 (h hA8) ⟨rfl, rfl, rfl, rfl, trivial⟩
        · replace h := h.2 q
          refine zw_go (pc1 := 53) (L1 := [some (.ref 38), some (.int (jI x1)), some (.int (jI x2)), some (.int (jI x3)), some (.int (jI x4))]) (st1 := [.int (jI x3)]) (σ1 := js E A1) zM_X3_nameBelow dX3_nameBelow_52 rfl rfl rfl rfl ?_
          exact jw_reti zM_X3_nameBelow dX3_nameBelow_53 rfl r_x3 hA2 h
set_option maxHeartbeats 4000000 in
set_option maxRecDepth 100000 in
theorem vd_X3_nameBelow_64 (x1 : Int) (r_x1 : jW x1) (x2 : Int) (r_x2 : jW x2) (x4 : Int) (r_x4 : jW x4) (E : jE) (A : jA) (K : Int → jA → Prop) (h : jrI 80 0 [some (.ref 38), some (.int (jI x1)), none, none, none, none, none] [] E A (fun v3 A1 => jrI 79 22 [some (.ref 38), some (.int (jI x1)), some (.int (jI x2)), some (.int (jI v3)), some (.int (jI (x4 + 1)))] [] E A1 K)) : jrI 79 64 [some (.ref 38), some (.int (jI x1)), some (.int (jI x2)), none, some (.int (jI x4))] [] E A K := by
  intro hA
  refine zw_go (pc1 := 65) (L1 := [some (.ref 38), some (.int (jI x1)), some (.int (jI x2)), none, some (.int (jI x4))]) (st1 := [.ref 38]) (σ1 := js E A) zM_X3_nameBelow dX3_nameBelow_64 rfl rfl rfl rfl ?_
  refine zw_go (pc1 := 66) (L1 := [some (.ref 38), some (.int (jI x1)), some (.int (jI x2)), none, some (.int (jI x4))]) (st1 := [.int (jI x1), .ref 38]) (σ1 := js E A) zM_X3_nameBelow dX3_nameBelow_65 rfl rfl rfl rfl ?_
  refine jw_callI (as := [.ref 38, .int (jI x1)]) (rest := []) zM_X3_nameBelow dX3_nameBelow_66 (zx_calV zC_3_86) zM_X3_nextName rfl rfl rfl rfl rfl (j_args0 rfl rfl) rfl hA h (fun v3 A1 rv4 hA2 h => ?_)
  refine zw_go (pc1 := 70) (L1 := [some (.ref 38), some (.int (jI x1)), some (.int (jI x2)), some (.int (jI v3)), some (.int (jI x4))]) (st1 := []) (σ1 := js E A1) zM_X3_nameBelow dX3_nameBelow_69 rfl rfl rfl rfl ?_
  refine jw_iinc (x := x4) (L1 := [some (.ref 38), some (.int (jI x1)), some (.int (jI x2)), some (.int (jI v3)), some (.int (jI (x4 + 1)))]) zM_X3_nameBelow dX3_nameBelow_70 rfl (show 4 < 5 by decide) rfl ?_
  refine zw_goto (tgt := 22) zM_X3_nameBelow dX3_nameBelow_73 rfl ?_
  exact zw_weak2 (h hA2) ⟨rfl, rfl, rfl, rfl, rfl, trivial⟩
set_option maxHeartbeats 4000000 in
set_option maxRecDepth 100000 in
theorem vd_X3_nextName_0 (x1 : Int) (r_x1 : jW x1) (E : jE) (A : jA) (K : Int → jA → Prop) (h : jrI 80 4 [some (.ref 38), some (.int (jI x1)), some (.int (jI 0)), some (.int (jI 0)), none, none, none] [] E A K) : jrI 80 0 [some (.ref 38), some (.int (jI x1)), none, none, none, none, none] [] E A K := by
  intro hA
  refine jw_iconst (v := 0) zM_X3_nextName dX3_nextName_0 rfl ?_
  refine zw_go (pc1 := 2) (L1 := [some (.ref 38), some (.int (jI x1)), some (.int (jI 0)), none, none, none, none]) (st1 := []) (σ1 := js E A) zM_X3_nextName dX3_nextName_1 rfl rfl rfl rfl ?_
  refine jw_iconst (v := 0) zM_X3_nextName dX3_nextName_2 rfl ?_
  refine zw_go (pc1 := 4) (L1 := [some (.ref 38), some (.int (jI x1)), some (.int (jI 0)), some (.int (jI 0)), none, none, none]) (st1 := []) (σ1 := js E A) zM_X3_nextName dX3_nextName_3 rfl rfl rfl rfl ?_
  exact zw_weak2 (h hA) ⟨rfl, rfl, rfl, rfl, trivial⟩
set_option maxHeartbeats 4000000 in
set_option maxRecDepth 100000 in
theorem vd_X3_nextName_4 (x1 : Int) (r_x1 : jW x1) (x2 : Int) (r_x2 : jW x2) (x3 : Int) (r_x3 : jW x3) (E : jE) (hE : ∀ k, k < 3 → jim (E.2.1 k)) (A : jA) (K : Int → jA → Prop) (h : (0 ≤ x1 ∧ x1 < 60) ∧ (((A 41 x1) ≤ x3 → K x2 A) ∧ (x3 < (A 41 x1) → (0 ≤ ((x1 * 3) + x3) ∧ ((x1 * 3) + x3) < 180) ∧ (0 ≤ (A 42 ((x1 * 3) + x3)) ∧ (A 42 ((x1 * 3) + x3)) < 3) ∧ (0 ≤ ((x1 * 3) + x3) ∧ ((x1 * 3) + x3) < 180) ∧ (0 ≤ x3 ∧ x3 < 3) ∧ jrI 44 0 [some (.ref (E.2.1 (A 42 ((x1 * 3) + x3)).toNat)), some (.int (jI (A 43 ((x1 * 3) + x3)))), none, none] [] E A (fun v8 A6 => ((v8 ≤ (A 46 x3) → jrI 80 99 [some (.ref 38), some (.int (jI x1)), some (.int (jI x2)), some (.int (jI x3)), none, none, none] [] E A6 K) ∧ ((A 46 x3) < v8 → jrI 25 0 [some (.ref (E.2.1 (A 42 ((x1 * 3) + x3)).toNat)), some (.int (jI (A 43 ((x1 * 3) + x3))))] [] E A6 (fun v12 A10 => (0 ≤ x3 ∧ x3 < 3) ∧ jrI 51 0 [some (.ref (E.2.1 (A 42 ((x1 * 3) + x3)).toNat)), some (.int (jI (v12 + (4 * (A10 46 x3)))))] [] E A10 (fun v17 A15 => ((x2 = (0 : Int) → jrI 80 92 [some (.ref 38), some (.int (jI x1)), none, some (.int (jI x3)), none, none, some (.int (jI v17))] [] E A15 K) ∧ (¬ x2 = (0 : Int) → ((x2 ≤ v17 → jrI 80 98 [some (.ref 38), some (.int (jI x1)), none, some (.int (jI x3)), none, none, none] [.int (jI x2)] E A15 K) ∧ (v17 < x2 → jrI 80 92 [some (.ref 38), some (.int (jI x1)), none, some (.int (jI x3)), none, none, some (.int (jI v17))] [] E A15 K)))))))))))) : jrI 80 4 [some (.ref 38), some (.int (jI x1)), some (.int (jI x2)), some (.int (jI x3)), none, none, none] [] E A K := by
  intro hA
  refine zw_go (pc1 := 5) (L1 := [some (.ref 38), some (.int (jI x1)), some (.int (jI x2)), some (.int (jI x3)), none, none, none]) (st1 := [.int (jI x3)]) (σ1 := js E A) zM_X3_nextName dX3_nextName_4 rfl rfl rfl rfl ?_
  refine zw_go (pc1 := 6) (L1 := [some (.ref 38), some (.int (jI x1)), some (.int (jI x2)), some (.int (jI x3)), none, none, none]) (st1 := [.ref 38, .int (jI x3)]) (σ1 := js E A) zM_X3_nextName dX3_nextName_5 rfl rfl rfl rfl ?_
  refine jw_getR (a := 41) zM_X3_nextName dX3_nextName_6 zF_3_21 rfl rfl rfl ?_
  refine zw_go (pc1 := 10) (L1 := [some (.ref 38), some (.int (jI x1)), some (.int (jI x2)), some (.int (jI x3)), none, none, none]) (st1 := [.int (jI x1), .ref 41, .int (jI x3)]) (σ1 := js E A) zM_X3_nextName dX3_nextName_9 rfl rfl rfl rfl ?_
  obtain ⟨hi1, h⟩ := h
  refine jw_iald zM_X3_nextName dX3_nextName_10 rfl rfl hi1 ?_
  refine jw_icmp_ge (tgt := 105) zM_X3_nextName dX3_nextName_11 rfl r_x3 (hA 41 x1) (fun q => ?_) (fun q => ?_)
  · replace h := h.1 q
    refine zw_go (pc1 := 106) (L1 := [some (.ref 38), some (.int (jI x1)), some (.int (jI x2)), some (.int (jI x3)), none, none, none]) (st1 := [.int (jI x2)]) (σ1 := js E A) zM_X3_nextName dX3_nextName_105 rfl rfl rfl rfl ?_
    exact jw_reti zM_X3_nextName dX3_nextName_106 rfl r_x2 hA h
  · replace h := h.2 q
    refine zw_go (pc1 := 15) (L1 := [some (.ref 38), some (.int (jI x1)), some (.int (jI x2)), some (.int (jI x3)), none, none, none]) (st1 := [.ref 38]) (σ1 := js E A) zM_X3_nextName dX3_nextName_14 rfl rfl rfl rfl ?_
    refine jw_getR (a := 40) zM_X3_nextName dX3_nextName_15 zF_3_17 rfl rfl rfl ?_
    refine zw_go (pc1 := 19) (L1 := [some (.ref 38), some (.int (jI x1)), some (.int (jI x2)), some (.int (jI x3)), none, none, none]) (st1 := [.ref 38, .ref 40]) (σ1 := js E A) zM_X3_nextName dX3_nextName_18 rfl rfl rfl rfl ?_
    refine jw_getR (a := 42) zM_X3_nextName dX3_nextName_19 zF_3_24 rfl rfl rfl ?_
    refine zw_go (pc1 := 23) (L1 := [some (.ref 38), some (.int (jI x1)), some (.int (jI x2)), some (.int (jI x3)), none, none, none]) (st1 := [.int (jI x1), .ref 42, .ref 40]) (σ1 := js E A) zM_X3_nextName dX3_nextName_22 rfl rfl rfl rfl ?_
    refine jw_iconst (v := 3) zM_X3_nextName dX3_nextName_23 rfl ?_
    refine jw_mul zM_X3_nextName dX3_nextName_24 ?_
    refine zw_go (pc1 := 26) (L1 := [some (.ref 38), some (.int (jI x1)), some (.int (jI x2)), some (.int (jI x3)), none, none, none]) (st1 := [.int (jI x3), .int (jI (x1 * 3)), .ref 42, .ref 40]) (σ1 := js E A) zM_X3_nextName dX3_nextName_25 rfl rfl rfl rfl ?_
    refine jw_add zM_X3_nextName dX3_nextName_26 ?_
    obtain ⟨hi2, h⟩ := h
    refine jw_iald zM_X3_nextName dX3_nextName_27 rfl rfl hi2 ?_
    obtain ⟨hi3, h⟩ := h
    refine jw_aaldL zM_X3_nextName dX3_nextName_28 hi3 ?_
    refine zw_go (pc1 := 31) (L1 := [some (.ref 38), some (.int (jI x1)), some (.int (jI x2)), some (.int (jI x3)), some (.ref (E.2.1 (A 42 ((x1 * 3) + x3)).toNat)), none, none]) (st1 := []) (σ1 := js E A) zM_X3_nextName dX3_nextName_29 rfl rfl rfl rfl ?_
    refine zw_go (pc1 := 32) (L1 := [some (.ref 38), some (.int (jI x1)), some (.int (jI x2)), some (.int (jI x3)), some (.ref (E.2.1 (A 42 ((x1 * 3) + x3)).toNat)), none, none]) (st1 := [.ref 38]) (σ1 := js E A) zM_X3_nextName dX3_nextName_31 rfl rfl rfl rfl ?_
    refine jw_getR (a := 43) zM_X3_nextName dX3_nextName_32 zF_3_27 rfl rfl rfl ?_
    refine zw_go (pc1 := 36) (L1 := [some (.ref 38), some (.int (jI x1)), some (.int (jI x2)), some (.int (jI x3)), some (.ref (E.2.1 (A 42 ((x1 * 3) + x3)).toNat)), none, none]) (st1 := [.int (jI x1), .ref 43]) (σ1 := js E A) zM_X3_nextName dX3_nextName_35 rfl rfl rfl rfl ?_
    refine jw_iconst (v := 3) zM_X3_nextName dX3_nextName_36 rfl ?_
    refine jw_mul zM_X3_nextName dX3_nextName_37 ?_
    refine zw_go (pc1 := 39) (L1 := [some (.ref 38), some (.int (jI x1)), some (.int (jI x2)), some (.int (jI x3)), some (.ref (E.2.1 (A 42 ((x1 * 3) + x3)).toNat)), none, none]) (st1 := [.int (jI x3), .int (jI (x1 * 3)), .ref 43]) (σ1 := js E A) zM_X3_nextName dX3_nextName_38 rfl rfl rfl rfl ?_
    refine jw_add zM_X3_nextName dX3_nextName_39 ?_
    obtain ⟨hi4, h⟩ := h
    refine jw_iald zM_X3_nextName dX3_nextName_40 rfl rfl hi4 ?_
    refine zw_go (pc1 := 43) (L1 := [some (.ref 38), some (.int (jI x1)), some (.int (jI x2)), some (.int (jI x3)), some (.ref (E.2.1 (A 42 ((x1 * 3) + x3)).toNat)), some (.int (jI (A 43 ((x1 * 3) + x3)))), none]) (st1 := []) (σ1 := js E A) zM_X3_nextName dX3_nextName_41 rfl rfl rfl rfl ?_
    refine zw_go (pc1 := 44) (L1 := [some (.ref 38), some (.int (jI x1)), some (.int (jI x2)), some (.int (jI x3)), some (.ref (E.2.1 (A 42 ((x1 * 3) + x3)).toNat)), some (.int (jI (A 43 ((x1 * 3) + x3)))), none]) (st1 := [.ref 38]) (σ1 := js E A) zM_X3_nextName dX3_nextName_43 rfl rfl rfl rfl ?_
    refine jw_getR (a := 46) zM_X3_nextName dX3_nextName_44 zF_3_36 rfl rfl rfl ?_
    refine zw_go (pc1 := 48) (L1 := [some (.ref 38), some (.int (jI x1)), some (.int (jI x2)), some (.int (jI x3)), some (.ref (E.2.1 (A 42 ((x1 * 3) + x3)).toNat)), some (.int (jI (A 43 ((x1 * 3) + x3)))), none]) (st1 := [.int (jI x3), .ref 46]) (σ1 := js E A) zM_X3_nextName dX3_nextName_47 rfl rfl rfl rfl ?_
    obtain ⟨hi5, h⟩ := h
    refine jw_iald zM_X3_nextName dX3_nextName_48 rfl rfl hi5 ?_
    refine zw_go (pc1 := 51) (L1 := [some (.ref 38), some (.int (jI x1)), some (.int (jI x2)), some (.int (jI x3)), some (.ref (E.2.1 (A 42 ((x1 * 3) + x3)).toNat)), some (.int (jI (A 43 ((x1 * 3) + x3)))), none]) (st1 := [.ref (E.2.1 (A 42 ((x1 * 3) + x3)).toNat), .int (jI (A 46 x3))]) (σ1 := js E A) zM_X3_nextName dX3_nextName_49 rfl rfl rfl rfl ?_
    refine zw_go (pc1 := 53) (L1 := [some (.ref 38), some (.int (jI x1)), some (.int (jI x2)), some (.int (jI x3)), some (.ref (E.2.1 (A 42 ((x1 * 3) + x3)).toNat)), some (.int (jI (A 43 ((x1 * 3) + x3)))), none]) (st1 := [.int (jI (A 43 ((x1 * 3) + x3))), .ref (E.2.1 (A 42 ((x1 * 3) + x3)).toNat), .int (jI (A 46 x3))]) (σ1 := js E A) zM_X3_nextName dX3_nextName_51 rfl rfl rfl rfl ?_
    refine jw_callI (as := [.ref (E.2.1 (A 42 ((x1 * 3) + x3)).toNat), .int (jI (A 43 ((x1 * 3) + x3)))]) (rest := [.int (jI (A 46 x3))]) zM_X3_nextName dX3_nextName_53 (zx_calV zC_3_70) zM_X1_sizeOf rfl rfl rfl rfl rfl (j_args0 (jim.K (hE _ (by have := hi3; omega))) rfl) rfl hA h (fun v8 A6 rv9 hA7 h => ?_)
    refine jw_icmp_ge (tgt := 99) zM_X3_nextName dX3_nextName_56 rfl (hA 46 x3) rv9 (fun q => ?_) (fun q => ?_)
    · replace h := h.1 q
      exact zw_weak2 (h hA7) ⟨rfl, rfl, rfl, rfl, trivial⟩
    · replace h := h.2 q
      refine zw_go (pc1 := 61) (L1 := [some (.ref 38), some (.int (jI x1)), some (.int (jI x2)), some (.int (jI x3)), some (.ref (E.2.1 (A 42 ((x1 * 3) + x3)).toNat)), some (.int (jI (A 43 ((x1 * 3) + x3)))), none]) (st1 := [.ref (E.2.1 (A 42 ((x1 * 3) + x3)).toNat)]) (σ1 := js E A6) zM_X3_nextName dX3_nextName_59 rfl rfl rfl rfl ?_
      refine zw_go (pc1 := 63) (L1 := [some (.ref 38), some (.int (jI x1)), some (.int (jI x2)), some (.int (jI x3)), some (.ref (E.2.1 (A 42 ((x1 * 3) + x3)).toNat)), some (.int (jI (A 43 ((x1 * 3) + x3)))), none]) (st1 := [.ref (E.2.1 (A 42 ((x1 * 3) + x3)).toNat), .ref (E.2.1 (A 42 ((x1 * 3) + x3)).toNat)]) (σ1 := js E A6) zM_X3_nextName dX3_nextName_61 rfl rfl rfl rfl ?_
      refine zw_go (pc1 := 65) (L1 := [some (.ref 38), some (.int (jI x1)), some (.int (jI x2)), some (.int (jI x3)), some (.ref (E.2.1 (A 42 ((x1 * 3) + x3)).toNat)), some (.int (jI (A 43 ((x1 * 3) + x3)))), none]) (st1 := [.int (jI (A 43 ((x1 * 3) + x3))), .ref (E.2.1 (A 42 ((x1 * 3) + x3)).toNat), .ref (E.2.1 (A 42 ((x1 * 3) + x3)).toNat)]) (σ1 := js E A6) zM_X3_nextName dX3_nextName_63 rfl rfl rfl rfl ?_
      refine jw_callI (as := [.ref (E.2.1 (A 42 ((x1 * 3) + x3)).toNat), .int (jI (A 43 ((x1 * 3) + x3)))]) (rest := [.ref (E.2.1 (A 42 ((x1 * 3) + x3)).toNat)]) zM_X3_nextName dX3_nextName_65 (zx_calV zC_3_111) zM_X1_firstNamePlace rfl rfl rfl rfl rfl (j_args0 (jim.K (hE _ (by have := hi3; omega))) rfl) rfl hA7 h (fun v12 A10 rv13 hA11 h => ?_)
      refine jw_iconst (v := 4) zM_X3_nextName dX3_nextName_68 rfl ?_
      refine zw_go (pc1 := 70) (L1 := [some (.ref 38), some (.int (jI x1)), some (.int (jI x2)), some (.int (jI x3)), some (.ref (E.2.1 (A 42 ((x1 * 3) + x3)).toNat)), some (.int (jI (A 43 ((x1 * 3) + x3)))), none]) (st1 := [.ref 38, .int (jI 4), .int (jI v12), .ref (E.2.1 (A 42 ((x1 * 3) + x3)).toNat)]) (σ1 := js E A10) zM_X3_nextName dX3_nextName_69 rfl rfl rfl rfl ?_
      refine jw_getR (a := 46) zM_X3_nextName dX3_nextName_70 zF_3_36 rfl rfl rfl ?_
      refine zw_go (pc1 := 74) (L1 := [some (.ref 38), some (.int (jI x1)), some (.int (jI x2)), some (.int (jI x3)), some (.ref (E.2.1 (A 42 ((x1 * 3) + x3)).toNat)), some (.int (jI (A 43 ((x1 * 3) + x3)))), none]) (st1 := [.int (jI x3), .ref 46, .int (jI 4), .int (jI v12), .ref (E.2.1 (A 42 ((x1 * 3) + x3)).toNat)]) (σ1 := js E A10) zM_X3_nextName dX3_nextName_73 rfl rfl rfl rfl ?_
      obtain ⟨hi14, h⟩ := h
      refine jw_iald zM_X3_nextName dX3_nextName_74 rfl rfl hi14 ?_
      refine jw_mul zM_X3_nextName dX3_nextName_75 ?_
      refine jw_add zM_X3_nextName dX3_nextName_76 ?_
      refine jw_callI (as := [.ref (E.2.1 (A 42 ((x1 * 3) + x3)).toNat), .int (jI (v12 + (4 * (A10 46 x3))))]) (rest := []) zM_X3_nextName dX3_nextName_77 (zx_calV zC_3_114) zM_X1_wordAt rfl rfl rfl rfl rfl (j_args0 (jim.K (hE _ (by have := hi3; omega))) rfl) rfl hA11 h (fun v17 A15 rv18 hA16 h => ?_)
      refine zw_go (pc1 := 82) (L1 := [some (.ref 38), some (.int (jI x1)), some (.int (jI x2)), some (.int (jI x3)), some (.ref (E.2.1 (A 42 ((x1 * 3) + x3)).toNat)), some (.int (jI (A 43 ((x1 * 3) + x3)))), some (.int (jI v17))]) (st1 := []) (σ1 := js E A15) zM_X3_nextName dX3_nextName_80 rfl rfl rfl rfl ?_
      refine zw_go (pc1 := 83) (L1 := [some (.ref 38), some (.int (jI x1)), some (.int (jI x2)), some (.int (jI x3)), some (.ref (E.2.1 (A 42 ((x1 * 3) + x3)).toNat)), some (.int (jI (A 43 ((x1 * 3) + x3)))), some (.int (jI v17))]) (st1 := [.int (jI x2)]) (σ1 := js E A15) zM_X3_nextName dX3_nextName_82 rfl rfl rfl rfl ?_
      refine jw_if_eq (tgt := 92) zM_X3_nextName dX3_nextName_83 rfl r_x2 (fun q => ?_) (fun q => ?_)
      · replace h := h.1 q
        exact zw_weak2 (h hA16) ⟨rfl, rfl, rfl, rfl, trivial⟩
      · replace h := h.2 q
        refine zw_go (pc1 := 88) (L1 := [some (.ref 38), some (.int (jI x1)), some (.int (jI x2)), some (.int (jI x3)), some (.ref (E.2.1 (A 42 ((x1 * 3) + x3)).toNat)), some (.int (jI (A 43 ((x1 * 3) + x3)))), some (.int (jI v17))]) (st1 := [.int (jI v17)]) (σ1 := js E A15) zM_X3_nextName dX3_nextName_86 rfl rfl rfl rfl ?_
        refine zw_go (pc1 := 89) (L1 := [some (.ref 38), some (.int (jI x1)), some (.int (jI x2)), some (.int (jI x3)), some (.ref (E.2.1 (A 42 ((x1 * 3) + x3)).toNat)), some (.int (jI (A 43 ((x1 * 3) + x3)))), some (.int (jI v17))]) (st1 := [.int (jI x2), .int (jI v17)]) (σ1 := js E A15) zM_X3_nextName dX3_nextName_88 rfl rfl rfl rfl ?_
        refine jw_icmp_ge (tgt := 97) zM_X3_nextName dX3_nextName_89 rfl rv18 r_x2 (fun q => ?_) (fun q => ?_)
        · replace h := h.1 q
          refine zw_go (pc1 := 98) (L1 := [some (.ref 38), some (.int (jI x1)), some (.int (jI x2)), some (.int (jI x3)), some (.ref (E.2.1 (A 42 ((x1 * 3) + x3)).toNat)), some (.int (jI (A 43 ((x1 * 3) + x3)))), some (.int (jI v17))]) (st1 := [.int (jI x2)]) (σ1 := js E A15) zM_X3_nextName dX3_nextName_97 rfl rfl rfl rfl ?_
          exact zw_weak2 (h hA16) ⟨rfl, rfl, rfl, trivial⟩
        · replace h := h.2 q
          exact zw_weak2 (h hA16) ⟨rfl, rfl, rfl, rfl, trivial⟩
set_option maxHeartbeats 4000000 in
set_option maxRecDepth 100000 in
theorem vd_X3_nextName_92 (x1 : Int) (r_x1 : jW x1) (x3 : Int) (r_x3 : jW x3) (x6 : Int) (r_x6 : jW x6) (E : jE) (A : jA) (K : Int → jA → Prop) (h : jrI 80 98 [some (.ref 38), some (.int (jI x1)), none, some (.int (jI x3)), none, none, none] [.int (jI x6)] E A K) : jrI 80 92 [some (.ref 38), some (.int (jI x1)), none, some (.int (jI x3)), none, none, some (.int (jI x6))] [] E A K := by
  intro hA
  refine zw_go (pc1 := 94) (L1 := [some (.ref 38), some (.int (jI x1)), none, some (.int (jI x3)), none, none, some (.int (jI x6))]) (st1 := [.int (jI x6)]) (σ1 := js E A) zM_X3_nextName dX3_nextName_92 rfl rfl rfl rfl ?_
  refine zw_goto (tgt := 98) zM_X3_nextName dX3_nextName_94 rfl ?_
  exact zw_weak2 (h hA) ⟨rfl, rfl, rfl, trivial⟩
set_option maxHeartbeats 4000000 in
set_option maxRecDepth 100000 in
theorem vd_X3_nextName_98 (x1 : Int) (r_x1 : jW x1) (x3 : Int) (r_x3 : jW x3) (y0 : Int) (r_y0 : jW y0) (E : jE) (A : jA) (K : Int → jA → Prop) (h : jrI 80 99 [some (.ref 38), some (.int (jI x1)), some (.int (jI y0)), some (.int (jI x3)), none, none, none] [] E A K) : jrI 80 98 [some (.ref 38), some (.int (jI x1)), none, some (.int (jI x3)), none, none, none] [.int (jI y0)] E A K := by
  intro hA
  refine zw_go (pc1 := 99) (L1 := [some (.ref 38), some (.int (jI x1)), some (.int (jI y0)), some (.int (jI x3)), none, none, none]) (st1 := []) (σ1 := js E A) zM_X3_nextName dX3_nextName_98 rfl rfl rfl rfl ?_
  exact zw_weak2 (h hA) ⟨rfl, rfl, rfl, rfl, trivial⟩
set_option maxHeartbeats 4000000 in
set_option maxRecDepth 100000 in
theorem vd_X3_nextName_99 (x1 : Int) (r_x1 : jW x1) (x2 : Int) (r_x2 : jW x2) (x3 : Int) (r_x3 : jW x3) (E : jE) (A : jA) (K : Int → jA → Prop) (h : jrI 80 4 [some (.ref 38), some (.int (jI x1)), some (.int (jI x2)), some (.int (jI (x3 + 1))), none, none, none] [] E A K) : jrI 80 99 [some (.ref 38), some (.int (jI x1)), some (.int (jI x2)), some (.int (jI x3)), none, none, none] [] E A K := by
  intro hA
  refine jw_iinc (x := x3) (L1 := [some (.ref 38), some (.int (jI x1)), some (.int (jI x2)), some (.int (jI (x3 + 1))), none, none, none]) zM_X3_nextName dX3_nextName_99 rfl (show 3 < 7 by decide) rfl ?_
  refine zw_goto (tgt := 4) zM_X3_nextName dX3_nextName_102 rfl ?_
  exact zw_weak2 (h hA) ⟨rfl, rfl, rfl, rfl, trivial⟩
set_option maxHeartbeats 4000000 in
set_option maxRecDepth 100000 in
theorem vd_X3_numberOf_0 (x1 : Int) (r_x1 : jW x1) (E : jE) (A : jA) (K : Int → jA → Prop) (h : (0 ≤ (x1 * 3) ∧ (x1 * 3) < 180) ∧ K (A 43 (x1 * 3)) A) : jrI 81 0 [some (.ref 38), some (.int (jI x1))] [] E A K := by
  intro hA
  refine zw_go (pc1 := 1) (L1 := [some (.ref 38), some (.int (jI x1))]) (st1 := [.ref 38]) (σ1 := js E A) zM_X3_numberOf dX3_numberOf_0 rfl rfl rfl rfl ?_
  refine jw_getR (a := 43) zM_X3_numberOf dX3_numberOf_1 zF_3_27 rfl rfl rfl ?_
  refine zw_go (pc1 := 5) (L1 := [some (.ref 38), some (.int (jI x1))]) (st1 := [.int (jI x1), .ref 43]) (σ1 := js E A) zM_X3_numberOf dX3_numberOf_4 rfl rfl rfl rfl ?_
  refine jw_iconst (v := 3) zM_X3_numberOf dX3_numberOf_5 rfl ?_
  refine jw_mul zM_X3_numberOf dX3_numberOf_6 ?_
  obtain ⟨hi1, h⟩ := h
  refine jw_iald zM_X3_numberOf dX3_numberOf_7 rfl rfl hi1 ?_
  exact jw_reti zM_X3_numberOf dX3_numberOf_8 rfl (hA 43 (x1 * 3)) hA h
set_option maxHeartbeats 4000000 in
set_option maxRecDepth 100000 in
theorem vd_X3_ownerOf_0 (x1 : Int) (r_x1 : jW x1) (E : jE) (A : jA) (K : Int → jA → Prop) (h : jrR 87 0 [some (.ref 38), some (.int (jI x1))] [] E A (fun b3 A1 => jim b3 ∧ jrI 81 0 [some (.ref 38), some (.int (jI x1))] [] E A1 (fun v7 A5 => jrI 36 0 [some (.ref b3), some (.int (jI v7))] [] E A5 (fun v11 A9 => K v11 A9)))) : jrI 82 0 [some (.ref 38), some (.int (jI x1))] [] E A K := by
  intro hA
  refine zw_go (pc1 := 1) (L1 := [some (.ref 38), some (.int (jI x1))]) (st1 := [.ref 38]) (σ1 := js E A) zM_X3_ownerOf dX3_ownerOf_0 rfl rfl rfl rfl ?_
  refine zw_go (pc1 := 2) (L1 := [some (.ref 38), some (.int (jI x1))]) (st1 := [.int (jI x1), .ref 38]) (σ1 := js E A) zM_X3_ownerOf dX3_ownerOf_1 rfl rfl rfl rfl ?_
  refine jw_callR (as := [.ref 38, .int (jI x1)]) (rest := []) zM_X3_ownerOf dX3_ownerOf_2 (zx_calV zC_3_52) zM_X3_upperImage rfl rfl rfl rfl rfl (j_args0 rfl rfl) rfl hA h (fun b3 A1 hA2 h => ?_)
  obtain ⟨hj4, h⟩ := h
  refine zw_go (pc1 := 6) (L1 := [some (.ref 38), some (.int (jI x1))]) (st1 := [.ref 38, .ref b3]) (σ1 := js E A1) zM_X3_ownerOf dX3_ownerOf_5 rfl rfl rfl rfl ?_
  refine zw_go (pc1 := 7) (L1 := [some (.ref 38), some (.int (jI x1))]) (st1 := [.int (jI x1), .ref 38, .ref b3]) (σ1 := js E A1) zM_X3_ownerOf dX3_ownerOf_6 rfl rfl rfl rfl ?_
  refine jw_callI (as := [.ref 38, .int (jI x1)]) (rest := [.ref b3]) zM_X3_ownerOf dX3_ownerOf_7 (zx_calV zC_3_56) zM_X3_numberOf rfl rfl rfl rfl rfl (j_args0 rfl rfl) rfl hA2 h (fun v7 A5 rv8 hA6 h => ?_)
  refine jw_callI (as := [.ref b3, .int (jI v7)]) (rest := []) zM_X3_ownerOf dX3_ownerOf_10 (zx_calV zC_3_66) zM_X1_ownerOf rfl rfl rfl rfl rfl (j_args0 (jim.K hj4) rfl) rfl hA6 h (fun v11 A9 rv12 hA10 h => ?_)
  exact jw_reti zM_X3_ownerOf dX3_ownerOf_13 rfl rv12 hA10 h
set_option maxHeartbeats 4000000 in
set_option maxRecDepth 100000 in
theorem vd_X3_passName_0 (x1 : Int) (r_x1 : jW x1) (x2 : Int) (r_x2 : jW x2) (E : jE) (A : jA) (K : Int → jA → Prop) (h : jrI 83 5 [some (.ref 38), some (.int (jI x1)), some (.int (jI x2)), some (.int (jI 0)), some (.int (jI 0)), none, none, none] [] E A K) : jrI 83 0 [some (.ref 38), some (.int (jI x1)), some (.int (jI x2)), none, none, none, none, none] [] E A K := by
  intro hA
  refine jw_iconst (v := 0) zM_X3_passName dX3_passName_0 rfl ?_
  refine zw_go (pc1 := 2) (L1 := [some (.ref 38), some (.int (jI x1)), some (.int (jI x2)), some (.int (jI 0)), none, none, none, none]) (st1 := []) (σ1 := js E A) zM_X3_passName dX3_passName_1 rfl rfl rfl rfl ?_
  refine jw_iconst (v := 0) zM_X3_passName dX3_passName_2 rfl ?_
  refine zw_go (pc1 := 5) (L1 := [some (.ref 38), some (.int (jI x1)), some (.int (jI x2)), some (.int (jI 0)), some (.int (jI 0)), none, none, none]) (st1 := []) (σ1 := js E A) zM_X3_passName dX3_passName_3 rfl rfl rfl rfl ?_
  exact zw_weak2 (h hA) ⟨rfl, rfl, rfl, rfl, rfl, trivial⟩
set_option maxHeartbeats 4000000 in
set_option maxRecDepth 100000 in
theorem vd_X3_passName_5 (x1 : Int) (r_x1 : jW x1) (x2 : Int) (r_x2 : jW x2) (x3 : Int) (r_x3 : jW x3) (x4 : Int) (r_x4 : jW x4) (E : jE) (hE : ∀ k, k < 3 → jim (E.2.1 k)) (A : jA) (K : Int → jA → Prop) (h : (0 ≤ x1 ∧ x1 < 60) ∧ (((A 41 x1) ≤ x4 → K x3 A) ∧ (x4 < (A 41 x1) → (0 ≤ ((x1 * 3) + x4) ∧ ((x1 * 3) + x4) < 180) ∧ (0 ≤ (A 42 ((x1 * 3) + x4)) ∧ (A 42 ((x1 * 3) + x4)) < 3) ∧ (0 ≤ ((x1 * 3) + x4) ∧ ((x1 * 3) + x4) < 180) ∧ jrI 25 0 [some (.ref (E.2.1 (A 42 ((x1 * 3) + x4)).toNat)), some (.int (jI (A 43 ((x1 * 3) + x4))))] [] E A (fun v7 A5 => (0 ≤ x4 ∧ x4 < 3) ∧ (0 ≤ x4 ∧ x4 < 3) ∧ jrI 44 0 [some (.ref (E.2.1 (A 42 ((x1 * 3) + x4)).toNat)), some (.int (jI (A 43 ((x1 * 3) + x4)))), none, none] [] E A5 (fun v13 A11 => ((v13 ≤ (A5 46 x4) → jrI 83 128 [some (.ref 38), some (.int (jI x1)), some (.int (jI x2)), some (.int (jI x3)), some (.int (jI x4)), none, none, none] [] E A11 K) ∧ ((A5 46 x4) < v13 → jrI 51 0 [some (.ref (E.2.1 (A 42 ((x1 * 3) + x4)).toNat)), some (.int (jI (v7 + (4 * (A5 46 x4)))))] [] E A11 (fun v17 A15 => ((¬ v17 = x2 → jrI 83 128 [some (.ref 38), some (.int (jI x1)), some (.int (jI x2)), some (.int (jI x3)), some (.int (jI x4)), none, none, none] [] E A15 K) ∧ (v17 = x2 → (0 ≤ x4 ∧ x4 < 3) ∧ jW ((A15 46 x4) + 1) ∧ (0 ≤ x4 ∧ x4 < 3) ∧ ∀ A22 : jA, A22 = jup A15 46 x4 ((A15 46 x4) + 1) → ((¬ x3 = (0 : Int) → jrI 83 127 [some (.ref 38), some (.int (jI x1)), some (.int (jI x2)), none, some (.int (jI x4)), none, none, none] [.int (jI x3)] E A22 K) ∧ (x3 = (0 : Int) → jrI 51 0 [some (.ref (E.2.1 (A 42 ((x1 * 3) + x4)).toNat)), some (.int (jI ((v7 + (4 * (A5 46 x4))) + 2)))] [] E A22 (fun v27 A25 => jrI 30 0 [some (.ref (E.2.1 (A 42 ((x1 * 3) + x4)).toNat)), some (.int (jI v27))] [] E A25 (fun v31 A29 => jrI 83 127 [some (.ref 38), some (.int (jI x1)), some (.int (jI x2)), none, some (.int (jI x4)), none, none, none] [.int (jI v31)] E A29 K)))))))))))))) : jrI 83 5 [some (.ref 38), some (.int (jI x1)), some (.int (jI x2)), some (.int (jI x3)), some (.int (jI x4)), none, none, none] [] E A K := by
  intro hA
  refine zw_go (pc1 := 7) (L1 := [some (.ref 38), some (.int (jI x1)), some (.int (jI x2)), some (.int (jI x3)), some (.int (jI x4)), none, none, none]) (st1 := [.int (jI x4)]) (σ1 := js E A) zM_X3_passName dX3_passName_5 rfl rfl rfl rfl ?_
  refine zw_go (pc1 := 8) (L1 := [some (.ref 38), some (.int (jI x1)), some (.int (jI x2)), some (.int (jI x3)), some (.int (jI x4)), none, none, none]) (st1 := [.ref 38, .int (jI x4)]) (σ1 := js E A) zM_X3_passName dX3_passName_7 rfl rfl rfl rfl ?_
  refine jw_getR (a := 41) zM_X3_passName dX3_passName_8 zF_3_21 rfl rfl rfl ?_
  refine zw_go (pc1 := 12) (L1 := [some (.ref 38), some (.int (jI x1)), some (.int (jI x2)), some (.int (jI x3)), some (.int (jI x4)), none, none, none]) (st1 := [.int (jI x1), .ref 41, .int (jI x4)]) (σ1 := js E A) zM_X3_passName dX3_passName_11 rfl rfl rfl rfl ?_
  obtain ⟨hi1, h⟩ := h
  refine jw_iald zM_X3_passName dX3_passName_12 rfl rfl hi1 ?_
  refine jw_icmp_ge (tgt := 134) zM_X3_passName dX3_passName_13 rfl r_x4 (hA 41 x1) (fun q => ?_) (fun q => ?_)
  · replace h := h.1 q
    refine zw_go (pc1 := 135) (L1 := [some (.ref 38), some (.int (jI x1)), some (.int (jI x2)), some (.int (jI x3)), some (.int (jI x4)), none, none, none]) (st1 := [.int (jI x3)]) (σ1 := js E A) zM_X3_passName dX3_passName_134 rfl rfl rfl rfl ?_
    exact jw_reti zM_X3_passName dX3_passName_135 rfl r_x3 hA h
  · replace h := h.2 q
    refine zw_go (pc1 := 17) (L1 := [some (.ref 38), some (.int (jI x1)), some (.int (jI x2)), some (.int (jI x3)), some (.int (jI x4)), none, none, none]) (st1 := [.ref 38]) (σ1 := js E A) zM_X3_passName dX3_passName_16 rfl rfl rfl rfl ?_
    refine jw_getR (a := 40) zM_X3_passName dX3_passName_17 zF_3_17 rfl rfl rfl ?_
    refine zw_go (pc1 := 21) (L1 := [some (.ref 38), some (.int (jI x1)), some (.int (jI x2)), some (.int (jI x3)), some (.int (jI x4)), none, none, none]) (st1 := [.ref 38, .ref 40]) (σ1 := js E A) zM_X3_passName dX3_passName_20 rfl rfl rfl rfl ?_
    refine jw_getR (a := 42) zM_X3_passName dX3_passName_21 zF_3_24 rfl rfl rfl ?_
    refine zw_go (pc1 := 25) (L1 := [some (.ref 38), some (.int (jI x1)), some (.int (jI x2)), some (.int (jI x3)), some (.int (jI x4)), none, none, none]) (st1 := [.int (jI x1), .ref 42, .ref 40]) (σ1 := js E A) zM_X3_passName dX3_passName_24 rfl rfl rfl rfl ?_
    refine jw_iconst (v := 3) zM_X3_passName dX3_passName_25 rfl ?_
    refine jw_mul zM_X3_passName dX3_passName_26 ?_
    refine zw_go (pc1 := 29) (L1 := [some (.ref 38), some (.int (jI x1)), some (.int (jI x2)), some (.int (jI x3)), some (.int (jI x4)), none, none, none]) (st1 := [.int (jI x4), .int (jI (x1 * 3)), .ref 42, .ref 40]) (σ1 := js E A) zM_X3_passName dX3_passName_27 rfl rfl rfl rfl ?_
    refine jw_add zM_X3_passName dX3_passName_29 ?_
    obtain ⟨hi2, h⟩ := h
    refine jw_iald zM_X3_passName dX3_passName_30 rfl rfl hi2 ?_
    obtain ⟨hi3, h⟩ := h
    refine jw_aaldL zM_X3_passName dX3_passName_31 hi3 ?_
    refine zw_go (pc1 := 34) (L1 := [some (.ref 38), some (.int (jI x1)), some (.int (jI x2)), some (.int (jI x3)), some (.int (jI x4)), some (.ref (E.2.1 (A 42 ((x1 * 3) + x4)).toNat)), none, none]) (st1 := []) (σ1 := js E A) zM_X3_passName dX3_passName_32 rfl rfl rfl rfl ?_
    refine zw_go (pc1 := 35) (L1 := [some (.ref 38), some (.int (jI x1)), some (.int (jI x2)), some (.int (jI x3)), some (.int (jI x4)), some (.ref (E.2.1 (A 42 ((x1 * 3) + x4)).toNat)), none, none]) (st1 := [.ref 38]) (σ1 := js E A) zM_X3_passName dX3_passName_34 rfl rfl rfl rfl ?_
    refine jw_getR (a := 43) zM_X3_passName dX3_passName_35 zF_3_27 rfl rfl rfl ?_
    refine zw_go (pc1 := 39) (L1 := [some (.ref 38), some (.int (jI x1)), some (.int (jI x2)), some (.int (jI x3)), some (.int (jI x4)), some (.ref (E.2.1 (A 42 ((x1 * 3) + x4)).toNat)), none, none]) (st1 := [.int (jI x1), .ref 43]) (σ1 := js E A) zM_X3_passName dX3_passName_38 rfl rfl rfl rfl ?_
    refine jw_iconst (v := 3) zM_X3_passName dX3_passName_39 rfl ?_
    refine jw_mul zM_X3_passName dX3_passName_40 ?_
    refine zw_go (pc1 := 43) (L1 := [some (.ref 38), some (.int (jI x1)), some (.int (jI x2)), some (.int (jI x3)), some (.int (jI x4)), some (.ref (E.2.1 (A 42 ((x1 * 3) + x4)).toNat)), none, none]) (st1 := [.int (jI x4), .int (jI (x1 * 3)), .ref 43]) (σ1 := js E A) zM_X3_passName dX3_passName_41 rfl rfl rfl rfl ?_
    refine jw_add zM_X3_passName dX3_passName_43 ?_
    obtain ⟨hi4, h⟩ := h
    refine jw_iald zM_X3_passName dX3_passName_44 rfl rfl hi4 ?_
    refine zw_go (pc1 := 47) (L1 := [some (.ref 38), some (.int (jI x1)), some (.int (jI x2)), some (.int (jI x3)), some (.int (jI x4)), some (.ref (E.2.1 (A 42 ((x1 * 3) + x4)).toNat)), some (.int (jI (A 43 ((x1 * 3) + x4)))), none]) (st1 := []) (σ1 := js E A) zM_X3_passName dX3_passName_45 rfl rfl rfl rfl ?_
    refine zw_go (pc1 := 49) (L1 := [some (.ref 38), some (.int (jI x1)), some (.int (jI x2)), some (.int (jI x3)), some (.int (jI x4)), some (.ref (E.2.1 (A 42 ((x1 * 3) + x4)).toNat)), some (.int (jI (A 43 ((x1 * 3) + x4)))), none]) (st1 := [.ref (E.2.1 (A 42 ((x1 * 3) + x4)).toNat)]) (σ1 := js E A) zM_X3_passName dX3_passName_47 rfl rfl rfl rfl ?_
    refine zw_go (pc1 := 51) (L1 := [some (.ref 38), some (.int (jI x1)), some (.int (jI x2)), some (.int (jI x3)), some (.int (jI x4)), some (.ref (E.2.1 (A 42 ((x1 * 3) + x4)).toNat)), some (.int (jI (A 43 ((x1 * 3) + x4)))), none]) (st1 := [.int (jI (A 43 ((x1 * 3) + x4))), .ref (E.2.1 (A 42 ((x1 * 3) + x4)).toNat)]) (σ1 := js E A) zM_X3_passName dX3_passName_49 rfl rfl rfl rfl ?_
    refine jw_callI (as := [.ref (E.2.1 (A 42 ((x1 * 3) + x4)).toNat), .int (jI (A 43 ((x1 * 3) + x4)))]) (rest := []) zM_X3_passName dX3_passName_51 (zx_calV zC_3_111) zM_X1_firstNamePlace rfl rfl rfl rfl rfl (j_args0 (jim.K (hE _ (by have := hi3; omega))) rfl) rfl hA h (fun v7 A5 rv8 hA6 h => ?_)
    refine jw_iconst (v := 4) zM_X3_passName dX3_passName_54 rfl ?_
    refine zw_go (pc1 := 56) (L1 := [some (.ref 38), some (.int (jI x1)), some (.int (jI x2)), some (.int (jI x3)), some (.int (jI x4)), some (.ref (E.2.1 (A 42 ((x1 * 3) + x4)).toNat)), some (.int (jI (A 43 ((x1 * 3) + x4)))), none]) (st1 := [.ref 38, .int (jI 4), .int (jI v7)]) (σ1 := js E A5) zM_X3_passName dX3_passName_55 rfl rfl rfl rfl ?_
    refine jw_getR (a := 46) zM_X3_passName dX3_passName_56 zF_3_36 rfl rfl rfl ?_
    refine zw_go (pc1 := 61) (L1 := [some (.ref 38), some (.int (jI x1)), some (.int (jI x2)), some (.int (jI x3)), some (.int (jI x4)), some (.ref (E.2.1 (A 42 ((x1 * 3) + x4)).toNat)), some (.int (jI (A 43 ((x1 * 3) + x4)))), none]) (st1 := [.int (jI x4), .ref 46, .int (jI 4), .int (jI v7)]) (σ1 := js E A5) zM_X3_passName dX3_passName_59 rfl rfl rfl rfl ?_
    obtain ⟨hi9, h⟩ := h
    refine jw_iald zM_X3_passName dX3_passName_61 rfl rfl hi9 ?_
    refine jw_mul zM_X3_passName dX3_passName_62 ?_
    refine jw_add zM_X3_passName dX3_passName_63 ?_
    refine zw_go (pc1 := 66) (L1 := [some (.ref 38), some (.int (jI x1)), some (.int (jI x2)), some (.int (jI x3)), some (.int (jI x4)), some (.ref (E.2.1 (A 42 ((x1 * 3) + x4)).toNat)), some (.int (jI (A 43 ((x1 * 3) + x4)))), some (.int (jI (v7 + (4 * (A5 46 x4)))))]) (st1 := []) (σ1 := js E A5) zM_X3_passName dX3_passName_64 rfl rfl rfl rfl ?_
    refine zw_go (pc1 := 67) (L1 := [some (.ref 38), some (.int (jI x1)), some (.int (jI x2)), some (.int (jI x3)), some (.int (jI x4)), some (.ref (E.2.1 (A 42 ((x1 * 3) + x4)).toNat)), some (.int (jI (A 43 ((x1 * 3) + x4)))), some (.int (jI (v7 + (4 * (A5 46 x4)))))]) (st1 := [.ref 38]) (σ1 := js E A5) zM_X3_passName dX3_passName_66 rfl rfl rfl rfl ?_
    refine jw_getR (a := 46) zM_X3_passName dX3_passName_67 zF_3_36 rfl rfl rfl ?_
    refine zw_go (pc1 := 72) (L1 := [some (.ref 38), some (.int (jI x1)), some (.int (jI x2)), some (.int (jI x3)), some (.int (jI x4)), some (.ref (E.2.1 (A 42 ((x1 * 3) + x4)).toNat)), some (.int (jI (A 43 ((x1 * 3) + x4)))), some (.int (jI (v7 + (4 * (A5 46 x4)))))]) (st1 := [.int (jI x4), .ref 46]) (σ1 := js E A5) zM_X3_passName dX3_passName_70 rfl rfl rfl rfl ?_
    obtain ⟨hi10, h⟩ := h
    refine jw_iald zM_X3_passName dX3_passName_72 rfl rfl hi10 ?_
    refine zw_go (pc1 := 75) (L1 := [some (.ref 38), some (.int (jI x1)), some (.int (jI x2)), some (.int (jI x3)), some (.int (jI x4)), some (.ref (E.2.1 (A 42 ((x1 * 3) + x4)).toNat)), some (.int (jI (A 43 ((x1 * 3) + x4)))), some (.int (jI (v7 + (4 * (A5 46 x4)))))]) (st1 := [.ref (E.2.1 (A 42 ((x1 * 3) + x4)).toNat), .int (jI (A5 46 x4))]) (σ1 := js E A5) zM_X3_passName dX3_passName_73 rfl rfl rfl rfl ?_
    refine zw_go (pc1 := 77) (L1 := [some (.ref 38), some (.int (jI x1)), some (.int (jI x2)), some (.int (jI x3)), some (.int (jI x4)), some (.ref (E.2.1 (A 42 ((x1 * 3) + x4)).toNat)), some (.int (jI (A 43 ((x1 * 3) + x4)))), some (.int (jI (v7 + (4 * (A5 46 x4)))))]) (st1 := [.int (jI (A 43 ((x1 * 3) + x4))), .ref (E.2.1 (A 42 ((x1 * 3) + x4)).toNat), .int (jI (A5 46 x4))]) (σ1 := js E A5) zM_X3_passName dX3_passName_75 rfl rfl rfl rfl ?_
    refine jw_callI (as := [.ref (E.2.1 (A 42 ((x1 * 3) + x4)).toNat), .int (jI (A 43 ((x1 * 3) + x4)))]) (rest := [.int (jI (A5 46 x4))]) zM_X3_passName dX3_passName_77 (zx_calV zC_3_70) zM_X1_sizeOf rfl rfl rfl rfl rfl (j_args0 (jim.K (hE _ (by have := hi3; omega))) rfl) rfl hA6 h (fun v13 A11 rv14 hA12 h => ?_)
    refine jw_icmp_ge (tgt := 128) zM_X3_passName dX3_passName_80 rfl (hA6 46 x4) rv14 (fun q => ?_) (fun q => ?_)
    · replace h := h.1 q
      exact zw_weak2 (h hA12) ⟨rfl, rfl, rfl, rfl, rfl, trivial⟩
    · replace h := h.2 q
      refine zw_go (pc1 := 85) (L1 := [some (.ref 38), some (.int (jI x1)), some (.int (jI x2)), some (.int (jI x3)), some (.int (jI x4)), some (.ref (E.2.1 (A 42 ((x1 * 3) + x4)).toNat)), some (.int (jI (A 43 ((x1 * 3) + x4)))), some (.int (jI (v7 + (4 * (A5 46 x4)))))]) (st1 := [.ref (E.2.1 (A 42 ((x1 * 3) + x4)).toNat)]) (σ1 := js E A11) zM_X3_passName dX3_passName_83 rfl rfl rfl rfl ?_
      refine zw_go (pc1 := 87) (L1 := [some (.ref 38), some (.int (jI x1)), some (.int (jI x2)), some (.int (jI x3)), some (.int (jI x4)), some (.ref (E.2.1 (A 42 ((x1 * 3) + x4)).toNat)), some (.int (jI (A 43 ((x1 * 3) + x4)))), some (.int (jI (v7 + (4 * (A5 46 x4)))))]) (st1 := [.int (jI (v7 + (4 * (A5 46 x4)))), .ref (E.2.1 (A 42 ((x1 * 3) + x4)).toNat)]) (σ1 := js E A11) zM_X3_passName dX3_passName_85 rfl rfl rfl rfl ?_
      refine jw_callI (as := [.ref (E.2.1 (A 42 ((x1 * 3) + x4)).toNat), .int (jI (v7 + (4 * (A5 46 x4))))]) (rest := []) zM_X3_passName dX3_passName_87 (zx_calV zC_3_114) zM_X1_wordAt rfl rfl rfl rfl rfl (j_args0 (jim.K (hE _ (by have := hi3; omega))) rfl) rfl hA12 h (fun v17 A15 rv18 hA16 h => ?_)
      refine zw_go (pc1 := 91) (L1 := [some (.ref 38), some (.int (jI x1)), some (.int (jI x2)), some (.int (jI x3)), some (.int (jI x4)), some (.ref (E.2.1 (A 42 ((x1 * 3) + x4)).toNat)), some (.int (jI (A 43 ((x1 * 3) + x4)))), some (.int (jI (v7 + (4 * (A5 46 x4)))))]) (st1 := [.int (jI x2), .int (jI v17)]) (σ1 := js E A15) zM_X3_passName dX3_passName_90 rfl rfl rfl rfl ?_
      refine jw_icmp_ne (tgt := 128) zM_X3_passName dX3_passName_91 rfl rv18 r_x2 (fun q => ?_) (fun q => ?_)
      · replace h := h.1 q
        exact zw_weak2 (h hA16) ⟨rfl, rfl, rfl, rfl, rfl, trivial⟩
      · replace h := h.2 q
        refine zw_go (pc1 := 95) (L1 := [some (.ref 38), some (.int (jI x1)), some (.int (jI x2)), some (.int (jI x3)), some (.int (jI x4)), some (.ref (E.2.1 (A 42 ((x1 * 3) + x4)).toNat)), some (.int (jI (A 43 ((x1 * 3) + x4)))), some (.int (jI (v7 + (4 * (A5 46 x4)))))]) (st1 := [.ref 38]) (σ1 := js E A15) zM_X3_passName dX3_passName_94 rfl rfl rfl rfl ?_
        refine jw_getR (a := 46) zM_X3_passName dX3_passName_95 zF_3_36 rfl rfl rfl ?_
        refine zw_go (pc1 := 100) (L1 := [some (.ref 38), some (.int (jI x1)), some (.int (jI x2)), some (.int (jI x3)), some (.int (jI x4)), some (.ref (E.2.1 (A 42 ((x1 * 3) + x4)).toNat)), some (.int (jI (A 43 ((x1 * 3) + x4)))), some (.int (jI (v7 + (4 * (A5 46 x4)))))]) (st1 := [.int (jI x4), .ref 46]) (σ1 := js E A15) zM_X3_passName dX3_passName_98 rfl rfl rfl rfl ?_
        refine zw_go (pc1 := 101) (L1 := [some (.ref 38), some (.int (jI x1)), some (.int (jI x2)), some (.int (jI x3)), some (.int (jI x4)), some (.ref (E.2.1 (A 42 ((x1 * 3) + x4)).toNat)), some (.int (jI (A 43 ((x1 * 3) + x4)))), some (.int (jI (v7 + (4 * (A5 46 x4)))))]) (st1 := [.int (jI x4), .ref 46, .int (jI x4), .ref 46]) (σ1 := js E A15) zM_X3_passName dX3_passName_100 rfl rfl rfl rfl ?_
        obtain ⟨hi19, h⟩ := h
        refine jw_iald zM_X3_passName dX3_passName_101 rfl rfl hi19 ?_
        refine jw_iconst (v := 1) zM_X3_passName dX3_passName_102 rfl ?_
        refine jw_add zM_X3_passName dX3_passName_103 ?_
        obtain ⟨hw20, h⟩ := h
        obtain ⟨hi21, h⟩ := h
        obtain ⟨A22, e23⟩ : ∃ z9 : jA, z9 = jup A15 46 x4 ((A15 46 x4) + 1) := ⟨_, rfl⟩
        replace h := h A22 e23
        have hA24 : jOK A22 := jOK.up hA16 hw20 e23
        refine jw_iast zM_X3_passName dX3_passName_104 rfl rfl hi21 e23 ?_
        refine zw_go (pc1 := 106) (L1 := [some (.ref 38), some (.int (jI x1)), some (.int (jI x2)), some (.int (jI x3)), some (.int (jI x4)), some (.ref (E.2.1 (A 42 ((x1 * 3) + x4)).toNat)), some (.int (jI (A 43 ((x1 * 3) + x4)))), some (.int (jI (v7 + (4 * (A5 46 x4)))))]) (st1 := [.int (jI x3)]) (σ1 := js E A22) zM_X3_passName dX3_passName_105 rfl rfl rfl rfl ?_
        refine jw_if_ne (tgt := 126) zM_X3_passName dX3_passName_106 rfl r_x3 (fun q => ?_) (fun q => ?_)
        · replace h := h.1 q
          refine zw_go (pc1 := 127) (L1 := [some (.ref 38), some (.int (jI x1)), some (.int (jI x2)), some (.int (jI x3)), some (.int (jI x4)), some (.ref (E.2.1 (A 42 ((x1 * 3) + x4)).toNat)), some (.int (jI (A 43 ((x1 * 3) + x4)))), some (.int (jI (v7 + (4 * (A5 46 x4)))))]) (st1 := [.int (jI x3)]) (σ1 := js E A22) zM_X3_passName dX3_passName_126 rfl rfl rfl rfl ?_
          exact zw_weak2 (h hA24) ⟨rfl, rfl, rfl, rfl, trivial⟩
        · replace h := h.2 q
          refine zw_go (pc1 := 111) (L1 := [some (.ref 38), some (.int (jI x1)), some (.int (jI x2)), some (.int (jI x3)), some (.int (jI x4)), some (.ref (E.2.1 (A 42 ((x1 * 3) + x4)).toNat)), some (.int (jI (A 43 ((x1 * 3) + x4)))), some (.int (jI (v7 + (4 * (A5 46 x4)))))]) (st1 := [.ref (E.2.1 (A 42 ((x1 * 3) + x4)).toNat)]) (σ1 := js E A22) zM_X3_passName dX3_passName_109 rfl rfl rfl rfl ?_
          refine zw_go (pc1 := 113) (L1 := [some (.ref 38), some (.int (jI x1)), some (.int (jI x2)), some (.int (jI x3)), some (.int (jI x4)), some (.ref (E.2.1 (A 42 ((x1 * 3) + x4)).toNat)), some (.int (jI (A 43 ((x1 * 3) + x4)))), some (.int (jI (v7 + (4 * (A5 46 x4)))))]) (st1 := [.ref (E.2.1 (A 42 ((x1 * 3) + x4)).toNat), .ref (E.2.1 (A 42 ((x1 * 3) + x4)).toNat)]) (σ1 := js E A22) zM_X3_passName dX3_passName_111 rfl rfl rfl rfl ?_
          refine zw_go (pc1 := 115) (L1 := [some (.ref 38), some (.int (jI x1)), some (.int (jI x2)), some (.int (jI x3)), some (.int (jI x4)), some (.ref (E.2.1 (A 42 ((x1 * 3) + x4)).toNat)), some (.int (jI (A 43 ((x1 * 3) + x4)))), some (.int (jI (v7 + (4 * (A5 46 x4)))))]) (st1 := [.int (jI (v7 + (4 * (A5 46 x4)))), .ref (E.2.1 (A 42 ((x1 * 3) + x4)).toNat), .ref (E.2.1 (A 42 ((x1 * 3) + x4)).toNat)]) (σ1 := js E A22) zM_X3_passName dX3_passName_113 rfl rfl rfl rfl ?_
          refine jw_iconst (v := 2) zM_X3_passName dX3_passName_115 rfl ?_
          refine jw_add zM_X3_passName dX3_passName_116 ?_
          refine jw_callI (as := [.ref (E.2.1 (A 42 ((x1 * 3) + x4)).toNat), .int (jI ((v7 + (4 * (A5 46 x4))) + 2))]) (rest := [.ref (E.2.1 (A 42 ((x1 * 3) + x4)).toNat)]) zM_X3_passName dX3_passName_117 (zx_calV zC_3_114) zM_X1_wordAt rfl rfl rfl rfl rfl (j_args0 (jim.K (hE _ (by have := hi3; omega))) rfl) rfl hA24 h (fun v27 A25 rv28 hA26 h => ?_)
          refine jw_callI (as := [.ref (E.2.1 (A 42 ((x1 * 3) + x4)).toNat), .int (jI v27)]) (rest := []) zM_X3_passName dX3_passName_120 (zx_calV zC_3_60) zM_X1_kindOf rfl rfl rfl rfl rfl (j_args0 (jim.K (hE _ (by have := hi3; omega))) rfl) rfl hA26 h (fun v31 A29 rv32 hA30 h => ?_)
          refine zw_goto (tgt := 127) zM_X3_passName dX3_passName_123 rfl ?_
          exact zw_weak2 (h hA30) ⟨rfl, rfl, rfl, rfl, trivial⟩
set_option maxHeartbeats 4000000 in
set_option maxRecDepth 100000 in
theorem vd_X3_passName_127 (x1 : Int) (r_x1 : jW x1) (x2 : Int) (r_x2 : jW x2) (x4 : Int) (r_x4 : jW x4) (y0 : Int) (r_y0 : jW y0) (E : jE) (A : jA) (K : Int → jA → Prop) (h : jrI 83 128 [some (.ref 38), some (.int (jI x1)), some (.int (jI x2)), some (.int (jI y0)), some (.int (jI x4)), none, none, none] [] E A K) : jrI 83 127 [some (.ref 38), some (.int (jI x1)), some (.int (jI x2)), none, some (.int (jI x4)), none, none, none] [.int (jI y0)] E A K := by
  intro hA
  refine zw_go (pc1 := 128) (L1 := [some (.ref 38), some (.int (jI x1)), some (.int (jI x2)), some (.int (jI y0)), some (.int (jI x4)), none, none, none]) (st1 := []) (σ1 := js E A) zM_X3_passName dX3_passName_127 rfl rfl rfl rfl ?_
  exact zw_weak2 (h hA) ⟨rfl, rfl, rfl, rfl, rfl, trivial⟩
set_option maxHeartbeats 4000000 in
set_option maxRecDepth 100000 in
theorem vd_X3_passName_128 (x1 : Int) (r_x1 : jW x1) (x2 : Int) (r_x2 : jW x2) (x3 : Int) (r_x3 : jW x3) (x4 : Int) (r_x4 : jW x4) (E : jE) (A : jA) (K : Int → jA → Prop) (h : jrI 83 5 [some (.ref 38), some (.int (jI x1)), some (.int (jI x2)), some (.int (jI x3)), some (.int (jI (x4 + 1))), none, none, none] [] E A K) : jrI 83 128 [some (.ref 38), some (.int (jI x1)), some (.int (jI x2)), some (.int (jI x3)), some (.int (jI x4)), none, none, none] [] E A K := by
  intro hA
  refine jw_iinc (x := x4) (L1 := [some (.ref 38), some (.int (jI x1)), some (.int (jI x2)), some (.int (jI x3)), some (.int (jI (x4 + 1))), none, none, none]) zM_X3_passName dX3_passName_128 rfl (show 4 < 8 by decide) rfl ?_
  refine zw_goto (tgt := 5) zM_X3_passName dX3_passName_131 rfl ?_
  exact zw_weak2 (h hA) ⟨rfl, rfl, rfl, rfl, rfl, trivial⟩
set_option maxHeartbeats 4000000 in
set_option maxRecDepth 100000 in
theorem vd_X3_sizeOf_0 (x1 : Int) (r_x1 : jW x1) (E : jE) (A : jA) (K : Int → jA → Prop) (h : jrI 75 0 [some (.ref 38), some (.int (jI x1))] [] E A (fun v3 A1 => ((¬ v3 = (2 : Int) → jrI 79 0 [some (.ref 38), some (.int (jI x1)), some (.int (jI (-1))), none, none] [] E A1 (fun v7 A5 => K (A5 38 9) A5)) ∧ (v3 = (2 : Int) → jrR 87 0 [some (.ref 38), some (.int (jI x1))] [] E A1 (fun b11 A9 => jim b11 ∧ jrI 81 0 [some (.ref 38), some (.int (jI x1))] [] E A9 (fun v15 A13 => jrI 44 0 [some (.ref b11), some (.int (jI v15)), none, none] [] E A13 (fun v19 A17 => K v19 A17))))))) : jrI 84 0 [some (.ref 38), some (.int (jI x1))] [] E A K := by
  intro hA
  refine zw_go (pc1 := 1) (L1 := [some (.ref 38), some (.int (jI x1))]) (st1 := [.ref 38]) (σ1 := js E A) zM_X3_sizeOf dX3_sizeOf_0 rfl rfl rfl rfl ?_
  refine zw_go (pc1 := 2) (L1 := [some (.ref 38), some (.int (jI x1))]) (st1 := [.int (jI x1), .ref 38]) (σ1 := js E A) zM_X3_sizeOf dX3_sizeOf_1 rfl rfl rfl rfl ?_
  refine jw_callI (as := [.ref 38, .int (jI x1)]) (rest := []) zM_X3_sizeOf dX3_sizeOf_2 (zx_calV zC_3_69) zM_X3_kindOf rfl rfl rfl rfl rfl (j_args0 rfl rfl) rfl hA h (fun v3 A1 rv4 hA2 h => ?_)
  refine jw_iconst (v := 2) zM_X3_sizeOf dX3_sizeOf_5 rfl ?_
  refine jw_icmp_ne (tgt := 23) zM_X3_sizeOf dX3_sizeOf_6 rfl rv4 (show jW 2 from ⟨by decide, by decide⟩) (fun q => ?_) (fun q => ?_)
  · replace h := h.1 q
    refine zw_go (pc1 := 24) (L1 := [some (.ref 38), some (.int (jI x1))]) (st1 := [.ref 38]) (σ1 := js E A1) zM_X3_sizeOf dX3_sizeOf_23 rfl rfl rfl rfl ?_
    refine zw_go (pc1 := 25) (L1 := [some (.ref 38), some (.int (jI x1))]) (st1 := [.int (jI x1), .ref 38]) (σ1 := js E A1) zM_X3_sizeOf dX3_sizeOf_24 rfl rfl rfl rfl ?_
    refine jw_iconst (v := (-1)) zM_X3_sizeOf dX3_sizeOf_25 rfl ?_
    refine jw_callI (as := [.ref 38, .int (jI x1), .int (jI (-1))]) (rest := []) zM_X3_sizeOf dX3_sizeOf_26 (zx_calV zC_3_73) zM_X3_nameBelow rfl rfl rfl rfl rfl (j_args0 rfl rfl) rfl hA2 h (fun v7 A5 rv8 hA6 h => ?_)
    refine zw_go (pc1 := 30) (L1 := [some (.ref 38), some (.int (jI x1))]) (st1 := []) (σ1 := js E A5) zM_X3_sizeOf dX3_sizeOf_29 rfl rfl rfl rfl ?_
    refine zw_go (pc1 := 31) (L1 := [some (.ref 38), some (.int (jI x1))]) (st1 := [.ref 38]) (σ1 := js E A5) zM_X3_sizeOf dX3_sizeOf_30 rfl rfl rfl rfl ?_
    refine jw_getI zM_X3_sizeOf dX3_sizeOf_31 zF_3_77 rfl rfl rfl ?_
    exact jw_reti zM_X3_sizeOf dX3_sizeOf_34 rfl (hA6 38 9) hA6 h
  · replace h := h.2 q
    refine zw_go (pc1 := 10) (L1 := [some (.ref 38), some (.int (jI x1))]) (st1 := [.ref 38]) (σ1 := js E A1) zM_X3_sizeOf dX3_sizeOf_9 rfl rfl rfl rfl ?_
    refine zw_go (pc1 := 11) (L1 := [some (.ref 38), some (.int (jI x1))]) (st1 := [.int (jI x1), .ref 38]) (σ1 := js E A1) zM_X3_sizeOf dX3_sizeOf_10 rfl rfl rfl rfl ?_
    refine jw_callR (as := [.ref 38, .int (jI x1)]) (rest := []) zM_X3_sizeOf dX3_sizeOf_11 (zx_calV zC_3_52) zM_X3_upperImage rfl rfl rfl rfl rfl (j_args0 rfl rfl) rfl hA2 h (fun b11 A9 hA10 h => ?_)
    obtain ⟨hj12, h⟩ := h
    refine zw_go (pc1 := 15) (L1 := [some (.ref 38), some (.int (jI x1))]) (st1 := [.ref 38, .ref b11]) (σ1 := js E A9) zM_X3_sizeOf dX3_sizeOf_14 rfl rfl rfl rfl ?_
    refine zw_go (pc1 := 16) (L1 := [some (.ref 38), some (.int (jI x1))]) (st1 := [.int (jI x1), .ref 38, .ref b11]) (σ1 := js E A9) zM_X3_sizeOf dX3_sizeOf_15 rfl rfl rfl rfl ?_
    refine jw_callI (as := [.ref 38, .int (jI x1)]) (rest := [.ref b11]) zM_X3_sizeOf dX3_sizeOf_16 (zx_calV zC_3_56) zM_X3_numberOf rfl rfl rfl rfl rfl (j_args0 rfl rfl) rfl hA10 h (fun v15 A13 rv16 hA14 h => ?_)
    refine jw_callI (as := [.ref b11, .int (jI v15)]) (rest := []) zM_X3_sizeOf dX3_sizeOf_19 (zx_calV zC_3_70) zM_X1_sizeOf rfl rfl rfl rfl rfl (j_args0 (jim.K hj12) rfl) rfl hA14 h (fun v19 A17 rv20 hA18 h => ?_)
    exact jw_reti zM_X3_sizeOf dX3_sizeOf_22 rfl rv20 hA18 h
set_option maxHeartbeats 4000000 in
set_option maxRecDepth 100000 in
theorem vd_X3_startViews_0  (E : jE) (A : jA) (K : jA → Prop) (h : ∀ A1 : jA, A1 = jup A 38 11 0 → ∀ A4 : jA, A4 = jup A1 38 8 0 → jrV 85 17 [some (.ref 38), some (.int (jI ((A4 38 10) - 1)))] [] E A4 K) : jrV 85 0 [some (.ref 38), none] [] E A K := by
  intro hA
  refine zw_go (pc1 := 1) (L1 := [some (.ref 38), none]) (st1 := [.ref 38]) (σ1 := js E A) zM_X3_startViews dX3_startViews_0 rfl rfl rfl rfl ?_
  refine jw_iconst (v := 0) zM_X3_startViews dX3_startViews_1 rfl ?_
  obtain ⟨A1, e2⟩ : ∃ z9 : jA, z9 = jup A 38 11 0 := ⟨_, rfl⟩
  replace h := h A1 e2
  have hA3 : jOK A1 := jOK.up hA (show jW 0 from ⟨by decide, by decide⟩) e2
  refine jw_putI zM_X3_startViews dX3_startViews_2 zF_3_49 rfl rfl rfl rfl e2 ?_
  refine zw_go (pc1 := 6) (L1 := [some (.ref 38), none]) (st1 := [.ref 38]) (σ1 := js E A1) zM_X3_startViews dX3_startViews_5 rfl rfl rfl rfl ?_
  refine jw_iconst (v := 0) zM_X3_startViews dX3_startViews_6 rfl ?_
  obtain ⟨A4, e5⟩ : ∃ z9 : jA, z9 = jup A1 38 8 0 := ⟨_, rfl⟩
  replace h := h A4 e5
  have hA6 : jOK A4 := jOK.up hA3 (show jW 0 from ⟨by decide, by decide⟩) e5
  refine jw_putI zM_X3_startViews dX3_startViews_7 zF_3_99 rfl rfl rfl rfl e5 ?_
  refine zw_go (pc1 := 11) (L1 := [some (.ref 38), none]) (st1 := [.ref 38]) (σ1 := js E A4) zM_X3_startViews dX3_startViews_10 rfl rfl rfl rfl ?_
  refine jw_getI zM_X3_startViews dX3_startViews_11 zF_3_42 rfl rfl rfl ?_
  refine jw_iconst (v := 1) zM_X3_startViews dX3_startViews_14 rfl ?_
  refine jw_sub zM_X3_startViews dX3_startViews_15 ?_
  refine zw_go (pc1 := 17) (L1 := [some (.ref 38), some (.int (jI ((A4 38 10) - 1)))]) (st1 := []) (σ1 := js E A4) zM_X3_startViews dX3_startViews_16 rfl rfl rfl rfl ?_
  exact zw_weak2 (h hA6) ⟨rfl, rfl, trivial⟩
set_option maxHeartbeats 4000000 in
set_option maxRecDepth 100000 in
theorem vd_X3_startViews_17 (x1 : Int) (r_x1 : jW x1) (E : jE) (A : jA) (K : jA → Prop) (h : ((x1 < (0 : Int) → jrV 66 0 [some (.ref 38), none] [] E A (fun A1 => K A1)) ∧ ((0 : Int) ≤ x1 → jrV 67 0 [some (.ref 38), some (.int (jI x1)), some (.int (jI 1))] [] E A (fun A3 => jrV 85 17 [some (.ref 38), some (.int (jI (x1 + (-1))))] [] E A3 K)))) : jrV 85 17 [some (.ref 38), some (.int (jI x1))] [] E A K := by
  intro hA
  refine zw_go (pc1 := 18) (L1 := [some (.ref 38), some (.int (jI x1))]) (st1 := [.int (jI x1)]) (σ1 := js E A) zM_X3_startViews dX3_startViews_17 rfl rfl rfl rfl ?_
  refine jw_if_lt (tgt := 33) zM_X3_startViews dX3_startViews_18 rfl r_x1 (fun q => ?_) (fun q => ?_)
  · replace h := h.1 q
    refine zw_go (pc1 := 34) (L1 := [some (.ref 38), some (.int (jI x1))]) (st1 := [.ref 38]) (σ1 := js E A) zM_X3_startViews dX3_startViews_33 rfl rfl rfl rfl ?_
    refine jw_callV (as := [.ref 38]) (rest := []) zM_X3_startViews dX3_startViews_34 (zx_calV zC_3_102) zM_X3_addFound rfl rfl rfl rfl rfl (j_args0 rfl rfl) rfl hA h (fun A1 hA2 h => ?_)
    exact jw_retv zM_X3_startViews dX3_startViews_37 rfl hA2 h
  · replace h := h.2 q
    refine zw_go (pc1 := 22) (L1 := [some (.ref 38), some (.int (jI x1))]) (st1 := [.ref 38]) (σ1 := js E A) zM_X3_startViews dX3_startViews_21 rfl rfl rfl rfl ?_
    refine zw_go (pc1 := 23) (L1 := [some (.ref 38), some (.int (jI x1))]) (st1 := [.int (jI x1), .ref 38]) (σ1 := js E A) zM_X3_startViews dX3_startViews_22 rfl rfl rfl rfl ?_
    refine jw_iconst (v := 1) zM_X3_startViews dX3_startViews_23 rfl ?_
    refine jw_callV (as := [.ref 38, .int (jI x1), .int (jI 1)]) (rest := []) zM_X3_startViews dX3_startViews_24 (zx_calV zC_3_105) zM_X3_addToFound rfl rfl rfl rfl rfl (j_args0 rfl rfl) rfl hA h (fun A3 hA4 h => ?_)
    refine jw_iinc (x := x1) (L1 := [some (.ref 38), some (.int (jI (x1 + (-1))))]) zM_X3_startViews dX3_startViews_27 rfl (show 1 < 2 by decide) rfl ?_
    refine zw_goto (tgt := 17) zM_X3_startViews dX3_startViews_30 rfl ?_
    exact zw_weak2 (h hA4) ⟨rfl, rfl, trivial⟩
set_option maxHeartbeats 4000000 in
set_option maxRecDepth 100000 in
theorem vd_X3_takeAway_0  (E : jE) (A : jA) (K : Int → jA → Prop) (h : ∀ A1 : jA, A1 = jup A 38 10 0 → ∀ A4 : jA, A4 = jup A1 38 11 0 → K (A 38 10) A4) : jrI 86 0 [some (.ref 38), none] [] E A K := by
  intro hA
  refine zw_go (pc1 := 1) (L1 := [some (.ref 38), none]) (st1 := [.ref 38]) (σ1 := js E A) zM_X3_takeAway dX3_takeAway_0 rfl rfl rfl rfl ?_
  refine jw_getI zM_X3_takeAway dX3_takeAway_1 zF_3_42 rfl rfl rfl ?_
  refine zw_go (pc1 := 5) (L1 := [some (.ref 38), some (.int (jI (A 38 10)))]) (st1 := []) (σ1 := js E A) zM_X3_takeAway dX3_takeAway_4 rfl rfl rfl rfl ?_
  refine zw_go (pc1 := 6) (L1 := [some (.ref 38), some (.int (jI (A 38 10)))]) (st1 := [.ref 38]) (σ1 := js E A) zM_X3_takeAway dX3_takeAway_5 rfl rfl rfl rfl ?_
  refine jw_iconst (v := 0) zM_X3_takeAway dX3_takeAway_6 rfl ?_
  obtain ⟨A1, e2⟩ : ∃ z9 : jA, z9 = jup A 38 10 0 := ⟨_, rfl⟩
  replace h := h A1 e2
  have hA3 : jOK A1 := jOK.up hA (show jW 0 from ⟨by decide, by decide⟩) e2
  refine jw_putI zM_X3_takeAway dX3_takeAway_7 zF_3_42 rfl rfl rfl rfl e2 ?_
  refine zw_go (pc1 := 11) (L1 := [some (.ref 38), some (.int (jI (A 38 10)))]) (st1 := [.ref 38]) (σ1 := js E A1) zM_X3_takeAway dX3_takeAway_10 rfl rfl rfl rfl ?_
  refine jw_iconst (v := 0) zM_X3_takeAway dX3_takeAway_11 rfl ?_
  obtain ⟨A4, e5⟩ : ∃ z9 : jA, z9 = jup A1 38 11 0 := ⟨_, rfl⟩
  replace h := h A4 e5
  have hA6 : jOK A4 := jOK.up hA3 (show jW 0 from ⟨by decide, by decide⟩) e5
  refine jw_putI zM_X3_takeAway dX3_takeAway_12 zF_3_49 rfl rfl rfl rfl e5 ?_
  refine zw_go (pc1 := 16) (L1 := [some (.ref 38), some (.int (jI (A 38 10)))]) (st1 := [.int (jI (A 38 10))]) (σ1 := js E A4) zM_X3_takeAway dX3_takeAway_15 rfl rfl rfl rfl ?_
  exact jw_reti zM_X3_takeAway dX3_takeAway_16 rfl (hA 38 10) hA6 h
