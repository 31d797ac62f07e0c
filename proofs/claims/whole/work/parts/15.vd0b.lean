set_option maxHeartbeats 4000000 in
set_option maxRecDepth 100000 in
theorem vd_X0_putFolders_0 (a2 : Nat) (i_a2 : jim a2) (E : jE) (A : jA) (K : jA → Prop) (h : jrV 14 2 [some (.ref 21), some (.ref 2), some (.ref a2), some (.int (jI 1)), none, none, none] [] E A K) : jrV 14 0 [some (.ref 21), some (.ref 2), some (.ref a2), none, none, none, none] [] E A K := by
  intro hA
  refine jw_iconst (v := 1) zM_X0_putFolders dX0_putFolders_0 rfl ?_
  refine zw_go (pc1 := 2) (L1 := [some (.ref 21), some (.ref 2), some (.ref a2), some (.int (jI 1)), none, none, none]) (st1 := []) (σ1 := js E A) zM_X0_putFolders dX0_putFolders_1 rfl rfl rfl rfl ?_
  exact zw_weak2 (h hA) ⟨rfl, rfl, rfl, rfl, trivial⟩
set_option maxHeartbeats 4000000 in
set_option maxRecDepth 100000 in
theorem vd_X0_putFolders_2 (a2 : Nat) (i_a2 : jim a2) (x3 : Int) (r_x3 : jW x3) (E : jE) (A : jA) (K : jA → Prop) (h : (((A 21 13) < x3 → K A) ∧ (x3 ≤ (A 21 13) → (0 ≤ x3 ∧ x3 < 33) ∧ jrI 100 0 [some (.ref 2), some (.int (jI ((A 25 x3) + 1)))] [] E A (fun v4 A2 => jrI 100 0 [some (.ref 2), some (.int (jI (A 25 x3)))] [] E A2 (fun v8 A6 => jrV 14 36 [some (.ref 21), some (.ref 2), some (.ref a2), some (.int (jI x3)), none, some (.int (jI v4)), some (.int (jI v8))] [] E A6 K))))) : jrV 14 2 [some (.ref 21), some (.ref 2), some (.ref a2), some (.int (jI x3)), none, none, none] [] E A K := by
  intro hA
  refine zw_go (pc1 := 3) (L1 := [some (.ref 21), some (.ref 2), some (.ref a2), some (.int (jI x3)), none, none, none]) (st1 := [.int (jI x3)]) (σ1 := js E A) zM_X0_putFolders dX0_putFolders_2 rfl rfl rfl rfl ?_
  refine zw_go (pc1 := 4) (L1 := [some (.ref 21), some (.ref 2), some (.ref a2), some (.int (jI x3)), none, none, none]) (st1 := [.ref 21, .int (jI x3)]) (σ1 := js E A) zM_X0_putFolders dX0_putFolders_3 rfl rfl rfl rfl ?_
  refine jw_getI zM_X0_putFolders dX0_putFolders_4 zF_0_107 rfl rfl rfl ?_
  refine jw_icmp_gt (tgt := 81) zM_X0_putFolders dX0_putFolders_7 rfl r_x3 (hA 21 13) (fun q => ?_) (fun q => ?_)
  · replace h := h.1 q
    exact jw_retv zM_X0_putFolders dX0_putFolders_81 rfl hA h
  · replace h := h.2 q
    refine zw_go (pc1 := 11) (L1 := [some (.ref 21), some (.ref 2), some (.ref a2), some (.int (jI x3)), none, none, none]) (st1 := [.ref 21]) (σ1 := js E A) zM_X0_putFolders dX0_putFolders_10 rfl rfl rfl rfl ?_
    refine jw_getR (a := 25) zM_X0_putFolders dX0_putFolders_11 zF_0_22 rfl rfl rfl ?_
    refine zw_go (pc1 := 15) (L1 := [some (.ref 21), some (.ref 2), some (.ref a2), some (.int (jI x3)), none, none, none]) (st1 := [.int (jI x3), .ref 25]) (σ1 := js E A) zM_X0_putFolders dX0_putFolders_14 rfl rfl rfl rfl ?_
    obtain ⟨hi1, h⟩ := h
    refine jw_iald zM_X0_putFolders dX0_putFolders_15 rfl rfl hi1 ?_
    refine zw_go (pc1 := 18) (L1 := [some (.ref 21), some (.ref 2), some (.ref a2), some (.int (jI x3)), some (.int (jI (A 25 x3))), none, none]) (st1 := []) (σ1 := js E A) zM_X0_putFolders dX0_putFolders_16 rfl rfl rfl rfl ?_
    refine zw_go (pc1 := 19) (L1 := [some (.ref 21), some (.ref 2), some (.ref a2), some (.int (jI x3)), some (.int (jI (A 25 x3))), none, none]) (st1 := [.ref 2]) (σ1 := js E A) zM_X0_putFolders dX0_putFolders_18 rfl rfl rfl rfl ?_
    refine zw_go (pc1 := 21) (L1 := [some (.ref 21), some (.ref 2), some (.ref a2), some (.int (jI x3)), some (.int (jI (A 25 x3))), none, none]) (st1 := [.int (jI (A 25 x3)), .ref 2]) (σ1 := js E A) zM_X0_putFolders dX0_putFolders_19 rfl rfl rfl rfl ?_
    refine jw_iconst (v := 1) zM_X0_putFolders dX0_putFolders_21 rfl ?_
    refine jw_add zM_X0_putFolders dX0_putFolders_22 ?_
    refine jw_callI (as := [.ref 2, .int (jI ((A 25 x3) + 1))]) (rest := []) zM_X0_putFolders dX0_putFolders_23 (zx_calV zC_0_119) zM_X5_firstNameOf rfl rfl rfl rfl rfl (j_args0 rfl rfl) rfl hA h (fun v4 A2 rv5 hA3 h => ?_)
    refine zw_go (pc1 := 28) (L1 := [some (.ref 21), some (.ref 2), some (.ref a2), some (.int (jI x3)), some (.int (jI (A 25 x3))), some (.int (jI v4)), none]) (st1 := []) (σ1 := js E A2) zM_X0_putFolders dX0_putFolders_26 rfl rfl rfl rfl ?_
    refine zw_go (pc1 := 29) (L1 := [some (.ref 21), some (.ref 2), some (.ref a2), some (.int (jI x3)), some (.int (jI (A 25 x3))), some (.int (jI v4)), none]) (st1 := [.ref 2]) (σ1 := js E A2) zM_X0_putFolders dX0_putFolders_28 rfl rfl rfl rfl ?_
    refine zw_go (pc1 := 31) (L1 := [some (.ref 21), some (.ref 2), some (.ref a2), some (.int (jI x3)), some (.int (jI (A 25 x3))), some (.int (jI v4)), none]) (st1 := [.int (jI (A 25 x3)), .ref 2]) (σ1 := js E A2) zM_X0_putFolders dX0_putFolders_29 rfl rfl rfl rfl ?_
    refine jw_callI (as := [.ref 2, .int (jI (A 25 x3))]) (rest := []) zM_X0_putFolders dX0_putFolders_31 (zx_calV zC_0_119) zM_X5_firstNameOf rfl rfl rfl rfl rfl (j_args0 rfl rfl) rfl hA3 h (fun v8 A6 rv9 hA7 h => ?_)
    refine zw_go (pc1 := 36) (L1 := [some (.ref 21), some (.ref 2), some (.ref a2), some (.int (jI x3)), some (.int (jI (A 25 x3))), some (.int (jI v4)), some (.int (jI v8))]) (st1 := []) (σ1 := js E A6) zM_X0_putFolders dX0_putFolders_34 rfl rfl rfl rfl ?_
    exact zw_weak2 (h hA7) ⟨rfl, rfl, rfl, rfl, rfl, rfl, trivial⟩
set_option maxHeartbeats 4000000 in
set_option maxRecDepth 100000 in
theorem vd_X0_putFolders_36 (a2 : Nat) (i_a2 : jim a2) (x3 : Int) (r_x3 : jW x3) (x5 : Int) (r_x5 : jW x5) (x6 : Int) (r_x6 : jW x6) (E : jE) (A : jA) (K : jA → Prop) (h : ((x5 ≤ x6 → jrV 14 2 [some (.ref 21), some (.ref 2), some (.ref a2), some (.int (jI (x3 + 1))), none, none, none] [] E A K) ∧ (x6 < x5 → jrI 104 0 [some (.ref 2), some (.int (jI x6))] [] E A (fun v3 A1 => jrV 40 0 [some (.ref a2), some (.int (jI v3))] [] E A1 (fun A5 => (0 ≤ x6 ∧ x6 < 279) ∧ (0 ≤ (A5 11 x6) ∧ (A5 11 x6) < 32) ∧ jrV 40 0 [some (.ref a2), some (.int (jI (A5 24 (A5 11 x6))))] [] E A5 (fun A9 => jrV 14 36 [some (.ref 21), some (.ref 2), some (.ref a2), some (.int (jI x3)), none, some (.int (jI x5)), some (.int (jI (x6 + 1)))] [] E A9 K)))))) : jrV 14 36 [some (.ref 21), some (.ref 2), some (.ref a2), some (.int (jI x3)), none, some (.int (jI x5)), some (.int (jI x6))] [] E A K := by
  intro hA
  refine zw_go (pc1 := 38) (L1 := [some (.ref 21), some (.ref 2), some (.ref a2), some (.int (jI x3)), none, some (.int (jI x5)), some (.int (jI x6))]) (st1 := [.int (jI x6)]) (σ1 := js E A) zM_X0_putFolders dX0_putFolders_36 rfl rfl rfl rfl ?_
  refine zw_go (pc1 := 40) (L1 := [some (.ref 21), some (.ref 2), some (.ref a2), some (.int (jI x3)), none, some (.int (jI x5)), some (.int (jI x6))]) (st1 := [.int (jI x5), .int (jI x6)]) (σ1 := js E A) zM_X0_putFolders dX0_putFolders_38 rfl rfl rfl rfl ?_
  refine jw_icmp_ge (tgt := 75) zM_X0_putFolders dX0_putFolders_40 rfl r_x6 r_x5 (fun q => ?_) (fun q => ?_)
  · replace h := h.1 q
    refine jw_iinc (x := x3) (L1 := [some (.ref 21), some (.ref 2), some (.ref a2), some (.int (jI (x3 + 1))), none, some (.int (jI x5)), some (.int (jI x6))]) zM_X0_putFolders dX0_putFolders_75 rfl (show 3 < 7 by decide) rfl ?_
    refine zw_goto (tgt := 2) zM_X0_putFolders dX0_putFolders_78 rfl ?_
    exact zw_weak2 (h hA) ⟨rfl, rfl, rfl, rfl, trivial⟩
  · replace h := h.2 q
    refine zw_go (pc1 := 44) (L1 := [some (.ref 21), some (.ref 2), some (.ref a2), some (.int (jI x3)), none, some (.int (jI x5)), some (.int (jI x6))]) (st1 := [.ref a2]) (σ1 := js E A) zM_X0_putFolders dX0_putFolders_43 rfl rfl rfl rfl ?_
    refine zw_go (pc1 := 45) (L1 := [some (.ref 21), some (.ref 2), some (.ref a2), some (.int (jI x3)), none, some (.int (jI x5)), some (.int (jI x6))]) (st1 := [.ref 2, .ref a2]) (σ1 := js E A) zM_X0_putFolders dX0_putFolders_44 rfl rfl rfl rfl ?_
    refine zw_go (pc1 := 47) (L1 := [some (.ref 21), some (.ref 2), some (.ref a2), some (.int (jI x3)), none, some (.int (jI x5)), some (.int (jI x6))]) (st1 := [.int (jI x6), .ref 2, .ref a2]) (σ1 := js E A) zM_X0_putFolders dX0_putFolders_45 rfl rfl rfl rfl ?_
    refine jw_callI (as := [.ref 2, .int (jI x6)]) (rest := [.ref a2]) zM_X0_putFolders dX0_putFolders_47 (zx_calV zC_0_188) zM_X5_nameAt rfl rfl rfl rfl rfl (j_args0 rfl rfl) rfl hA h (fun v3 A1 rv4 hA2 h => ?_)
    refine jw_callV (as := [.ref a2, .int (jI v3)]) (rest := []) zM_X0_putFolders dX0_putFolders_50 (zx_calV zC_0_130) zM_X1_putWord rfl rfl rfl rfl rfl (j_args0 (jim.K i_a2) rfl) rfl hA2 h (fun A5 hA6 h => ?_)
    refine zw_go (pc1 := 54) (L1 := [some (.ref 21), some (.ref 2), some (.ref a2), some (.int (jI x3)), none, some (.int (jI x5)), some (.int (jI x6))]) (st1 := [.ref a2]) (σ1 := js E A5) zM_X0_putFolders dX0_putFolders_53 rfl rfl rfl rfl ?_
    refine zw_go (pc1 := 55) (L1 := [some (.ref 21), some (.ref 2), some (.ref a2), some (.int (jI x3)), none, some (.int (jI x5)), some (.int (jI x6))]) (st1 := [.ref 21, .ref a2]) (σ1 := js E A5) zM_X0_putFolders dX0_putFolders_54 rfl rfl rfl rfl ?_
    refine jw_getR (a := 24) zM_X0_putFolders dX0_putFolders_55 zF_0_18 rfl rfl rfl ?_
    refine zw_go (pc1 := 59) (L1 := [some (.ref 21), some (.ref 2), some (.ref a2), some (.int (jI x3)), none, some (.int (jI x5)), some (.int (jI x6))]) (st1 := [.ref 2, .ref 24, .ref a2]) (σ1 := js E A5) zM_X0_putFolders dX0_putFolders_58 rfl rfl rfl rfl ?_
    refine jw_getR (a := 11) zM_X0_putFolders dX0_putFolders_59 zF_0_123 rfl rfl rfl ?_
    refine zw_go (pc1 := 64) (L1 := [some (.ref 21), some (.ref 2), some (.ref a2), some (.int (jI x3)), none, some (.int (jI x5)), some (.int (jI x6))]) (st1 := [.int (jI x6), .ref 11, .ref 24, .ref a2]) (σ1 := js E A5) zM_X0_putFolders dX0_putFolders_62 rfl rfl rfl rfl ?_
    obtain ⟨hi7, h⟩ := h
    refine jw_iald zM_X0_putFolders dX0_putFolders_64 rfl rfl hi7 ?_
    obtain ⟨hi8, h⟩ := h
    refine jw_iald zM_X0_putFolders dX0_putFolders_65 rfl rfl hi8 ?_
    refine jw_callV (as := [.ref a2, .int (jI (A5 24 (A5 11 x6)))]) (rest := []) zM_X0_putFolders dX0_putFolders_66 (zx_calV zC_0_130) zM_X1_putWord rfl rfl rfl rfl rfl (j_args0 (jim.K i_a2) rfl) rfl hA6 h (fun A9 hA10 h => ?_)
    refine jw_iinc (x := x6) (L1 := [some (.ref 21), some (.ref 2), some (.ref a2), some (.int (jI x3)), none, some (.int (jI x5)), some (.int (jI (x6 + 1)))]) zM_X0_putFolders dX0_putFolders_69 rfl (show 6 < 7 by decide) rfl ?_
    refine zw_goto (tgt := 36) zM_X0_putFolders dX0_putFolders_72 rfl ?_
    exact zw_weak2 (h hA10) ⟨rfl, rfl, rfl, rfl, rfl, rfl, trivial⟩
set_option maxHeartbeats 4000000 in
set_option maxRecDepth 100000 in
theorem vd_X0_putHead_0 (x1 : Int) (r_x1 : jW x1) (a2 : Nat) (i_a2 : jim a2) (E : jE) (A : jA) (K : jA → Prop) (h : ∀ A1 : jA, A1 = jup A a2 1 0 → jrV 38 0 [some (.ref a2), some (.int (jI 84))] [] E A1 (fun A4 => jrV 38 0 [some (.ref a2), some (.int (jI 73))] [] E A4 (fun A6 => jrV 38 0 [some (.ref a2), some (.int (jI x1))] [] E A6 (fun A8 => jrV 38 0 [some (.ref a2), some (.int (jI 0))] [] E A8 (fun A10 => jrV 40 0 [some (.ref a2), some (.int (jI (A10 21 13)))] [] E A10 (fun A12 => jrV 15 38 [none, none, some (.ref a2), some (.int (jI 6))] [] E A12 K)))))) : jrV 15 0 [some (.ref 21), some (.int (jI x1)), some (.ref a2), none] [] E A K := by
  intro hA
  refine zw_go (pc1 := 1) (L1 := [some (.ref 21), some (.int (jI x1)), some (.ref a2), none]) (st1 := [.ref a2]) (σ1 := js E A) zM_X0_putHead dX0_putHead_0 rfl rfl rfl rfl ?_
  refine jw_iconst (v := 0) zM_X0_putHead dX0_putHead_1 rfl ?_
  obtain ⟨A1, e2⟩ : ∃ z9 : jA, z9 = jup A a2 1 0 := ⟨_, rfl⟩
  replace h := h A1 e2
  have hA3 : jOK A1 := jOK.up hA (show jW 0 from ⟨by decide, by decide⟩) e2
  refine jw_putI zM_X0_putHead dX0_putHead_2 zF_0_70 rfl rfl rfl (jim.K i_a2) e2 ?_
  refine zw_go (pc1 := 6) (L1 := [some (.ref 21), some (.int (jI x1)), some (.ref a2), none]) (st1 := [.ref a2]) (σ1 := js E A1) zM_X0_putHead dX0_putHead_5 rfl rfl rfl rfl ?_
  refine jw_bipush (v := 84) zM_X0_putHead dX0_putHead_6 (by decide) ?_
  refine jw_callV (as := [.ref a2, .int (jI 84)]) (rest := []) zM_X0_putHead dX0_putHead_8 (zx_calV zC_0_126) zM_X1_putByte rfl rfl rfl rfl rfl (j_args0 (jim.K i_a2) rfl) rfl hA3 h (fun A4 hA5 h => ?_)
  refine zw_go (pc1 := 12) (L1 := [some (.ref 21), some (.int (jI x1)), some (.ref a2), none]) (st1 := [.ref a2]) (σ1 := js E A4) zM_X0_putHead dX0_putHead_11 rfl rfl rfl rfl ?_
  refine jw_bipush (v := 73) zM_X0_putHead dX0_putHead_12 (by decide) ?_
  refine jw_callV (as := [.ref a2, .int (jI 73)]) (rest := []) zM_X0_putHead dX0_putHead_14 (zx_calV zC_0_126) zM_X1_putByte rfl rfl rfl rfl rfl (j_args0 (jim.K i_a2) rfl) rfl hA5 h (fun A6 hA7 h => ?_)
  refine zw_go (pc1 := 18) (L1 := [some (.ref 21), some (.int (jI x1)), some (.ref a2), none]) (st1 := [.ref a2]) (σ1 := js E A6) zM_X0_putHead dX0_putHead_17 rfl rfl rfl rfl ?_
  refine zw_go (pc1 := 19) (L1 := [some (.ref 21), some (.int (jI x1)), some (.ref a2), none]) (st1 := [.int (jI x1), .ref a2]) (σ1 := js E A6) zM_X0_putHead dX0_putHead_18 rfl rfl rfl rfl ?_
  refine jw_callV (as := [.ref a2, .int (jI x1)]) (rest := []) zM_X0_putHead dX0_putHead_19 (zx_calV zC_0_126) zM_X1_putByte rfl rfl rfl rfl rfl (j_args0 (jim.K i_a2) rfl) rfl hA7 h (fun A8 hA9 h => ?_)
  refine zw_go (pc1 := 23) (L1 := [some (.ref 21), some (.int (jI x1)), some (.ref a2), none]) (st1 := [.ref a2]) (σ1 := js E A8) zM_X0_putHead dX0_putHead_22 rfl rfl rfl rfl ?_
  refine jw_iconst (v := 0) zM_X0_putHead dX0_putHead_23 rfl ?_
  refine jw_callV (as := [.ref a2, .int (jI 0)]) (rest := []) zM_X0_putHead dX0_putHead_24 (zx_calV zC_0_126) zM_X1_putByte rfl rfl rfl rfl rfl (j_args0 (jim.K i_a2) rfl) rfl hA9 h (fun A10 hA11 h => ?_)
  refine zw_go (pc1 := 28) (L1 := [some (.ref 21), some (.int (jI x1)), some (.ref a2), none]) (st1 := [.ref a2]) (σ1 := js E A10) zM_X0_putHead dX0_putHead_27 rfl rfl rfl rfl ?_
  refine zw_go (pc1 := 29) (L1 := [some (.ref 21), some (.int (jI x1)), some (.ref a2), none]) (st1 := [.ref 21, .ref a2]) (σ1 := js E A10) zM_X0_putHead dX0_putHead_28 rfl rfl rfl rfl ?_
  refine jw_getI zM_X0_putHead dX0_putHead_29 zF_0_107 rfl rfl rfl ?_
  refine jw_callV (as := [.ref a2, .int (jI (A10 21 13))]) (rest := []) zM_X0_putHead dX0_putHead_32 (zx_calV zC_0_130) zM_X1_putWord rfl rfl rfl rfl rfl (j_args0 (jim.K i_a2) rfl) rfl hA11 h (fun A12 hA13 h => ?_)
  refine jw_bipush (v := 6) zM_X0_putHead dX0_putHead_35 (by decide) ?_
  refine zw_go (pc1 := 38) (L1 := [some (.ref 21), some (.int (jI x1)), some (.ref a2), some (.int (jI 6))]) (st1 := []) (σ1 := js E A12) zM_X0_putHead dX0_putHead_37 rfl rfl rfl rfl ?_
  exact zw_weak2 (h hA13) ⟨rfl, rfl, trivial⟩
set_option maxHeartbeats 4000000 in
set_option maxRecDepth 100000 in
theorem vd_X0_putHead_38 (a2 : Nat) (i_a2 : jim a2) (x3 : Int) (r_x3 : jW x3) (E : jE) (A : jA) (K : jA → Prop) (h : (((18 : Int) ≤ x3 → K A) ∧ (x3 < (18 : Int) → jrV 40 0 [some (.ref a2), some (.int (jI 0))] [] E A (fun A1 => jrV 15 38 [none, none, some (.ref a2), some (.int (jI (x3 + 2)))] [] E A1 K)))) : jrV 15 38 [none, none, some (.ref a2), some (.int (jI x3))] [] E A K := by
  intro hA
  refine zw_go (pc1 := 39) (L1 := [none, none, some (.ref a2), some (.int (jI x3))]) (st1 := [.int (jI x3)]) (σ1 := js E A) zM_X0_putHead dX0_putHead_38 rfl rfl rfl rfl ?_
  refine jw_bipush (v := 18) zM_X0_putHead dX0_putHead_39 (by decide) ?_
  refine jw_icmp_ge (tgt := 55) zM_X0_putHead dX0_putHead_41 rfl r_x3 (show jW 18 from ⟨by decide, by decide⟩) (fun q => ?_) (fun q => ?_)
  · replace h := h.1 q
    exact jw_retv zM_X0_putHead dX0_putHead_55 rfl hA h
  · replace h := h.2 q
    refine zw_go (pc1 := 45) (L1 := [none, none, some (.ref a2), some (.int (jI x3))]) (st1 := [.ref a2]) (σ1 := js E A) zM_X0_putHead dX0_putHead_44 rfl rfl rfl rfl ?_
    refine jw_iconst (v := 0) zM_X0_putHead dX0_putHead_45 rfl ?_
    refine jw_callV (as := [.ref a2, .int (jI 0)]) (rest := []) zM_X0_putHead dX0_putHead_46 (zx_calV zC_0_130) zM_X1_putWord rfl rfl rfl rfl rfl (j_args0 (jim.K i_a2) rfl) rfl hA h (fun A1 hA2 h => ?_)
    refine jw_iinc (x := x3) (L1 := [none, none, some (.ref a2), some (.int (jI (x3 + 2)))]) zM_X0_putHead dX0_putHead_49 rfl (show 3 < 4 by decide) rfl ?_
    refine zw_goto (tgt := 38) zM_X0_putHead dX0_putHead_52 rfl ?_
    exact zw_weak2 (h hA2) ⟨rfl, rfl, trivial⟩
set_option maxHeartbeats 4000000 in
set_option maxRecDepth 100000 in
theorem vd_X0_putInodes_0 (x2 : Int) (r_x2 : jW x2) (a3 : Nat) (i_a3 : jim a3) (E : jE) (A : jA) (K : jA → Prop) (h : jrV 16 12 [some (.ref 21), some (.ref 2), some (.int (jI x2)), some (.ref a3), some (.int (jI (A a3 1))), some (.int (jI 0)), some (.int (jI 1)), none, none] [] E A K) : jrV 16 0 [some (.ref 21), some (.ref 2), some (.int (jI x2)), some (.ref a3), none, none, none, none, none] [] E A K := by
  intro hA
  refine zw_go (pc1 := 1) (L1 := [some (.ref 21), some (.ref 2), some (.int (jI x2)), some (.ref a3), none, none, none, none, none]) (st1 := [.ref a3]) (σ1 := js E A) zM_X0_putInodes dX0_putInodes_0 rfl rfl rfl rfl ?_
  refine jw_getI zM_X0_putInodes dX0_putInodes_1 zF_0_70 rfl rfl (jim.K i_a3) ?_
  refine zw_go (pc1 := 6) (L1 := [some (.ref 21), some (.ref 2), some (.int (jI x2)), some (.ref a3), some (.int (jI (A a3 1))), none, none, none, none]) (st1 := []) (σ1 := js E A) zM_X0_putInodes dX0_putInodes_4 rfl rfl rfl rfl ?_
  refine jw_iconst (v := 0) zM_X0_putInodes dX0_putInodes_6 rfl ?_
  refine zw_go (pc1 := 9) (L1 := [some (.ref 21), some (.ref 2), some (.int (jI x2)), some (.ref a3), some (.int (jI (A a3 1))), some (.int (jI 0)), none, none, none]) (st1 := []) (σ1 := js E A) zM_X0_putInodes dX0_putInodes_7 rfl rfl rfl rfl ?_
  refine jw_iconst (v := 1) zM_X0_putInodes dX0_putInodes_9 rfl ?_
  refine zw_go (pc1 := 12) (L1 := [some (.ref 21), some (.ref 2), some (.int (jI x2)), some (.ref a3), some (.int (jI (A a3 1))), some (.int (jI 0)), some (.int (jI 1)), none, none]) (st1 := []) (σ1 := js E A) zM_X0_putInodes dX0_putInodes_10 rfl rfl rfl rfl ?_
  exact zw_weak2 (h hA) ⟨rfl, rfl, rfl, rfl, rfl, rfl, rfl, trivial⟩
set_option maxHeartbeats 4000000 in
set_option maxRecDepth 100000 in
theorem vd_X0_putInodes_12 (x2 : Int) (r_x2 : jW x2) (a3 : Nat) (i_a3 : jim a3) (x4 : Int) (r_x4 : jW x4) (x5 : Int) (r_x5 : jW x5) (x6 : Int) (r_x6 : jW x6) (E : jE) (A : jA) (K : jA → Prop) (h : (((A 21 13) < x6 → K A) ∧ (x6 ≤ (A 21 13) → (0 ≤ x6 ∧ x6 < 33) ∧ jW ((A a3 1) - x4) ∧ (0 ≤ x6 ∧ x6 < 33) ∧ ∀ A4 : jA, A4 = jup A 31 x6 ((A a3 1) - x4) → (0 ≤ (A 25 x6) ∧ (A 25 x6) < 32) ∧ jrV 38 0 [some (.ref a3), some (.int (jI (A4 3 (A 25 x6))))] [] E A4 (fun A8 => (0 ≤ (A 25 x6) ∧ (A 25 x6) < 32) ∧ jrV 40 0 [some (.ref a3), some (.int (jI (A8 5 (A 25 x6))))] [] E A8 (fun A11 => (0 ≤ (A 25 x6) ∧ (A 25 x6) < 32) ∧ jrV 40 0 [some (.ref a3), some (.int (jI (A11 4 (A 25 x6))))] [] E A11 (fun A14 => ((¬ x6 = (1 : Int) → (0 ≤ (A 25 x6) ∧ (A 25 x6) < 32) ∧ jrV 16 95 [some (.ref 21), some (.ref 2), some (.int (jI x2)), some (.ref a3), some (.int (jI x4)), some (.int (jI x5)), some (.int (jI x6)), some (.int (jI (A 25 x6))), none] [.int (jI (A14 6 (A 25 x6))), .ref a3] E A14 K) ∧ (x6 = (1 : Int) → jrV 16 95 [some (.ref 21), some (.ref 2), some (.int (jI x2)), some (.ref a3), some (.int (jI x4)), some (.int (jI x5)), some (.int (jI x6)), some (.int (jI (A 25 x6))), none] [.int (jI 1), .ref a3] E A14 K)))))))) : jrV 16 12 [some (.ref 21), some (.ref 2), some (.int (jI x2)), some (.ref a3), some (.int (jI x4)), some (.int (jI x5)), some (.int (jI x6)), none, none] [] E A K := by
  intro hA
  refine zw_go (pc1 := 14) (L1 := [some (.ref 21), some (.ref 2), some (.int (jI x2)), some (.ref a3), some (.int (jI x4)), some (.int (jI x5)), some (.int (jI x6)), none, none]) (st1 := [.int (jI x6)]) (σ1 := js E A) zM_X0_putInodes dX0_putInodes_12 rfl rfl rfl rfl ?_
  refine zw_go (pc1 := 15) (L1 := [some (.ref 21), some (.ref 2), some (.int (jI x2)), some (.ref a3), some (.int (jI x4)), some (.int (jI x5)), some (.int (jI x6)), none, none]) (st1 := [.ref 21, .int (jI x6)]) (σ1 := js E A) zM_X0_putInodes dX0_putInodes_14 rfl rfl rfl rfl ?_
  refine jw_getI zM_X0_putInodes dX0_putInodes_15 zF_0_107 rfl rfl rfl ?_
  refine jw_icmp_gt (tgt := 198) zM_X0_putInodes dX0_putInodes_18 rfl r_x6 (hA 21 13) (fun q => ?_) (fun q => ?_)
  · replace h := h.1 q
    exact jw_retv zM_X0_putInodes dX0_putInodes_198 rfl hA h
  · replace h := h.2 q
    refine zw_go (pc1 := 22) (L1 := [some (.ref 21), some (.ref 2), some (.int (jI x2)), some (.ref a3), some (.int (jI x4)), some (.int (jI x5)), some (.int (jI x6)), none, none]) (st1 := [.ref 21]) (σ1 := js E A) zM_X0_putInodes dX0_putInodes_21 rfl rfl rfl rfl ?_
    refine jw_getR (a := 25) zM_X0_putInodes dX0_putInodes_22 zF_0_22 rfl rfl rfl ?_
    refine zw_go (pc1 := 27) (L1 := [some (.ref 21), some (.ref 2), some (.int (jI x2)), some (.ref a3), some (.int (jI x4)), some (.int (jI x5)), some (.int (jI x6)), none, none]) (st1 := [.int (jI x6), .ref 25]) (σ1 := js E A) zM_X0_putInodes dX0_putInodes_25 rfl rfl rfl rfl ?_
    obtain ⟨hi1, h⟩ := h
    refine jw_iald zM_X0_putInodes dX0_putInodes_27 rfl rfl hi1 ?_
    refine zw_go (pc1 := 30) (L1 := [some (.ref 21), some (.ref 2), some (.int (jI x2)), some (.ref a3), some (.int (jI x4)), some (.int (jI x5)), some (.int (jI x6)), some (.int (jI (A 25 x6))), none]) (st1 := []) (σ1 := js E A) zM_X0_putInodes dX0_putInodes_28 rfl rfl rfl rfl ?_
    refine zw_go (pc1 := 31) (L1 := [some (.ref 21), some (.ref 2), some (.int (jI x2)), some (.ref a3), some (.int (jI x4)), some (.int (jI x5)), some (.int (jI x6)), some (.int (jI (A 25 x6))), none]) (st1 := [.ref 21]) (σ1 := js E A) zM_X0_putInodes dX0_putInodes_30 rfl rfl rfl rfl ?_
    refine jw_getR (a := 31) zM_X0_putInodes dX0_putInodes_31 zF_0_40 rfl rfl rfl ?_
    refine zw_go (pc1 := 36) (L1 := [some (.ref 21), some (.ref 2), some (.int (jI x2)), some (.ref a3), some (.int (jI x4)), some (.int (jI x5)), some (.int (jI x6)), some (.int (jI (A 25 x6))), none]) (st1 := [.int (jI x6), .ref 31]) (σ1 := js E A) zM_X0_putInodes dX0_putInodes_34 rfl rfl rfl rfl ?_
    refine zw_go (pc1 := 37) (L1 := [some (.ref 21), some (.ref 2), some (.int (jI x2)), some (.ref a3), some (.int (jI x4)), some (.int (jI x5)), some (.int (jI x6)), some (.int (jI (A 25 x6))), none]) (st1 := [.ref a3, .int (jI x6), .ref 31]) (σ1 := js E A) zM_X0_putInodes dX0_putInodes_36 rfl rfl rfl rfl ?_
    refine jw_getI zM_X0_putInodes dX0_putInodes_37 zF_0_70 rfl rfl (jim.K i_a3) ?_
    refine zw_go (pc1 := 42) (L1 := [some (.ref 21), some (.ref 2), some (.int (jI x2)), some (.ref a3), some (.int (jI x4)), some (.int (jI x5)), some (.int (jI x6)), some (.int (jI (A 25 x6))), none]) (st1 := [.int (jI x4), .int (jI (A a3 1)), .int (jI x6), .ref 31]) (σ1 := js E A) zM_X0_putInodes dX0_putInodes_40 rfl rfl rfl rfl ?_
    refine jw_sub zM_X0_putInodes dX0_putInodes_42 ?_
    obtain ⟨hw2, h⟩ := h
    obtain ⟨hi3, h⟩ := h
    obtain ⟨A4, e5⟩ : ∃ z9 : jA, z9 = jup A 31 x6 ((A a3 1) - x4) := ⟨_, rfl⟩
    replace h := h A4 e5
    have hA6 : jOK A4 := jOK.up hA hw2 e5
    refine jw_iast zM_X0_putInodes dX0_putInodes_43 rfl rfl hi3 e5 ?_
    refine zw_go (pc1 := 45) (L1 := [some (.ref 21), some (.ref 2), some (.int (jI x2)), some (.ref a3), some (.int (jI x4)), some (.int (jI x5)), some (.int (jI x6)), some (.int (jI (A 25 x6))), none]) (st1 := [.ref a3]) (σ1 := js E A4) zM_X0_putInodes dX0_putInodes_44 rfl rfl rfl rfl ?_
    refine zw_go (pc1 := 46) (L1 := [some (.ref 21), some (.ref 2), some (.int (jI x2)), some (.ref a3), some (.int (jI x4)), some (.int (jI x5)), some (.int (jI x6)), some (.int (jI (A 25 x6))), none]) (st1 := [.ref 2, .ref a3]) (σ1 := js E A4) zM_X0_putInodes dX0_putInodes_45 rfl rfl rfl rfl ?_
    refine jw_getR (a := 3) zM_X0_putInodes dX0_putInodes_46 zF_0_110 rfl rfl rfl ?_
    refine zw_go (pc1 := 51) (L1 := [some (.ref 21), some (.ref 2), some (.int (jI x2)), some (.ref a3), some (.int (jI x4)), some (.int (jI x5)), some (.int (jI x6)), some (.int (jI (A 25 x6))), none]) (st1 := [.int (jI (A 25 x6)), .ref 3, .ref a3]) (σ1 := js E A4) zM_X0_putInodes dX0_putInodes_49 rfl rfl rfl rfl ?_
    obtain ⟨hi7, h⟩ := h
    refine jw_iald zM_X0_putInodes dX0_putInodes_51 rfl rfl hi7 ?_
    refine jw_callV (as := [.ref a3, .int (jI (A4 3 (A 25 x6)))]) (rest := []) zM_X0_putInodes dX0_putInodes_52 (zx_calV zC_0_126) zM_X1_putByte rfl rfl rfl rfl rfl (j_args0 (jim.K i_a3) rfl) rfl hA6 h (fun A8 hA9 h => ?_)
    refine zw_go (pc1 := 56) (L1 := [some (.ref 21), some (.ref 2), some (.int (jI x2)), some (.ref a3), some (.int (jI x4)), some (.int (jI x5)), some (.int (jI x6)), some (.int (jI (A 25 x6))), none]) (st1 := [.ref a3]) (σ1 := js E A8) zM_X0_putInodes dX0_putInodes_55 rfl rfl rfl rfl ?_
    refine zw_go (pc1 := 57) (L1 := [some (.ref 21), some (.ref 2), some (.int (jI x2)), some (.ref a3), some (.int (jI x4)), some (.int (jI x5)), some (.int (jI x6)), some (.int (jI (A 25 x6))), none]) (st1 := [.ref 2, .ref a3]) (σ1 := js E A8) zM_X0_putInodes dX0_putInodes_56 rfl rfl rfl rfl ?_
    refine jw_getR (a := 5) zM_X0_putInodes dX0_putInodes_57 zF_0_172 rfl rfl rfl ?_
    refine zw_go (pc1 := 62) (L1 := [some (.ref 21), some (.ref 2), some (.int (jI x2)), some (.ref a3), some (.int (jI x4)), some (.int (jI x5)), some (.int (jI x6)), some (.int (jI (A 25 x6))), none]) (st1 := [.int (jI (A 25 x6)), .ref 5, .ref a3]) (σ1 := js E A8) zM_X0_putInodes dX0_putInodes_60 rfl rfl rfl rfl ?_
    obtain ⟨hi10, h⟩ := h
    refine jw_iald zM_X0_putInodes dX0_putInodes_62 rfl rfl hi10 ?_
    refine jw_callV (as := [.ref a3, .int (jI (A8 5 (A 25 x6)))]) (rest := []) zM_X0_putInodes dX0_putInodes_63 (zx_calV zC_0_130) zM_X1_putWord rfl rfl rfl rfl rfl (j_args0 (jim.K i_a3) rfl) rfl hA9 h (fun A11 hA12 h => ?_)
    refine zw_go (pc1 := 67) (L1 := [some (.ref 21), some (.ref 2), some (.int (jI x2)), some (.ref a3), some (.int (jI x4)), some (.int (jI x5)), some (.int (jI x6)), some (.int (jI (A 25 x6))), none]) (st1 := [.ref a3]) (σ1 := js E A11) zM_X0_putInodes dX0_putInodes_66 rfl rfl rfl rfl ?_
    refine zw_go (pc1 := 68) (L1 := [some (.ref 21), some (.ref 2), some (.int (jI x2)), some (.ref a3), some (.int (jI x4)), some (.int (jI x5)), some (.int (jI x6)), some (.int (jI (A 25 x6))), none]) (st1 := [.ref 2, .ref a3]) (σ1 := js E A11) zM_X0_putInodes dX0_putInodes_67 rfl rfl rfl rfl ?_
    refine jw_getR (a := 4) zM_X0_putInodes dX0_putInodes_68 zF_0_175 rfl rfl rfl ?_
    refine zw_go (pc1 := 73) (L1 := [some (.ref 21), some (.ref 2), some (.int (jI x2)), some (.ref a3), some (.int (jI x4)), some (.int (jI x5)), some (.int (jI x6)), some (.int (jI (A 25 x6))), none]) (st1 := [.int (jI (A 25 x6)), .ref 4, .ref a3]) (σ1 := js E A11) zM_X0_putInodes dX0_putInodes_71 rfl rfl rfl rfl ?_
    obtain ⟨hi13, h⟩ := h
    refine jw_iald zM_X0_putInodes dX0_putInodes_73 rfl rfl hi13 ?_
    refine jw_callV (as := [.ref a3, .int (jI (A11 4 (A 25 x6)))]) (rest := []) zM_X0_putInodes dX0_putInodes_74 (zx_calV zC_0_130) zM_X1_putWord rfl rfl rfl rfl rfl (j_args0 (jim.K i_a3) rfl) rfl hA12 h (fun A14 hA15 h => ?_)
    refine zw_go (pc1 := 78) (L1 := [some (.ref 21), some (.ref 2), some (.int (jI x2)), some (.ref a3), some (.int (jI x4)), some (.int (jI x5)), some (.int (jI x6)), some (.int (jI (A 25 x6))), none]) (st1 := [.ref a3]) (σ1 := js E A14) zM_X0_putInodes dX0_putInodes_77 rfl rfl rfl rfl ?_
    refine zw_go (pc1 := 80) (L1 := [some (.ref 21), some (.ref 2), some (.int (jI x2)), some (.ref a3), some (.int (jI x4)), some (.int (jI x5)), some (.int (jI x6)), some (.int (jI (A 25 x6))), none]) (st1 := [.int (jI x6), .ref a3]) (σ1 := js E A14) zM_X0_putInodes dX0_putInodes_78 rfl rfl rfl rfl ?_
    refine jw_iconst (v := 1) zM_X0_putInodes dX0_putInodes_80 rfl ?_
    refine jw_icmp_ne (tgt := 88) zM_X0_putInodes dX0_putInodes_81 rfl r_x6 (show jW 1 from ⟨by decide, by decide⟩) (fun q => ?_) (fun q => ?_)
    · replace h := h.1 q
      refine zw_go (pc1 := 89) (L1 := [some (.ref 21), some (.ref 2), some (.int (jI x2)), some (.ref a3), some (.int (jI x4)), some (.int (jI x5)), some (.int (jI x6)), some (.int (jI (A 25 x6))), none]) (st1 := [.ref 2, .ref a3]) (σ1 := js E A14) zM_X0_putInodes dX0_putInodes_88 rfl rfl rfl rfl ?_
      refine jw_getR (a := 6) zM_X0_putInodes dX0_putInodes_89 zF_0_178 rfl rfl rfl ?_
      refine zw_go (pc1 := 94) (L1 := [some (.ref 21), some (.ref 2), some (.int (jI x2)), some (.ref a3), some (.int (jI x4)), some (.int (jI x5)), some (.int (jI x6)), some (.int (jI (A 25 x6))), none]) (st1 := [.int (jI (A 25 x6)), .ref 6, .ref a3]) (σ1 := js E A14) zM_X0_putInodes dX0_putInodes_92 rfl rfl rfl rfl ?_
      obtain ⟨hi16, h⟩ := h
      refine jw_iald zM_X0_putInodes dX0_putInodes_94 rfl rfl hi16 ?_
      exact zw_weak2 (h hA15) ⟨rfl, rfl, rfl, rfl, rfl, rfl, rfl, rfl, trivial⟩
    · replace h := h.2 q
      refine jw_iconst (v := 1) zM_X0_putInodes dX0_putInodes_84 rfl ?_
      refine zw_goto (tgt := 95) zM_X0_putInodes dX0_putInodes_85 rfl ?_
      exact zw_weak2 (h hA15) ⟨rfl, rfl, rfl, rfl, rfl, rfl, rfl, rfl, trivial⟩
set_option maxHeartbeats 4000000 in
set_option maxRecDepth 100000 in
theorem vd_X0_putInodes_95 (x2 : Int) (r_x2 : jW x2) (a3 : Nat) (i_a3 : jim a3) (x4 : Int) (r_x4 : jW x4) (x5 : Int) (r_x5 : jW x5) (x6 : Int) (r_x6 : jW x6) (x7 : Int) (r_x7 : jW x7) (y0 : Int) (r_y0 : jW y0) (c1 : Nat) (i_c1 : jim c1) (E : jE) (A : jA) (K : jA → Prop) (h : jrV 38 0 [some (.ref c1), some (.int (jI y0))] [] E A (fun A1 => (0 ≤ x7 ∧ x7 < 32) ∧ ((¬ (A1 3 x7) = (1 : Int) → (0 ≤ x7 ∧ x7 < 32) ∧ ((¬ (A1 3 x7) = (2 : Int) → jrV 16 192 [some (.ref 21), some (.ref 2), some (.int (jI x2)), some (.ref a3), some (.int (jI x4)), some (.int (jI x5)), some (.int (jI x6)), none, none] [] E A1 K) ∧ ((A1 3 x7) = (2 : Int) → (0 ≤ x7 ∧ x7 < 32) ∧ jrV 13 0 [some (.ref 21), some (.int (jI x6)), some (.int (jI (A1 8 x7))), some (.int (jI x2)), some (.ref a3), none, none, none] [] E A1 (fun A6 => jrV 16 192 [some (.ref 21), some (.ref 2), some (.int (jI x2)), some (.ref a3), some (.int (jI x4)), some (.int (jI x5)), some (.int (jI x6)), none, none] [] E A6 K)))) ∧ ((A1 3 x7) = (1 : Int) → jrI 100 0 [some (.ref 2), some (.int (jI (x7 + 1)))] [] E A1 (fun v10 A8 => jrI 100 0 [some (.ref 2), some (.int (jI x7))] [] E A8 (fun v14 A12 => jrV 40 0 [some (.ref a3), some (.int (jI x5))] [] E A12 (fun A16 => jrV 40 0 [some (.ref a3), some (.int (jI (v10 - v14)))] [] E A16 (fun A18 => (0 ≤ x7 ∧ x7 < 32) ∧ (0 ≤ (A18 7 x7) ∧ (A18 7 x7) < 32) ∧ jrV 40 0 [some (.ref a3), some (.int (jI (A18 24 (A18 7 x7))))] [] E A18 (fun A22 => jrV 16 192 [some (.ref 21), some (.ref 2), some (.int (jI x2)), some (.ref a3), some (.int (jI x4)), some (.int (jI (x5 + (4 * (v10 - v14))))), some (.int (jI x6)), none, none] [] E A22 K))))))))) : jrV 16 95 [some (.ref 21), some (.ref 2), some (.int (jI x2)), some (.ref a3), some (.int (jI x4)), some (.int (jI x5)), some (.int (jI x6)), some (.int (jI x7)), none] [.int (jI y0), .ref c1] E A K := by
  intro hA
  refine jw_callV (as := [.ref c1, .int (jI y0)]) (rest := []) zM_X0_putInodes dX0_putInodes_95 (zx_calV zC_0_126) zM_X1_putByte rfl rfl rfl rfl rfl (j_args0 (jim.K i_c1) rfl) rfl hA h (fun A1 hA2 h => ?_)
  refine zw_go (pc1 := 99) (L1 := [some (.ref 21), some (.ref 2), some (.int (jI x2)), some (.ref a3), some (.int (jI x4)), some (.int (jI x5)), some (.int (jI x6)), some (.int (jI x7)), none]) (st1 := [.ref 2]) (σ1 := js E A1) zM_X0_putInodes dX0_putInodes_98 rfl rfl rfl rfl ?_
  refine jw_getR (a := 3) zM_X0_putInodes dX0_putInodes_99 zF_0_110 rfl rfl rfl ?_
  refine zw_go (pc1 := 104) (L1 := [some (.ref 21), some (.ref 2), some (.int (jI x2)), some (.ref a3), some (.int (jI x4)), some (.int (jI x5)), some (.int (jI x6)), some (.int (jI x7)), none]) (st1 := [.int (jI x7), .ref 3]) (σ1 := js E A1) zM_X0_putInodes dX0_putInodes_102 rfl rfl rfl rfl ?_
  obtain ⟨hi3, h⟩ := h
  refine jw_iald zM_X0_putInodes dX0_putInodes_104 rfl rfl hi3 ?_
  refine jw_iconst (v := 1) zM_X0_putInodes dX0_putInodes_105 rfl ?_
  refine jw_icmp_ne (tgt := 166) zM_X0_putInodes dX0_putInodes_106 rfl (hA2 3 x7) (show jW 1 from ⟨by decide, by decide⟩) (fun q => ?_) (fun q => ?_)
  · replace h := h.1 q
    refine zw_go (pc1 := 167) (L1 := [some (.ref 21), some (.ref 2), some (.int (jI x2)), some (.ref a3), some (.int (jI x4)), some (.int (jI x5)), some (.int (jI x6)), some (.int (jI x7)), none]) (st1 := [.ref 2]) (σ1 := js E A1) zM_X0_putInodes dX0_putInodes_166 rfl rfl rfl rfl ?_
    refine jw_getR (a := 3) zM_X0_putInodes dX0_putInodes_167 zF_0_110 rfl rfl rfl ?_
    refine zw_go (pc1 := 172) (L1 := [some (.ref 21), some (.ref 2), some (.int (jI x2)), some (.ref a3), some (.int (jI x4)), some (.int (jI x5)), some (.int (jI x6)), some (.int (jI x7)), none]) (st1 := [.int (jI x7), .ref 3]) (σ1 := js E A1) zM_X0_putInodes dX0_putInodes_170 rfl rfl rfl rfl ?_
    obtain ⟨hi4, h⟩ := h
    refine jw_iald zM_X0_putInodes dX0_putInodes_172 rfl rfl hi4 ?_
    refine jw_iconst (v := 2) zM_X0_putInodes dX0_putInodes_173 rfl ?_
    refine jw_icmp_ne (tgt := 192) zM_X0_putInodes dX0_putInodes_174 rfl (hA2 3 x7) (show jW 2 from ⟨by decide, by decide⟩) (fun q => ?_) (fun q => ?_)
    · replace h := h.1 q
      exact zw_weak2 (h hA2) ⟨rfl, rfl, rfl, rfl, rfl, rfl, rfl, trivial⟩
    · replace h := h.2 q
      refine zw_go (pc1 := 178) (L1 := [some (.ref 21), some (.ref 2), some (.int (jI x2)), some (.ref a3), some (.int (jI x4)), some (.int (jI x5)), some (.int (jI x6)), some (.int (jI x7)), none]) (st1 := [.ref 21]) (σ1 := js E A1) zM_X0_putInodes dX0_putInodes_177 rfl rfl rfl rfl ?_
      refine zw_go (pc1 := 180) (L1 := [some (.ref 21), some (.ref 2), some (.int (jI x2)), some (.ref a3), some (.int (jI x4)), some (.int (jI x5)), some (.int (jI x6)), some (.int (jI x7)), none]) (st1 := [.int (jI x6), .ref 21]) (σ1 := js E A1) zM_X0_putInodes dX0_putInodes_178 rfl rfl rfl rfl ?_
      refine zw_go (pc1 := 181) (L1 := [some (.ref 21), some (.ref 2), some (.int (jI x2)), some (.ref a3), some (.int (jI x4)), some (.int (jI x5)), some (.int (jI x6)), some (.int (jI x7)), none]) (st1 := [.ref 2, .int (jI x6), .ref 21]) (σ1 := js E A1) zM_X0_putInodes dX0_putInodes_180 rfl rfl rfl rfl ?_
      refine jw_getR (a := 8) zM_X0_putInodes dX0_putInodes_181 zF_0_141 rfl rfl rfl ?_
      refine zw_go (pc1 := 186) (L1 := [some (.ref 21), some (.ref 2), some (.int (jI x2)), some (.ref a3), some (.int (jI x4)), some (.int (jI x5)), some (.int (jI x6)), some (.int (jI x7)), none]) (st1 := [.int (jI x7), .ref 8, .int (jI x6), .ref 21]) (σ1 := js E A1) zM_X0_putInodes dX0_putInodes_184 rfl rfl rfl rfl ?_
      obtain ⟨hi5, h⟩ := h
      refine jw_iald zM_X0_putInodes dX0_putInodes_186 rfl rfl hi5 ?_
      refine zw_go (pc1 := 188) (L1 := [some (.ref 21), some (.ref 2), some (.int (jI x2)), some (.ref a3), some (.int (jI x4)), some (.int (jI x5)), some (.int (jI x6)), some (.int (jI x7)), none]) (st1 := [.int (jI x2), .int (jI (A1 8 x7)), .int (jI x6), .ref 21]) (σ1 := js E A1) zM_X0_putInodes dX0_putInodes_187 rfl rfl rfl rfl ?_
      refine zw_go (pc1 := 189) (L1 := [some (.ref 21), some (.ref 2), some (.int (jI x2)), some (.ref a3), some (.int (jI x4)), some (.int (jI x5)), some (.int (jI x6)), some (.int (jI x7)), none]) (st1 := [.ref a3, .int (jI x2), .int (jI (A1 8 x7)), .int (jI x6), .ref 21]) (σ1 := js E A1) zM_X0_putInodes dX0_putInodes_188 rfl rfl rfl rfl ?_
      refine jw_callV (as := [.ref 21, .int (jI x6), .int (jI (A1 8 x7)), .int (jI x2), .ref a3]) (rest := []) zM_X0_putInodes dX0_putInodes_189 (zx_calV zC_0_184) zM_X0_putFileRow rfl rfl rfl rfl rfl (j_args0 rfl rfl) rfl hA2 h (fun A6 hA7 h => ?_)
      exact zw_weak2 (h hA7) ⟨rfl, rfl, rfl, rfl, rfl, rfl, rfl, trivial⟩
  · replace h := h.2 q
    refine zw_go (pc1 := 110) (L1 := [some (.ref 21), some (.ref 2), some (.int (jI x2)), some (.ref a3), some (.int (jI x4)), some (.int (jI x5)), some (.int (jI x6)), some (.int (jI x7)), none]) (st1 := [.ref 2]) (σ1 := js E A1) zM_X0_putInodes dX0_putInodes_109 rfl rfl rfl rfl ?_
    refine zw_go (pc1 := 112) (L1 := [some (.ref 21), some (.ref 2), some (.int (jI x2)), some (.ref a3), some (.int (jI x4)), some (.int (jI x5)), some (.int (jI x6)), some (.int (jI x7)), none]) (st1 := [.int (jI x7), .ref 2]) (σ1 := js E A1) zM_X0_putInodes dX0_putInodes_110 rfl rfl rfl rfl ?_
    refine jw_iconst (v := 1) zM_X0_putInodes dX0_putInodes_112 rfl ?_
    refine jw_add zM_X0_putInodes dX0_putInodes_113 ?_
    refine jw_callI (as := [.ref 2, .int (jI (x7 + 1))]) (rest := []) zM_X0_putInodes dX0_putInodes_114 (zx_calV zC_0_119) zM_X5_firstNameOf rfl rfl rfl rfl rfl (j_args0 rfl rfl) rfl hA2 h (fun v10 A8 rv11 hA9 h => ?_)
    refine zw_go (pc1 := 118) (L1 := [some (.ref 21), some (.ref 2), some (.int (jI x2)), some (.ref a3), some (.int (jI x4)), some (.int (jI x5)), some (.int (jI x6)), some (.int (jI x7)), none]) (st1 := [.ref 2, .int (jI v10)]) (σ1 := js E A8) zM_X0_putInodes dX0_putInodes_117 rfl rfl rfl rfl ?_
    refine zw_go (pc1 := 120) (L1 := [some (.ref 21), some (.ref 2), some (.int (jI x2)), some (.ref a3), some (.int (jI x4)), some (.int (jI x5)), some (.int (jI x6)), some (.int (jI x7)), none]) (st1 := [.int (jI x7), .ref 2, .int (jI v10)]) (σ1 := js E A8) zM_X0_putInodes dX0_putInodes_118 rfl rfl rfl rfl ?_
    refine jw_callI (as := [.ref 2, .int (jI x7)]) (rest := [.int (jI v10)]) zM_X0_putInodes dX0_putInodes_120 (zx_calV zC_0_119) zM_X5_firstNameOf rfl rfl rfl rfl rfl (j_args0 rfl rfl) rfl hA9 h (fun v14 A12 rv15 hA13 h => ?_)
    refine jw_sub zM_X0_putInodes dX0_putInodes_123 ?_
    refine zw_go (pc1 := 126) (L1 := [some (.ref 21), some (.ref 2), some (.int (jI x2)), some (.ref a3), some (.int (jI x4)), some (.int (jI x5)), some (.int (jI x6)), some (.int (jI x7)), some (.int (jI (v10 - v14)))]) (st1 := []) (σ1 := js E A12) zM_X0_putInodes dX0_putInodes_124 rfl rfl rfl rfl ?_
    refine zw_go (pc1 := 127) (L1 := [some (.ref 21), some (.ref 2), some (.int (jI x2)), some (.ref a3), some (.int (jI x4)), some (.int (jI x5)), some (.int (jI x6)), some (.int (jI x7)), some (.int (jI (v10 - v14)))]) (st1 := [.ref a3]) (σ1 := js E A12) zM_X0_putInodes dX0_putInodes_126 rfl rfl rfl rfl ?_
    refine zw_go (pc1 := 129) (L1 := [some (.ref 21), some (.ref 2), some (.int (jI x2)), some (.ref a3), some (.int (jI x4)), some (.int (jI x5)), some (.int (jI x6)), some (.int (jI x7)), some (.int (jI (v10 - v14)))]) (st1 := [.int (jI x5), .ref a3]) (σ1 := js E A12) zM_X0_putInodes dX0_putInodes_127 rfl rfl rfl rfl ?_
    refine jw_callV (as := [.ref a3, .int (jI x5)]) (rest := []) zM_X0_putInodes dX0_putInodes_129 (zx_calV zC_0_130) zM_X1_putWord rfl rfl rfl rfl rfl (j_args0 (jim.K i_a3) rfl) rfl hA13 h (fun A16 hA17 h => ?_)
    refine zw_go (pc1 := 133) (L1 := [some (.ref 21), some (.ref 2), some (.int (jI x2)), some (.ref a3), some (.int (jI x4)), some (.int (jI x5)), some (.int (jI x6)), some (.int (jI x7)), some (.int (jI (v10 - v14)))]) (st1 := [.ref a3]) (σ1 := js E A16) zM_X0_putInodes dX0_putInodes_132 rfl rfl rfl rfl ?_
    refine zw_go (pc1 := 135) (L1 := [some (.ref 21), some (.ref 2), some (.int (jI x2)), some (.ref a3), some (.int (jI x4)), some (.int (jI x5)), some (.int (jI x6)), some (.int (jI x7)), some (.int (jI (v10 - v14)))]) (st1 := [.int (jI (v10 - v14)), .ref a3]) (σ1 := js E A16) zM_X0_putInodes dX0_putInodes_133 rfl rfl rfl rfl ?_
    refine jw_callV (as := [.ref a3, .int (jI (v10 - v14))]) (rest := []) zM_X0_putInodes dX0_putInodes_135 (zx_calV zC_0_130) zM_X1_putWord rfl rfl rfl rfl rfl (j_args0 (jim.K i_a3) rfl) rfl hA17 h (fun A18 hA19 h => ?_)
    refine zw_go (pc1 := 139) (L1 := [some (.ref 21), some (.ref 2), some (.int (jI x2)), some (.ref a3), some (.int (jI x4)), some (.int (jI x5)), some (.int (jI x6)), some (.int (jI x7)), some (.int (jI (v10 - v14)))]) (st1 := [.ref a3]) (σ1 := js E A18) zM_X0_putInodes dX0_putInodes_138 rfl rfl rfl rfl ?_
    refine zw_go (pc1 := 140) (L1 := [some (.ref 21), some (.ref 2), some (.int (jI x2)), some (.ref a3), some (.int (jI x4)), some (.int (jI x5)), some (.int (jI x6)), some (.int (jI x7)), some (.int (jI (v10 - v14)))]) (st1 := [.ref 21, .ref a3]) (σ1 := js E A18) zM_X0_putInodes dX0_putInodes_139 rfl rfl rfl rfl ?_
    refine jw_getR (a := 24) zM_X0_putInodes dX0_putInodes_140 zF_0_18 rfl rfl rfl ?_
    refine zw_go (pc1 := 144) (L1 := [some (.ref 21), some (.ref 2), some (.int (jI x2)), some (.ref a3), some (.int (jI x4)), some (.int (jI x5)), some (.int (jI x6)), some (.int (jI x7)), some (.int (jI (v10 - v14)))]) (st1 := [.ref 2, .ref 24, .ref a3]) (σ1 := js E A18) zM_X0_putInodes dX0_putInodes_143 rfl rfl rfl rfl ?_
    refine jw_getR (a := 7) zM_X0_putInodes dX0_putInodes_144 zF_0_181 rfl rfl rfl ?_
    refine zw_go (pc1 := 149) (L1 := [some (.ref 21), some (.ref 2), some (.int (jI x2)), some (.ref a3), some (.int (jI x4)), some (.int (jI x5)), some (.int (jI x6)), some (.int (jI x7)), some (.int (jI (v10 - v14)))]) (st1 := [.int (jI x7), .ref 7, .ref 24, .ref a3]) (σ1 := js E A18) zM_X0_putInodes dX0_putInodes_147 rfl rfl rfl rfl ?_
    obtain ⟨hi20, h⟩ := h
    refine jw_iald zM_X0_putInodes dX0_putInodes_149 rfl rfl hi20 ?_
    obtain ⟨hi21, h⟩ := h
    refine jw_iald zM_X0_putInodes dX0_putInodes_150 rfl rfl hi21 ?_
    refine jw_callV (as := [.ref a3, .int (jI (A18 24 (A18 7 x7)))]) (rest := []) zM_X0_putInodes dX0_putInodes_151 (zx_calV zC_0_130) zM_X1_putWord rfl rfl rfl rfl rfl (j_args0 (jim.K i_a3) rfl) rfl hA19 h (fun A22 hA23 h => ?_)
    refine zw_go (pc1 := 156) (L1 := [some (.ref 21), some (.ref 2), some (.int (jI x2)), some (.ref a3), some (.int (jI x4)), some (.int (jI x5)), some (.int (jI x6)), some (.int (jI x7)), some (.int (jI (v10 - v14)))]) (st1 := [.int (jI x5)]) (σ1 := js E A22) zM_X0_putInodes dX0_putInodes_154 rfl rfl rfl rfl ?_
    refine jw_iconst (v := 4) zM_X0_putInodes dX0_putInodes_156 rfl ?_
    refine zw_go (pc1 := 159) (L1 := [some (.ref 21), some (.ref 2), some (.int (jI x2)), some (.ref a3), some (.int (jI x4)), some (.int (jI x5)), some (.int (jI x6)), some (.int (jI x7)), some (.int (jI (v10 - v14)))]) (st1 := [.int (jI (v10 - v14)), .int (jI 4), .int (jI x5)]) (σ1 := js E A22) zM_X0_putInodes dX0_putInodes_157 rfl rfl rfl rfl ?_
    refine jw_mul zM_X0_putInodes dX0_putInodes_159 ?_
    refine jw_add zM_X0_putInodes dX0_putInodes_160 ?_
    refine zw_go (pc1 := 163) (L1 := [some (.ref 21), some (.ref 2), some (.int (jI x2)), some (.ref a3), some (.int (jI x4)), some (.int (jI (x5 + (4 * (v10 - v14))))), some (.int (jI x6)), some (.int (jI x7)), some (.int (jI (v10 - v14)))]) (st1 := []) (σ1 := js E A22) zM_X0_putInodes dX0_putInodes_161 rfl rfl rfl rfl ?_
    refine zw_goto (tgt := 192) zM_X0_putInodes dX0_putInodes_163 rfl ?_
    exact zw_weak2 (h hA23) ⟨rfl, rfl, rfl, rfl, rfl, rfl, rfl, trivial⟩
set_option maxHeartbeats 4000000 in
set_option maxRecDepth 100000 in
theorem vd_X0_putInodes_192 (x2 : Int) (r_x2 : jW x2) (a3 : Nat) (i_a3 : jim a3) (x4 : Int) (r_x4 : jW x4) (x5 : Int) (r_x5 : jW x5) (x6 : Int) (r_x6 : jW x6) (E : jE) (A : jA) (K : jA → Prop) (h : jrV 16 12 [some (.ref 21), some (.ref 2), some (.int (jI x2)), some (.ref a3), some (.int (jI x4)), some (.int (jI x5)), some (.int (jI (x6 + 1))), none, none] [] E A K) : jrV 16 192 [some (.ref 21), some (.ref 2), some (.int (jI x2)), some (.ref a3), some (.int (jI x4)), some (.int (jI x5)), some (.int (jI x6)), none, none] [] E A K := by
  intro hA
  refine jw_iinc (x := x6) (L1 := [some (.ref 21), some (.ref 2), some (.int (jI x2)), some (.ref a3), some (.int (jI x4)), some (.int (jI x5)), some (.int (jI (x6 + 1))), none, none]) zM_X0_putInodes dX0_putInodes_192 rfl (show 6 < 9 by decide) rfl ?_
  refine zw_goto (tgt := 12) zM_X0_putInodes dX0_putInodes_195 rfl ?_
  exact zw_weak2 (h hA) ⟨rfl, rfl, rfl, rfl, rfl, rfl, rfl, trivial⟩
set_option maxHeartbeats 4000000 in
set_option maxRecDepth 100000 in
theorem vd_X0_putTailBlocks_0 (x2 : Int) (r_x2 : jW x2) (a3 : Nat) (i_a3 : jim a3) (E : jE) (A : jA) (K : jA → Prop) (h : ∀ A1 : jA, A1 = jup A 21 14 0 → ∀ A4 : jA, A4 = jup A1 21 15 0 → jrV 17 13 [some (.ref 21), some (.ref 2), some (.int (jI x2)), some (.ref a3), some (.int (jI 1)), none, none] [] E A4 K) : jrV 17 0 [some (.ref 21), some (.ref 2), some (.int (jI x2)), some (.ref a3), none, none, none] [] E A K := by
  intro hA
  refine zw_go (pc1 := 1) (L1 := [some (.ref 21), some (.ref 2), some (.int (jI x2)), some (.ref a3), none, none, none]) (st1 := [.ref 21]) (σ1 := js E A) zM_X0_putTailBlocks dX0_putTailBlocks_0 rfl rfl rfl rfl ?_
  refine jw_iconst (v := 0) zM_X0_putTailBlocks dX0_putTailBlocks_1 rfl ?_
  obtain ⟨A1, e2⟩ : ∃ z9 : jA, z9 = jup A 21 14 0 := ⟨_, rfl⟩
  replace h := h A1 e2
  have hA3 : jOK A1 := jOK.up hA (show jW 0 from ⟨by decide, by decide⟩) e2
  refine jw_putI zM_X0_putTailBlocks dX0_putTailBlocks_2 zF_0_159 rfl rfl rfl rfl e2 ?_
  refine zw_go (pc1 := 6) (L1 := [some (.ref 21), some (.ref 2), some (.int (jI x2)), some (.ref a3), none, none, none]) (st1 := [.ref 21]) (σ1 := js E A1) zM_X0_putTailBlocks dX0_putTailBlocks_5 rfl rfl rfl rfl ?_
  refine jw_iconst (v := 0) zM_X0_putTailBlocks dX0_putTailBlocks_6 rfl ?_
  obtain ⟨A4, e5⟩ : ∃ z9 : jA, z9 = jup A1 21 15 0 := ⟨_, rfl⟩
  replace h := h A4 e5
  have hA6 : jOK A4 := jOK.up hA3 (show jW 0 from ⟨by decide, by decide⟩) e5
  refine jw_putI zM_X0_putTailBlocks dX0_putTailBlocks_7 zF_0_162 rfl rfl rfl rfl e5 ?_
  refine jw_iconst (v := 1) zM_X0_putTailBlocks dX0_putTailBlocks_10 rfl ?_
  refine zw_go (pc1 := 13) (L1 := [some (.ref 21), some (.ref 2), some (.int (jI x2)), some (.ref a3), some (.int (jI 1)), none, none]) (st1 := []) (σ1 := js E A4) zM_X0_putTailBlocks dX0_putTailBlocks_11 rfl rfl rfl rfl ?_
  exact zw_weak2 (h hA6) ⟨rfl, rfl, rfl, rfl, rfl, trivial⟩
set_option maxHeartbeats 4000000 in
set_option maxRecDepth 100000 in
theorem vd_X0_putTailBlocks_13 (x2 : Int) (r_x2 : jW x2) (a3 : Nat) (i_a3 : jim a3) (x4 : Int) (r_x4 : jW x4) (E : jE) (A : jA) (K : jA → Prop) (h : (((A 21 13) < x4 → (((A 21 15) ≤ (0 : Int) → K A) ∧ ((0 : Int) < (A 21 15) → jrV 4 0 [some (.ref 21), some (.ref a3)] [] E A (fun A1 => K A1)))) ∧ (x4 ≤ (A 21 13) → (0 ≤ x4 ∧ x4 < 33) ∧ (0 ≤ x4 ∧ x4 < 33) ∧ ∀ A5 : jA, A5 = jup A 29 x4 0 → (0 ≤ x4 ∧ x4 < 33) ∧ ∀ A9 : jA, A9 = jup A5 30 x4 0 → (0 ≤ (A 25 x4) ∧ (A 25 x4) < 32) ∧ ((¬ (A9 3 (A 25 x4)) = (2 : Int) → jrV 17 116 [some (.ref 21), some (.ref 2), some (.int (jI x2)), some (.ref a3), some (.int (jI x4)), none, none] [] E A9 K) ∧ ((A9 3 (A 25 x4)) = (2 : Int) → (0 ≤ x4 ∧ x4 < 33) ∧ ((¬ (A9 26 x4) = (0 : Int) → jrV 17 116 [some (.ref 21), some (.ref 2), some (.int (jI x2)), some (.ref a3), some (.int (jI x4)), none, none] [] E A9 K) ∧ ((A9 26 x4) = (0 : Int) → (0 ≤ (A 25 x4) ∧ (A 25 x4) < 32) ∧ (0 ≤ (A 25 x4) ∧ (A 25 x4) < 32) ∧ jrI 19 0 [some (.int (jI (A9 8 (A 25 x4)))), some (.int (jI x2))] [] E A9 (fun v18 A16 => jW ((A16 21 15) + ((A9 8 (A 25 x4)) - (v18 * x2))) ∧ ((((A16 21 15) + ((A9 8 (A 25 x4)) - (v18 * x2))) ≤ x2 → jrV 17 107 [some (.ref 21), some (.ref 2), some (.int (jI x2)), some (.ref a3), some (.int (jI x4)), none, some (.int (jI ((A9 8 (A 25 x4)) - (v18 * x2))))] [] E A16 K) ∧ (x2 < ((A16 21 15) + ((A9 8 (A 25 x4)) - (v18 * x2))) → jrV 4 0 [some (.ref 21), some (.ref a3)] [] E A16 (fun A21 => jrV 17 107 [some (.ref 21), some (.ref 2), some (.int (jI x2)), some (.ref a3), some (.int (jI x4)), none, some (.int (jI ((A9 8 (A 25 x4)) - (v18 * x2))))] [] E A21 K))))))))))) : jrV 17 13 [some (.ref 21), some (.ref 2), some (.int (jI x2)), some (.ref a3), some (.int (jI x4)), none, none] [] E A K := by
  intro hA
  refine zw_go (pc1 := 15) (L1 := [some (.ref 21), some (.ref 2), some (.int (jI x2)), some (.ref a3), some (.int (jI x4)), none, none]) (st1 := [.int (jI x4)]) (σ1 := js E A) zM_X0_putTailBlocks dX0_putTailBlocks_13 rfl rfl rfl rfl ?_
  refine zw_go (pc1 := 16) (L1 := [some (.ref 21), some (.ref 2), some (.int (jI x2)), some (.ref a3), some (.int (jI x4)), none, none]) (st1 := [.ref 21, .int (jI x4)]) (σ1 := js E A) zM_X0_putTailBlocks dX0_putTailBlocks_15 rfl rfl rfl rfl ?_
  refine jw_getI zM_X0_putTailBlocks dX0_putTailBlocks_16 zF_0_107 rfl rfl rfl ?_
  refine jw_icmp_gt (tgt := 122) zM_X0_putTailBlocks dX0_putTailBlocks_19 rfl r_x4 (hA 21 13) (fun q => ?_) (fun q => ?_)
  · replace h := h.1 q
    refine zw_go (pc1 := 123) (L1 := [some (.ref 21), some (.ref 2), some (.int (jI x2)), some (.ref a3), some (.int (jI x4)), none, none]) (st1 := [.ref 21]) (σ1 := js E A) zM_X0_putTailBlocks dX0_putTailBlocks_122 rfl rfl rfl rfl ?_
    refine jw_getI zM_X0_putTailBlocks dX0_putTailBlocks_123 zF_0_162 rfl rfl rfl ?_
    refine jw_if_le (tgt := 134) zM_X0_putTailBlocks dX0_putTailBlocks_126 rfl (hA 21 15) (fun q => ?_) (fun q => ?_)
    · replace h := h.1 q
      exact jw_retv zM_X0_putTailBlocks dX0_putTailBlocks_134 rfl hA h
    · replace h := h.2 q
      refine zw_go (pc1 := 130) (L1 := [some (.ref 21), some (.ref 2), some (.int (jI x2)), some (.ref a3), some (.int (jI x4)), none, none]) (st1 := [.ref 21]) (σ1 := js E A) zM_X0_putTailBlocks dX0_putTailBlocks_129 rfl rfl rfl rfl ?_
      refine zw_go (pc1 := 131) (L1 := [some (.ref 21), some (.ref 2), some (.int (jI x2)), some (.ref a3), some (.int (jI x4)), none, none]) (st1 := [.ref a3, .ref 21]) (σ1 := js E A) zM_X0_putTailBlocks dX0_putTailBlocks_130 rfl rfl rfl rfl ?_
      refine jw_callV (as := [.ref 21, .ref a3]) (rest := []) zM_X0_putTailBlocks dX0_putTailBlocks_131 (zx_calV zC_0_165) zM_X0_closeTailBlock rfl rfl rfl rfl rfl (j_args0 rfl rfl) rfl hA h (fun A1 hA2 h => ?_)
      exact jw_retv zM_X0_putTailBlocks dX0_putTailBlocks_134 rfl hA2 h
  · replace h := h.2 q
    refine zw_go (pc1 := 23) (L1 := [some (.ref 21), some (.ref 2), some (.int (jI x2)), some (.ref a3), some (.int (jI x4)), none, none]) (st1 := [.ref 21]) (σ1 := js E A) zM_X0_putTailBlocks dX0_putTailBlocks_22 rfl rfl rfl rfl ?_
    refine jw_getR (a := 25) zM_X0_putTailBlocks dX0_putTailBlocks_23 zF_0_22 rfl rfl rfl ?_
    refine zw_go (pc1 := 28) (L1 := [some (.ref 21), some (.ref 2), some (.int (jI x2)), some (.ref a3), some (.int (jI x4)), none, none]) (st1 := [.int (jI x4), .ref 25]) (σ1 := js E A) zM_X0_putTailBlocks dX0_putTailBlocks_26 rfl rfl rfl rfl ?_
    obtain ⟨hi3, h⟩ := h
    refine jw_iald zM_X0_putTailBlocks dX0_putTailBlocks_28 rfl rfl hi3 ?_
    refine zw_go (pc1 := 31) (L1 := [some (.ref 21), some (.ref 2), some (.int (jI x2)), some (.ref a3), some (.int (jI x4)), some (.int (jI (A 25 x4))), none]) (st1 := []) (σ1 := js E A) zM_X0_putTailBlocks dX0_putTailBlocks_29 rfl rfl rfl rfl ?_
    refine zw_go (pc1 := 32) (L1 := [some (.ref 21), some (.ref 2), some (.int (jI x2)), some (.ref a3), some (.int (jI x4)), some (.int (jI (A 25 x4))), none]) (st1 := [.ref 21]) (σ1 := js E A) zM_X0_putTailBlocks dX0_putTailBlocks_31 rfl rfl rfl rfl ?_
    refine jw_getR (a := 29) zM_X0_putTailBlocks dX0_putTailBlocks_32 zF_0_34 rfl rfl rfl ?_
    refine zw_go (pc1 := 37) (L1 := [some (.ref 21), some (.ref 2), some (.int (jI x2)), some (.ref a3), some (.int (jI x4)), some (.int (jI (A 25 x4))), none]) (st1 := [.int (jI x4), .ref 29]) (σ1 := js E A) zM_X0_putTailBlocks dX0_putTailBlocks_35 rfl rfl rfl rfl ?_
    refine jw_iconst (v := 0) zM_X0_putTailBlocks dX0_putTailBlocks_37 rfl ?_
    obtain ⟨hi4, h⟩ := h
    obtain ⟨A5, e6⟩ : ∃ z9 : jA, z9 = jup A 29 x4 0 := ⟨_, rfl⟩
    replace h := h A5 e6
    have hA7 : jOK A5 := jOK.up hA (show jW 0 from ⟨by decide, by decide⟩) e6
    refine jw_iast zM_X0_putTailBlocks dX0_putTailBlocks_38 rfl rfl hi4 e6 ?_
    refine zw_go (pc1 := 40) (L1 := [some (.ref 21), some (.ref 2), some (.int (jI x2)), some (.ref a3), some (.int (jI x4)), some (.int (jI (A 25 x4))), none]) (st1 := [.ref 21]) (σ1 := js E A5) zM_X0_putTailBlocks dX0_putTailBlocks_39 rfl rfl rfl rfl ?_
    refine jw_getR (a := 30) zM_X0_putTailBlocks dX0_putTailBlocks_40 zF_0_37 rfl rfl rfl ?_
    refine zw_go (pc1 := 45) (L1 := [some (.ref 21), some (.ref 2), some (.int (jI x2)), some (.ref a3), some (.int (jI x4)), some (.int (jI (A 25 x4))), none]) (st1 := [.int (jI x4), .ref 30]) (σ1 := js E A5) zM_X0_putTailBlocks dX0_putTailBlocks_43 rfl rfl rfl rfl ?_
    refine jw_iconst (v := 0) zM_X0_putTailBlocks dX0_putTailBlocks_45 rfl ?_
    obtain ⟨hi8, h⟩ := h
    obtain ⟨A9, e10⟩ : ∃ z9 : jA, z9 = jup A5 30 x4 0 := ⟨_, rfl⟩
    replace h := h A9 e10
    have hA11 : jOK A9 := jOK.up hA7 (show jW 0 from ⟨by decide, by decide⟩) e10
    refine jw_iast zM_X0_putTailBlocks dX0_putTailBlocks_46 rfl rfl hi8 e10 ?_
    refine zw_go (pc1 := 48) (L1 := [some (.ref 21), some (.ref 2), some (.int (jI x2)), some (.ref a3), some (.int (jI x4)), some (.int (jI (A 25 x4))), none]) (st1 := [.ref 2]) (σ1 := js E A9) zM_X0_putTailBlocks dX0_putTailBlocks_47 rfl rfl rfl rfl ?_
    refine jw_getR (a := 3) zM_X0_putTailBlocks dX0_putTailBlocks_48 zF_0_110 rfl rfl rfl ?_
    refine zw_go (pc1 := 53) (L1 := [some (.ref 21), some (.ref 2), some (.int (jI x2)), some (.ref a3), some (.int (jI x4)), some (.int (jI (A 25 x4))), none]) (st1 := [.int (jI (A 25 x4)), .ref 3]) (σ1 := js E A9) zM_X0_putTailBlocks dX0_putTailBlocks_51 rfl rfl rfl rfl ?_
    obtain ⟨hi12, h⟩ := h
    refine jw_iald zM_X0_putTailBlocks dX0_putTailBlocks_53 rfl rfl hi12 ?_
    refine jw_iconst (v := 2) zM_X0_putTailBlocks dX0_putTailBlocks_54 rfl ?_
    refine jw_icmp_ne (tgt := 116) zM_X0_putTailBlocks dX0_putTailBlocks_55 rfl (hA11 3 (A 25 x4)) (show jW 2 from ⟨by decide, by decide⟩) (fun q => ?_) (fun q => ?_)
    · replace h := h.1 q
      exact zw_weak2 (h hA11) ⟨rfl, rfl, rfl, rfl, rfl, trivial⟩
    · replace h := h.2 q
      refine zw_go (pc1 := 59) (L1 := [some (.ref 21), some (.ref 2), some (.int (jI x2)), some (.ref a3), some (.int (jI x4)), some (.int (jI (A 25 x4))), none]) (st1 := [.ref 21]) (σ1 := js E A9) zM_X0_putTailBlocks dX0_putTailBlocks_58 rfl rfl rfl rfl ?_
      refine jw_getR (a := 26) zM_X0_putTailBlocks dX0_putTailBlocks_59 zF_0_25 rfl rfl rfl ?_
      refine zw_go (pc1 := 64) (L1 := [some (.ref 21), some (.ref 2), some (.int (jI x2)), some (.ref a3), some (.int (jI x4)), some (.int (jI (A 25 x4))), none]) (st1 := [.int (jI x4), .ref 26]) (σ1 := js E A9) zM_X0_putTailBlocks dX0_putTailBlocks_62 rfl rfl rfl rfl ?_
      obtain ⟨hi13, h⟩ := h
      refine jw_iald zM_X0_putTailBlocks dX0_putTailBlocks_64 rfl rfl hi13 ?_
      refine jw_if_ne (tgt := 116) zM_X0_putTailBlocks dX0_putTailBlocks_65 rfl (hA11 26 x4) (fun q => ?_) (fun q => ?_)
      · replace h := h.1 q
        exact zw_weak2 (h hA11) ⟨rfl, rfl, rfl, rfl, rfl, trivial⟩
      · replace h := h.2 q
        refine zw_go (pc1 := 69) (L1 := [some (.ref 21), some (.ref 2), some (.int (jI x2)), some (.ref a3), some (.int (jI x4)), some (.int (jI (A 25 x4))), none]) (st1 := [.ref 2]) (σ1 := js E A9) zM_X0_putTailBlocks dX0_putTailBlocks_68 rfl rfl rfl rfl ?_
        refine jw_getR (a := 8) zM_X0_putTailBlocks dX0_putTailBlocks_69 zF_0_141 rfl rfl rfl ?_
        refine zw_go (pc1 := 74) (L1 := [some (.ref 21), some (.ref 2), some (.int (jI x2)), some (.ref a3), some (.int (jI x4)), some (.int (jI (A 25 x4))), none]) (st1 := [.int (jI (A 25 x4)), .ref 8]) (σ1 := js E A9) zM_X0_putTailBlocks dX0_putTailBlocks_72 rfl rfl rfl rfl ?_
        obtain ⟨hi14, h⟩ := h
        refine jw_iald zM_X0_putTailBlocks dX0_putTailBlocks_74 rfl rfl hi14 ?_
        refine zw_go (pc1 := 76) (L1 := [some (.ref 21), some (.ref 2), some (.int (jI x2)), some (.ref a3), some (.int (jI x4)), some (.int (jI (A 25 x4))), none]) (st1 := [.ref 2, .int (jI (A9 8 (A 25 x4)))]) (σ1 := js E A9) zM_X0_putTailBlocks dX0_putTailBlocks_75 rfl rfl rfl rfl ?_
        refine jw_getR (a := 8) zM_X0_putTailBlocks dX0_putTailBlocks_76 zF_0_141 rfl rfl rfl ?_
        refine zw_go (pc1 := 81) (L1 := [some (.ref 21), some (.ref 2), some (.int (jI x2)), some (.ref a3), some (.int (jI x4)), some (.int (jI (A 25 x4))), none]) (st1 := [.int (jI (A 25 x4)), .ref 8, .int (jI (A9 8 (A 25 x4)))]) (σ1 := js E A9) zM_X0_putTailBlocks dX0_putTailBlocks_79 rfl rfl rfl rfl ?_
        obtain ⟨hi15, h⟩ := h
        refine jw_iald zM_X0_putTailBlocks dX0_putTailBlocks_81 rfl rfl hi15 ?_
        refine zw_go (pc1 := 83) (L1 := [some (.ref 21), some (.ref 2), some (.int (jI x2)), some (.ref a3), some (.int (jI x4)), some (.int (jI (A 25 x4))), none]) (st1 := [.int (jI x2), .int (jI (A9 8 (A 25 x4))), .int (jI (A9 8 (A 25 x4)))]) (σ1 := js E A9) zM_X0_putTailBlocks dX0_putTailBlocks_82 rfl rfl rfl rfl ?_
        refine jw_callI (as := [.int (jI (A9 8 (A 25 x4))), .int (jI x2)]) (rest := [.int (jI (A9 8 (A 25 x4)))]) zM_X0_putTailBlocks dX0_putTailBlocks_83 (zx_calS zC_0_148) zM_X0_wholeBlocks rfl rfl rfl rfl rfl rfl rfl hA11 h (fun v18 A16 rv19 hA17 h => ?_)
        refine zw_go (pc1 := 87) (L1 := [some (.ref 21), some (.ref 2), some (.int (jI x2)), some (.ref a3), some (.int (jI x4)), some (.int (jI (A 25 x4))), none]) (st1 := [.int (jI x2), .int (jI v18), .int (jI (A9 8 (A 25 x4)))]) (σ1 := js E A16) zM_X0_putTailBlocks dX0_putTailBlocks_86 rfl rfl rfl rfl ?_
        refine jw_mul zM_X0_putTailBlocks dX0_putTailBlocks_87 ?_
        refine jw_sub zM_X0_putTailBlocks dX0_putTailBlocks_88 ?_
        refine zw_go (pc1 := 91) (L1 := [some (.ref 21), some (.ref 2), some (.int (jI x2)), some (.ref a3), some (.int (jI x4)), some (.int (jI (A 25 x4))), some (.int (jI ((A9 8 (A 25 x4)) - (v18 * x2))))]) (st1 := []) (σ1 := js E A16) zM_X0_putTailBlocks dX0_putTailBlocks_89 rfl rfl rfl rfl ?_
        refine zw_go (pc1 := 92) (L1 := [some (.ref 21), some (.ref 2), some (.int (jI x2)), some (.ref a3), some (.int (jI x4)), some (.int (jI (A 25 x4))), some (.int (jI ((A9 8 (A 25 x4)) - (v18 * x2))))]) (st1 := [.ref 21]) (σ1 := js E A16) zM_X0_putTailBlocks dX0_putTailBlocks_91 rfl rfl rfl rfl ?_
        refine jw_getI zM_X0_putTailBlocks dX0_putTailBlocks_92 zF_0_162 rfl rfl rfl ?_
        refine zw_go (pc1 := 97) (L1 := [some (.ref 21), some (.ref 2), some (.int (jI x2)), some (.ref a3), some (.int (jI x4)), some (.int (jI (A 25 x4))), some (.int (jI ((A9 8 (A 25 x4)) - (v18 * x2))))]) (st1 := [.int (jI ((A9 8 (A 25 x4)) - (v18 * x2))), .int (jI (A16 21 15))]) (σ1 := js E A16) zM_X0_putTailBlocks dX0_putTailBlocks_95 rfl rfl rfl rfl ?_
        refine jw_add zM_X0_putTailBlocks dX0_putTailBlocks_97 ?_
        refine zw_go (pc1 := 99) (L1 := [some (.ref 21), some (.ref 2), some (.int (jI x2)), some (.ref a3), some (.int (jI x4)), some (.int (jI (A 25 x4))), some (.int (jI ((A9 8 (A 25 x4)) - (v18 * x2))))]) (st1 := [.int (jI x2), .int (jI ((A16 21 15) + ((A9 8 (A 25 x4)) - (v18 * x2))))]) (σ1 := js E A16) zM_X0_putTailBlocks dX0_putTailBlocks_98 rfl rfl rfl rfl ?_
        obtain ⟨hw20, h⟩ := h
        refine jw_icmp_le (tgt := 107) zM_X0_putTailBlocks dX0_putTailBlocks_99 rfl hw20 r_x2 (fun q => ?_) (fun q => ?_)
        · replace h := h.1 q
          exact zw_weak2 (h hA17) ⟨rfl, rfl, rfl, rfl, rfl, rfl, trivial⟩
        · replace h := h.2 q
          refine zw_go (pc1 := 103) (L1 := [some (.ref 21), some (.ref 2), some (.int (jI x2)), some (.ref a3), some (.int (jI x4)), some (.int (jI (A 25 x4))), some (.int (jI ((A9 8 (A 25 x4)) - (v18 * x2))))]) (st1 := [.ref 21]) (σ1 := js E A16) zM_X0_putTailBlocks dX0_putTailBlocks_102 rfl rfl rfl rfl ?_
          refine zw_go (pc1 := 104) (L1 := [some (.ref 21), some (.ref 2), some (.int (jI x2)), some (.ref a3), some (.int (jI x4)), some (.int (jI (A 25 x4))), some (.int (jI ((A9 8 (A 25 x4)) - (v18 * x2))))]) (st1 := [.ref a3, .ref 21]) (σ1 := js E A16) zM_X0_putTailBlocks dX0_putTailBlocks_103 rfl rfl rfl rfl ?_
          refine jw_callV (as := [.ref 21, .ref a3]) (rest := []) zM_X0_putTailBlocks dX0_putTailBlocks_104 (zx_calV zC_0_165) zM_X0_closeTailBlock rfl rfl rfl rfl rfl (j_args0 rfl rfl) rfl hA17 h (fun A21 hA22 h => ?_)
          exact zw_weak2 (h hA22) ⟨rfl, rfl, rfl, rfl, rfl, rfl, trivial⟩
set_option maxHeartbeats 4000000 in
set_option maxRecDepth 100000 in
theorem vd_X0_putTailBlocks_107 (x2 : Int) (r_x2 : jW x2) (a3 : Nat) (i_a3 : jim a3) (x4 : Int) (r_x4 : jW x4) (x6 : Int) (r_x6 : jW x6) (E : jE) (A : jA) (K : jA → Prop) (h : jrV 9 0 [some (.ref 21), some (.ref 2), some (.int (jI x4)), some (.int (jI x6)), none, none, none] [] E A (fun A1 => jrV 17 116 [some (.ref 21), some (.ref 2), some (.int (jI x2)), some (.ref a3), some (.int (jI x4)), none, none] [] E A1 K)) : jrV 17 107 [some (.ref 21), some (.ref 2), some (.int (jI x2)), some (.ref a3), some (.int (jI x4)), none, some (.int (jI x6))] [] E A K := by
  intro hA
  refine zw_go (pc1 := 108) (L1 := [some (.ref 21), some (.ref 2), some (.int (jI x2)), some (.ref a3), some (.int (jI x4)), none, some (.int (jI x6))]) (st1 := [.ref 21]) (σ1 := js E A) zM_X0_putTailBlocks dX0_putTailBlocks_107 rfl rfl rfl rfl ?_
  refine zw_go (pc1 := 109) (L1 := [some (.ref 21), some (.ref 2), some (.int (jI x2)), some (.ref a3), some (.int (jI x4)), none, some (.int (jI x6))]) (st1 := [.ref 2, .ref 21]) (σ1 := js E A) zM_X0_putTailBlocks dX0_putTailBlocks_108 rfl rfl rfl rfl ?_
  refine zw_go (pc1 := 111) (L1 := [some (.ref 21), some (.ref 2), some (.int (jI x2)), some (.ref a3), some (.int (jI x4)), none, some (.int (jI x6))]) (st1 := [.int (jI x4), .ref 2, .ref 21]) (σ1 := js E A) zM_X0_putTailBlocks dX0_putTailBlocks_109 rfl rfl rfl rfl ?_
  refine zw_go (pc1 := 113) (L1 := [some (.ref 21), some (.ref 2), some (.int (jI x2)), some (.ref a3), some (.int (jI x4)), none, some (.int (jI x6))]) (st1 := [.int (jI x6), .int (jI x4), .ref 2, .ref 21]) (σ1 := js E A) zM_X0_putTailBlocks dX0_putTailBlocks_111 rfl rfl rfl rfl ?_
  refine jw_callV (as := [.ref 21, .ref 2, .int (jI x4), .int (jI x6)]) (rest := []) zM_X0_putTailBlocks dX0_putTailBlocks_113 (zx_calV zC_0_168) zM_X0_joinTail rfl rfl rfl rfl rfl (j_args0 rfl rfl) rfl hA h (fun A1 hA2 h => ?_)
  exact zw_weak2 (h hA2) ⟨rfl, rfl, rfl, rfl, rfl, trivial⟩
set_option maxHeartbeats 4000000 in
set_option maxRecDepth 100000 in
theorem vd_X0_putTailBlocks_116 (x2 : Int) (r_x2 : jW x2) (a3 : Nat) (i_a3 : jim a3) (x4 : Int) (r_x4 : jW x4) (E : jE) (A : jA) (K : jA → Prop) (h : jrV 17 13 [some (.ref 21), some (.ref 2), some (.int (jI x2)), some (.ref a3), some (.int (jI (x4 + 1))), none, none] [] E A K) : jrV 17 116 [some (.ref 21), some (.ref 2), some (.int (jI x2)), some (.ref a3), some (.int (jI x4)), none, none] [] E A K := by
  intro hA
  refine jw_iinc (x := x4) (L1 := [some (.ref 21), some (.ref 2), some (.int (jI x2)), some (.ref a3), some (.int (jI (x4 + 1))), none, none]) zM_X0_putTailBlocks dX0_putTailBlocks_116 rfl (show 4 < 7 by decide) rfl ?_
  refine zw_goto (tgt := 13) zM_X0_putTailBlocks dX0_putTailBlocks_119 rfl ?_
  exact zw_weak2 (h hA) ⟨rfl, rfl, rfl, rfl, rfl, trivial⟩
set_option maxHeartbeats 4000000 in
set_option maxRecDepth 100000 in
theorem vd_X0_putTails_0 (a1 : Nat) (i_a1 : jim a1) (E : jE) (A : jA) (K : jA → Prop) (h : jrV 18 2 [some (.ref 21), some (.ref a1), some (.int (jI 0))] [] E A K) : jrV 18 0 [some (.ref 21), some (.ref a1), none] [] E A K := by
  intro hA
  refine jw_iconst (v := 0) zM_X0_putTails dX0_putTails_0 rfl ?_
  refine zw_go (pc1 := 2) (L1 := [some (.ref 21), some (.ref a1), some (.int (jI 0))]) (st1 := []) (σ1 := js E A) zM_X0_putTails dX0_putTails_1 rfl rfl rfl rfl ?_
  exact zw_weak2 (h hA) ⟨rfl, rfl, rfl, trivial⟩
set_option maxHeartbeats 4000000 in
set_option maxRecDepth 100000 in
theorem vd_X0_putTails_2 (a1 : Nat) (i_a1 : jim a1) (x2 : Int) (r_x2 : jW x2) (E : jE) (A : jA) (K : jA → Prop) (h : (((A 21 14) ≤ x2 → K A) ∧ (x2 < (A 21 14) → (0 ≤ x2 ∧ x2 < 32) ∧ jrV 40 0 [some (.ref a1), some (.int (jI (A 32 x2)))] [] E A (fun A2 => (0 ≤ x2 ∧ x2 < 32) ∧ jrV 40 0 [some (.ref a1), some (.int (jI (A2 33 x2)))] [] E A2 (fun A5 => (0 ≤ x2 ∧ x2 < 32) ∧ jrV 38 0 [some (.ref a1), some (.int (jI (A5 34 x2)))] [] E A5 (fun A8 => jrV 18 2 [some (.ref 21), some (.ref a1), some (.int (jI (x2 + 1)))] [] E A8 K)))))) : jrV 18 2 [some (.ref 21), some (.ref a1), some (.int (jI x2))] [] E A K := by
  intro hA
  refine zw_go (pc1 := 3) (L1 := [some (.ref 21), some (.ref a1), some (.int (jI x2))]) (st1 := [.int (jI x2)]) (σ1 := js E A) zM_X0_putTails dX0_putTails_2 rfl rfl rfl rfl ?_
  refine zw_go (pc1 := 4) (L1 := [some (.ref 21), some (.ref a1), some (.int (jI x2))]) (st1 := [.ref 21, .int (jI x2)]) (σ1 := js E A) zM_X0_putTails dX0_putTails_3 rfl rfl rfl rfl ?_
  refine jw_getI zM_X0_putTails dX0_putTails_4 zF_0_159 rfl rfl rfl ?_
  refine jw_icmp_ge (tgt := 46) zM_X0_putTails dX0_putTails_7 rfl r_x2 (hA 21 14) (fun q => ?_) (fun q => ?_)
  · replace h := h.1 q
    exact jw_retv zM_X0_putTails dX0_putTails_46 rfl hA h
  · replace h := h.2 q
    refine zw_go (pc1 := 11) (L1 := [some (.ref 21), some (.ref a1), some (.int (jI x2))]) (st1 := [.ref a1]) (σ1 := js E A) zM_X0_putTails dX0_putTails_10 rfl rfl rfl rfl ?_
    refine zw_go (pc1 := 12) (L1 := [some (.ref 21), some (.ref a1), some (.int (jI x2))]) (st1 := [.ref 21, .ref a1]) (σ1 := js E A) zM_X0_putTails dX0_putTails_11 rfl rfl rfl rfl ?_
    refine jw_getR (a := 32) zM_X0_putTails dX0_putTails_12 zF_0_43 rfl rfl rfl ?_
    refine zw_go (pc1 := 16) (L1 := [some (.ref 21), some (.ref a1), some (.int (jI x2))]) (st1 := [.int (jI x2), .ref 32, .ref a1]) (σ1 := js E A) zM_X0_putTails dX0_putTails_15 rfl rfl rfl rfl ?_
    obtain ⟨hi1, h⟩ := h
    refine jw_iald zM_X0_putTails dX0_putTails_16 rfl rfl hi1 ?_
    refine jw_callV (as := [.ref a1, .int (jI (A 32 x2))]) (rest := []) zM_X0_putTails dX0_putTails_17 (zx_calV zC_0_130) zM_X1_putWord rfl rfl rfl rfl rfl (j_args0 (jim.K i_a1) rfl) rfl hA h (fun A2 hA3 h => ?_)
    refine zw_go (pc1 := 21) (L1 := [some (.ref 21), some (.ref a1), some (.int (jI x2))]) (st1 := [.ref a1]) (σ1 := js E A2) zM_X0_putTails dX0_putTails_20 rfl rfl rfl rfl ?_
    refine zw_go (pc1 := 22) (L1 := [some (.ref 21), some (.ref a1), some (.int (jI x2))]) (st1 := [.ref 21, .ref a1]) (σ1 := js E A2) zM_X0_putTails dX0_putTails_21 rfl rfl rfl rfl ?_
    refine jw_getR (a := 33) zM_X0_putTails dX0_putTails_22 zF_0_46 rfl rfl rfl ?_
    refine zw_go (pc1 := 26) (L1 := [some (.ref 21), some (.ref a1), some (.int (jI x2))]) (st1 := [.int (jI x2), .ref 33, .ref a1]) (σ1 := js E A2) zM_X0_putTails dX0_putTails_25 rfl rfl rfl rfl ?_
    obtain ⟨hi4, h⟩ := h
    refine jw_iald zM_X0_putTails dX0_putTails_26 rfl rfl hi4 ?_
    refine jw_callV (as := [.ref a1, .int (jI (A2 33 x2))]) (rest := []) zM_X0_putTails dX0_putTails_27 (zx_calV zC_0_130) zM_X1_putWord rfl rfl rfl rfl rfl (j_args0 (jim.K i_a1) rfl) rfl hA3 h (fun A5 hA6 h => ?_)
    refine zw_go (pc1 := 31) (L1 := [some (.ref 21), some (.ref a1), some (.int (jI x2))]) (st1 := [.ref a1]) (σ1 := js E A5) zM_X0_putTails dX0_putTails_30 rfl rfl rfl rfl ?_
    refine zw_go (pc1 := 32) (L1 := [some (.ref 21), some (.ref a1), some (.int (jI x2))]) (st1 := [.ref 21, .ref a1]) (σ1 := js E A5) zM_X0_putTails dX0_putTails_31 rfl rfl rfl rfl ?_
    refine jw_getR (a := 34) zM_X0_putTails dX0_putTails_32 zF_0_49 rfl rfl rfl ?_
    refine zw_go (pc1 := 36) (L1 := [some (.ref 21), some (.ref a1), some (.int (jI x2))]) (st1 := [.int (jI x2), .ref 34, .ref a1]) (σ1 := js E A5) zM_X0_putTails dX0_putTails_35 rfl rfl rfl rfl ?_
    obtain ⟨hi7, h⟩ := h
    refine jw_iald zM_X0_putTails dX0_putTails_36 rfl rfl hi7 ?_
    refine jw_callV (as := [.ref a1, .int (jI (A5 34 x2))]) (rest := []) zM_X0_putTails dX0_putTails_37 (zx_calV zC_0_126) zM_X1_putByte rfl rfl rfl rfl rfl (j_args0 (jim.K i_a1) rfl) rfl hA6 h (fun A8 hA9 h => ?_)
    refine jw_iinc (x := x2) (L1 := [some (.ref 21), some (.ref a1), some (.int (jI (x2 + 1)))]) zM_X0_putTails dX0_putTails_40 rfl (show 2 < 3 by decide) rfl ?_
    refine zw_goto (tgt := 2) zM_X0_putTails dX0_putTails_43 rfl ?_
    exact zw_weak2 (h hA9) ⟨rfl, rfl, rfl, trivial⟩
set_option maxHeartbeats 4000000 in
set_option maxRecDepth 100000 in
theorem vd_X0_wholeBlocks_0 (x0 : Int) (r_x0 : jW x0) (x1 : Int) (r_x1 : jW x1) (E : jE) (A : jA) (K : Int → jA → Prop) (h : (((1 : Int) ≤ x1 → 0 ≤ x0 ∧ 0 < x1 ∧ jW (x0 / x1) ∧ K (x0 / x1) A) ∧ (x1 < (1 : Int) → K 0 A))) : jrI 19 0 [some (.int (jI x0)), some (.int (jI x1))] [] E A K := by
  intro hA
  refine zw_go (pc1 := 1) (L1 := [some (.int (jI x0)), some (.int (jI x1))]) (st1 := [.int (jI x1)]) (σ1 := js E A) zM_X0_wholeBlocks dX0_wholeBlocks_0 rfl rfl rfl rfl ?_
  refine jw_iconst (v := 1) zM_X0_wholeBlocks dX0_wholeBlocks_1 rfl ?_
  refine jw_icmp_ge (tgt := 9) zM_X0_wholeBlocks dX0_wholeBlocks_2 rfl r_x1 (show jW 1 from ⟨by decide, by decide⟩) (fun q => ?_) (fun q => ?_)
  · replace h := h.1 q
    refine zw_go (pc1 := 10) (L1 := [some (.int (jI x0)), some (.int (jI x1))]) (st1 := [.int (jI x0)]) (σ1 := js E A) zM_X0_wholeBlocks dX0_wholeBlocks_9 rfl rfl rfl rfl ?_
    refine zw_go (pc1 := 11) (L1 := [some (.int (jI x0)), some (.int (jI x1))]) (st1 := [.int (jI x1), .int (jI x0)]) (σ1 := js E A) zM_X0_wholeBlocks dX0_wholeBlocks_10 rfl rfl rfl rfl ?_
    obtain ⟨hz1, h⟩ := h
    obtain ⟨hz2, h⟩ := h
    refine jw_div zM_X0_wholeBlocks dX0_wholeBlocks_11 r_x0 r_x1 hz1 hz2 ?_
    obtain ⟨hw3, h⟩ := h
    exact jw_reti zM_X0_wholeBlocks dX0_wholeBlocks_12 rfl hw3 hA h
  · replace h := h.2 q
    refine jw_iconst (v := 0) zM_X0_wholeBlocks dX0_wholeBlocks_5 rfl ?_
    refine zw_goto (tgt := 12) zM_X0_wholeBlocks dX0_wholeBlocks_6 rfl ?_
    exact jw_reti zM_X0_wholeBlocks dX0_wholeBlocks_12 rfl (show jW 0 from ⟨by decide, by decide⟩) hA h
