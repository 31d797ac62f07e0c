set_option maxHeartbeats 4000000 in
set_option maxRecDepth 100000 in
theorem vd_X4_addPacked_0 (x1 : Int) (r_x1 : jW x1) (E : jE) (A : jA) (K : jA → Prop) (h : (((33 : Int) ≤ (A 22 1) → K A) ∧ ((A 22 1) < (33 : Int) → (0 ≤ (A 22 1) ∧ (A 22 1) < 33) ∧ ∀ A2 : jA, A2 = jup A 23 (A 22 1) x1 → jW ((A2 22 1) + 1) ∧ ∀ A6 : jA, A6 = jup A2 22 1 ((A2 22 1) + 1) → K A6))) : jrV 88 0 [some (.ref 22), some (.int (jI x1))] [] E A K := by
  intro hA
  refine zw_go (pc1 := 1) (L1 := [some (.ref 22), some (.int (jI x1))]) (st1 := [.ref 22]) (σ1 := js E A) zM_X4_addPacked dX4_addPacked_0 rfl rfl rfl rfl ?_
  refine jw_getI zM_X4_addPacked dX4_addPacked_1 zF_4_23 rfl rfl rfl ?_
  refine zw_go (pc1 := 5) (L1 := [some (.ref 22), some (.int (jI x1))]) (st1 := [.ref 22, .int (jI (A 22 1))]) (σ1 := js E A) zM_X4_addPacked dX4_addPacked_4 rfl rfl rfl rfl ?_
  refine jw_getR (a := 23) zM_X4_addPacked dX4_addPacked_5 zF_4_9 rfl rfl rfl ?_
  refine jw_alen zM_X4_addPacked dX4_addPacked_8 rfl rfl ?_
  refine jw_icmp_ge (tgt := 32) zM_X4_addPacked dX4_addPacked_9 rfl (hA 22 1) (show jW 33 from ⟨by decide, by decide⟩) (fun q => ?_) (fun q => ?_)
  · replace h := h.1 q
    exact jw_retv zM_X4_addPacked dX4_addPacked_32 rfl hA h
  · replace h := h.2 q
    refine zw_go (pc1 := 13) (L1 := [some (.ref 22), some (.int (jI x1))]) (st1 := [.ref 22]) (σ1 := js E A) zM_X4_addPacked dX4_addPacked_12 rfl rfl rfl rfl ?_
    refine jw_getR (a := 23) zM_X4_addPacked dX4_addPacked_13 zF_4_9 rfl rfl rfl ?_
    refine zw_go (pc1 := 17) (L1 := [some (.ref 22), some (.int (jI x1))]) (st1 := [.ref 22, .ref 23]) (σ1 := js E A) zM_X4_addPacked dX4_addPacked_16 rfl rfl rfl rfl ?_
    refine jw_getI zM_X4_addPacked dX4_addPacked_17 zF_4_23 rfl rfl rfl ?_
    refine zw_go (pc1 := 21) (L1 := [some (.ref 22), some (.int (jI x1))]) (st1 := [.int (jI x1), .int (jI (A 22 1)), .ref 23]) (σ1 := js E A) zM_X4_addPacked dX4_addPacked_20 rfl rfl rfl rfl ?_
    obtain ⟨hi1, h⟩ := h
    obtain ⟨A2, e3⟩ : ∃ z9 : jA, z9 = jup A 23 (A 22 1) x1 := ⟨_, rfl⟩
    replace h := h A2 e3
    have hA4 : jOK A2 := jOK.up hA r_x1 e3
    refine jw_iast zM_X4_addPacked dX4_addPacked_21 rfl rfl hi1 e3 ?_
    refine zw_go (pc1 := 23) (L1 := [some (.ref 22), some (.int (jI x1))]) (st1 := [.ref 22]) (σ1 := js E A2) zM_X4_addPacked dX4_addPacked_22 rfl rfl rfl rfl ?_
    refine zw_go (pc1 := 24) (L1 := [some (.ref 22), some (.int (jI x1))]) (st1 := [.ref 22, .ref 22]) (σ1 := js E A2) zM_X4_addPacked dX4_addPacked_23 rfl rfl rfl rfl ?_
    refine jw_getI zM_X4_addPacked dX4_addPacked_24 zF_4_23 rfl rfl rfl ?_
    refine jw_iconst (v := 1) zM_X4_addPacked dX4_addPacked_27 rfl ?_
    refine jw_add zM_X4_addPacked dX4_addPacked_28 ?_
    obtain ⟨hw5, h⟩ := h
    obtain ⟨A6, e7⟩ : ∃ z9 : jA, z9 = jup A2 22 1 ((A2 22 1) + 1) := ⟨_, rfl⟩
    replace h := h A6 e7
    have hA8 : jOK A6 := jOK.up hA4 hw5 e7
    refine jw_putI zM_X4_addPacked dX4_addPacked_29 zF_4_23 rfl rfl rfl rfl e7 ?_
    exact jw_retv zM_X4_addPacked dX4_addPacked_32 rfl hA8 h
set_option maxHeartbeats 4000000 in
set_option maxRecDepth 100000 in
theorem vd_X4_copy_0 (a0 : Nat) (i_a0 : jK a0 = 1) (x1 : Int) (r_x1 : jW x1) (x2 : Int) (r_x2 : jW x2) (a3 : Nat) (i_a3 : jim a3) (E : jE) (A : jA) (K : jA → Prop) (h : jrV 89 3 [some (.ref a0), some (.int (jI x1)), some (.int (jI x2)), some (.ref a3), some (.int (jI 0))] [] E A K) : jrV 89 0 [some (.ref a0), some (.int (jI x1)), some (.int (jI x2)), some (.ref a3), none] [] E A K := by
  intro hA
  refine jw_iconst (v := 0) zM_X4_copy dX4_copy_0 rfl ?_
  refine zw_go (pc1 := 3) (L1 := [some (.ref a0), some (.int (jI x1)), some (.int (jI x2)), some (.ref a3), some (.int (jI 0))]) (st1 := []) (σ1 := js E A) zM_X4_copy dX4_copy_1 rfl rfl rfl rfl ?_
  exact zw_weak2 (h hA) ⟨rfl, rfl, rfl, rfl, rfl, trivial⟩
set_option maxHeartbeats 4000000 in
set_option maxRecDepth 100000 in
theorem vd_X4_copy_3 (a0 : Nat) (i_a0 : jK a0 = 1) (x1 : Int) (r_x1 : jW x1) (x2 : Int) (r_x2 : jW x2) (a3 : Nat) (i_a3 : jim a3) (x4 : Int) (r_x4 : jW x4) (E : jE) (A : jA) (K : jA → Prop) (h : ((x2 ≤ x4 → K A) ∧ (x4 < x2 → (0 ≤ (x1 + x4) ∧ (x1 + x4) < (jN a0 : Int)) ∧ jrV 38 0 [some (.ref a3), some (.int (jI (A a0 (x1 + x4))))] [] E A (fun A2 => jrV 89 3 [some (.ref a0), some (.int (jI x1)), some (.int (jI x2)), some (.ref a3), some (.int (jI (x4 + 1)))] [] E A2 K)))) : jrV 89 3 [some (.ref a0), some (.int (jI x1)), some (.int (jI x2)), some (.ref a3), some (.int (jI x4))] [] E A K := by
  intro hA
  refine zw_go (pc1 := 5) (L1 := [some (.ref a0), some (.int (jI x1)), some (.int (jI x2)), some (.ref a3), some (.int (jI x4))]) (st1 := [.int (jI x4)]) (σ1 := js E A) zM_X4_copy dX4_copy_3 rfl rfl rfl rfl ?_
  refine zw_go (pc1 := 6) (L1 := [some (.ref a0), some (.int (jI x1)), some (.int (jI x2)), some (.ref a3), some (.int (jI x4))]) (st1 := [.int (jI x2), .int (jI x4)]) (σ1 := js E A) zM_X4_copy dX4_copy_5 rfl rfl rfl rfl ?_
  refine jw_icmp_ge (tgt := 25) zM_X4_copy dX4_copy_6 rfl r_x4 r_x2 (fun q => ?_) (fun q => ?_)
  · replace h := h.1 q
    exact jw_retv zM_X4_copy dX4_copy_25 rfl hA h
  · replace h := h.2 q
    refine zw_go (pc1 := 10) (L1 := [some (.ref a0), some (.int (jI x1)), some (.int (jI x2)), some (.ref a3), some (.int (jI x4))]) (st1 := [.ref a3]) (σ1 := js E A) zM_X4_copy dX4_copy_9 rfl rfl rfl rfl ?_
    refine zw_go (pc1 := 11) (L1 := [some (.ref a0), some (.int (jI x1)), some (.int (jI x2)), some (.ref a3), some (.int (jI x4))]) (st1 := [.ref a0, .ref a3]) (σ1 := js E A) zM_X4_copy dX4_copy_10 rfl rfl rfl rfl ?_
    refine zw_go (pc1 := 12) (L1 := [some (.ref a0), some (.int (jI x1)), some (.int (jI x2)), some (.ref a3), some (.int (jI x4))]) (st1 := [.int (jI x1), .ref a0, .ref a3]) (σ1 := js E A) zM_X4_copy dX4_copy_11 rfl rfl rfl rfl ?_
    refine zw_go (pc1 := 14) (L1 := [some (.ref a0), some (.int (jI x1)), some (.int (jI x2)), some (.ref a3), some (.int (jI x4))]) (st1 := [.int (jI x4), .int (jI x1), .ref a0, .ref a3]) (σ1 := js E A) zM_X4_copy dX4_copy_12 rfl rfl rfl rfl ?_
    refine jw_add zM_X4_copy dX4_copy_14 ?_
    obtain ⟨hi1, h⟩ := h
    refine jw_iald zM_X4_copy dX4_copy_15 i_a0 rfl hi1 ?_
    refine jw_callV (as := [.ref a3, .int (jI (A a0 (x1 + x4)))]) (rest := []) zM_X4_copy dX4_copy_16 (zx_calV zC_4_32) zM_X1_putByte rfl rfl rfl rfl rfl (j_args0 (jim.K i_a3) rfl) rfl hA h (fun A2 hA3 h => ?_)
    refine jw_iinc (x := x4) (L1 := [some (.ref a0), some (.int (jI x1)), some (.int (jI x2)), some (.ref a3), some (.int (jI (x4 + 1)))]) zM_X4_copy dX4_copy_19 rfl (show 4 < 5 by decide) rfl ?_
    refine zw_goto (tgt := 3) zM_X4_copy dX4_copy_22 rfl ?_
    exact zw_weak2 (h hA3) ⟨rfl, rfl, rfl, rfl, rfl, trivial⟩
set_option maxHeartbeats 4000000 in
set_option maxRecDepth 100000 in
theorem vd_X4_isZero_0 (a0 : Nat) (i_a0 : jK a0 = 1) (x1 : Int) (r_x1 : jW x1) (x2 : Int) (r_x2 : jW x2) (E : jE) (A : jA) (K : Int → jA → Prop) (h : jrI 91 2 [some (.ref a0), some (.int (jI x1)), some (.int (jI x2)), some (.int (jI 0))] [] E A K) : jrI 91 0 [some (.ref a0), some (.int (jI x1)), some (.int (jI x2)), none] [] E A K := by
  intro hA
  refine jw_iconst (v := 0) zM_X4_isZero dX4_isZero_0 rfl ?_
  refine zw_go (pc1 := 2) (L1 := [some (.ref a0), some (.int (jI x1)), some (.int (jI x2)), some (.int (jI 0))]) (st1 := []) (σ1 := js E A) zM_X4_isZero dX4_isZero_1 rfl rfl rfl rfl ?_
  exact zw_weak2 (h hA) ⟨rfl, rfl, rfl, rfl, trivial⟩
set_option maxHeartbeats 4000000 in
set_option maxRecDepth 100000 in
theorem vd_X4_isZero_2 (a0 : Nat) (i_a0 : jK a0 = 1) (x1 : Int) (r_x1 : jW x1) (x2 : Int) (r_x2 : jW x2) (x3 : Int) (r_x3 : jW x3) (E : jE) (A : jA) (K : Int → jA → Prop) (h : ((x2 ≤ x3 → K 1 A) ∧ (x3 < x2 → (0 ≤ (x1 + x3) ∧ (x1 + x3) < (jN a0 : Int)) ∧ (((A a0 (x1 + x3)) = (0 : Int) → jrI 91 2 [some (.ref a0), some (.int (jI x1)), some (.int (jI x2)), some (.int (jI (x3 + 1)))] [] E A K) ∧ (¬ (A a0 (x1 + x3)) = (0 : Int) → K 0 A))))) : jrI 91 2 [some (.ref a0), some (.int (jI x1)), some (.int (jI x2)), some (.int (jI x3))] [] E A K := by
  intro hA
  refine zw_go (pc1 := 3) (L1 := [some (.ref a0), some (.int (jI x1)), some (.int (jI x2)), some (.int (jI x3))]) (st1 := [.int (jI x3)]) (σ1 := js E A) zM_X4_isZero dX4_isZero_2 rfl rfl rfl rfl ?_
  refine zw_go (pc1 := 4) (L1 := [some (.ref a0), some (.int (jI x1)), some (.int (jI x2)), some (.int (jI x3))]) (st1 := [.int (jI x2), .int (jI x3)]) (σ1 := js E A) zM_X4_isZero dX4_isZero_3 rfl rfl rfl rfl ?_
  refine jw_icmp_ge (tgt := 23) zM_X4_isZero dX4_isZero_4 rfl r_x3 r_x2 (fun q => ?_) (fun q => ?_)
  · replace h := h.1 q
    refine jw_iconst (v := 1) zM_X4_isZero dX4_isZero_23 rfl ?_
    exact jw_retz zM_X4_isZero dX4_isZero_24 rfl (Or.inr rfl) hA h
  · replace h := h.2 q
    refine zw_go (pc1 := 8) (L1 := [some (.ref a0), some (.int (jI x1)), some (.int (jI x2)), some (.int (jI x3))]) (st1 := [.ref a0]) (σ1 := js E A) zM_X4_isZero dX4_isZero_7 rfl rfl rfl rfl ?_
    refine zw_go (pc1 := 9) (L1 := [some (.ref a0), some (.int (jI x1)), some (.int (jI x2)), some (.int (jI x3))]) (st1 := [.int (jI x1), .ref a0]) (σ1 := js E A) zM_X4_isZero dX4_isZero_8 rfl rfl rfl rfl ?_
    refine zw_go (pc1 := 10) (L1 := [some (.ref a0), some (.int (jI x1)), some (.int (jI x2)), some (.int (jI x3))]) (st1 := [.int (jI x3), .int (jI x1), .ref a0]) (σ1 := js E A) zM_X4_isZero dX4_isZero_9 rfl rfl rfl rfl ?_
    refine jw_add zM_X4_isZero dX4_isZero_10 ?_
    obtain ⟨hi1, h⟩ := h
    refine jw_iald zM_X4_isZero dX4_isZero_11 i_a0 rfl hi1 ?_
    refine jw_if_eq (tgt := 17) zM_X4_isZero dX4_isZero_12 rfl (hA a0 (x1 + x3)) (fun q => ?_) (fun q => ?_)
    · replace h := h.1 q
      refine jw_iinc (x := x3) (L1 := [some (.ref a0), some (.int (jI x1)), some (.int (jI x2)), some (.int (jI (x3 + 1)))]) zM_X4_isZero dX4_isZero_17 rfl (show 3 < 4 by decide) rfl ?_
      refine zw_goto (tgt := 2) zM_X4_isZero dX4_isZero_20 rfl ?_
      exact zw_weak2 (h hA) ⟨rfl, rfl, rfl, rfl, trivial⟩
    · replace h := h.2 q
      refine jw_iconst (v := 0) zM_X4_isZero dX4_isZero_15 rfl ?_
      exact jw_retz zM_X4_isZero dX4_isZero_16 rfl (Or.inl rfl) hA h
set_option maxHeartbeats 4000000 in
set_option maxRecDepth 100000 in
theorem vd_X4_nextRun_0 (a0 : Nat) (i_a0 : jK a0 = 1) (x1 : Int) (r_x1 : jW x1) (x2 : Int) (r_x2 : jW x2) (E : jE) (A : jA) (K : Int → jA → Prop) (h : jrI 92 4 [some (.ref a0), none, some (.int (jI x2)), some (.int (jI (x1 + 1)))] [] E A K) : jrI 92 0 [some (.ref a0), some (.int (jI x1)), some (.int (jI x2)), none] [] E A K := by
  intro hA
  refine zw_go (pc1 := 1) (L1 := [some (.ref a0), some (.int (jI x1)), some (.int (jI x2)), none]) (st1 := [.int (jI x1)]) (σ1 := js E A) zM_X4_nextRun dX4_nextRun_0 rfl rfl rfl rfl ?_
  refine jw_iconst (v := 1) zM_X4_nextRun dX4_nextRun_1 rfl ?_
  refine jw_add zM_X4_nextRun dX4_nextRun_2 ?_
  refine zw_go (pc1 := 4) (L1 := [some (.ref a0), some (.int (jI x1)), some (.int (jI x2)), some (.int (jI (x1 + 1)))]) (st1 := []) (σ1 := js E A) zM_X4_nextRun dX4_nextRun_3 rfl rfl rfl rfl ?_
  exact zw_weak2 (h hA) ⟨rfl, rfl, rfl, trivial⟩
set_option maxHeartbeats 4000000 in
set_option maxRecDepth 100000 in
theorem vd_X4_nextRun_4 (a0 : Nat) (i_a0 : jK a0 = 1) (x2 : Int) (r_x2 : jW x2) (x3 : Int) (r_x3 : jW x3) (E : jE) (A : jA) (K : Int → jA → Prop) (h : jW (x3 + 3) ∧ ((x2 < (x3 + 3) → K x2 A) ∧ ((x3 + 3) ≤ x2 → (0 ≤ x3 ∧ x3 < (jN a0 : Int)) ∧ (0 ≤ (x3 + 1) ∧ (x3 + 1) < (jN a0 : Int)) ∧ ((¬ (A a0 x3) = (A a0 (x3 + 1)) → jrI 92 35 [some (.ref a0), none, some (.int (jI x2)), some (.int (jI x3))] [] E A K) ∧ ((A a0 x3) = (A a0 (x3 + 1)) → (0 ≤ x3 ∧ x3 < (jN a0 : Int)) ∧ (0 ≤ (x3 + 2) ∧ (x3 + 2) < (jN a0 : Int)) ∧ ((¬ (A a0 x3) = (A a0 (x3 + 2)) → jrI 92 35 [some (.ref a0), none, some (.int (jI x2)), some (.int (jI x3))] [] E A K) ∧ ((A a0 x3) = (A a0 (x3 + 2)) → K x3 A))))))) : jrI 92 4 [some (.ref a0), none, some (.int (jI x2)), some (.int (jI x3))] [] E A K := by
  intro hA
  refine zw_go (pc1 := 5) (L1 := [some (.ref a0), none, some (.int (jI x2)), some (.int (jI x3))]) (st1 := [.int (jI x3)]) (σ1 := js E A) zM_X4_nextRun dX4_nextRun_4 rfl rfl rfl rfl ?_
  refine jw_iconst (v := 3) zM_X4_nextRun dX4_nextRun_5 rfl ?_
  refine jw_add zM_X4_nextRun dX4_nextRun_6 ?_
  refine zw_go (pc1 := 8) (L1 := [some (.ref a0), none, some (.int (jI x2)), some (.int (jI x3))]) (st1 := [.int (jI x2), .int (jI (x3 + 3))]) (σ1 := js E A) zM_X4_nextRun dX4_nextRun_7 rfl rfl rfl rfl ?_
  obtain ⟨hw1, h⟩ := h
  refine jw_icmp_gt (tgt := 41) zM_X4_nextRun dX4_nextRun_8 rfl hw1 r_x2 (fun q => ?_) (fun q => ?_)
  · replace h := h.1 q
    refine zw_go (pc1 := 42) (L1 := [some (.ref a0), none, some (.int (jI x2)), some (.int (jI x3))]) (st1 := [.int (jI x2)]) (σ1 := js E A) zM_X4_nextRun dX4_nextRun_41 rfl rfl rfl rfl ?_
    exact jw_reti zM_X4_nextRun dX4_nextRun_42 rfl r_x2 hA h
  · replace h := h.2 q
    refine zw_go (pc1 := 12) (L1 := [some (.ref a0), none, some (.int (jI x2)), some (.int (jI x3))]) (st1 := [.ref a0]) (σ1 := js E A) zM_X4_nextRun dX4_nextRun_11 rfl rfl rfl rfl ?_
    refine zw_go (pc1 := 13) (L1 := [some (.ref a0), none, some (.int (jI x2)), some (.int (jI x3))]) (st1 := [.int (jI x3), .ref a0]) (σ1 := js E A) zM_X4_nextRun dX4_nextRun_12 rfl rfl rfl rfl ?_
    obtain ⟨hi2, h⟩ := h
    refine jw_iald zM_X4_nextRun dX4_nextRun_13 i_a0 rfl hi2 ?_
    refine zw_go (pc1 := 15) (L1 := [some (.ref a0), none, some (.int (jI x2)), some (.int (jI x3))]) (st1 := [.ref a0, .int (jI (A a0 x3))]) (σ1 := js E A) zM_X4_nextRun dX4_nextRun_14 rfl rfl rfl rfl ?_
    refine zw_go (pc1 := 16) (L1 := [some (.ref a0), none, some (.int (jI x2)), some (.int (jI x3))]) (st1 := [.int (jI x3), .ref a0, .int (jI (A a0 x3))]) (σ1 := js E A) zM_X4_nextRun dX4_nextRun_15 rfl rfl rfl rfl ?_
    refine jw_iconst (v := 1) zM_X4_nextRun dX4_nextRun_16 rfl ?_
    refine jw_add zM_X4_nextRun dX4_nextRun_17 ?_
    obtain ⟨hi3, h⟩ := h
    refine jw_iald zM_X4_nextRun dX4_nextRun_18 i_a0 rfl hi3 ?_
    refine jw_icmp_ne (tgt := 35) zM_X4_nextRun dX4_nextRun_19 rfl (hA a0 x3) (hA a0 (x3 + 1)) (fun q => ?_) (fun q => ?_)
    · replace h := h.1 q
      exact zw_weak2 (h hA) ⟨rfl, rfl, rfl, trivial⟩
    · replace h := h.2 q
      refine zw_go (pc1 := 23) (L1 := [some (.ref a0), none, some (.int (jI x2)), some (.int (jI x3))]) (st1 := [.ref a0]) (σ1 := js E A) zM_X4_nextRun dX4_nextRun_22 rfl rfl rfl rfl ?_
      refine zw_go (pc1 := 24) (L1 := [some (.ref a0), none, some (.int (jI x2)), some (.int (jI x3))]) (st1 := [.int (jI x3), .ref a0]) (σ1 := js E A) zM_X4_nextRun dX4_nextRun_23 rfl rfl rfl rfl ?_
      obtain ⟨hi4, h⟩ := h
      refine jw_iald zM_X4_nextRun dX4_nextRun_24 i_a0 rfl hi4 ?_
      refine zw_go (pc1 := 26) (L1 := [some (.ref a0), none, some (.int (jI x2)), some (.int (jI x3))]) (st1 := [.ref a0, .int (jI (A a0 x3))]) (σ1 := js E A) zM_X4_nextRun dX4_nextRun_25 rfl rfl rfl rfl ?_
      refine zw_go (pc1 := 27) (L1 := [some (.ref a0), none, some (.int (jI x2)), some (.int (jI x3))]) (st1 := [.int (jI x3), .ref a0, .int (jI (A a0 x3))]) (σ1 := js E A) zM_X4_nextRun dX4_nextRun_26 rfl rfl rfl rfl ?_
      refine jw_iconst (v := 2) zM_X4_nextRun dX4_nextRun_27 rfl ?_
      refine jw_add zM_X4_nextRun dX4_nextRun_28 ?_
      obtain ⟨hi5, h⟩ := h
      refine jw_iald zM_X4_nextRun dX4_nextRun_29 i_a0 rfl hi5 ?_
      refine jw_icmp_ne (tgt := 35) zM_X4_nextRun dX4_nextRun_30 rfl (hA a0 x3) (hA a0 (x3 + 2)) (fun q => ?_) (fun q => ?_)
      · replace h := h.1 q
        exact zw_weak2 (h hA) ⟨rfl, rfl, rfl, trivial⟩
      · replace h := h.2 q
        refine zw_go (pc1 := 34) (L1 := [some (.ref a0), none, some (.int (jI x2)), some (.int (jI x3))]) (st1 := [.int (jI x3)]) (σ1 := js E A) zM_X4_nextRun dX4_nextRun_33 rfl rfl rfl rfl ?_
        exact jw_reti zM_X4_nextRun dX4_nextRun_34 rfl r_x3 hA h
set_option maxHeartbeats 4000000 in
set_option maxRecDepth 100000 in
theorem vd_X4_nextRun_35 (a0 : Nat) (i_a0 : jK a0 = 1) (x2 : Int) (r_x2 : jW x2) (x3 : Int) (r_x3 : jW x3) (E : jE) (A : jA) (K : Int → jA → Prop) (h : jrI 92 4 [some (.ref a0), none, some (.int (jI x2)), some (.int (jI (x3 + 1)))] [] E A K) : jrI 92 35 [some (.ref a0), none, some (.int (jI x2)), some (.int (jI x3))] [] E A K := by
  intro hA
  refine jw_iinc (x := x3) (L1 := [some (.ref a0), none, some (.int (jI x2)), some (.int (jI (x3 + 1)))]) zM_X4_nextRun dX4_nextRun_35 rfl (show 3 < 4 by decide) rfl ?_
  refine zw_goto (tgt := 4) zM_X4_nextRun dX4_nextRun_38 rfl ?_
  exact zw_weak2 (h hA) ⟨rfl, rfl, rfl, trivial⟩
set_option maxHeartbeats 4000000 in
set_option maxRecDepth 100000 in
theorem vd_X4_pack_0 (a1 : Nat) (i_a1 : jK a1 = 1) (x2 : Int) (r_x2 : jW x2) (x3 : Int) (r_x3 : jW x3) (E : jE) (A : jA) (K : jA → Prop) (h : ∀ A1 : jA, A1 = jup A 22 1 0 → jrV 93 11 [some (.ref 22), some (.ref a1), none, some (.int (jI x3)), some (.int (jI x2)), some (.int (jI x2)), none, none, none] [] E A1 K) : jrV 93 0 [some (.ref 22), some (.ref a1), some (.int (jI x2)), some (.int (jI x3)), none, none, none, none, none] [] E A K := by
  intro hA
  refine zw_go (pc1 := 1) (L1 := [some (.ref 22), some (.ref a1), some (.int (jI x2)), some (.int (jI x3)), none, none, none, none, none]) (st1 := [.ref 22]) (σ1 := js E A) zM_X4_pack dX4_pack_0 rfl rfl rfl rfl ?_
  refine jw_iconst (v := 0) zM_X4_pack dX4_pack_1 rfl ?_
  obtain ⟨A1, e2⟩ : ∃ z9 : jA, z9 = jup A 22 1 0 := ⟨_, rfl⟩
  replace h := h A1 e2
  have hA3 : jOK A1 := jOK.up hA (show jW 0 from ⟨by decide, by decide⟩) e2
  refine jw_putI zM_X4_pack dX4_pack_2 zF_4_23 rfl rfl rfl rfl e2 ?_
  refine zw_go (pc1 := 6) (L1 := [some (.ref 22), some (.ref a1), some (.int (jI x2)), some (.int (jI x3)), none, none, none, none, none]) (st1 := [.int (jI x2)]) (σ1 := js E A1) zM_X4_pack dX4_pack_5 rfl rfl rfl rfl ?_
  refine zw_go (pc1 := 8) (L1 := [some (.ref 22), some (.ref a1), some (.int (jI x2)), some (.int (jI x3)), some (.int (jI x2)), none, none, none, none]) (st1 := []) (σ1 := js E A1) zM_X4_pack dX4_pack_6 rfl rfl rfl rfl ?_
  refine zw_go (pc1 := 9) (L1 := [some (.ref 22), some (.ref a1), some (.int (jI x2)), some (.int (jI x3)), some (.int (jI x2)), none, none, none, none]) (st1 := [.int (jI x2)]) (σ1 := js E A1) zM_X4_pack dX4_pack_8 rfl rfl rfl rfl ?_
  refine zw_go (pc1 := 11) (L1 := [some (.ref 22), some (.ref a1), some (.int (jI x2)), some (.int (jI x3)), some (.int (jI x2)), some (.int (jI x2)), none, none, none]) (st1 := []) (σ1 := js E A1) zM_X4_pack dX4_pack_9 rfl rfl rfl rfl ?_
  exact zw_weak2 (h hA3) ⟨rfl, rfl, rfl, rfl, rfl, trivial⟩
set_option maxHeartbeats 4000000 in
set_option maxRecDepth 100000 in
theorem vd_X4_pack_11 (a1 : Nat) (i_a1 : jK a1 = 1) (x3 : Int) (r_x3 : jW x3) (x4 : Int) (r_x4 : jW x4) (x5 : Int) (r_x5 : jW x5) (E : jE) (A : jA) (K : jA → Prop) (h : ((x3 ≤ x5 → K A) ∧ (x5 < x3 → ((x3 ≤ x4 → K A) ∧ (x4 < x3 → jrI 94 0 [some (.ref a1), some (.int (jI x4)), some (.int (jI x3)), none] [] E A (fun v3 A1 => ((v3 < (3 : Int) → jrI 92 0 [some (.ref a1), some (.int (jI x4)), some (.int (jI x3)), none] [] E A1 (fun v7 A5 => jrV 88 0 [some (.ref 22), some (.int (jI ((v7 - x4) - 1)))] [] E A5 (fun A9 => jrV 93 90 [some (.ref 22), some (.ref a1), none, some (.int (jI x3)), none, some (.int (jI x5)), none, some (.int (jI v7)), some (.int (jI x4))] [] E A9 K))) ∧ ((3 : Int) ≤ v3 → jrV 88 0 [some (.ref 22), some (.int (jI (257 - v3)))] [] E A1 (fun A11 => (0 ≤ x4 ∧ x4 < (jN a1 : Int)) ∧ jrV 88 0 [some (.ref 22), some (.int (jI (A11 a1 x4)))] [] E A11 (fun A14 => jrV 93 115 [some (.ref 22), some (.ref a1), none, some (.int (jI x3)), some (.int (jI (x4 + v3))), some (.int (jI x5)), none, none, none] [] E A14 K)))))))))) : jrV 93 11 [some (.ref 22), some (.ref a1), none, some (.int (jI x3)), some (.int (jI x4)), some (.int (jI x5)), none, none, none] [] E A K := by
  intro hA
  refine zw_go (pc1 := 13) (L1 := [some (.ref 22), some (.ref a1), none, some (.int (jI x3)), some (.int (jI x4)), some (.int (jI x5)), none, none, none]) (st1 := [.int (jI x5)]) (σ1 := js E A) zM_X4_pack dX4_pack_11 rfl rfl rfl rfl ?_
  refine zw_go (pc1 := 14) (L1 := [some (.ref 22), some (.ref a1), none, some (.int (jI x3)), some (.int (jI x4)), some (.int (jI x5)), none, none, none]) (st1 := [.int (jI x3), .int (jI x5)]) (σ1 := js E A) zM_X4_pack dX4_pack_13 rfl rfl rfl rfl ?_
  refine jw_icmp_ge (tgt := 121) zM_X4_pack dX4_pack_14 rfl r_x5 r_x3 (fun q => ?_) (fun q => ?_)
  · replace h := h.1 q
    exact jw_retv zM_X4_pack dX4_pack_121 rfl hA h
  · replace h := h.2 q
    refine zw_go (pc1 := 19) (L1 := [some (.ref 22), some (.ref a1), none, some (.int (jI x3)), some (.int (jI x4)), some (.int (jI x5)), none, none, none]) (st1 := [.int (jI x4)]) (σ1 := js E A) zM_X4_pack dX4_pack_17 rfl rfl rfl rfl ?_
    refine zw_go (pc1 := 20) (L1 := [some (.ref 22), some (.ref a1), none, some (.int (jI x3)), some (.int (jI x4)), some (.int (jI x5)), none, none, none]) (st1 := [.int (jI x3), .int (jI x4)]) (σ1 := js E A) zM_X4_pack dX4_pack_19 rfl rfl rfl rfl ?_
    refine jw_icmp_ge (tgt := 121) zM_X4_pack dX4_pack_20 rfl r_x4 r_x3 (fun q => ?_) (fun q => ?_)
    · replace h := h.1 q
      exact jw_retv zM_X4_pack dX4_pack_121 rfl hA h
    · replace h := h.2 q
      refine zw_go (pc1 := 24) (L1 := [some (.ref 22), some (.ref a1), none, some (.int (jI x3)), some (.int (jI x4)), some (.int (jI x5)), none, none, none]) (st1 := [.ref a1]) (σ1 := js E A) zM_X4_pack dX4_pack_23 rfl rfl rfl rfl ?_
      refine zw_go (pc1 := 26) (L1 := [some (.ref 22), some (.ref a1), none, some (.int (jI x3)), some (.int (jI x4)), some (.int (jI x5)), none, none, none]) (st1 := [.int (jI x4), .ref a1]) (σ1 := js E A) zM_X4_pack dX4_pack_24 rfl rfl rfl rfl ?_
      refine zw_go (pc1 := 27) (L1 := [some (.ref 22), some (.ref a1), none, some (.int (jI x3)), some (.int (jI x4)), some (.int (jI x5)), none, none, none]) (st1 := [.int (jI x3), .int (jI x4), .ref a1]) (σ1 := js E A) zM_X4_pack dX4_pack_26 rfl rfl rfl rfl ?_
      refine jw_callI (as := [.ref a1, .int (jI x4), .int (jI x3)]) (rest := []) zM_X4_pack dX4_pack_27 (zx_calS zC_4_38) zM_X4_runAt rfl rfl rfl rfl rfl rfl rfl hA h (fun v3 A1 rv4 hA2 h => ?_)
      refine zw_go (pc1 := 32) (L1 := [some (.ref 22), some (.ref a1), none, some (.int (jI x3)), some (.int (jI x4)), some (.int (jI x5)), some (.int (jI v3)), none, none]) (st1 := []) (σ1 := js E A1) zM_X4_pack dX4_pack_30 rfl rfl rfl rfl ?_
      refine zw_go (pc1 := 34) (L1 := [some (.ref 22), some (.ref a1), none, some (.int (jI x3)), some (.int (jI x4)), some (.int (jI x5)), some (.int (jI v3)), none, none]) (st1 := [.int (jI v3)]) (σ1 := js E A1) zM_X4_pack dX4_pack_32 rfl rfl rfl rfl ?_
      refine jw_iconst (v := 3) zM_X4_pack dX4_pack_34 rfl ?_
      refine jw_icmp_lt (tgt := 66) zM_X4_pack dX4_pack_35 rfl rv4 (show jW 3 from ⟨by decide, by decide⟩) (fun q => ?_) (fun q => ?_)
      · replace h := h.1 q
        refine zw_go (pc1 := 67) (L1 := [some (.ref 22), some (.ref a1), none, some (.int (jI x3)), some (.int (jI x4)), some (.int (jI x5)), some (.int (jI v3)), none, none]) (st1 := [.ref a1]) (σ1 := js E A1) zM_X4_pack dX4_pack_66 rfl rfl rfl rfl ?_
        refine zw_go (pc1 := 69) (L1 := [some (.ref 22), some (.ref a1), none, some (.int (jI x3)), some (.int (jI x4)), some (.int (jI x5)), some (.int (jI v3)), none, none]) (st1 := [.int (jI x4), .ref a1]) (σ1 := js E A1) zM_X4_pack dX4_pack_67 rfl rfl rfl rfl ?_
        refine zw_go (pc1 := 70) (L1 := [some (.ref 22), some (.ref a1), none, some (.int (jI x3)), some (.int (jI x4)), some (.int (jI x5)), some (.int (jI v3)), none, none]) (st1 := [.int (jI x3), .int (jI x4), .ref a1]) (σ1 := js E A1) zM_X4_pack dX4_pack_69 rfl rfl rfl rfl ?_
        refine jw_callI (as := [.ref a1, .int (jI x4), .int (jI x3)]) (rest := []) zM_X4_pack dX4_pack_70 (zx_calS zC_4_45) zM_X4_nextRun rfl rfl rfl rfl rfl rfl rfl hA2 h (fun v7 A5 rv8 hA6 h => ?_)
        refine zw_go (pc1 := 75) (L1 := [some (.ref 22), some (.ref a1), none, some (.int (jI x3)), some (.int (jI x4)), some (.int (jI x5)), some (.int (jI v3)), some (.int (jI v7)), none]) (st1 := []) (σ1 := js E A5) zM_X4_pack dX4_pack_73 rfl rfl rfl rfl ?_
        refine zw_go (pc1 := 76) (L1 := [some (.ref 22), some (.ref a1), none, some (.int (jI x3)), some (.int (jI x4)), some (.int (jI x5)), some (.int (jI v3)), some (.int (jI v7)), none]) (st1 := [.ref 22]) (σ1 := js E A5) zM_X4_pack dX4_pack_75 rfl rfl rfl rfl ?_
        refine zw_go (pc1 := 78) (L1 := [some (.ref 22), some (.ref a1), none, some (.int (jI x3)), some (.int (jI x4)), some (.int (jI x5)), some (.int (jI v3)), some (.int (jI v7)), none]) (st1 := [.int (jI v7), .ref 22]) (σ1 := js E A5) zM_X4_pack dX4_pack_76 rfl rfl rfl rfl ?_
        refine zw_go (pc1 := 80) (L1 := [some (.ref 22), some (.ref a1), none, some (.int (jI x3)), some (.int (jI x4)), some (.int (jI x5)), some (.int (jI v3)), some (.int (jI v7)), none]) (st1 := [.int (jI x4), .int (jI v7), .ref 22]) (σ1 := js E A5) zM_X4_pack dX4_pack_78 rfl rfl rfl rfl ?_
        refine jw_sub zM_X4_pack dX4_pack_80 ?_
        refine jw_iconst (v := 1) zM_X4_pack dX4_pack_81 rfl ?_
        refine jw_sub zM_X4_pack dX4_pack_82 ?_
        refine jw_callV (as := [.ref 22, .int (jI ((v7 - x4) - 1))]) (rest := []) zM_X4_pack dX4_pack_83 (zx_calV zC_4_42) zM_X4_addPacked rfl rfl rfl rfl rfl (j_args0 rfl rfl) rfl hA6 h (fun A9 hA10 h => ?_)
        refine zw_go (pc1 := 88) (L1 := [some (.ref 22), some (.ref a1), none, some (.int (jI x3)), some (.int (jI x4)), some (.int (jI x5)), some (.int (jI v3)), some (.int (jI v7)), none]) (st1 := [.int (jI x4)]) (σ1 := js E A9) zM_X4_pack dX4_pack_86 rfl rfl rfl rfl ?_
        refine zw_go (pc1 := 90) (L1 := [some (.ref 22), some (.ref a1), none, some (.int (jI x3)), some (.int (jI x4)), some (.int (jI x5)), some (.int (jI v3)), some (.int (jI v7)), some (.int (jI x4))]) (st1 := []) (σ1 := js E A9) zM_X4_pack dX4_pack_88 rfl rfl rfl rfl ?_
        exact zw_weak2 (h hA10) ⟨rfl, rfl, rfl, rfl, rfl, rfl, trivial⟩
      · replace h := h.2 q
        refine zw_go (pc1 := 39) (L1 := [some (.ref 22), some (.ref a1), none, some (.int (jI x3)), some (.int (jI x4)), some (.int (jI x5)), some (.int (jI v3)), none, none]) (st1 := [.ref 22]) (σ1 := js E A1) zM_X4_pack dX4_pack_38 rfl rfl rfl rfl ?_
        refine jw_sipush (v := 257) zM_X4_pack dX4_pack_39 (by decide) ?_
        refine zw_go (pc1 := 44) (L1 := [some (.ref 22), some (.ref a1), none, some (.int (jI x3)), some (.int (jI x4)), some (.int (jI x5)), some (.int (jI v3)), none, none]) (st1 := [.int (jI v3), .int (jI 257), .ref 22]) (σ1 := js E A1) zM_X4_pack dX4_pack_42 rfl rfl rfl rfl ?_
        refine jw_sub zM_X4_pack dX4_pack_44 ?_
        refine jw_callV (as := [.ref 22, .int (jI (257 - v3))]) (rest := []) zM_X4_pack dX4_pack_45 (zx_calV zC_4_42) zM_X4_addPacked rfl rfl rfl rfl rfl (j_args0 rfl rfl) rfl hA2 h (fun A11 hA12 h => ?_)
        refine zw_go (pc1 := 49) (L1 := [some (.ref 22), some (.ref a1), none, some (.int (jI x3)), some (.int (jI x4)), some (.int (jI x5)), some (.int (jI v3)), none, none]) (st1 := [.ref 22]) (σ1 := js E A11) zM_X4_pack dX4_pack_48 rfl rfl rfl rfl ?_
        refine zw_go (pc1 := 50) (L1 := [some (.ref 22), some (.ref a1), none, some (.int (jI x3)), some (.int (jI x4)), some (.int (jI x5)), some (.int (jI v3)), none, none]) (st1 := [.ref a1, .ref 22]) (σ1 := js E A11) zM_X4_pack dX4_pack_49 rfl rfl rfl rfl ?_
        refine zw_go (pc1 := 52) (L1 := [some (.ref 22), some (.ref a1), none, some (.int (jI x3)), some (.int (jI x4)), some (.int (jI x5)), some (.int (jI v3)), none, none]) (st1 := [.int (jI x4), .ref a1, .ref 22]) (σ1 := js E A11) zM_X4_pack dX4_pack_50 rfl rfl rfl rfl ?_
        obtain ⟨hi13, h⟩ := h
        refine jw_iald zM_X4_pack dX4_pack_52 i_a1 rfl hi13 ?_
        refine jw_callV (as := [.ref 22, .int (jI (A11 a1 x4))]) (rest := []) zM_X4_pack dX4_pack_53 (zx_calV zC_4_42) zM_X4_addPacked rfl rfl rfl rfl rfl (j_args0 rfl rfl) rfl hA12 h (fun A14 hA15 h => ?_)
        refine zw_go (pc1 := 58) (L1 := [some (.ref 22), some (.ref a1), none, some (.int (jI x3)), some (.int (jI x4)), some (.int (jI x5)), some (.int (jI v3)), none, none]) (st1 := [.int (jI x4)]) (σ1 := js E A14) zM_X4_pack dX4_pack_56 rfl rfl rfl rfl ?_
        refine zw_go (pc1 := 60) (L1 := [some (.ref 22), some (.ref a1), none, some (.int (jI x3)), some (.int (jI x4)), some (.int (jI x5)), some (.int (jI v3)), none, none]) (st1 := [.int (jI v3), .int (jI x4)]) (σ1 := js E A14) zM_X4_pack dX4_pack_58 rfl rfl rfl rfl ?_
        refine jw_add zM_X4_pack dX4_pack_60 ?_
        refine zw_go (pc1 := 63) (L1 := [some (.ref 22), some (.ref a1), none, some (.int (jI x3)), some (.int (jI (x4 + v3))), some (.int (jI x5)), some (.int (jI v3)), none, none]) (st1 := []) (σ1 := js E A14) zM_X4_pack dX4_pack_61 rfl rfl rfl rfl ?_
        refine zw_goto (tgt := 115) zM_X4_pack dX4_pack_63 rfl ?_
        exact zw_weak2 (h hA15) ⟨rfl, rfl, rfl, rfl, rfl, trivial⟩
set_option maxHeartbeats 4000000 in
set_option maxRecDepth 100000 in
theorem vd_X4_pack_90 (a1 : Nat) (i_a1 : jK a1 = 1) (x3 : Int) (r_x3 : jW x3) (x5 : Int) (r_x5 : jW x5) (x7 : Int) (r_x7 : jW x7) (x8 : Int) (r_x8 : jW x8) (E : jE) (A : jA) (K : jA → Prop) (h : ((x7 ≤ x8 → jrV 93 115 [some (.ref 22), some (.ref a1), none, some (.int (jI x3)), some (.int (jI x7)), some (.int (jI x5)), none, none, none] [] E A K) ∧ (x8 < x7 → (0 ≤ x8 ∧ x8 < (jN a1 : Int)) ∧ jrV 88 0 [some (.ref 22), some (.int (jI (A a1 x8)))] [] E A (fun A2 => jrV 93 90 [some (.ref 22), some (.ref a1), none, some (.int (jI x3)), none, some (.int (jI x5)), none, some (.int (jI x7)), some (.int (jI (x8 + 1)))] [] E A2 K)))) : jrV 93 90 [some (.ref 22), some (.ref a1), none, some (.int (jI x3)), none, some (.int (jI x5)), none, some (.int (jI x7)), some (.int (jI x8))] [] E A K := by
  intro hA
  refine zw_go (pc1 := 92) (L1 := [some (.ref 22), some (.ref a1), none, some (.int (jI x3)), none, some (.int (jI x5)), none, some (.int (jI x7)), some (.int (jI x8))]) (st1 := [.int (jI x8)]) (σ1 := js E A) zM_X4_pack dX4_pack_90 rfl rfl rfl rfl ?_
  refine zw_go (pc1 := 94) (L1 := [some (.ref 22), some (.ref a1), none, some (.int (jI x3)), none, some (.int (jI x5)), none, some (.int (jI x7)), some (.int (jI x8))]) (st1 := [.int (jI x7), .int (jI x8)]) (σ1 := js E A) zM_X4_pack dX4_pack_92 rfl rfl rfl rfl ?_
  refine jw_icmp_ge (tgt := 111) zM_X4_pack dX4_pack_94 rfl r_x8 r_x7 (fun q => ?_) (fun q => ?_)
  · replace h := h.1 q
    refine zw_go (pc1 := 113) (L1 := [some (.ref 22), some (.ref a1), none, some (.int (jI x3)), none, some (.int (jI x5)), none, some (.int (jI x7)), some (.int (jI x8))]) (st1 := [.int (jI x7)]) (σ1 := js E A) zM_X4_pack dX4_pack_111 rfl rfl rfl rfl ?_
    refine zw_go (pc1 := 115) (L1 := [some (.ref 22), some (.ref a1), none, some (.int (jI x3)), some (.int (jI x7)), some (.int (jI x5)), none, some (.int (jI x7)), some (.int (jI x8))]) (st1 := []) (σ1 := js E A) zM_X4_pack dX4_pack_113 rfl rfl rfl rfl ?_
    exact zw_weak2 (h hA) ⟨rfl, rfl, rfl, rfl, rfl, trivial⟩
  · replace h := h.2 q
    refine zw_go (pc1 := 98) (L1 := [some (.ref 22), some (.ref a1), none, some (.int (jI x3)), none, some (.int (jI x5)), none, some (.int (jI x7)), some (.int (jI x8))]) (st1 := [.ref 22]) (σ1 := js E A) zM_X4_pack dX4_pack_97 rfl rfl rfl rfl ?_
    refine zw_go (pc1 := 99) (L1 := [some (.ref 22), some (.ref a1), none, some (.int (jI x3)), none, some (.int (jI x5)), none, some (.int (jI x7)), some (.int (jI x8))]) (st1 := [.ref a1, .ref 22]) (σ1 := js E A) zM_X4_pack dX4_pack_98 rfl rfl rfl rfl ?_
    refine zw_go (pc1 := 101) (L1 := [some (.ref 22), some (.ref a1), none, some (.int (jI x3)), none, some (.int (jI x5)), none, some (.int (jI x7)), some (.int (jI x8))]) (st1 := [.int (jI x8), .ref a1, .ref 22]) (σ1 := js E A) zM_X4_pack dX4_pack_99 rfl rfl rfl rfl ?_
    obtain ⟨hi1, h⟩ := h
    refine jw_iald zM_X4_pack dX4_pack_101 i_a1 rfl hi1 ?_
    refine jw_callV (as := [.ref 22, .int (jI (A a1 x8))]) (rest := []) zM_X4_pack dX4_pack_102 (zx_calV zC_4_42) zM_X4_addPacked rfl rfl rfl rfl rfl (j_args0 rfl rfl) rfl hA h (fun A2 hA3 h => ?_)
    refine jw_iinc (x := x8) (L1 := [some (.ref 22), some (.ref a1), none, some (.int (jI x3)), none, some (.int (jI x5)), none, some (.int (jI x7)), some (.int (jI (x8 + 1)))]) zM_X4_pack dX4_pack_105 rfl (show 8 < 9 by decide) rfl ?_
    refine zw_goto (tgt := 90) zM_X4_pack dX4_pack_108 rfl ?_
    exact zw_weak2 (h hA3) ⟨rfl, rfl, rfl, rfl, rfl, rfl, trivial⟩
set_option maxHeartbeats 4000000 in
set_option maxRecDepth 100000 in
theorem vd_X4_pack_115 (a1 : Nat) (i_a1 : jK a1 = 1) (x3 : Int) (r_x3 : jW x3) (x4 : Int) (r_x4 : jW x4) (x5 : Int) (r_x5 : jW x5) (E : jE) (A : jA) (K : jA → Prop) (h : jrV 93 11 [some (.ref 22), some (.ref a1), none, some (.int (jI x3)), some (.int (jI x4)), some (.int (jI (x5 + 1))), none, none, none] [] E A K) : jrV 93 115 [some (.ref 22), some (.ref a1), none, some (.int (jI x3)), some (.int (jI x4)), some (.int (jI x5)), none, none, none] [] E A K := by
  intro hA
  refine jw_iinc (x := x5) (L1 := [some (.ref 22), some (.ref a1), none, some (.int (jI x3)), some (.int (jI x4)), some (.int (jI (x5 + 1))), none, none, none]) zM_X4_pack dX4_pack_115 rfl (show 5 < 9 by decide) rfl ?_
  refine zw_goto (tgt := 11) zM_X4_pack dX4_pack_118 rfl ?_
  exact zw_weak2 (h hA) ⟨rfl, rfl, rfl, rfl, rfl, trivial⟩
set_option maxHeartbeats 4000000 in
set_option maxRecDepth 100000 in
theorem vd_X4_runAt_0 (a0 : Nat) (i_a0 : jK a0 = 1) (x1 : Int) (r_x1 : jW x1) (x2 : Int) (r_x2 : jW x2) (E : jE) (A : jA) (K : Int → jA → Prop) (h : jrI 94 2 [some (.ref a0), some (.int (jI x1)), some (.int (jI x2)), some (.int (jI 1))] [] E A K) : jrI 94 0 [some (.ref a0), some (.int (jI x1)), some (.int (jI x2)), none] [] E A K := by
  intro hA
  refine jw_iconst (v := 1) zM_X4_runAt dX4_runAt_0 rfl ?_
  refine zw_go (pc1 := 2) (L1 := [some (.ref a0), some (.int (jI x1)), some (.int (jI x2)), some (.int (jI 1))]) (st1 := []) (σ1 := js E A) zM_X4_runAt dX4_runAt_1 rfl rfl rfl rfl ?_
  exact zw_weak2 (h hA) ⟨rfl, rfl, rfl, rfl, trivial⟩
set_option maxHeartbeats 4000000 in
set_option maxRecDepth 100000 in
theorem vd_X4_runAt_2 (a0 : Nat) (i_a0 : jK a0 = 1) (x1 : Int) (r_x1 : jW x1) (x2 : Int) (r_x2 : jW x2) (x3 : Int) (r_x3 : jW x3) (E : jE) (A : jA) (K : Int → jA → Prop) (h : jW (x1 + x3) ∧ ((x2 ≤ (x1 + x3) → K x3 A) ∧ ((x1 + x3) < x2 → (0 ≤ (x1 + x3) ∧ (x1 + x3) < (jN a0 : Int)) ∧ (0 ≤ x1 ∧ x1 < (jN a0 : Int)) ∧ ((¬ (A a0 (x1 + x3)) = (A a0 x1) → K x3 A) ∧ ((A a0 (x1 + x3)) = (A a0 x1) → jrI 94 2 [some (.ref a0), some (.int (jI x1)), some (.int (jI x2)), some (.int (jI (x3 + 1)))] [] E A K))))) : jrI 94 2 [some (.ref a0), some (.int (jI x1)), some (.int (jI x2)), some (.int (jI x3))] [] E A K := by
  intro hA
  refine zw_go (pc1 := 3) (L1 := [some (.ref a0), some (.int (jI x1)), some (.int (jI x2)), some (.int (jI x3))]) (st1 := [.int (jI x1)]) (σ1 := js E A) zM_X4_runAt dX4_runAt_2 rfl rfl rfl rfl ?_
  refine zw_go (pc1 := 4) (L1 := [some (.ref a0), some (.int (jI x1)), some (.int (jI x2)), some (.int (jI x3))]) (st1 := [.int (jI x3), .int (jI x1)]) (σ1 := js E A) zM_X4_runAt dX4_runAt_3 rfl rfl rfl rfl ?_
  refine jw_add zM_X4_runAt dX4_runAt_4 ?_
  refine zw_go (pc1 := 6) (L1 := [some (.ref a0), some (.int (jI x1)), some (.int (jI x2)), some (.int (jI x3))]) (st1 := [.int (jI x2), .int (jI (x1 + x3))]) (σ1 := js E A) zM_X4_runAt dX4_runAt_5 rfl rfl rfl rfl ?_
  obtain ⟨hw1, h⟩ := h
  refine jw_icmp_ge (tgt := 26) zM_X4_runAt dX4_runAt_6 rfl hw1 r_x2 (fun q => ?_) (fun q => ?_)
  · replace h := h.1 q
    refine zw_go (pc1 := 27) (L1 := [some (.ref a0), some (.int (jI x1)), some (.int (jI x2)), some (.int (jI x3))]) (st1 := [.int (jI x3)]) (σ1 := js E A) zM_X4_runAt dX4_runAt_26 rfl rfl rfl rfl ?_
    exact jw_reti zM_X4_runAt dX4_runAt_27 rfl r_x3 hA h
  · replace h := h.2 q
    refine zw_go (pc1 := 10) (L1 := [some (.ref a0), some (.int (jI x1)), some (.int (jI x2)), some (.int (jI x3))]) (st1 := [.ref a0]) (σ1 := js E A) zM_X4_runAt dX4_runAt_9 rfl rfl rfl rfl ?_
    refine zw_go (pc1 := 11) (L1 := [some (.ref a0), some (.int (jI x1)), some (.int (jI x2)), some (.int (jI x3))]) (st1 := [.int (jI x1), .ref a0]) (σ1 := js E A) zM_X4_runAt dX4_runAt_10 rfl rfl rfl rfl ?_
    refine zw_go (pc1 := 12) (L1 := [some (.ref a0), some (.int (jI x1)), some (.int (jI x2)), some (.int (jI x3))]) (st1 := [.int (jI x3), .int (jI x1), .ref a0]) (σ1 := js E A) zM_X4_runAt dX4_runAt_11 rfl rfl rfl rfl ?_
    refine jw_add zM_X4_runAt dX4_runAt_12 ?_
    obtain ⟨hi2, h⟩ := h
    refine jw_iald zM_X4_runAt dX4_runAt_13 i_a0 rfl hi2 ?_
    refine zw_go (pc1 := 15) (L1 := [some (.ref a0), some (.int (jI x1)), some (.int (jI x2)), some (.int (jI x3))]) (st1 := [.ref a0, .int (jI (A a0 (x1 + x3)))]) (σ1 := js E A) zM_X4_runAt dX4_runAt_14 rfl rfl rfl rfl ?_
    refine zw_go (pc1 := 16) (L1 := [some (.ref a0), some (.int (jI x1)), some (.int (jI x2)), some (.int (jI x3))]) (st1 := [.int (jI x1), .ref a0, .int (jI (A a0 (x1 + x3)))]) (σ1 := js E A) zM_X4_runAt dX4_runAt_15 rfl rfl rfl rfl ?_
    obtain ⟨hi3, h⟩ := h
    refine jw_iald zM_X4_runAt dX4_runAt_16 i_a0 rfl hi3 ?_
    refine jw_icmp_ne (tgt := 26) zM_X4_runAt dX4_runAt_17 rfl (hA a0 (x1 + x3)) (hA a0 x1) (fun q => ?_) (fun q => ?_)
    · replace h := h.1 q
      refine zw_go (pc1 := 27) (L1 := [some (.ref a0), some (.int (jI x1)), some (.int (jI x2)), some (.int (jI x3))]) (st1 := [.int (jI x3)]) (σ1 := js E A) zM_X4_runAt dX4_runAt_26 rfl rfl rfl rfl ?_
      exact jw_reti zM_X4_runAt dX4_runAt_27 rfl r_x3 hA h
    · replace h := h.2 q
      refine jw_iinc (x := x3) (L1 := [some (.ref a0), some (.int (jI x1)), some (.int (jI x2)), some (.int (jI (x3 + 1)))]) zM_X4_runAt dX4_runAt_20 rfl (show 3 < 4 by decide) rfl ?_
      refine zw_goto (tgt := 2) zM_X4_runAt dX4_runAt_23 rfl ?_
      exact zw_weak2 (h hA) ⟨rfl, rfl, rfl, rfl, trivial⟩
set_option maxHeartbeats 4000000 in
set_option maxRecDepth 100000 in
theorem vd_X4_store_0 (a1 : Nat) (i_a1 : jK a1 = 1) (x2 : Int) (r_x2 : jW x2) (x3 : Int) (r_x3 : jW x3) (a4 : Nat) (i_a4 : jim a4) (E : jE) (A : jA) (K : Int → jA → Prop) (h : jrI 91 0 [some (.ref a1), some (.int (jI x2)), some (.int (jI x3)), none] [] E A (fun v3 A1 => ((v3 = (0 : Int) → jrV 93 0 [some (.ref 22), some (.ref a1), some (.int (jI x2)), some (.int (jI (x2 + x3))), none, none, none, none, none] [] E A1 (fun A5 => (((A5 22 1) < x3 → jrV 89 0 [some (.ref 23), some (.int (jI 0)), some (.int (jI (A5 22 1))), some (.ref a4), none] [] E A5 (fun A7 => K (A7 22 1) A7)) ∧ (x3 ≤ (A5 22 1) → jrV 89 0 [some (.ref a1), some (.int (jI x2)), some (.int (jI x3)), some (.ref a4), none] [] E A5 (fun A9 => jW (32768 + x3) ∧ K (32768 + x3) A9))))) ∧ (¬ v3 = (0 : Int) → K 0 A1)))) : jrI 95 0 [some (.ref 22), some (.ref a1), some (.int (jI x2)), some (.int (jI x3)), some (.ref a4)] [] E A K := by
  intro hA
  refine zw_go (pc1 := 1) (L1 := [some (.ref 22), some (.ref a1), some (.int (jI x2)), some (.int (jI x3)), some (.ref a4)]) (st1 := [.ref a1]) (σ1 := js E A) zM_X4_store dX4_store_0 rfl rfl rfl rfl ?_
  refine zw_go (pc1 := 2) (L1 := [some (.ref 22), some (.ref a1), some (.int (jI x2)), some (.int (jI x3)), some (.ref a4)]) (st1 := [.int (jI x2), .ref a1]) (σ1 := js E A) zM_X4_store dX4_store_1 rfl rfl rfl rfl ?_
  refine zw_go (pc1 := 3) (L1 := [some (.ref 22), some (.ref a1), some (.int (jI x2)), some (.int (jI x3)), some (.ref a4)]) (st1 := [.int (jI x3), .int (jI x2), .ref a1]) (σ1 := js E A) zM_X4_store dX4_store_2 rfl rfl rfl rfl ?_
  refine jw_callI (as := [.ref a1, .int (jI x2), .int (jI x3)]) (rest := []) zM_X4_store dX4_store_3 (zx_calS zC_4_15) zM_X4_isZero rfl rfl rfl rfl rfl rfl rfl hA h (fun v3 A1 rv4 hA2 h => ?_)
  refine jw_if_eq (tgt := 11) zM_X4_store dX4_store_6 rfl rv4 (fun q => ?_) (fun q => ?_)
  · replace h := h.1 q
    refine zw_go (pc1 := 12) (L1 := [some (.ref 22), some (.ref a1), some (.int (jI x2)), some (.int (jI x3)), some (.ref a4)]) (st1 := [.ref 22]) (σ1 := js E A1) zM_X4_store dX4_store_11 rfl rfl rfl rfl ?_
    refine zw_go (pc1 := 13) (L1 := [some (.ref 22), some (.ref a1), some (.int (jI x2)), some (.int (jI x3)), some (.ref a4)]) (st1 := [.ref a1, .ref 22]) (σ1 := js E A1) zM_X4_store dX4_store_12 rfl rfl rfl rfl ?_
    refine zw_go (pc1 := 14) (L1 := [some (.ref 22), some (.ref a1), some (.int (jI x2)), some (.int (jI x3)), some (.ref a4)]) (st1 := [.int (jI x2), .ref a1, .ref 22]) (σ1 := js E A1) zM_X4_store dX4_store_13 rfl rfl rfl rfl ?_
    refine zw_go (pc1 := 15) (L1 := [some (.ref 22), some (.ref a1), some (.int (jI x2)), some (.int (jI x3)), some (.ref a4)]) (st1 := [.int (jI x2), .int (jI x2), .ref a1, .ref 22]) (σ1 := js E A1) zM_X4_store dX4_store_14 rfl rfl rfl rfl ?_
    refine zw_go (pc1 := 16) (L1 := [some (.ref 22), some (.ref a1), some (.int (jI x2)), some (.int (jI x3)), some (.ref a4)]) (st1 := [.int (jI x3), .int (jI x2), .int (jI x2), .ref a1, .ref 22]) (σ1 := js E A1) zM_X4_store dX4_store_15 rfl rfl rfl rfl ?_
    refine jw_add zM_X4_store dX4_store_16 ?_
    refine jw_callV (as := [.ref 22, .ref a1, .int (jI x2), .int (jI (x2 + x3))]) (rest := []) zM_X4_store dX4_store_17 (zx_calV zC_4_19) zM_X4_pack rfl rfl rfl rfl rfl (j_args0 rfl rfl) rfl hA2 h (fun A5 hA6 h => ?_)
    refine zw_go (pc1 := 21) (L1 := [some (.ref 22), some (.ref a1), some (.int (jI x2)), some (.int (jI x3)), some (.ref a4)]) (st1 := [.ref 22]) (σ1 := js E A5) zM_X4_store dX4_store_20 rfl rfl rfl rfl ?_
    refine jw_getI zM_X4_store dX4_store_21 zF_4_23 rfl rfl rfl ?_
    refine zw_go (pc1 := 25) (L1 := [some (.ref 22), some (.ref a1), some (.int (jI x2)), some (.int (jI x3)), some (.ref a4)]) (st1 := [.int (jI x3), .int (jI (A5 22 1))]) (σ1 := js E A5) zM_X4_store dX4_store_24 rfl rfl rfl rfl ?_
    refine jw_icmp_lt (tgt := 41) zM_X4_store dX4_store_25 rfl (hA6 22 1) r_x3 (fun q => ?_) (fun q => ?_)
    · replace h := h.1 q
      refine zw_go (pc1 := 42) (L1 := [some (.ref 22), some (.ref a1), some (.int (jI x2)), some (.int (jI x3)), some (.ref a4)]) (st1 := [.ref 22]) (σ1 := js E A5) zM_X4_store dX4_store_41 rfl rfl rfl rfl ?_
      refine jw_getR (a := 23) zM_X4_store dX4_store_42 zF_4_9 rfl rfl rfl ?_
      refine jw_iconst (v := 0) zM_X4_store dX4_store_45 rfl ?_
      refine zw_go (pc1 := 47) (L1 := [some (.ref 22), some (.ref a1), some (.int (jI x2)), some (.int (jI x3)), some (.ref a4)]) (st1 := [.ref 22, .int (jI 0), .ref 23]) (σ1 := js E A5) zM_X4_store dX4_store_46 rfl rfl rfl rfl ?_
      refine jw_getI zM_X4_store dX4_store_47 zF_4_23 rfl rfl rfl ?_
      refine zw_go (pc1 := 52) (L1 := [some (.ref 22), some (.ref a1), some (.int (jI x2)), some (.int (jI x3)), some (.ref a4)]) (st1 := [.ref a4, .int (jI (A5 22 1)), .int (jI 0), .ref 23]) (σ1 := js E A5) zM_X4_store dX4_store_50 rfl rfl rfl rfl ?_
      refine jw_callV (as := [.ref 23, .int (jI 0), .int (jI (A5 22 1)), .ref a4]) (rest := []) zM_X4_store dX4_store_52 (zx_calS zC_4_27) zM_X4_copy rfl rfl rfl rfl rfl rfl rfl hA6 h (fun A7 hA8 h => ?_)
      refine zw_go (pc1 := 56) (L1 := [some (.ref 22), some (.ref a1), some (.int (jI x2)), some (.int (jI x3)), some (.ref a4)]) (st1 := [.ref 22]) (σ1 := js E A7) zM_X4_store dX4_store_55 rfl rfl rfl rfl ?_
      refine jw_getI zM_X4_store dX4_store_56 zF_4_23 rfl rfl rfl ?_
      exact jw_reti zM_X4_store dX4_store_59 rfl (hA8 22 1) hA8 h
    · replace h := h.2 q
      refine zw_go (pc1 := 29) (L1 := [some (.ref 22), some (.ref a1), some (.int (jI x2)), some (.int (jI x3)), some (.ref a4)]) (st1 := [.ref a1]) (σ1 := js E A5) zM_X4_store dX4_store_28 rfl rfl rfl rfl ?_
      refine zw_go (pc1 := 30) (L1 := [some (.ref 22), some (.ref a1), some (.int (jI x2)), some (.int (jI x3)), some (.ref a4)]) (st1 := [.int (jI x2), .ref a1]) (σ1 := js E A5) zM_X4_store dX4_store_29 rfl rfl rfl rfl ?_
      refine zw_go (pc1 := 31) (L1 := [some (.ref 22), some (.ref a1), some (.int (jI x2)), some (.int (jI x3)), some (.ref a4)]) (st1 := [.int (jI x3), .int (jI x2), .ref a1]) (σ1 := js E A5) zM_X4_store dX4_store_30 rfl rfl rfl rfl ?_
      refine zw_go (pc1 := 33) (L1 := [some (.ref 22), some (.ref a1), some (.int (jI x2)), some (.int (jI x3)), some (.ref a4)]) (st1 := [.ref a4, .int (jI x3), .int (jI x2), .ref a1]) (σ1 := js E A5) zM_X4_store dX4_store_31 rfl rfl rfl rfl ?_
      refine jw_callV (as := [.ref a1, .int (jI x2), .int (jI x3), .ref a4]) (rest := []) zM_X4_store dX4_store_33 (zx_calS zC_4_27) zM_X4_copy rfl rfl rfl rfl rfl rfl rfl hA6 h (fun A9 hA10 h => ?_)
      refine jw_ldc (w := 32768) zM_X4_store dX4_store_36 zK_4_31 (by decide) ?_
      refine zw_go (pc1 := 39) (L1 := [some (.ref 22), some (.ref a1), some (.int (jI x2)), some (.int (jI x3)), some (.ref a4)]) (st1 := [.int (jI x3), .int (jI 32768)]) (σ1 := js E A9) zM_X4_store dX4_store_38 rfl rfl rfl rfl ?_
      refine jw_add zM_X4_store dX4_store_39 ?_
      obtain ⟨hw11, h⟩ := h
      exact jw_reti zM_X4_store dX4_store_40 rfl hw11 hA10 h
  · replace h := h.2 q
    refine jw_iconst (v := 0) zM_X4_store dX4_store_9 rfl ?_
    exact jw_reti zM_X4_store dX4_store_10 rfl (show jW 0 from ⟨by decide, by decide⟩) hA2 h
