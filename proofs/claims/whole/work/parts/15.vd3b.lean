set_option maxHeartbeats 4000000 in
set_option maxRecDepth 100000 in
theorem vd_X3_upperImage_0 (x1 : Int) (r_x1 : jW x1) (E : jE) (A : jA) (K : Nat → jA → Prop) (h : (0 ≤ (x1 * 3) ∧ (x1 * 3) < 180) ∧ (0 ≤ (A 42 (x1 * 3)) ∧ (A 42 (x1 * 3)) < 3) ∧ K (E.2.1 (A 42 (x1 * 3)).toNat) A) : jrR 87 0 [some (.ref 38), some (.int (jI x1))] [] E A K := by
  intro hA
  refine zw_go (pc1 := 1) (L1 := [some (.ref 38), some (.int (jI x1))]) (st1 := [.ref 38]) (σ1 := js E A) zM_X3_upperImage dX3_upperImage_0 rfl rfl rfl rfl ?_
  refine jw_getR (a := 40) zM_X3_upperImage dX3_upperImage_1 zF_3_17 rfl rfl rfl ?_
  refine zw_go (pc1 := 5) (L1 := [some (.ref 38), some (.int (jI x1))]) (st1 := [.ref 38, .ref 40]) (σ1 := js E A) zM_X3_upperImage dX3_upperImage_4 rfl rfl rfl rfl ?_
  refine jw_getR (a := 42) zM_X3_upperImage dX3_upperImage_5 zF_3_24 rfl rfl rfl ?_
  refine zw_go (pc1 := 9) (L1 := [some (.ref 38), some (.int (jI x1))]) (st1 := [.int (jI x1), .ref 42, .ref 40]) (σ1 := js E A) zM_X3_upperImage dX3_upperImage_8 rfl rfl rfl rfl ?_
  refine jw_iconst (v := 3) zM_X3_upperImage dX3_upperImage_9 rfl ?_
  refine jw_mul zM_X3_upperImage dX3_upperImage_10 ?_
  obtain ⟨hi1, h⟩ := h
  refine jw_iald zM_X3_upperImage dX3_upperImage_11 rfl rfl hi1 ?_
  obtain ⟨hi2, h⟩ := h
  refine jw_aaldL zM_X3_upperImage dX3_upperImage_12 hi2 ?_
  exact jw_reta zM_X3_upperImage dX3_upperImage_13 rfl hA h
