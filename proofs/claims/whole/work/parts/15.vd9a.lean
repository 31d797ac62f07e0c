set_option maxHeartbeats 4000000 in
set_option maxRecDepth 100000 in
theorem vd_J7_fill_53178_0 (a0 : Nat) (i_a0 : jK a0 = 1) (x1 : Int) (r_x1 : jW x1) (E : jE) (A : jA) (K : jA → Prop) (h : jrV 0 5 [some (.ref a0), some (.int (jI x1)), some (.int (jI 0)), some (.int (jI (jN a0 : Int)))] [] E A K) : jrV 0 0 [some (.ref a0), some (.int (jI x1)), none, none] [] E A K := by
  intro hA
  refine jw_iconst (v := 0) zM_J7_fill_53178 dJ7_fill_53178_0 rfl ?_
  refine zw_go (pc1 := 2) (L1 := [some (.ref a0), some (.int (jI x1)), some (.int (jI 0)), none]) (st1 := []) (σ1 := js E A) zM_J7_fill_53178 dJ7_fill_53178_1 rfl rfl rfl rfl ?_
  refine zw_go (pc1 := 3) (L1 := [some (.ref a0), some (.int (jI x1)), some (.int (jI 0)), none]) (st1 := [.ref a0]) (σ1 := js E A) zM_J7_fill_53178 dJ7_fill_53178_2 rfl rfl rfl rfl ?_
  refine jw_alen zM_J7_fill_53178 dJ7_fill_53178_3 i_a0 rfl ?_
  refine zw_go (pc1 := 5) (L1 := [some (.ref a0), some (.int (jI x1)), some (.int (jI 0)), some (.int (jI (jN a0 : Int)))]) (st1 := []) (σ1 := js E A) zM_J7_fill_53178 dJ7_fill_53178_4 rfl rfl rfl rfl ?_
  exact zw_weak2 (h hA) ⟨rfl, rfl, rfl, rfl, trivial⟩
set_option maxHeartbeats 4000000 in
set_option maxRecDepth 100000 in
theorem vd_J7_fill_53178_5 (a0 : Nat) (i_a0 : jK a0 = 1) (x1 : Int) (r_x1 : jW x1) (x2 : Int) (r_x2 : jW x2) (x3 : Int) (r_x3 : jW x3) (E : jE) (A : jA) (K : jA → Prop) (h : ((x3 ≤ x2 → K A) ∧ (x2 < x3 → (0 ≤ x2 ∧ x2 < (jN a0 : Int)) ∧ ∀ A2 : jA, A2 = jup A a0 x2 x1 → jrV 0 5 [some (.ref a0), some (.int (jI x1)), some (.int (jI (x2 + 1))), some (.int (jI x3))] [] E A2 K))) : jrV 0 5 [some (.ref a0), some (.int (jI x1)), some (.int (jI x2)), some (.int (jI x3))] [] E A K := by
  intro hA
  refine zw_go (pc1 := 6) (L1 := [some (.ref a0), some (.int (jI x1)), some (.int (jI x2)), some (.int (jI x3))]) (st1 := [.int (jI x2)]) (σ1 := js E A) zM_J7_fill_53178 dJ7_fill_53178_5 rfl rfl rfl rfl ?_
  refine zw_go (pc1 := 7) (L1 := [some (.ref a0), some (.int (jI x1)), some (.int (jI x2)), some (.int (jI x3))]) (st1 := [.int (jI x3), .int (jI x2)]) (σ1 := js E A) zM_J7_fill_53178 dJ7_fill_53178_6 rfl rfl rfl rfl ?_
  refine jw_icmp_ge (tgt := 20) zM_J7_fill_53178 dJ7_fill_53178_7 rfl r_x2 r_x3 (fun q => ?_) (fun q => ?_)
  · replace h := h.1 q
    exact jw_retv zM_J7_fill_53178 dJ7_fill_53178_20 rfl hA h
  · replace h := h.2 q
    refine zw_go (pc1 := 11) (L1 := [some (.ref a0), some (.int (jI x1)), some (.int (jI x2)), some (.int (jI x3))]) (st1 := [.ref a0]) (σ1 := js E A) zM_J7_fill_53178 dJ7_fill_53178_10 rfl rfl rfl rfl ?_
    refine zw_go (pc1 := 12) (L1 := [some (.ref a0), some (.int (jI x1)), some (.int (jI x2)), some (.int (jI x3))]) (st1 := [.int (jI x2), .ref a0]) (σ1 := js E A) zM_J7_fill_53178 dJ7_fill_53178_11 rfl rfl rfl rfl ?_
    refine zw_go (pc1 := 13) (L1 := [some (.ref a0), some (.int (jI x1)), some (.int (jI x2)), some (.int (jI x3))]) (st1 := [.int (jI x1), .int (jI x2), .ref a0]) (σ1 := js E A) zM_J7_fill_53178 dJ7_fill_53178_12 rfl rfl rfl rfl ?_
    obtain ⟨hi1, h⟩ := h
    obtain ⟨A2, e3⟩ : ∃ z9 : jA, z9 = jup A a0 x2 x1 := ⟨_, rfl⟩
    replace h := h A2 e3
    have hA4 : jOK A2 := jOK.up hA r_x1 e3
    refine jw_iast zM_J7_fill_53178 dJ7_fill_53178_13 i_a0 rfl hi1 e3 ?_
    refine jw_iinc (x := x2) (L1 := [some (.ref a0), some (.int (jI x1)), some (.int (jI (x2 + 1))), some (.int (jI x3))]) zM_J7_fill_53178 dJ7_fill_53178_14 rfl (show 2 < 4 by decide) rfl ?_
    refine zw_goto (tgt := 5) zM_J7_fill_53178 dJ7_fill_53178_17 rfl ?_
    exact zw_weak2 (h hA4) ⟨rfl, rfl, rfl, rfl, trivial⟩
set_option maxHeartbeats 4000000 in
set_option maxRecDepth 100000 in
theorem vd_J7_fill_fda19_0 (a0 : Nat) (i_a0 : jK a0 = 1) (x1 : Int) (r_x1 : jW x1) (x2 : Int) (r_x2 : jW x2) (x3 : Int) (r_x3 : jW x3) (E : jE) (A : jA) (K : jA → Prop) (h : jrV 2 0 [some (.int (jI (jN a0 : Int))), some (.int (jI x1)), some (.int (jI x2))] [] E A (fun A1 => jrV 1 10 [some (.ref a0), none, some (.int (jI x2)), some (.int (jI x3)), some (.int (jI x1))] [] E A1 K)) : jrV 1 0 [some (.ref a0), some (.int (jI x1)), some (.int (jI x2)), some (.int (jI x3)), none] [] E A K := by
  intro hA
  refine zw_go (pc1 := 1) (L1 := [some (.ref a0), some (.int (jI x1)), some (.int (jI x2)), some (.int (jI x3)), none]) (st1 := [.ref a0]) (σ1 := js E A) zM_J7_fill_fda19 dJ7_fill_fda19_0 rfl rfl rfl rfl ?_
  refine jw_alen zM_J7_fill_fda19 dJ7_fill_fda19_1 i_a0 rfl ?_
  refine zw_go (pc1 := 3) (L1 := [some (.ref a0), some (.int (jI x1)), some (.int (jI x2)), some (.int (jI x3)), none]) (st1 := [.int (jI x1), .int (jI (jN a0 : Int))]) (σ1 := js E A) zM_J7_fill_fda19 dJ7_fill_fda19_2 rfl rfl rfl rfl ?_
  refine zw_go (pc1 := 4) (L1 := [some (.ref a0), some (.int (jI x1)), some (.int (jI x2)), some (.int (jI x3)), none]) (st1 := [.int (jI x2), .int (jI x1), .int (jI (jN a0 : Int))]) (σ1 := js E A) zM_J7_fill_fda19 dJ7_fill_fda19_3 rfl rfl rfl rfl ?_
  refine jw_callV (as := [.int (jI (jN a0 : Int)), .int (jI x1), .int (jI x2)]) (rest := []) zM_J7_fill_fda19 dJ7_fill_fda19_4 (zx_calS zC_9_13) zM_J7_rangeCheck_23922 rfl rfl rfl rfl rfl rfl rfl hA h (fun A1 hA2 h => ?_)
  refine zw_go (pc1 := 8) (L1 := [some (.ref a0), some (.int (jI x1)), some (.int (jI x2)), some (.int (jI x3)), none]) (st1 := [.int (jI x1)]) (σ1 := js E A1) zM_J7_fill_fda19 dJ7_fill_fda19_7 rfl rfl rfl rfl ?_
  refine zw_go (pc1 := 10) (L1 := [some (.ref a0), some (.int (jI x1)), some (.int (jI x2)), some (.int (jI x3)), some (.int (jI x1))]) (st1 := []) (σ1 := js E A1) zM_J7_fill_fda19 dJ7_fill_fda19_8 rfl rfl rfl rfl ?_
  exact zw_weak2 (h hA2) ⟨rfl, rfl, rfl, rfl, trivial⟩
set_option maxHeartbeats 4000000 in
set_option maxRecDepth 100000 in
theorem vd_J7_fill_fda19_10 (a0 : Nat) (i_a0 : jK a0 = 1) (x2 : Int) (r_x2 : jW x2) (x3 : Int) (r_x3 : jW x3) (x4 : Int) (r_x4 : jW x4) (E : jE) (A : jA) (K : jA → Prop) (h : ((x2 ≤ x4 → K A) ∧ (x4 < x2 → (0 ≤ x4 ∧ x4 < (jN a0 : Int)) ∧ ∀ A2 : jA, A2 = jup A a0 x4 x3 → jrV 1 10 [some (.ref a0), none, some (.int (jI x2)), some (.int (jI x3)), some (.int (jI (x4 + 1)))] [] E A2 K))) : jrV 1 10 [some (.ref a0), none, some (.int (jI x2)), some (.int (jI x3)), some (.int (jI x4))] [] E A K := by
  intro hA
  refine zw_go (pc1 := 12) (L1 := [some (.ref a0), none, some (.int (jI x2)), some (.int (jI x3)), some (.int (jI x4))]) (st1 := [.int (jI x4)]) (σ1 := js E A) zM_J7_fill_fda19 dJ7_fill_fda19_10 rfl rfl rfl rfl ?_
  refine zw_go (pc1 := 13) (L1 := [some (.ref a0), none, some (.int (jI x2)), some (.int (jI x3)), some (.int (jI x4))]) (st1 := [.int (jI x2), .int (jI x4)]) (σ1 := js E A) zM_J7_fill_fda19 dJ7_fill_fda19_12 rfl rfl rfl rfl ?_
  refine jw_icmp_ge (tgt := 27) zM_J7_fill_fda19 dJ7_fill_fda19_13 rfl r_x4 r_x2 (fun q => ?_) (fun q => ?_)
  · replace h := h.1 q
    exact jw_retv zM_J7_fill_fda19 dJ7_fill_fda19_27 rfl hA h
  · replace h := h.2 q
    refine zw_go (pc1 := 17) (L1 := [some (.ref a0), none, some (.int (jI x2)), some (.int (jI x3)), some (.int (jI x4))]) (st1 := [.ref a0]) (σ1 := js E A) zM_J7_fill_fda19 dJ7_fill_fda19_16 rfl rfl rfl rfl ?_
    refine zw_go (pc1 := 19) (L1 := [some (.ref a0), none, some (.int (jI x2)), some (.int (jI x3)), some (.int (jI x4))]) (st1 := [.int (jI x4), .ref a0]) (σ1 := js E A) zM_J7_fill_fda19 dJ7_fill_fda19_17 rfl rfl rfl rfl ?_
    refine zw_go (pc1 := 20) (L1 := [some (.ref a0), none, some (.int (jI x2)), some (.int (jI x3)), some (.int (jI x4))]) (st1 := [.int (jI x3), .int (jI x4), .ref a0]) (σ1 := js E A) zM_J7_fill_fda19 dJ7_fill_fda19_19 rfl rfl rfl rfl ?_
    obtain ⟨hi1, h⟩ := h
    obtain ⟨A2, e3⟩ : ∃ z9 : jA, z9 = jup A a0 x4 x3 := ⟨_, rfl⟩
    replace h := h A2 e3
    have hA4 : jOK A2 := jOK.up hA r_x3 e3
    refine jw_iast zM_J7_fill_fda19 dJ7_fill_fda19_20 i_a0 rfl hi1 e3 ?_
    refine jw_iinc (x := x4) (L1 := [some (.ref a0), none, some (.int (jI x2)), some (.int (jI x3)), some (.int (jI (x4 + 1)))]) zM_J7_fill_fda19 dJ7_fill_fda19_21 rfl (show 4 < 5 by decide) rfl ?_
    refine zw_goto (tgt := 10) zM_J7_fill_fda19 dJ7_fill_fda19_24 rfl ?_
    exact zw_weak2 (h hA4) ⟨rfl, rfl, rfl, rfl, trivial⟩
set_option maxHeartbeats 4000000 in
set_option maxRecDepth 100000 in
theorem vd_J7_rangeCheck_23922_0 (x0 : Int) (r_x0 : jW x0) (x1 : Int) (r_x1 : jW x1) (x2 : Int) (r_x2 : jW x2) (E : jE) (A : jA) (K : jA → Prop) (h : ((x1 ≤ x2 → (((0 : Int) ≤ x1 → ((x2 ≤ x0 → K A) ∧ (x0 < x2 → False))) ∧ (x1 < (0 : Int) → False))) ∧ (x2 < x1 → False))) : jrV 2 0 [some (.int (jI x0)), some (.int (jI x1)), some (.int (jI x2))] [] E A K := by
  intro hA
  refine zw_go (pc1 := 1) (L1 := [some (.int (jI x0)), some (.int (jI x1)), some (.int (jI x2))]) (st1 := [.int (jI x1)]) (σ1 := js E A) zM_J7_rangeCheck_23922 dJ7_rangeCheck_23922_0 rfl rfl rfl rfl ?_
  refine zw_go (pc1 := 2) (L1 := [some (.int (jI x0)), some (.int (jI x1)), some (.int (jI x2))]) (st1 := [.int (jI x2), .int (jI x1)]) (σ1 := js E A) zM_J7_rangeCheck_23922 dJ7_rangeCheck_23922_1 rfl rfl rfl rfl ?_
  refine jw_icmp_le (tgt := 46) zM_J7_rangeCheck_23922 dJ7_rangeCheck_23922_2 rfl r_x1 r_x2 (fun q => ?_) (fun q => ?_)
  · replace h := h.1 q
    refine zw_go (pc1 := 47) (L1 := [some (.int (jI x0)), some (.int (jI x1)), some (.int (jI x2))]) (st1 := [.int (jI x1)]) (σ1 := js E A) zM_J7_rangeCheck_23922 dJ7_rangeCheck_23922_46 rfl rfl rfl rfl ?_
    refine jw_if_ge (tgt := 59) zM_J7_rangeCheck_23922 dJ7_rangeCheck_23922_47 rfl r_x1 (fun q => ?_) (fun q => ?_)
    · replace h := h.1 q
      refine zw_go (pc1 := 60) (L1 := [some (.int (jI x0)), some (.int (jI x1)), some (.int (jI x2))]) (st1 := [.int (jI x2)]) (σ1 := js E A) zM_J7_rangeCheck_23922 dJ7_rangeCheck_23922_59 rfl rfl rfl rfl ?_
      refine zw_go (pc1 := 61) (L1 := [some (.int (jI x0)), some (.int (jI x1)), some (.int (jI x2))]) (st1 := [.int (jI x0), .int (jI x2)]) (σ1 := js E A) zM_J7_rangeCheck_23922 dJ7_rangeCheck_23922_60 rfl rfl rfl rfl ?_
      refine jw_icmp_le (tgt := 73) zM_J7_rangeCheck_23922 dJ7_rangeCheck_23922_61 rfl r_x2 r_x0 (fun q => ?_) (fun q => ?_)
      · replace h := h.1 q
        exact jw_retv zM_J7_rangeCheck_23922 dJ7_rangeCheck_23922_73 rfl hA h
      · replace h := h.2 q
        exact h.elim
    · replace h := h.2 q
      exact h.elim
  · replace h := h.2 q
    exact h.elim
