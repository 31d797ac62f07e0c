set_option maxHeartbeats 4000000 in
set_option maxRecDepth 100000 in
theorem vd_X5_addName_0 (x1 : Int) (r_x1 : jW x1) (x2 : Int) (r_x2 : jW x2) (x3 : Int) (r_x3 : jW x3) (E : jE) (A : jA) (K : Int → jA → Prop) (h : (((279 : Int) ≤ (A 2 10) → (0 ≤ x3 ∧ x3 < 32) ∧ K (A 6 x3) A) ∧ ((A 2 10) < (279 : Int) → jrI 99 0 [some (.ref 2), some (.int (jI ((x1 * 1000) + x2))), none] [] E A (fun v4 A2 => jrI 96 33 [some (.ref 2), none, none, some (.int (jI x3)), some (.int (jI ((x1 * 1000) + x2))), some (.int (jI v4)), some (.int (jI (A2 2 10)))] [] E A2 K)))) : jrI 96 0 [some (.ref 2), some (.int (jI x1)), some (.int (jI x2)), some (.int (jI x3)), none, none, none] [] E A K := by
  intro hA
  refine zw_go (pc1 := 1) (L1 := [some (.ref 2), some (.int (jI x1)), some (.int (jI x2)), some (.int (jI x3)), none, none, none]) (st1 := [.ref 2]) (σ1 := js E A) zM_X5_addName dX5_addName_0 rfl rfl rfl rfl ?_
  refine jw_getI zM_X5_addName dX5_addName_1 zF_5_42 rfl rfl rfl ?_
  refine jw_sipush (v := 279) zM_X5_addName dX5_addName_4 (by decide) ?_
  refine jw_icmp_ge (tgt := 115) zM_X5_addName dX5_addName_7 rfl (hA 2 10) (show jW 279 from ⟨by decide, by decide⟩) (fun q => ?_) (fun q => ?_)
  · replace h := h.1 q
    refine zw_go (pc1 := 116) (L1 := [some (.ref 2), some (.int (jI x1)), some (.int (jI x2)), some (.int (jI x3)), none, none, none]) (st1 := [.ref 2]) (σ1 := js E A) zM_X5_addName dX5_addName_115 rfl rfl rfl rfl ?_
    refine jw_getR (a := 6) zM_X5_addName dX5_addName_116 zF_5_21 rfl rfl rfl ?_
    refine zw_go (pc1 := 120) (L1 := [some (.ref 2), some (.int (jI x1)), some (.int (jI x2)), some (.int (jI x3)), none, none, none]) (st1 := [.int (jI x3), .ref 6]) (σ1 := js E A) zM_X5_addName dX5_addName_119 rfl rfl rfl rfl ?_
    obtain ⟨hi1, h⟩ := h
    refine jw_iald zM_X5_addName dX5_addName_120 rfl rfl hi1 ?_
    exact jw_reti zM_X5_addName dX5_addName_121 rfl (hA 6 x3) hA h
  · replace h := h.2 q
    refine zw_go (pc1 := 11) (L1 := [some (.ref 2), some (.int (jI x1)), some (.int (jI x2)), some (.int (jI x3)), none, none, none]) (st1 := [.int (jI x1)]) (σ1 := js E A) zM_X5_addName dX5_addName_10 rfl rfl rfl rfl ?_
    refine jw_sipush (v := 1000) zM_X5_addName dX5_addName_11 (by decide) ?_
    refine jw_mul zM_X5_addName dX5_addName_14 ?_
    refine zw_go (pc1 := 16) (L1 := [some (.ref 2), some (.int (jI x1)), some (.int (jI x2)), some (.int (jI x3)), none, none, none]) (st1 := [.int (jI x2), .int (jI (x1 * 1000))]) (σ1 := js E A) zM_X5_addName dX5_addName_15 rfl rfl rfl rfl ?_
    refine jw_add zM_X5_addName dX5_addName_16 ?_
    refine zw_go (pc1 := 19) (L1 := [some (.ref 2), some (.int (jI x1)), some (.int (jI x2)), some (.int (jI x3)), some (.int (jI ((x1 * 1000) + x2))), none, none]) (st1 := []) (σ1 := js E A) zM_X5_addName dX5_addName_17 rfl rfl rfl rfl ?_
    refine zw_go (pc1 := 20) (L1 := [some (.ref 2), some (.int (jI x1)), some (.int (jI x2)), some (.int (jI x3)), some (.int (jI ((x1 * 1000) + x2))), none, none]) (st1 := [.ref 2]) (σ1 := js E A) zM_X5_addName dX5_addName_19 rfl rfl rfl rfl ?_
    refine zw_go (pc1 := 22) (L1 := [some (.ref 2), some (.int (jI x1)), some (.int (jI x2)), some (.int (jI x3)), some (.int (jI ((x1 * 1000) + x2))), none, none]) (st1 := [.int (jI ((x1 * 1000) + x2)), .ref 2]) (σ1 := js E A) zM_X5_addName dX5_addName_20 rfl rfl rfl rfl ?_
    refine jw_callI (as := [.ref 2, .int (jI ((x1 * 1000) + x2))]) (rest := []) zM_X5_addName dX5_addName_22 (zx_calV zC_5_53) zM_X5_firstFrom rfl rfl rfl rfl rfl (j_args0 rfl rfl) rfl hA h (fun v4 A2 rv5 hA3 h => ?_)
    refine zw_go (pc1 := 27) (L1 := [some (.ref 2), some (.int (jI x1)), some (.int (jI x2)), some (.int (jI x3)), some (.int (jI ((x1 * 1000) + x2))), some (.int (jI v4)), none]) (st1 := []) (σ1 := js E A2) zM_X5_addName dX5_addName_25 rfl rfl rfl rfl ?_
    refine zw_go (pc1 := 28) (L1 := [some (.ref 2), some (.int (jI x1)), some (.int (jI x2)), some (.int (jI x3)), some (.int (jI ((x1 * 1000) + x2))), some (.int (jI v4)), none]) (st1 := [.ref 2]) (σ1 := js E A2) zM_X5_addName dX5_addName_27 rfl rfl rfl rfl ?_
    refine jw_getI zM_X5_addName dX5_addName_28 zF_5_42 rfl rfl rfl ?_
    refine zw_go (pc1 := 33) (L1 := [some (.ref 2), some (.int (jI x1)), some (.int (jI x2)), some (.int (jI x3)), some (.int (jI ((x1 * 1000) + x2))), some (.int (jI v4)), some (.int (jI (A2 2 10)))]) (st1 := []) (σ1 := js E A2) zM_X5_addName dX5_addName_31 rfl rfl rfl rfl ?_
    exact zw_weak2 (h hA3) ⟨rfl, rfl, rfl, rfl, rfl, trivial⟩
set_option maxHeartbeats 4000000 in
set_option maxRecDepth 100000 in
theorem vd_X5_addName_33 (x3 : Int) (r_x3 : jW x3) (x4 : Int) (r_x4 : jW x4) (x5 : Int) (r_x5 : jW x5) (x6 : Int) (r_x6 : jW x6) (E : jE) (A : jA) (K : Int → jA → Prop) (h : ((x6 ≤ x5 → (0 ≤ x5 ∧ x5 < 279) ∧ ∀ A2 : jA, A2 = jup A 10 x5 x4 → (0 ≤ x5 ∧ x5 < 279) ∧ ∀ A6 : jA, A6 = jup A2 11 x5 x3 → jW ((A6 2 10) + 1) ∧ ∀ A10 : jA, A10 = jup A6 2 10 ((A6 2 10) + 1) → (0 ≤ x3 ∧ x3 < 32) ∧ jW ((A10 6 x3) + 1) ∧ (0 ≤ x3 ∧ x3 < 32) ∧ ∀ A16 : jA, A16 = jup A10 6 x3 ((A10 6 x3) + 1) → (0 ≤ x3 ∧ x3 < 32) ∧ K (A16 6 x3) A16) ∧ (x5 < x6 → (0 ≤ (x6 - 1) ∧ (x6 - 1) < 279) ∧ (0 ≤ x6 ∧ x6 < 279) ∧ ∀ A22 : jA, A22 = jup A 10 x6 (A 10 (x6 - 1)) → (0 ≤ (x6 - 1) ∧ (x6 - 1) < 279) ∧ (0 ≤ x6 ∧ x6 < 279) ∧ ∀ A27 : jA, A27 = jup A22 11 x6 (A22 11 (x6 - 1)) → jrI 96 33 [some (.ref 2), none, none, some (.int (jI x3)), some (.int (jI x4)), some (.int (jI x5)), some (.int (jI (x6 + (-1))))] [] E A27 K))) : jrI 96 33 [some (.ref 2), none, none, some (.int (jI x3)), some (.int (jI x4)), some (.int (jI x5)), some (.int (jI x6))] [] E A K := by
  intro hA
  refine zw_go (pc1 := 35) (L1 := [some (.ref 2), none, none, some (.int (jI x3)), some (.int (jI x4)), some (.int (jI x5)), some (.int (jI x6))]) (st1 := [.int (jI x6)]) (σ1 := js E A) zM_X5_addName dX5_addName_33 rfl rfl rfl rfl ?_
  refine zw_go (pc1 := 37) (L1 := [some (.ref 2), none, none, some (.int (jI x3)), some (.int (jI x4)), some (.int (jI x5)), some (.int (jI x6))]) (st1 := [.int (jI x5), .int (jI x6)]) (σ1 := js E A) zM_X5_addName dX5_addName_35 rfl rfl rfl rfl ?_
  refine jw_icmp_le (tgt := 78) zM_X5_addName dX5_addName_37 rfl r_x6 r_x5 (fun q => ?_) (fun q => ?_)
  · replace h := h.1 q
    refine zw_go (pc1 := 79) (L1 := [some (.ref 2), none, none, some (.int (jI x3)), some (.int (jI x4)), some (.int (jI x5)), some (.int (jI x6))]) (st1 := [.ref 2]) (σ1 := js E A) zM_X5_addName dX5_addName_78 rfl rfl rfl rfl ?_
    refine jw_getR (a := 10) zM_X5_addName dX5_addName_79 zF_5_33 rfl rfl rfl ?_
    refine zw_go (pc1 := 84) (L1 := [some (.ref 2), none, none, some (.int (jI x3)), some (.int (jI x4)), some (.int (jI x5)), some (.int (jI x6))]) (st1 := [.int (jI x5), .ref 10]) (σ1 := js E A) zM_X5_addName dX5_addName_82 rfl rfl rfl rfl ?_
    refine zw_go (pc1 := 86) (L1 := [some (.ref 2), none, none, some (.int (jI x3)), some (.int (jI x4)), some (.int (jI x5)), some (.int (jI x6))]) (st1 := [.int (jI x4), .int (jI x5), .ref 10]) (σ1 := js E A) zM_X5_addName dX5_addName_84 rfl rfl rfl rfl ?_
    obtain ⟨hi1, h⟩ := h
    obtain ⟨A2, e3⟩ : ∃ z9 : jA, z9 = jup A 10 x5 x4 := ⟨_, rfl⟩
    replace h := h A2 e3
    have hA4 : jOK A2 := jOK.up hA r_x4 e3
    refine jw_iast zM_X5_addName dX5_addName_86 rfl rfl hi1 e3 ?_
    refine zw_go (pc1 := 88) (L1 := [some (.ref 2), none, none, some (.int (jI x3)), some (.int (jI x4)), some (.int (jI x5)), some (.int (jI x6))]) (st1 := [.ref 2]) (σ1 := js E A2) zM_X5_addName dX5_addName_87 rfl rfl rfl rfl ?_
    refine jw_getR (a := 11) zM_X5_addName dX5_addName_88 zF_5_36 rfl rfl rfl ?_
    refine zw_go (pc1 := 93) (L1 := [some (.ref 2), none, none, some (.int (jI x3)), some (.int (jI x4)), some (.int (jI x5)), some (.int (jI x6))]) (st1 := [.int (jI x5), .ref 11]) (σ1 := js E A2) zM_X5_addName dX5_addName_91 rfl rfl rfl rfl ?_
    refine zw_go (pc1 := 94) (L1 := [some (.ref 2), none, none, some (.int (jI x3)), some (.int (jI x4)), some (.int (jI x5)), some (.int (jI x6))]) (st1 := [.int (jI x3), .int (jI x5), .ref 11]) (σ1 := js E A2) zM_X5_addName dX5_addName_93 rfl rfl rfl rfl ?_
    obtain ⟨hi5, h⟩ := h
    obtain ⟨A6, e7⟩ : ∃ z9 : jA, z9 = jup A2 11 x5 x3 := ⟨_, rfl⟩
    replace h := h A6 e7
    have hA8 : jOK A6 := jOK.up hA4 r_x3 e7
    refine jw_iast zM_X5_addName dX5_addName_94 rfl rfl hi5 e7 ?_
    refine zw_go (pc1 := 96) (L1 := [some (.ref 2), none, none, some (.int (jI x3)), some (.int (jI x4)), some (.int (jI x5)), some (.int (jI x6))]) (st1 := [.ref 2]) (σ1 := js E A6) zM_X5_addName dX5_addName_95 rfl rfl rfl rfl ?_
    refine zw_go (pc1 := 97) (L1 := [some (.ref 2), none, none, some (.int (jI x3)), some (.int (jI x4)), some (.int (jI x5)), some (.int (jI x6))]) (st1 := [.ref 2, .ref 2]) (σ1 := js E A6) zM_X5_addName dX5_addName_96 rfl rfl rfl rfl ?_
    refine jw_getI zM_X5_addName dX5_addName_97 zF_5_42 rfl rfl rfl ?_
    refine jw_iconst (v := 1) zM_X5_addName dX5_addName_100 rfl ?_
    refine jw_add zM_X5_addName dX5_addName_101 ?_
    obtain ⟨hw9, h⟩ := h
    obtain ⟨A10, e11⟩ : ∃ z9 : jA, z9 = jup A6 2 10 ((A6 2 10) + 1) := ⟨_, rfl⟩
    replace h := h A10 e11
    have hA12 : jOK A10 := jOK.up hA8 hw9 e11
    refine jw_putI zM_X5_addName dX5_addName_102 zF_5_42 rfl rfl rfl rfl e11 ?_
    refine zw_go (pc1 := 106) (L1 := [some (.ref 2), none, none, some (.int (jI x3)), some (.int (jI x4)), some (.int (jI x5)), some (.int (jI x6))]) (st1 := [.ref 2]) (σ1 := js E A10) zM_X5_addName dX5_addName_105 rfl rfl rfl rfl ?_
    refine jw_getR (a := 6) zM_X5_addName dX5_addName_106 zF_5_21 rfl rfl rfl ?_
    refine zw_go (pc1 := 110) (L1 := [some (.ref 2), none, none, some (.int (jI x3)), some (.int (jI x4)), some (.int (jI x5)), some (.int (jI x6))]) (st1 := [.int (jI x3), .ref 6]) (σ1 := js E A10) zM_X5_addName dX5_addName_109 rfl rfl rfl rfl ?_
    refine zw_go (pc1 := 111) (L1 := [some (.ref 2), none, none, some (.int (jI x3)), some (.int (jI x4)), some (.int (jI x5)), some (.int (jI x6))]) (st1 := [.int (jI x3), .ref 6, .int (jI x3), .ref 6]) (σ1 := js E A10) zM_X5_addName dX5_addName_110 rfl rfl rfl rfl ?_
    obtain ⟨hi13, h⟩ := h
    refine jw_iald zM_X5_addName dX5_addName_111 rfl rfl hi13 ?_
    refine jw_iconst (v := 1) zM_X5_addName dX5_addName_112 rfl ?_
    refine jw_add zM_X5_addName dX5_addName_113 ?_
    obtain ⟨hw14, h⟩ := h
    obtain ⟨hi15, h⟩ := h
    obtain ⟨A16, e17⟩ : ∃ z9 : jA, z9 = jup A10 6 x3 ((A10 6 x3) + 1) := ⟨_, rfl⟩
    replace h := h A16 e17
    have hA18 : jOK A16 := jOK.up hA12 hw14 e17
    refine jw_iast zM_X5_addName dX5_addName_114 rfl rfl hi15 e17 ?_
    refine zw_go (pc1 := 116) (L1 := [some (.ref 2), none, none, some (.int (jI x3)), some (.int (jI x4)), some (.int (jI x5)), some (.int (jI x6))]) (st1 := [.ref 2]) (σ1 := js E A16) zM_X5_addName dX5_addName_115 rfl rfl rfl rfl ?_
    refine jw_getR (a := 6) zM_X5_addName dX5_addName_116 zF_5_21 rfl rfl rfl ?_
    refine zw_go (pc1 := 120) (L1 := [some (.ref 2), none, none, some (.int (jI x3)), some (.int (jI x4)), some (.int (jI x5)), some (.int (jI x6))]) (st1 := [.int (jI x3), .ref 6]) (σ1 := js E A16) zM_X5_addName dX5_addName_119 rfl rfl rfl rfl ?_
    obtain ⟨hi19, h⟩ := h
    refine jw_iald zM_X5_addName dX5_addName_120 rfl rfl hi19 ?_
    exact jw_reti zM_X5_addName dX5_addName_121 rfl (hA18 6 x3) hA18 h
  · replace h := h.2 q
    refine zw_go (pc1 := 41) (L1 := [some (.ref 2), none, none, some (.int (jI x3)), some (.int (jI x4)), some (.int (jI x5)), some (.int (jI x6))]) (st1 := [.ref 2]) (σ1 := js E A) zM_X5_addName dX5_addName_40 rfl rfl rfl rfl ?_
    refine jw_getR (a := 10) zM_X5_addName dX5_addName_41 zF_5_33 rfl rfl rfl ?_
    refine zw_go (pc1 := 46) (L1 := [some (.ref 2), none, none, some (.int (jI x3)), some (.int (jI x4)), some (.int (jI x5)), some (.int (jI x6))]) (st1 := [.int (jI x6), .ref 10]) (σ1 := js E A) zM_X5_addName dX5_addName_44 rfl rfl rfl rfl ?_
    refine zw_go (pc1 := 47) (L1 := [some (.ref 2), none, none, some (.int (jI x3)), some (.int (jI x4)), some (.int (jI x5)), some (.int (jI x6))]) (st1 := [.ref 2, .int (jI x6), .ref 10]) (σ1 := js E A) zM_X5_addName dX5_addName_46 rfl rfl rfl rfl ?_
    refine jw_getR (a := 10) zM_X5_addName dX5_addName_47 zF_5_33 rfl rfl rfl ?_
    refine zw_go (pc1 := 52) (L1 := [some (.ref 2), none, none, some (.int (jI x3)), some (.int (jI x4)), some (.int (jI x5)), some (.int (jI x6))]) (st1 := [.int (jI x6), .ref 10, .int (jI x6), .ref 10]) (σ1 := js E A) zM_X5_addName dX5_addName_50 rfl rfl rfl rfl ?_
    refine jw_iconst (v := 1) zM_X5_addName dX5_addName_52 rfl ?_
    refine jw_sub zM_X5_addName dX5_addName_53 ?_
    obtain ⟨hi20, h⟩ := h
    refine jw_iald zM_X5_addName dX5_addName_54 rfl rfl hi20 ?_
    obtain ⟨hi21, h⟩ := h
    obtain ⟨A22, e23⟩ : ∃ z9 : jA, z9 = jup A 10 x6 (A 10 (x6 - 1)) := ⟨_, rfl⟩
    replace h := h A22 e23
    have hA24 : jOK A22 := jOK.up hA (hA 10 (x6 - 1)) e23
    refine jw_iast zM_X5_addName dX5_addName_55 rfl rfl hi21 e23 ?_
    refine zw_go (pc1 := 57) (L1 := [some (.ref 2), none, none, some (.int (jI x3)), some (.int (jI x4)), some (.int (jI x5)), some (.int (jI x6))]) (st1 := [.ref 2]) (σ1 := js E A22) zM_X5_addName dX5_addName_56 rfl rfl rfl rfl ?_
    refine jw_getR (a := 11) zM_X5_addName dX5_addName_57 zF_5_36 rfl rfl rfl ?_
    refine zw_go (pc1 := 62) (L1 := [some (.ref 2), none, none, some (.int (jI x3)), some (.int (jI x4)), some (.int (jI x5)), some (.int (jI x6))]) (st1 := [.int (jI x6), .ref 11]) (σ1 := js E A22) zM_X5_addName dX5_addName_60 rfl rfl rfl rfl ?_
    refine zw_go (pc1 := 63) (L1 := [some (.ref 2), none, none, some (.int (jI x3)), some (.int (jI x4)), some (.int (jI x5)), some (.int (jI x6))]) (st1 := [.ref 2, .int (jI x6), .ref 11]) (σ1 := js E A22) zM_X5_addName dX5_addName_62 rfl rfl rfl rfl ?_
    refine jw_getR (a := 11) zM_X5_addName dX5_addName_63 zF_5_36 rfl rfl rfl ?_
    refine zw_go (pc1 := 68) (L1 := [some (.ref 2), none, none, some (.int (jI x3)), some (.int (jI x4)), some (.int (jI x5)), some (.int (jI x6))]) (st1 := [.int (jI x6), .ref 11, .int (jI x6), .ref 11]) (σ1 := js E A22) zM_X5_addName dX5_addName_66 rfl rfl rfl rfl ?_
    refine jw_iconst (v := 1) zM_X5_addName dX5_addName_68 rfl ?_
    refine jw_sub zM_X5_addName dX5_addName_69 ?_
    obtain ⟨hi25, h⟩ := h
    refine jw_iald zM_X5_addName dX5_addName_70 rfl rfl hi25 ?_
    obtain ⟨hi26, h⟩ := h
    obtain ⟨A27, e28⟩ : ∃ z9 : jA, z9 = jup A22 11 x6 (A22 11 (x6 - 1)) := ⟨_, rfl⟩
    replace h := h A27 e28
    have hA29 : jOK A27 := jOK.up hA24 (hA24 11 (x6 - 1)) e28
    refine jw_iast zM_X5_addName dX5_addName_71 rfl rfl hi26 e28 ?_
    refine jw_iinc (x := x6) (L1 := [some (.ref 2), none, none, some (.int (jI x3)), some (.int (jI x4)), some (.int (jI x5)), some (.int (jI (x6 + (-1))))]) zM_X5_addName dX5_addName_72 rfl (show 6 < 7 by decide) rfl ?_
    refine zw_goto (tgt := 33) zM_X5_addName dX5_addName_75 rfl ?_
    exact zw_weak2 (h hA29) ⟨rfl, rfl, rfl, rfl, rfl, trivial⟩
set_option maxHeartbeats 4000000 in
set_option maxRecDepth 100000 in
theorem vd_X5_addNode_0 (x1 : Int) (r_x1 : jW x1) (x2 : Int) (r_x2 : jW x2) (x3 : Int) (r_x3 : jW x3) (E : jE) (A : jA) (K : Int → jA → Prop) (h : jrV 106 0 [some (.ref 2), some (.int (jI x1)), some (.int (jI x3)), none] [] E A (fun A1 => jrI 96 0 [some (.ref 2), some (.int (jI x1)), some (.int (jI x2)), some (.int (jI (A 2 9))), none, none, none] [] E A1 (fun v5 A3 => K (A 2 9) A3))) : jrI 97 0 [some (.ref 2), some (.int (jI x1)), some (.int (jI x2)), some (.int (jI x3)), none] [] E A K := by
  intro hA
  refine zw_go (pc1 := 1) (L1 := [some (.ref 2), some (.int (jI x1)), some (.int (jI x2)), some (.int (jI x3)), none]) (st1 := [.ref 2]) (σ1 := js E A) zM_X5_addNode dX5_addNode_0 rfl rfl rfl rfl ?_
  refine jw_getI zM_X5_addNode dX5_addNode_1 zF_5_46 rfl rfl rfl ?_
  refine zw_go (pc1 := 6) (L1 := [some (.ref 2), some (.int (jI x1)), some (.int (jI x2)), some (.int (jI x3)), some (.int (jI (A 2 9)))]) (st1 := []) (σ1 := js E A) zM_X5_addNode dX5_addNode_4 rfl rfl rfl rfl ?_
  refine zw_go (pc1 := 7) (L1 := [some (.ref 2), some (.int (jI x1)), some (.int (jI x2)), some (.int (jI x3)), some (.int (jI (A 2 9)))]) (st1 := [.ref 2]) (σ1 := js E A) zM_X5_addNode dX5_addNode_6 rfl rfl rfl rfl ?_
  refine zw_go (pc1 := 8) (L1 := [some (.ref 2), some (.int (jI x1)), some (.int (jI x2)), some (.int (jI x3)), some (.int (jI (A 2 9)))]) (st1 := [.int (jI x1), .ref 2]) (σ1 := js E A) zM_X5_addNode dX5_addNode_7 rfl rfl rfl rfl ?_
  refine zw_go (pc1 := 9) (L1 := [some (.ref 2), some (.int (jI x1)), some (.int (jI x2)), some (.int (jI x3)), some (.int (jI (A 2 9)))]) (st1 := [.int (jI x3), .int (jI x1), .ref 2]) (σ1 := js E A) zM_X5_addNode dX5_addNode_8 rfl rfl rfl rfl ?_
  refine jw_callV (as := [.ref 2, .int (jI x1), .int (jI x3)]) (rest := []) zM_X5_addNode dX5_addNode_9 (zx_calV zC_5_49) zM_X5_startNode rfl rfl rfl rfl rfl (j_args0 rfl rfl) rfl hA h (fun A1 hA2 h => ?_)
  refine zw_go (pc1 := 13) (L1 := [some (.ref 2), some (.int (jI x1)), some (.int (jI x2)), some (.int (jI x3)), some (.int (jI (A 2 9)))]) (st1 := [.ref 2]) (σ1 := js E A1) zM_X5_addNode dX5_addNode_12 rfl rfl rfl rfl ?_
  refine zw_go (pc1 := 14) (L1 := [some (.ref 2), some (.int (jI x1)), some (.int (jI x2)), some (.int (jI x3)), some (.int (jI (A 2 9)))]) (st1 := [.int (jI x1), .ref 2]) (σ1 := js E A1) zM_X5_addNode dX5_addNode_13 rfl rfl rfl rfl ?_
  refine zw_go (pc1 := 15) (L1 := [some (.ref 2), some (.int (jI x1)), some (.int (jI x2)), some (.int (jI x3)), some (.int (jI (A 2 9)))]) (st1 := [.int (jI x2), .int (jI x1), .ref 2]) (σ1 := js E A1) zM_X5_addNode dX5_addNode_14 rfl rfl rfl rfl ?_
  refine zw_go (pc1 := 17) (L1 := [some (.ref 2), some (.int (jI x1)), some (.int (jI x2)), some (.int (jI x3)), some (.int (jI (A 2 9)))]) (st1 := [.int (jI (A 2 9)), .int (jI x2), .int (jI x1), .ref 2]) (σ1 := js E A1) zM_X5_addNode dX5_addNode_15 rfl rfl rfl rfl ?_
  refine jw_callI (as := [.ref 2, .int (jI x1), .int (jI x2), .int (jI (A 2 9))]) (rest := []) zM_X5_addNode dX5_addNode_17 (zx_calV zC_5_57) zM_X5_addName rfl rfl rfl rfl rfl (j_args0 rfl rfl) rfl hA2 h (fun v5 A3 rv6 hA4 h => ?_)
  refine zw_go (pc1 := 21) (L1 := [some (.ref 2), some (.int (jI x1)), some (.int (jI x2)), some (.int (jI x3)), some (.int (jI (A 2 9)))]) (st1 := []) (σ1 := js E A3) zM_X5_addNode dX5_addNode_20 rfl rfl rfl rfl ?_
  refine zw_go (pc1 := 23) (L1 := [some (.ref 2), some (.int (jI x1)), some (.int (jI x2)), some (.int (jI x3)), some (.int (jI (A 2 9)))]) (st1 := [.int (jI (A 2 9))]) (σ1 := js E A3) zM_X5_addNode dX5_addNode_21 rfl rfl rfl rfl ?_
  exact jw_reti zM_X5_addNode dX5_addNode_23 rfl (hA 2 9) hA4 h
set_option maxHeartbeats 4000000 in
set_option maxRecDepth 100000 in
theorem vd_X5_append_0 (x1 : Int) (r_x1 : jW x1) (x2 : Int) (r_x2 : jW x2) (x3 : Int) (r_x3 : jW x3) (E : jE) (A : jA) (K : Int → jA → Prop) (h : (0 ≤ x1 ∧ x1 < 32) ∧ jrV 1 0 [some (.ref 9), some (.int (jI ((x1 * 100) + (A 8 x1)))), some (.int (jI (((x1 * 100) + (A 8 x1)) + x3))), some (.int (jI x2)), none] [] E A (fun A2 => (0 ≤ x1 ∧ x1 < 32) ∧ jW ((A2 8 x1) + x3) ∧ (0 ≤ x1 ∧ x1 < 32) ∧ ∀ A7 : jA, A7 = jup A2 8 x1 ((A2 8 x1) + x3) → (0 ≤ x1 ∧ x1 < 32) ∧ K (A7 8 x1) A7)) : jrI 98 0 [some (.ref 2), some (.int (jI x1)), some (.int (jI x2)), some (.int (jI x3)), none] [] E A K := by
  intro hA
  refine zw_go (pc1 := 1) (L1 := [some (.ref 2), some (.int (jI x1)), some (.int (jI x2)), some (.int (jI x3)), none]) (st1 := [.int (jI x1)]) (σ1 := js E A) zM_X5_append dX5_append_0 rfl rfl rfl rfl ?_
  refine jw_bipush (v := 100) zM_X5_append dX5_append_1 (by decide) ?_
  refine jw_mul zM_X5_append dX5_append_3 ?_
  refine zw_go (pc1 := 5) (L1 := [some (.ref 2), some (.int (jI x1)), some (.int (jI x2)), some (.int (jI x3)), none]) (st1 := [.ref 2, .int (jI (x1 * 100))]) (σ1 := js E A) zM_X5_append dX5_append_4 rfl rfl rfl rfl ?_
  refine jw_getR (a := 8) zM_X5_append dX5_append_5 zF_5_27 rfl rfl rfl ?_
  refine zw_go (pc1 := 9) (L1 := [some (.ref 2), some (.int (jI x1)), some (.int (jI x2)), some (.int (jI x3)), none]) (st1 := [.int (jI x1), .ref 8, .int (jI (x1 * 100))]) (σ1 := js E A) zM_X5_append dX5_append_8 rfl rfl rfl rfl ?_
  obtain ⟨hi1, h⟩ := h
  refine jw_iald zM_X5_append dX5_append_9 rfl rfl hi1 ?_
  refine jw_add zM_X5_append dX5_append_10 ?_
  refine zw_go (pc1 := 13) (L1 := [some (.ref 2), some (.int (jI x1)), some (.int (jI x2)), some (.int (jI x3)), some (.int (jI ((x1 * 100) + (A 8 x1))))]) (st1 := []) (σ1 := js E A) zM_X5_append dX5_append_11 rfl rfl rfl rfl ?_
  refine zw_go (pc1 := 14) (L1 := [some (.ref 2), some (.int (jI x1)), some (.int (jI x2)), some (.int (jI x3)), some (.int (jI ((x1 * 100) + (A 8 x1))))]) (st1 := [.ref 2]) (σ1 := js E A) zM_X5_append dX5_append_13 rfl rfl rfl rfl ?_
  refine jw_getR (a := 9) zM_X5_append dX5_append_14 zF_5_30 rfl rfl rfl ?_
  refine zw_go (pc1 := 19) (L1 := [some (.ref 2), some (.int (jI x1)), some (.int (jI x2)), some (.int (jI x3)), some (.int (jI ((x1 * 100) + (A 8 x1))))]) (st1 := [.int (jI ((x1 * 100) + (A 8 x1))), .ref 9]) (σ1 := js E A) zM_X5_append dX5_append_17 rfl rfl rfl rfl ?_
  refine zw_go (pc1 := 21) (L1 := [some (.ref 2), some (.int (jI x1)), some (.int (jI x2)), some (.int (jI x3)), some (.int (jI ((x1 * 100) + (A 8 x1))))]) (st1 := [.int (jI ((x1 * 100) + (A 8 x1))), .int (jI ((x1 * 100) + (A 8 x1))), .ref 9]) (σ1 := js E A) zM_X5_append dX5_append_19 rfl rfl rfl rfl ?_
  refine zw_go (pc1 := 22) (L1 := [some (.ref 2), some (.int (jI x1)), some (.int (jI x2)), some (.int (jI x3)), some (.int (jI ((x1 * 100) + (A 8 x1))))]) (st1 := [.int (jI x3), .int (jI ((x1 * 100) + (A 8 x1))), .int (jI ((x1 * 100) + (A 8 x1))), .ref 9]) (σ1 := js E A) zM_X5_append dX5_append_21 rfl rfl rfl rfl ?_
  refine jw_add zM_X5_append dX5_append_22 ?_
  refine zw_go (pc1 := 24) (L1 := [some (.ref 2), some (.int (jI x1)), some (.int (jI x2)), some (.int (jI x3)), some (.int (jI ((x1 * 100) + (A 8 x1))))]) (st1 := [.int (jI x2), .int (jI (((x1 * 100) + (A 8 x1)) + x3)), .int (jI ((x1 * 100) + (A 8 x1))), .ref 9]) (σ1 := js E A) zM_X5_append dX5_append_23 rfl rfl rfl rfl ?_
  refine jw_callV (as := [.ref 9, .int (jI ((x1 * 100) + (A 8 x1))), .int (jI (((x1 * 100) + (A 8 x1)) + x3)), .int (jI x2)]) (rest := []) zM_X5_append dX5_append_24 (zx_calS zC_5_61) zM_J7_fill_fda19 rfl rfl rfl rfl rfl rfl rfl hA h (fun A2 hA3 h => ?_)
  refine zw_go (pc1 := 28) (L1 := [some (.ref 2), some (.int (jI x1)), some (.int (jI x2)), some (.int (jI x3)), some (.int (jI ((x1 * 100) + (A 8 x1))))]) (st1 := [.ref 2]) (σ1 := js E A2) zM_X5_append dX5_append_27 rfl rfl rfl rfl ?_
  refine jw_getR (a := 8) zM_X5_append dX5_append_28 zF_5_27 rfl rfl rfl ?_
  refine zw_go (pc1 := 32) (L1 := [some (.ref 2), some (.int (jI x1)), some (.int (jI x2)), some (.int (jI x3)), some (.int (jI ((x1 * 100) + (A 8 x1))))]) (st1 := [.int (jI x1), .ref 8]) (σ1 := js E A2) zM_X5_append dX5_append_31 rfl rfl rfl rfl ?_
  refine zw_go (pc1 := 33) (L1 := [some (.ref 2), some (.int (jI x1)), some (.int (jI x2)), some (.int (jI x3)), some (.int (jI ((x1 * 100) + (A 8 x1))))]) (st1 := [.int (jI x1), .ref 8, .int (jI x1), .ref 8]) (σ1 := js E A2) zM_X5_append dX5_append_32 rfl rfl rfl rfl ?_
  obtain ⟨hi4, h⟩ := h
  refine jw_iald zM_X5_append dX5_append_33 rfl rfl hi4 ?_
  refine zw_go (pc1 := 35) (L1 := [some (.ref 2), some (.int (jI x1)), some (.int (jI x2)), some (.int (jI x3)), some (.int (jI ((x1 * 100) + (A 8 x1))))]) (st1 := [.int (jI x3), .int (jI (A2 8 x1)), .int (jI x1), .ref 8]) (σ1 := js E A2) zM_X5_append dX5_append_34 rfl rfl rfl rfl ?_
  refine jw_add zM_X5_append dX5_append_35 ?_
  obtain ⟨hw5, h⟩ := h
  obtain ⟨hi6, h⟩ := h
  obtain ⟨A7, e8⟩ : ∃ z9 : jA, z9 = jup A2 8 x1 ((A2 8 x1) + x3) := ⟨_, rfl⟩
  replace h := h A7 e8
  have hA9 : jOK A7 := jOK.up hA3 hw5 e8
  refine jw_iast zM_X5_append dX5_append_36 rfl rfl hi6 e8 ?_
  refine zw_go (pc1 := 38) (L1 := [some (.ref 2), some (.int (jI x1)), some (.int (jI x2)), some (.int (jI x3)), some (.int (jI ((x1 * 100) + (A 8 x1))))]) (st1 := [.ref 2]) (σ1 := js E A7) zM_X5_append dX5_append_37 rfl rfl rfl rfl ?_
  refine jw_getR (a := 8) zM_X5_append dX5_append_38 zF_5_27 rfl rfl rfl ?_
  refine zw_go (pc1 := 42) (L1 := [some (.ref 2), some (.int (jI x1)), some (.int (jI x2)), some (.int (jI x3)), some (.int (jI ((x1 * 100) + (A 8 x1))))]) (st1 := [.int (jI x1), .ref 8]) (σ1 := js E A7) zM_X5_append dX5_append_41 rfl rfl rfl rfl ?_
  obtain ⟨hi10, h⟩ := h
  refine jw_iald zM_X5_append dX5_append_42 rfl rfl hi10 ?_
  exact jw_reti zM_X5_append dX5_append_43 rfl (hA9 8 x1) hA9 h
set_option maxHeartbeats 4000000 in
set_option maxRecDepth 100000 in
theorem vd_X5_firstFrom_0 (x1 : Int) (r_x1 : jW x1) (E : jE) (A : jA) (K : Int → jA → Prop) (h : jrI 99 2 [some (.ref 2), some (.int (jI x1)), some (.int (jI 0))] [] E A K) : jrI 99 0 [some (.ref 2), some (.int (jI x1)), none] [] E A K := by
  intro hA
  refine jw_iconst (v := 0) zM_X5_firstFrom dX5_firstFrom_0 rfl ?_
  refine zw_go (pc1 := 2) (L1 := [some (.ref 2), some (.int (jI x1)), some (.int (jI 0))]) (st1 := []) (σ1 := js E A) zM_X5_firstFrom dX5_firstFrom_1 rfl rfl rfl rfl ?_
  exact zw_weak2 (h hA) ⟨rfl, rfl, rfl, trivial⟩
set_option maxHeartbeats 4000000 in
set_option maxRecDepth 100000 in
theorem vd_X5_firstFrom_2 (x1 : Int) (r_x1 : jW x1) (x2 : Int) (r_x2 : jW x2) (E : jE) (A : jA) (K : Int → jA → Prop) (h : (((A 2 10) ≤ x2 → K (A 2 10) A) ∧ (x2 < (A 2 10) → (0 ≤ x2 ∧ x2 < 279) ∧ (((A 10 x2) < x1 → jrI 99 2 [some (.ref 2), some (.int (jI x1)), some (.int (jI (x2 + 1)))] [] E A K) ∧ (x1 ≤ (A 10 x2) → K x2 A))))) : jrI 99 2 [some (.ref 2), some (.int (jI x1)), some (.int (jI x2))] [] E A K := by
  intro hA
  refine zw_go (pc1 := 3) (L1 := [some (.ref 2), some (.int (jI x1)), some (.int (jI x2))]) (st1 := [.int (jI x2)]) (σ1 := js E A) zM_X5_firstFrom dX5_firstFrom_2 rfl rfl rfl rfl ?_
  refine zw_go (pc1 := 4) (L1 := [some (.ref 2), some (.int (jI x1)), some (.int (jI x2))]) (st1 := [.ref 2, .int (jI x2)]) (σ1 := js E A) zM_X5_firstFrom dX5_firstFrom_3 rfl rfl rfl rfl ?_
  refine jw_getI zM_X5_firstFrom dX5_firstFrom_4 zF_5_42 rfl rfl rfl ?_
  refine jw_icmp_ge (tgt := 28) zM_X5_firstFrom dX5_firstFrom_7 rfl r_x2 (hA 2 10) (fun q => ?_) (fun q => ?_)
  · replace h := h.1 q
    refine zw_go (pc1 := 29) (L1 := [some (.ref 2), some (.int (jI x1)), some (.int (jI x2))]) (st1 := [.ref 2]) (σ1 := js E A) zM_X5_firstFrom dX5_firstFrom_28 rfl rfl rfl rfl ?_
    refine jw_getI zM_X5_firstFrom dX5_firstFrom_29 zF_5_42 rfl rfl rfl ?_
    exact jw_reti zM_X5_firstFrom dX5_firstFrom_32 rfl (hA 2 10) hA h
  · replace h := h.2 q
    refine zw_go (pc1 := 11) (L1 := [some (.ref 2), some (.int (jI x1)), some (.int (jI x2))]) (st1 := [.ref 2]) (σ1 := js E A) zM_X5_firstFrom dX5_firstFrom_10 rfl rfl rfl rfl ?_
    refine jw_getR (a := 10) zM_X5_firstFrom dX5_firstFrom_11 zF_5_33 rfl rfl rfl ?_
    refine zw_go (pc1 := 15) (L1 := [some (.ref 2), some (.int (jI x1)), some (.int (jI x2))]) (st1 := [.int (jI x2), .ref 10]) (σ1 := js E A) zM_X5_firstFrom dX5_firstFrom_14 rfl rfl rfl rfl ?_
    obtain ⟨hi1, h⟩ := h
    refine jw_iald zM_X5_firstFrom dX5_firstFrom_15 rfl rfl hi1 ?_
    refine zw_go (pc1 := 17) (L1 := [some (.ref 2), some (.int (jI x1)), some (.int (jI x2))]) (st1 := [.int (jI x1), .int (jI (A 10 x2))]) (σ1 := js E A) zM_X5_firstFrom dX5_firstFrom_16 rfl rfl rfl rfl ?_
    refine jw_icmp_lt (tgt := 22) zM_X5_firstFrom dX5_firstFrom_17 rfl (hA 10 x2) r_x1 (fun q => ?_) (fun q => ?_)
    · replace h := h.1 q
      refine jw_iinc (x := x2) (L1 := [some (.ref 2), some (.int (jI x1)), some (.int (jI (x2 + 1)))]) zM_X5_firstFrom dX5_firstFrom_22 rfl (show 2 < 3 by decide) rfl ?_
      refine zw_goto (tgt := 2) zM_X5_firstFrom dX5_firstFrom_25 rfl ?_
      exact zw_weak2 (h hA) ⟨rfl, rfl, rfl, trivial⟩
    · replace h := h.2 q
      refine zw_go (pc1 := 21) (L1 := [some (.ref 2), some (.int (jI x1)), some (.int (jI x2))]) (st1 := [.int (jI x2)]) (σ1 := js E A) zM_X5_firstFrom dX5_firstFrom_20 rfl rfl rfl rfl ?_
      exact jw_reti zM_X5_firstFrom dX5_firstFrom_21 rfl r_x2 hA h
set_option maxHeartbeats 4000000 in
set_option maxRecDepth 100000 in
theorem vd_X5_firstNameOf_0 (x1 : Int) (r_x1 : jW x1) (E : jE) (A : jA) (K : Int → jA → Prop) (h : jrI 99 0 [some (.ref 2), some (.int (jI (x1 * 1000))), none] [] E A (fun v3 A1 => K v3 A1)) : jrI 100 0 [some (.ref 2), some (.int (jI x1))] [] E A K := by
  intro hA
  refine zw_go (pc1 := 1) (L1 := [some (.ref 2), some (.int (jI x1))]) (st1 := [.ref 2]) (σ1 := js E A) zM_X5_firstNameOf dX5_firstNameOf_0 rfl rfl rfl rfl ?_
  refine zw_go (pc1 := 2) (L1 := [some (.ref 2), some (.int (jI x1))]) (st1 := [.int (jI x1), .ref 2]) (σ1 := js E A) zM_X5_firstNameOf dX5_firstNameOf_1 rfl rfl rfl rfl ?_
  refine jw_sipush (v := 1000) zM_X5_firstNameOf dX5_firstNameOf_2 (by decide) ?_
  refine jw_mul zM_X5_firstNameOf dX5_firstNameOf_5 ?_
  refine jw_callI (as := [.ref 2, .int (jI (x1 * 1000))]) (rest := []) zM_X5_firstNameOf dX5_firstNameOf_6 (zx_calV zC_5_53) zM_X5_firstFrom rfl rfl rfl rfl rfl (j_args0 rfl rfl) rfl hA h (fun v3 A1 rv4 hA2 h => ?_)
  exact jw_reti zM_X5_firstNameOf dX5_firstNameOf_9 rfl rv4 hA2 h
set_option maxHeartbeats 4000000 in
set_option maxRecDepth 100000 in
theorem vd_X5_hasNode_0 (x1 : Int) (r_x1 : jW x1) (E : jE) (A : jA) (K : Int → jA → Prop) (h : ((x1 < (0 : Int) → K 0 A) ∧ ((0 : Int) ≤ x1 → (((A 2 9) ≤ x1 → K 0 A) ∧ (x1 < (A 2 9) → K 1 A))))) : jrI 101 0 [some (.ref 2), some (.int (jI x1))] [] E A K := by
  intro hA
  refine zw_go (pc1 := 1) (L1 := [some (.ref 2), some (.int (jI x1))]) (st1 := [.int (jI x1)]) (σ1 := js E A) zM_X5_hasNode dX5_hasNode_0 rfl rfl rfl rfl ?_
  refine jw_if_lt (tgt := 16) zM_X5_hasNode dX5_hasNode_1 rfl r_x1 (fun q => ?_) (fun q => ?_)
  · replace h := h.1 q
    refine jw_iconst (v := 0) zM_X5_hasNode dX5_hasNode_16 rfl ?_
    exact jw_retz zM_X5_hasNode dX5_hasNode_17 rfl (Or.inl rfl) hA h
  · replace h := h.2 q
    refine zw_go (pc1 := 5) (L1 := [some (.ref 2), some (.int (jI x1))]) (st1 := [.int (jI x1)]) (σ1 := js E A) zM_X5_hasNode dX5_hasNode_4 rfl rfl rfl rfl ?_
    refine zw_go (pc1 := 6) (L1 := [some (.ref 2), some (.int (jI x1))]) (st1 := [.ref 2, .int (jI x1)]) (σ1 := js E A) zM_X5_hasNode dX5_hasNode_5 rfl rfl rfl rfl ?_
    refine jw_getI zM_X5_hasNode dX5_hasNode_6 zF_5_46 rfl rfl rfl ?_
    refine jw_icmp_ge (tgt := 16) zM_X5_hasNode dX5_hasNode_9 rfl r_x1 (hA 2 9) (fun q => ?_) (fun q => ?_)
    · replace h := h.1 q
      refine jw_iconst (v := 0) zM_X5_hasNode dX5_hasNode_16 rfl ?_
      exact jw_retz zM_X5_hasNode dX5_hasNode_17 rfl (Or.inl rfl) hA h
    · replace h := h.2 q
      refine jw_iconst (v := 1) zM_X5_hasNode dX5_hasNode_12 rfl ?_
      refine zw_goto (tgt := 17) zM_X5_hasNode dX5_hasNode_13 rfl ?_
      exact jw_retz zM_X5_hasNode dX5_hasNode_17 rfl (Or.inr rfl) hA h
set_option maxHeartbeats 4000000 in
set_option maxRecDepth 100000 in
theorem vd_X5_haveSameBytes_0 (x1 : Int) (r_x1 : jW x1) (x2 : Int) (r_x2 : jW x2) (E : jE) (A : jA) (K : Int → jA → Prop) (h : (0 ≤ x1 ∧ x1 < 32) ∧ (0 ≤ x2 ∧ x2 < 32) ∧ (((A 8 x1) = (A 8 x2) → jrI 102 19 [some (.ref 2), some (.int (jI x1)), some (.int (jI x2)), some (.int (jI 0))] [] E A K) ∧ (¬ (A 8 x1) = (A 8 x2) → K 0 A))) : jrI 102 0 [some (.ref 2), some (.int (jI x1)), some (.int (jI x2)), none] [] E A K := by
  intro hA
  refine zw_go (pc1 := 1) (L1 := [some (.ref 2), some (.int (jI x1)), some (.int (jI x2)), none]) (st1 := [.ref 2]) (σ1 := js E A) zM_X5_haveSameBytes dX5_haveSameBytes_0 rfl rfl rfl rfl ?_
  refine jw_getR (a := 8) zM_X5_haveSameBytes dX5_haveSameBytes_1 zF_5_27 rfl rfl rfl ?_
  refine zw_go (pc1 := 5) (L1 := [some (.ref 2), some (.int (jI x1)), some (.int (jI x2)), none]) (st1 := [.int (jI x1), .ref 8]) (σ1 := js E A) zM_X5_haveSameBytes dX5_haveSameBytes_4 rfl rfl rfl rfl ?_
  obtain ⟨hi1, h⟩ := h
  refine jw_iald zM_X5_haveSameBytes dX5_haveSameBytes_5 rfl rfl hi1 ?_
  refine zw_go (pc1 := 7) (L1 := [some (.ref 2), some (.int (jI x1)), some (.int (jI x2)), none]) (st1 := [.ref 2, .int (jI (A 8 x1))]) (σ1 := js E A) zM_X5_haveSameBytes dX5_haveSameBytes_6 rfl rfl rfl rfl ?_
  refine jw_getR (a := 8) zM_X5_haveSameBytes dX5_haveSameBytes_7 zF_5_27 rfl rfl rfl ?_
  refine zw_go (pc1 := 11) (L1 := [some (.ref 2), some (.int (jI x1)), some (.int (jI x2)), none]) (st1 := [.int (jI x2), .ref 8, .int (jI (A 8 x1))]) (σ1 := js E A) zM_X5_haveSameBytes dX5_haveSameBytes_10 rfl rfl rfl rfl ?_
  obtain ⟨hi2, h⟩ := h
  refine jw_iald zM_X5_haveSameBytes dX5_haveSameBytes_11 rfl rfl hi2 ?_
  refine jw_icmp_eq (tgt := 17) zM_X5_haveSameBytes dX5_haveSameBytes_12 rfl (hA 8 x1) (hA 8 x2) (fun q => ?_) (fun q => ?_)
  · replace h := h.1 q
    refine jw_iconst (v := 0) zM_X5_haveSameBytes dX5_haveSameBytes_17 rfl ?_
    refine zw_go (pc1 := 19) (L1 := [some (.ref 2), some (.int (jI x1)), some (.int (jI x2)), some (.int (jI 0))]) (st1 := []) (σ1 := js E A) zM_X5_haveSameBytes dX5_haveSameBytes_18 rfl rfl rfl rfl ?_
    exact zw_weak2 (h hA) ⟨rfl, rfl, rfl, rfl, trivial⟩
  · replace h := h.2 q
    refine jw_iconst (v := 0) zM_X5_haveSameBytes dX5_haveSameBytes_15 rfl ?_
    exact jw_retz zM_X5_haveSameBytes dX5_haveSameBytes_16 rfl (Or.inl rfl) hA h
set_option maxHeartbeats 4000000 in
set_option maxRecDepth 100000 in
theorem vd_X5_haveSameBytes_19 (x1 : Int) (r_x1 : jW x1) (x2 : Int) (r_x2 : jW x2) (x3 : Int) (r_x3 : jW x3) (E : jE) (A : jA) (K : Int → jA → Prop) (h : (0 ≤ x1 ∧ x1 < 32) ∧ (((A 8 x1) ≤ x3 → K 1 A) ∧ (x3 < (A 8 x1) → (0 ≤ ((x1 * 100) + x3) ∧ ((x1 * 100) + x3) < 3200) ∧ (0 ≤ ((x2 * 100) + x3) ∧ ((x2 * 100) + x3) < 3200) ∧ (((A 9 ((x1 * 100) + x3)) = (A 9 ((x2 * 100) + x3)) → jrI 102 19 [some (.ref 2), some (.int (jI x1)), some (.int (jI x2)), some (.int (jI (x3 + 1)))] [] E A K) ∧ (¬ (A 9 ((x1 * 100) + x3)) = (A 9 ((x2 * 100) + x3)) → K 0 A))))) : jrI 102 19 [some (.ref 2), some (.int (jI x1)), some (.int (jI x2)), some (.int (jI x3))] [] E A K := by
  intro hA
  refine zw_go (pc1 := 20) (L1 := [some (.ref 2), some (.int (jI x1)), some (.int (jI x2)), some (.int (jI x3))]) (st1 := [.int (jI x3)]) (σ1 := js E A) zM_X5_haveSameBytes dX5_haveSameBytes_19 rfl rfl rfl rfl ?_
  refine zw_go (pc1 := 21) (L1 := [some (.ref 2), some (.int (jI x1)), some (.int (jI x2)), some (.int (jI x3))]) (st1 := [.ref 2, .int (jI x3)]) (σ1 := js E A) zM_X5_haveSameBytes dX5_haveSameBytes_20 rfl rfl rfl rfl ?_
  refine jw_getR (a := 8) zM_X5_haveSameBytes dX5_haveSameBytes_21 zF_5_27 rfl rfl rfl ?_
  refine zw_go (pc1 := 25) (L1 := [some (.ref 2), some (.int (jI x1)), some (.int (jI x2)), some (.int (jI x3))]) (st1 := [.int (jI x1), .ref 8, .int (jI x3)]) (σ1 := js E A) zM_X5_haveSameBytes dX5_haveSameBytes_24 rfl rfl rfl rfl ?_
  obtain ⟨hi1, h⟩ := h
  refine jw_iald zM_X5_haveSameBytes dX5_haveSameBytes_25 rfl rfl hi1 ?_
  refine jw_icmp_ge (tgt := 62) zM_X5_haveSameBytes dX5_haveSameBytes_26 rfl r_x3 (hA 8 x1) (fun q => ?_) (fun q => ?_)
  · replace h := h.1 q
    refine jw_iconst (v := 1) zM_X5_haveSameBytes dX5_haveSameBytes_62 rfl ?_
    exact jw_retz zM_X5_haveSameBytes dX5_haveSameBytes_63 rfl (Or.inr rfl) hA h
  · replace h := h.2 q
    refine zw_go (pc1 := 30) (L1 := [some (.ref 2), some (.int (jI x1)), some (.int (jI x2)), some (.int (jI x3))]) (st1 := [.ref 2]) (σ1 := js E A) zM_X5_haveSameBytes dX5_haveSameBytes_29 rfl rfl rfl rfl ?_
    refine jw_getR (a := 9) zM_X5_haveSameBytes dX5_haveSameBytes_30 zF_5_30 rfl rfl rfl ?_
    refine zw_go (pc1 := 34) (L1 := [some (.ref 2), some (.int (jI x1)), some (.int (jI x2)), some (.int (jI x3))]) (st1 := [.int (jI x1), .ref 9]) (σ1 := js E A) zM_X5_haveSameBytes dX5_haveSameBytes_33 rfl rfl rfl rfl ?_
    refine jw_bipush (v := 100) zM_X5_haveSameBytes dX5_haveSameBytes_34 (by decide) ?_
    refine jw_mul zM_X5_haveSameBytes dX5_haveSameBytes_36 ?_
    refine zw_go (pc1 := 38) (L1 := [some (.ref 2), some (.int (jI x1)), some (.int (jI x2)), some (.int (jI x3))]) (st1 := [.int (jI x3), .int (jI (x1 * 100)), .ref 9]) (σ1 := js E A) zM_X5_haveSameBytes dX5_haveSameBytes_37 rfl rfl rfl rfl ?_
    refine jw_add zM_X5_haveSameBytes dX5_haveSameBytes_38 ?_
    obtain ⟨hi2, h⟩ := h
    refine jw_iald zM_X5_haveSameBytes dX5_haveSameBytes_39 rfl rfl hi2 ?_
    refine zw_go (pc1 := 41) (L1 := [some (.ref 2), some (.int (jI x1)), some (.int (jI x2)), some (.int (jI x3))]) (st1 := [.ref 2, .int (jI (A 9 ((x1 * 100) + x3)))]) (σ1 := js E A) zM_X5_haveSameBytes dX5_haveSameBytes_40 rfl rfl rfl rfl ?_
    refine jw_getR (a := 9) zM_X5_haveSameBytes dX5_haveSameBytes_41 zF_5_30 rfl rfl rfl ?_
    refine zw_go (pc1 := 45) (L1 := [some (.ref 2), some (.int (jI x1)), some (.int (jI x2)), some (.int (jI x3))]) (st1 := [.int (jI x2), .ref 9, .int (jI (A 9 ((x1 * 100) + x3)))]) (σ1 := js E A) zM_X5_haveSameBytes dX5_haveSameBytes_44 rfl rfl rfl rfl ?_
    refine jw_bipush (v := 100) zM_X5_haveSameBytes dX5_haveSameBytes_45 (by decide) ?_
    refine jw_mul zM_X5_haveSameBytes dX5_haveSameBytes_47 ?_
    refine zw_go (pc1 := 49) (L1 := [some (.ref 2), some (.int (jI x1)), some (.int (jI x2)), some (.int (jI x3))]) (st1 := [.int (jI x3), .int (jI (x2 * 100)), .ref 9, .int (jI (A 9 ((x1 * 100) + x3)))]) (σ1 := js E A) zM_X5_haveSameBytes dX5_haveSameBytes_48 rfl rfl rfl rfl ?_
    refine jw_add zM_X5_haveSameBytes dX5_haveSameBytes_49 ?_
    obtain ⟨hi3, h⟩ := h
    refine jw_iald zM_X5_haveSameBytes dX5_haveSameBytes_50 rfl rfl hi3 ?_
    refine jw_icmp_eq (tgt := 56) zM_X5_haveSameBytes dX5_haveSameBytes_51 rfl (hA 9 ((x1 * 100) + x3)) (hA 9 ((x2 * 100) + x3)) (fun q => ?_) (fun q => ?_)
    · replace h := h.1 q
      refine jw_iinc (x := x3) (L1 := [some (.ref 2), some (.int (jI x1)), some (.int (jI x2)), some (.int (jI (x3 + 1)))]) zM_X5_haveSameBytes dX5_haveSameBytes_56 rfl (show 3 < 4 by decide) rfl ?_
      refine zw_goto (tgt := 19) zM_X5_haveSameBytes dX5_haveSameBytes_59 rfl ?_
      exact zw_weak2 (h hA) ⟨rfl, rfl, rfl, rfl, trivial⟩
    · replace h := h.2 q
      refine jw_iconst (v := 0) zM_X5_haveSameBytes dX5_haveSameBytes_54 rfl ?_
      exact jw_retz zM_X5_haveSameBytes dX5_haveSameBytes_55 rfl (Or.inl rfl) hA h
set_option maxHeartbeats 4000000 in
set_option maxRecDepth 100000 in
theorem vd_X5_nameAt_0 (x1 : Int) (r_x1 : jW x1) (E : jE) (A : jA) (K : Int → jA → Prop) (h : (0 ≤ x1 ∧ x1 < 279) ∧ 0 ≤ (A 10 x1) ∧ K ((A 10 x1) % 1000) A) : jrI 104 0 [some (.ref 2), some (.int (jI x1))] [] E A K := by
  intro hA
  refine zw_go (pc1 := 1) (L1 := [some (.ref 2), some (.int (jI x1))]) (st1 := [.ref 2]) (σ1 := js E A) zM_X5_nameAt dX5_nameAt_0 rfl rfl rfl rfl ?_
  refine jw_getR (a := 10) zM_X5_nameAt dX5_nameAt_1 zF_5_33 rfl rfl rfl ?_
  refine zw_go (pc1 := 5) (L1 := [some (.ref 2), some (.int (jI x1))]) (st1 := [.int (jI x1), .ref 10]) (σ1 := js E A) zM_X5_nameAt dX5_nameAt_4 rfl rfl rfl rfl ?_
  obtain ⟨hi1, h⟩ := h
  refine jw_iald zM_X5_nameAt dX5_nameAt_5 rfl rfl hi1 ?_
  refine jw_sipush (v := 1000) zM_X5_nameAt dX5_nameAt_6 (by decide) ?_
  obtain ⟨hz2, h⟩ := h
  refine jw_rem zM_X5_nameAt dX5_nameAt_9 (hA 10 x1) (show jW 1000 from ⟨by decide, by decide⟩) hz2 (by decide) ?_
  exact jw_reti zM_X5_nameAt dX5_nameAt_10 rfl (show jW ((A 10 x1) % 1000) from ⟨by omega, by omega⟩) hA h
set_option maxHeartbeats 4000000 in
set_option maxRecDepth 100000 in
theorem vd_X5_reset_0  (E : jE) (A : jA) (K : jA → Prop) (h : ∀ A1 : jA, A1 = jup A 2 10 0 → ∀ A4 : jA, A4 = jup A1 2 9 0 → jrV 106 0 [some (.ref 2), some (.int (jI 0)), some (.int (jI 1)), none] [] E A4 (fun A7 => K A7)) : jrV 105 0 [some (.ref 2)] [] E A K := by
  intro hA
  refine zw_go (pc1 := 1) (L1 := [some (.ref 2)]) (st1 := [.ref 2]) (σ1 := js E A) zM_X5_reset dX5_reset_0 rfl rfl rfl rfl ?_
  refine jw_iconst (v := 0) zM_X5_reset dX5_reset_1 rfl ?_
  obtain ⟨A1, e2⟩ : ∃ z9 : jA, z9 = jup A 2 10 0 := ⟨_, rfl⟩
  replace h := h A1 e2
  have hA3 : jOK A1 := jOK.up hA (show jW 0 from ⟨by decide, by decide⟩) e2
  refine jw_putI zM_X5_reset dX5_reset_2 zF_5_42 rfl rfl rfl rfl e2 ?_
  refine zw_go (pc1 := 6) (L1 := [some (.ref 2)]) (st1 := [.ref 2]) (σ1 := js E A1) zM_X5_reset dX5_reset_5 rfl rfl rfl rfl ?_
  refine jw_iconst (v := 0) zM_X5_reset dX5_reset_6 rfl ?_
  obtain ⟨A4, e5⟩ : ∃ z9 : jA, z9 = jup A1 2 9 0 := ⟨_, rfl⟩
  replace h := h A4 e5
  have hA6 : jOK A4 := jOK.up hA3 (show jW 0 from ⟨by decide, by decide⟩) e5
  refine jw_putI zM_X5_reset dX5_reset_7 zF_5_46 rfl rfl rfl rfl e5 ?_
  refine zw_go (pc1 := 11) (L1 := [some (.ref 2)]) (st1 := [.ref 2]) (σ1 := js E A4) zM_X5_reset dX5_reset_10 rfl rfl rfl rfl ?_
  refine jw_iconst (v := 0) zM_X5_reset dX5_reset_11 rfl ?_
  refine jw_iconst (v := 1) zM_X5_reset dX5_reset_12 rfl ?_
  refine jw_callV (as := [.ref 2, .int (jI 0), .int (jI 1)]) (rest := []) zM_X5_reset dX5_reset_13 (zx_calV zC_5_49) zM_X5_startNode rfl rfl rfl rfl rfl (j_args0 rfl rfl) rfl hA6 h (fun A7 hA8 h => ?_)
  exact jw_retv zM_X5_reset dX5_reset_16 rfl hA8 h
set_option maxHeartbeats 4000000 in
set_option maxRecDepth 100000 in
theorem vd_X5_startNode_0 (x1 : Int) (r_x1 : jW x1) (x2 : Int) (r_x2 : jW x2) (E : jE) (A : jA) (K : jA → Prop) (h : (0 ≤ (A 2 9) ∧ (A 2 9) < 32) ∧ ∀ A2 : jA, A2 = jup A 3 (A 2 9) x2 → (0 ≤ (A 2 9) ∧ (A 2 9) < 32) ∧ ∀ A6 : jA, A6 = jup A2 7 (A 2 9) x1 → (0 ≤ (A 2 9) ∧ (A 2 9) < 32) ∧ ∀ A10 : jA, A10 = jup A6 4 (A 2 9) 0 → (0 ≤ (A 2 9) ∧ (A 2 9) < 32) ∧ ∀ A14 : jA, A14 = jup A10 5 (A 2 9) 0 → (0 ≤ (A 2 9) ∧ (A 2 9) < 32) ∧ ∀ A18 : jA, A18 = jup A14 8 (A 2 9) 0 → (0 ≤ (A 2 9) ∧ (A 2 9) < 32) ∧ ∀ A22 : jA, A22 = jup A18 6 (A 2 9) 0 → jW ((A22 2 9) + 1) ∧ ∀ A26 : jA, A26 = jup A22 2 9 ((A22 2 9) + 1) → K A26) : jrV 106 0 [some (.ref 2), some (.int (jI x1)), some (.int (jI x2)), none] [] E A K := by
  intro hA
  refine zw_go (pc1 := 1) (L1 := [some (.ref 2), some (.int (jI x1)), some (.int (jI x2)), none]) (st1 := [.ref 2]) (σ1 := js E A) zM_X5_startNode dX5_startNode_0 rfl rfl rfl rfl ?_
  refine jw_getI zM_X5_startNode dX5_startNode_1 zF_5_46 rfl rfl rfl ?_
  refine zw_go (pc1 := 5) (L1 := [some (.ref 2), some (.int (jI x1)), some (.int (jI x2)), some (.int (jI (A 2 9)))]) (st1 := []) (σ1 := js E A) zM_X5_startNode dX5_startNode_4 rfl rfl rfl rfl ?_
  refine zw_go (pc1 := 6) (L1 := [some (.ref 2), some (.int (jI x1)), some (.int (jI x2)), some (.int (jI (A 2 9)))]) (st1 := [.ref 2]) (σ1 := js E A) zM_X5_startNode dX5_startNode_5 rfl rfl rfl rfl ?_
  refine jw_getR (a := 3) zM_X5_startNode dX5_startNode_6 zF_5_9 rfl rfl rfl ?_
  refine zw_go (pc1 := 10) (L1 := [some (.ref 2), some (.int (jI x1)), some (.int (jI x2)), some (.int (jI (A 2 9)))]) (st1 := [.int (jI (A 2 9)), .ref 3]) (σ1 := js E A) zM_X5_startNode dX5_startNode_9 rfl rfl rfl rfl ?_
  refine zw_go (pc1 := 11) (L1 := [some (.ref 2), some (.int (jI x1)), some (.int (jI x2)), some (.int (jI (A 2 9)))]) (st1 := [.int (jI x2), .int (jI (A 2 9)), .ref 3]) (σ1 := js E A) zM_X5_startNode dX5_startNode_10 rfl rfl rfl rfl ?_
  obtain ⟨hi1, h⟩ := h
  obtain ⟨A2, e3⟩ : ∃ z9 : jA, z9 = jup A 3 (A 2 9) x2 := ⟨_, rfl⟩
  replace h := h A2 e3
  have hA4 : jOK A2 := jOK.up hA r_x2 e3
  refine jw_iast zM_X5_startNode dX5_startNode_11 rfl rfl hi1 e3 ?_
  refine zw_go (pc1 := 13) (L1 := [some (.ref 2), some (.int (jI x1)), some (.int (jI x2)), some (.int (jI (A 2 9)))]) (st1 := [.ref 2]) (σ1 := js E A2) zM_X5_startNode dX5_startNode_12 rfl rfl rfl rfl ?_
  refine jw_getR (a := 7) zM_X5_startNode dX5_startNode_13 zF_5_24 rfl rfl rfl ?_
  refine zw_go (pc1 := 17) (L1 := [some (.ref 2), some (.int (jI x1)), some (.int (jI x2)), some (.int (jI (A 2 9)))]) (st1 := [.int (jI (A 2 9)), .ref 7]) (σ1 := js E A2) zM_X5_startNode dX5_startNode_16 rfl rfl rfl rfl ?_
  refine zw_go (pc1 := 18) (L1 := [some (.ref 2), some (.int (jI x1)), some (.int (jI x2)), some (.int (jI (A 2 9)))]) (st1 := [.int (jI x1), .int (jI (A 2 9)), .ref 7]) (σ1 := js E A2) zM_X5_startNode dX5_startNode_17 rfl rfl rfl rfl ?_
  obtain ⟨hi5, h⟩ := h
  obtain ⟨A6, e7⟩ : ∃ z9 : jA, z9 = jup A2 7 (A 2 9) x1 := ⟨_, rfl⟩
  replace h := h A6 e7
  have hA8 : jOK A6 := jOK.up hA4 r_x1 e7
  refine jw_iast zM_X5_startNode dX5_startNode_18 rfl rfl hi5 e7 ?_
  refine zw_go (pc1 := 20) (L1 := [some (.ref 2), some (.int (jI x1)), some (.int (jI x2)), some (.int (jI (A 2 9)))]) (st1 := [.ref 2]) (σ1 := js E A6) zM_X5_startNode dX5_startNode_19 rfl rfl rfl rfl ?_
  refine jw_getR (a := 4) zM_X5_startNode dX5_startNode_20 zF_5_15 rfl rfl rfl ?_
  refine zw_go (pc1 := 24) (L1 := [some (.ref 2), some (.int (jI x1)), some (.int (jI x2)), some (.int (jI (A 2 9)))]) (st1 := [.int (jI (A 2 9)), .ref 4]) (σ1 := js E A6) zM_X5_startNode dX5_startNode_23 rfl rfl rfl rfl ?_
  refine jw_iconst (v := 0) zM_X5_startNode dX5_startNode_24 rfl ?_
  obtain ⟨hi9, h⟩ := h
  obtain ⟨A10, e11⟩ : ∃ z9 : jA, z9 = jup A6 4 (A 2 9) 0 := ⟨_, rfl⟩
  replace h := h A10 e11
  have hA12 : jOK A10 := jOK.up hA8 (show jW 0 from ⟨by decide, by decide⟩) e11
  refine jw_iast zM_X5_startNode dX5_startNode_25 rfl rfl hi9 e11 ?_
  refine zw_go (pc1 := 27) (L1 := [some (.ref 2), some (.int (jI x1)), some (.int (jI x2)), some (.int (jI (A 2 9)))]) (st1 := [.ref 2]) (σ1 := js E A10) zM_X5_startNode dX5_startNode_26 rfl rfl rfl rfl ?_
  refine jw_getR (a := 5) zM_X5_startNode dX5_startNode_27 zF_5_18 rfl rfl rfl ?_
  refine zw_go (pc1 := 31) (L1 := [some (.ref 2), some (.int (jI x1)), some (.int (jI x2)), some (.int (jI (A 2 9)))]) (st1 := [.int (jI (A 2 9)), .ref 5]) (σ1 := js E A10) zM_X5_startNode dX5_startNode_30 rfl rfl rfl rfl ?_
  refine jw_iconst (v := 0) zM_X5_startNode dX5_startNode_31 rfl ?_
  obtain ⟨hi13, h⟩ := h
  obtain ⟨A14, e15⟩ : ∃ z9 : jA, z9 = jup A10 5 (A 2 9) 0 := ⟨_, rfl⟩
  replace h := h A14 e15
  have hA16 : jOK A14 := jOK.up hA12 (show jW 0 from ⟨by decide, by decide⟩) e15
  refine jw_iast zM_X5_startNode dX5_startNode_32 rfl rfl hi13 e15 ?_
  refine zw_go (pc1 := 34) (L1 := [some (.ref 2), some (.int (jI x1)), some (.int (jI x2)), some (.int (jI (A 2 9)))]) (st1 := [.ref 2]) (σ1 := js E A14) zM_X5_startNode dX5_startNode_33 rfl rfl rfl rfl ?_
  refine jw_getR (a := 8) zM_X5_startNode dX5_startNode_34 zF_5_27 rfl rfl rfl ?_
  refine zw_go (pc1 := 38) (L1 := [some (.ref 2), some (.int (jI x1)), some (.int (jI x2)), some (.int (jI (A 2 9)))]) (st1 := [.int (jI (A 2 9)), .ref 8]) (σ1 := js E A14) zM_X5_startNode dX5_startNode_37 rfl rfl rfl rfl ?_
  refine jw_iconst (v := 0) zM_X5_startNode dX5_startNode_38 rfl ?_
  obtain ⟨hi17, h⟩ := h
  obtain ⟨A18, e19⟩ : ∃ z9 : jA, z9 = jup A14 8 (A 2 9) 0 := ⟨_, rfl⟩
  replace h := h A18 e19
  have hA20 : jOK A18 := jOK.up hA16 (show jW 0 from ⟨by decide, by decide⟩) e19
  refine jw_iast zM_X5_startNode dX5_startNode_39 rfl rfl hi17 e19 ?_
  refine zw_go (pc1 := 41) (L1 := [some (.ref 2), some (.int (jI x1)), some (.int (jI x2)), some (.int (jI (A 2 9)))]) (st1 := [.ref 2]) (σ1 := js E A18) zM_X5_startNode dX5_startNode_40 rfl rfl rfl rfl ?_
  refine jw_getR (a := 6) zM_X5_startNode dX5_startNode_41 zF_5_21 rfl rfl rfl ?_
  refine zw_go (pc1 := 45) (L1 := [some (.ref 2), some (.int (jI x1)), some (.int (jI x2)), some (.int (jI (A 2 9)))]) (st1 := [.int (jI (A 2 9)), .ref 6]) (σ1 := js E A18) zM_X5_startNode dX5_startNode_44 rfl rfl rfl rfl ?_
  refine jw_iconst (v := 0) zM_X5_startNode dX5_startNode_45 rfl ?_
  obtain ⟨hi21, h⟩ := h
  obtain ⟨A22, e23⟩ : ∃ z9 : jA, z9 = jup A18 6 (A 2 9) 0 := ⟨_, rfl⟩
  replace h := h A22 e23
  have hA24 : jOK A22 := jOK.up hA20 (show jW 0 from ⟨by decide, by decide⟩) e23
  refine jw_iast zM_X5_startNode dX5_startNode_46 rfl rfl hi21 e23 ?_
  refine zw_go (pc1 := 48) (L1 := [some (.ref 2), some (.int (jI x1)), some (.int (jI x2)), some (.int (jI (A 2 9)))]) (st1 := [.ref 2]) (σ1 := js E A22) zM_X5_startNode dX5_startNode_47 rfl rfl rfl rfl ?_
  refine zw_go (pc1 := 49) (L1 := [some (.ref 2), some (.int (jI x1)), some (.int (jI x2)), some (.int (jI (A 2 9)))]) (st1 := [.ref 2, .ref 2]) (σ1 := js E A22) zM_X5_startNode dX5_startNode_48 rfl rfl rfl rfl ?_
  refine jw_getI zM_X5_startNode dX5_startNode_49 zF_5_46 rfl rfl rfl ?_
  refine jw_iconst (v := 1) zM_X5_startNode dX5_startNode_52 rfl ?_
  refine jw_add zM_X5_startNode dX5_startNode_53 ?_
  obtain ⟨hw25, h⟩ := h
  obtain ⟨A26, e27⟩ : ∃ z9 : jA, z9 = jup A22 2 9 ((A22 2 9) + 1) := ⟨_, rfl⟩
  replace h := h A26 e27
  have hA28 : jOK A26 := jOK.up hA24 hw25 e27
  refine jw_putI zM_X5_startNode dX5_startNode_54 zF_5_46 rfl rfl rfl rfl e27 ?_
  exact jw_retv zM_X5_startNode dX5_startNode_57 rfl hA28 h
set_option maxHeartbeats 4000000 in
set_option maxRecDepth 100000 in
theorem vd_X5_takesName_0 (x1 : Int) (r_x1 : jW x1) (x2 : Int) (r_x2 : jW x2) (E : jE) (A : jA) (K : Int → jA → Prop) (h : (0 ≤ x1 ∧ x1 < 32) ∧ (((A 3 x1) = (1 : Int) → jrI 99 0 [some (.ref 2), some (.int (jI ((x1 * 1000) + x2))), none] [] E A (fun v4 A2 => (((A2 2 10) ≤ v4 → K 1 A2) ∧ (v4 < (A2 2 10) → (0 ≤ v4 ∧ v4 < 279) ∧ jW ((x1 * 1000) + x2) ∧ (((A2 10 v4) = ((x1 * 1000) + x2) → K 0 A2) ∧ (¬ (A2 10 v4) = ((x1 * 1000) + x2) → K 1 A2)))))) ∧ (¬ (A 3 x1) = (1 : Int) → K 0 A))) : jrI 107 0 [some (.ref 2), some (.int (jI x1)), some (.int (jI x2)), none, none] [] E A K := by
  intro hA
  refine zw_go (pc1 := 1) (L1 := [some (.ref 2), some (.int (jI x1)), some (.int (jI x2)), none, none]) (st1 := [.ref 2]) (σ1 := js E A) zM_X5_takesName dX5_takesName_0 rfl rfl rfl rfl ?_
  refine jw_getR (a := 3) zM_X5_takesName dX5_takesName_1 zF_5_9 rfl rfl rfl ?_
  refine zw_go (pc1 := 5) (L1 := [some (.ref 2), some (.int (jI x1)), some (.int (jI x2)), none, none]) (st1 := [.int (jI x1), .ref 3]) (σ1 := js E A) zM_X5_takesName dX5_takesName_4 rfl rfl rfl rfl ?_
  obtain ⟨hi1, h⟩ := h
  refine jw_iald zM_X5_takesName dX5_takesName_5 rfl rfl hi1 ?_
  refine jw_iconst (v := 1) zM_X5_takesName dX5_takesName_6 rfl ?_
  refine jw_icmp_eq (tgt := 12) zM_X5_takesName dX5_takesName_7 rfl (hA 3 x1) (show jW 1 from ⟨by decide, by decide⟩) (fun q => ?_) (fun q => ?_)
  · replace h := h.1 q
    refine zw_go (pc1 := 13) (L1 := [some (.ref 2), some (.int (jI x1)), some (.int (jI x2)), none, none]) (st1 := [.int (jI x1)]) (σ1 := js E A) zM_X5_takesName dX5_takesName_12 rfl rfl rfl rfl ?_
    refine jw_sipush (v := 1000) zM_X5_takesName dX5_takesName_13 (by decide) ?_
    refine jw_mul zM_X5_takesName dX5_takesName_16 ?_
    refine zw_go (pc1 := 18) (L1 := [some (.ref 2), some (.int (jI x1)), some (.int (jI x2)), none, none]) (st1 := [.int (jI x2), .int (jI (x1 * 1000))]) (σ1 := js E A) zM_X5_takesName dX5_takesName_17 rfl rfl rfl rfl ?_
    refine jw_add zM_X5_takesName dX5_takesName_18 ?_
    refine zw_go (pc1 := 20) (L1 := [some (.ref 2), some (.int (jI x1)), some (.int (jI x2)), some (.int (jI ((x1 * 1000) + x2))), none]) (st1 := []) (σ1 := js E A) zM_X5_takesName dX5_takesName_19 rfl rfl rfl rfl ?_
    refine zw_go (pc1 := 21) (L1 := [some (.ref 2), some (.int (jI x1)), some (.int (jI x2)), some (.int (jI ((x1 * 1000) + x2))), none]) (st1 := [.ref 2]) (σ1 := js E A) zM_X5_takesName dX5_takesName_20 rfl rfl rfl rfl ?_
    refine zw_go (pc1 := 22) (L1 := [some (.ref 2), some (.int (jI x1)), some (.int (jI x2)), some (.int (jI ((x1 * 1000) + x2))), none]) (st1 := [.int (jI ((x1 * 1000) + x2)), .ref 2]) (σ1 := js E A) zM_X5_takesName dX5_takesName_21 rfl rfl rfl rfl ?_
    refine jw_callI (as := [.ref 2, .int (jI ((x1 * 1000) + x2))]) (rest := []) zM_X5_takesName dX5_takesName_22 (zx_calV zC_5_53) zM_X5_firstFrom rfl rfl rfl rfl rfl (j_args0 rfl rfl) rfl hA h (fun v4 A2 rv5 hA3 h => ?_)
    refine zw_go (pc1 := 27) (L1 := [some (.ref 2), some (.int (jI x1)), some (.int (jI x2)), some (.int (jI ((x1 * 1000) + x2))), some (.int (jI v4))]) (st1 := []) (σ1 := js E A2) zM_X5_takesName dX5_takesName_25 rfl rfl rfl rfl ?_
    refine zw_go (pc1 := 29) (L1 := [some (.ref 2), some (.int (jI x1)), some (.int (jI x2)), some (.int (jI ((x1 * 1000) + x2))), some (.int (jI v4))]) (st1 := [.int (jI v4)]) (σ1 := js E A2) zM_X5_takesName dX5_takesName_27 rfl rfl rfl rfl ?_
    refine zw_go (pc1 := 30) (L1 := [some (.ref 2), some (.int (jI x1)), some (.int (jI x2)), some (.int (jI ((x1 * 1000) + x2))), some (.int (jI v4))]) (st1 := [.ref 2, .int (jI v4)]) (σ1 := js E A2) zM_X5_takesName dX5_takesName_29 rfl rfl rfl rfl ?_
    refine jw_getI zM_X5_takesName dX5_takesName_30 zF_5_42 rfl rfl rfl ?_
    refine jw_icmp_ge (tgt := 47) zM_X5_takesName dX5_takesName_33 rfl rv5 (hA3 2 10) (fun q => ?_) (fun q => ?_)
    · replace h := h.1 q
      refine jw_iconst (v := 1) zM_X5_takesName dX5_takesName_47 rfl ?_
      refine zw_goto (tgt := 52) zM_X5_takesName dX5_takesName_48 rfl ?_
      exact jw_retz zM_X5_takesName dX5_takesName_52 rfl (Or.inr rfl) hA3 h
    · replace h := h.2 q
      refine zw_go (pc1 := 37) (L1 := [some (.ref 2), some (.int (jI x1)), some (.int (jI x2)), some (.int (jI ((x1 * 1000) + x2))), some (.int (jI v4))]) (st1 := [.ref 2]) (σ1 := js E A2) zM_X5_takesName dX5_takesName_36 rfl rfl rfl rfl ?_
      refine jw_getR (a := 10) zM_X5_takesName dX5_takesName_37 zF_5_33 rfl rfl rfl ?_
      refine zw_go (pc1 := 42) (L1 := [some (.ref 2), some (.int (jI x1)), some (.int (jI x2)), some (.int (jI ((x1 * 1000) + x2))), some (.int (jI v4))]) (st1 := [.int (jI v4), .ref 10]) (σ1 := js E A2) zM_X5_takesName dX5_takesName_40 rfl rfl rfl rfl ?_
      obtain ⟨hi6, h⟩ := h
      refine jw_iald zM_X5_takesName dX5_takesName_42 rfl rfl hi6 ?_
      refine zw_go (pc1 := 44) (L1 := [some (.ref 2), some (.int (jI x1)), some (.int (jI x2)), some (.int (jI ((x1 * 1000) + x2))), some (.int (jI v4))]) (st1 := [.int (jI ((x1 * 1000) + x2)), .int (jI (A2 10 v4))]) (σ1 := js E A2) zM_X5_takesName dX5_takesName_43 rfl rfl rfl rfl ?_
      obtain ⟨hw7, h⟩ := h
      refine jw_icmp_eq (tgt := 51) zM_X5_takesName dX5_takesName_44 rfl (hA3 10 v4) hw7 (fun q => ?_) (fun q => ?_)
      · replace h := h.1 q
        refine jw_iconst (v := 0) zM_X5_takesName dX5_takesName_51 rfl ?_
        exact jw_retz zM_X5_takesName dX5_takesName_52 rfl (Or.inl rfl) hA3 h
      · replace h := h.2 q
        refine jw_iconst (v := 1) zM_X5_takesName dX5_takesName_47 rfl ?_
        refine zw_goto (tgt := 52) zM_X5_takesName dX5_takesName_48 rfl ?_
        exact jw_retz zM_X5_takesName dX5_takesName_52 rfl (Or.inr rfl) hA3 h
  · replace h := h.2 q
    refine jw_iconst (v := 0) zM_X5_takesName dX5_takesName_10 rfl ?_
    exact jw_retz zM_X5_takesName dX5_takesName_11 rfl (Or.inl rfl) hA h
