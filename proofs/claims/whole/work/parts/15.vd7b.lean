set_option maxHeartbeats 4000000 in
set_option maxRecDepth 100000 in
theorem vd_X7_build_0 (x1 : Int) (r_x1 : jW x1) (E : jE) (A : jA) (K : Int → jA → Prop) (h : ∀ A1 : jA, A1 = jup A 49 0 0 → ((x1 = (8 : Int) → jrI 142 26 [some (.ref 49), some (.int (jI x1)), none, none, none, none, none] [] E A1 K) ∧ (¬ x1 = (8 : Int) → ((x1 = (16 : Int) → jrI 142 26 [some (.ref 49), some (.int (jI x1)), none, none, none, none, none] [] E A1 K) ∧ (¬ x1 = (16 : Int) → ((x1 = (32 : Int) → jrI 142 26 [some (.ref 49), some (.int (jI x1)), none, none, none, none, none] [] E A1 K) ∧ (¬ x1 = (32 : Int) → K (-2) A1))))))) : jrI 142 0 [some (.ref 49), some (.int (jI x1)), none, none, none, none, none] [] E A K := by
  intro hA
  refine zw_go (pc1 := 1) (L1 := [some (.ref 49), some (.int (jI x1)), none, none, none, none, none]) (st1 := [.ref 49]) (σ1 := js E A) zM_X7_build dX7_build_0 rfl rfl rfl rfl ?_
  refine jw_iconst (v := 0) zM_X7_build dX7_build_1 rfl ?_
  obtain ⟨A1, e2⟩ : ∃ z9 : jA, z9 = jup A 49 0 0 := ⟨_, rfl⟩
  replace h := h A1 e2
  have hA3 : jOK A1 := jOK.up hA (show jW 0 from ⟨by decide, by decide⟩) e2
  refine jw_putI zM_X7_build dX7_build_2 zF_7_98 rfl rfl rfl rfl e2 ?_
  refine zw_go (pc1 := 6) (L1 := [some (.ref 49), some (.int (jI x1)), none, none, none, none, none]) (st1 := [.int (jI x1)]) (σ1 := js E A1) zM_X7_build dX7_build_5 rfl rfl rfl rfl ?_
  refine jw_bipush (v := 8) zM_X7_build dX7_build_6 (by decide) ?_
  refine jw_icmp_eq (tgt := 26) zM_X7_build dX7_build_8 rfl r_x1 (show jW 8 from ⟨by decide, by decide⟩) (fun q => ?_) (fun q => ?_)
  · replace h := h.1 q
    exact zw_weak2 (h hA3) ⟨rfl, rfl, trivial⟩
  · replace h := h.2 q
    refine zw_go (pc1 := 12) (L1 := [some (.ref 49), some (.int (jI x1)), none, none, none, none, none]) (st1 := [.int (jI x1)]) (σ1 := js E A1) zM_X7_build dX7_build_11 rfl rfl rfl rfl ?_
    refine jw_bipush (v := 16) zM_X7_build dX7_build_12 (by decide) ?_
    refine jw_icmp_eq (tgt := 26) zM_X7_build dX7_build_14 rfl r_x1 (show jW 16 from ⟨by decide, by decide⟩) (fun q => ?_) (fun q => ?_)
    · replace h := h.1 q
      exact zw_weak2 (h hA3) ⟨rfl, rfl, trivial⟩
    · replace h := h.2 q
      refine zw_go (pc1 := 18) (L1 := [some (.ref 49), some (.int (jI x1)), none, none, none, none, none]) (st1 := [.int (jI x1)]) (σ1 := js E A1) zM_X7_build dX7_build_17 rfl rfl rfl rfl ?_
      refine jw_bipush (v := 32) zM_X7_build dX7_build_18 (by decide) ?_
      refine jw_icmp_eq (tgt := 26) zM_X7_build dX7_build_20 rfl r_x1 (show jW 32 from ⟨by decide, by decide⟩) (fun q => ?_) (fun q => ?_)
      · replace h := h.1 q
        exact zw_weak2 (h hA3) ⟨rfl, rfl, trivial⟩
      · replace h := h.2 q
        refine jw_bipush (v := (-2)) zM_X7_build dX7_build_23 (by decide) ?_
        exact jw_reti zM_X7_build dX7_build_25 rfl (show jW (-2) from ⟨by decide, by decide⟩) hA3 h
set_option maxHeartbeats 4000000 in
set_option maxRecDepth 100000 in
theorem vd_X7_build_26 (x1 : Int) (r_x1 : jW x1) (E : jE) (A : jA) (K : Int → jA → Prop) (h : ((¬ (A 49 11) = (3 : Int) → ∀ A1 : jA, A1 = jup A 49 14 (A 49 11) → jrV 189 0 [some (.ref 49), none, none, none, none] [] E A1 (fun A4 => ∀ A6 : jA, A6 = jup A4 49 15 18 → ∀ A9 : jA, A9 = jup A6 49 27 0 → jrI 142 62 [some (.ref 49), some (.int (jI x1)), some (.int (jI 1)), none, none, none, none] [] E A9 K)) ∧ ((A 49 11) = (3 : Int) → K (-4) A))) : jrI 142 26 [some (.ref 49), some (.int (jI x1)), none, none, none, none, none] [] E A K := by
  intro hA
  refine zw_go (pc1 := 27) (L1 := [some (.ref 49), some (.int (jI x1)), none, none, none, none, none]) (st1 := [.ref 49]) (σ1 := js E A) zM_X7_build dX7_build_26 rfl rfl rfl rfl ?_
  refine jw_getI zM_X7_build dX7_build_27 zF_7_168 rfl rfl rfl ?_
  refine jw_iconst (v := 3) zM_X7_build dX7_build_30 rfl ?_
  refine jw_icmp_ne (tgt := 37) zM_X7_build dX7_build_31 rfl (hA 49 11) (show jW 3 from ⟨by decide, by decide⟩) (fun q => ?_) (fun q => ?_)
  · replace h := h.1 q
    refine zw_go (pc1 := 38) (L1 := [some (.ref 49), some (.int (jI x1)), none, none, none, none, none]) (st1 := [.ref 49]) (σ1 := js E A) zM_X7_build dX7_build_37 rfl rfl rfl rfl ?_
    refine zw_go (pc1 := 39) (L1 := [some (.ref 49), some (.int (jI x1)), none, none, none, none, none]) (st1 := [.ref 49, .ref 49]) (σ1 := js E A) zM_X7_build dX7_build_38 rfl rfl rfl rfl ?_
    refine jw_getI zM_X7_build dX7_build_39 zF_7_168 rfl rfl rfl ?_
    obtain ⟨A1, e2⟩ : ∃ z9 : jA, z9 = jup A 49 14 (A 49 11) := ⟨_, rfl⟩
    replace h := h A1 e2
    have hA3 : jOK A1 := jOK.up hA (hA 49 11) e2
    refine jw_putI zM_X7_build dX7_build_42 zF_7_129 rfl rfl rfl rfl e2 ?_
    refine zw_go (pc1 := 46) (L1 := [some (.ref 49), some (.int (jI x1)), none, none, none, none, none]) (st1 := [.ref 49]) (σ1 := js E A1) zM_X7_build dX7_build_45 rfl rfl rfl rfl ?_
    refine jw_callV (as := [.ref 49]) (rest := []) zM_X7_build dX7_build_46 (zx_calV zC_7_171) zM_X7_number rfl rfl rfl rfl rfl (j_args0 rfl rfl) rfl hA3 h (fun A4 hA5 h => ?_)
    refine zw_go (pc1 := 50) (L1 := [some (.ref 49), some (.int (jI x1)), none, none, none, none, none]) (st1 := [.ref 49]) (σ1 := js E A4) zM_X7_build dX7_build_49 rfl rfl rfl rfl ?_
    refine jw_bipush (v := 18) zM_X7_build dX7_build_50 (by decide) ?_
    obtain ⟨A6, e7⟩ : ∃ z9 : jA, z9 = jup A4 49 15 18 := ⟨_, rfl⟩
    replace h := h A6 e7
    have hA8 : jOK A6 := jOK.up hA5 (show jW 18 from ⟨by decide, by decide⟩) e7
    refine jw_putI zM_X7_build dX7_build_52 zF_7_132 rfl rfl rfl rfl e7 ?_
    refine zw_go (pc1 := 56) (L1 := [some (.ref 49), some (.int (jI x1)), none, none, none, none, none]) (st1 := [.ref 49]) (σ1 := js E A6) zM_X7_build dX7_build_55 rfl rfl rfl rfl ?_
    refine jw_iconst (v := 0) zM_X7_build dX7_build_56 rfl ?_
    obtain ⟨A9, e10⟩ : ∃ z9 : jA, z9 = jup A6 49 27 0 := ⟨_, rfl⟩
    replace h := h A9 e10
    have hA11 : jOK A9 := jOK.up hA8 (show jW 0 from ⟨by decide, by decide⟩) e10
    refine jw_putI zM_X7_build dX7_build_57 zF_7_165 rfl rfl rfl rfl e10 ?_
    refine jw_iconst (v := 1) zM_X7_build dX7_build_60 rfl ?_
    refine zw_go (pc1 := 62) (L1 := [some (.ref 49), some (.int (jI x1)), some (.int (jI 1)), none, none, none, none]) (st1 := []) (σ1 := js E A9) zM_X7_build dX7_build_61 rfl rfl rfl rfl ?_
    exact zw_weak2 (h hA11) ⟨rfl, rfl, rfl, trivial⟩
  · replace h := h.2 q
    refine jw_bipush (v := (-4)) zM_X7_build dX7_build_34 (by decide) ?_
    exact jw_reti zM_X7_build dX7_build_36 rfl (show jW (-4) from ⟨by decide, by decide⟩) hA h
set_option maxHeartbeats 4000000 in
set_option maxRecDepth 100000 in
theorem vd_X7_build_62 (x1 : Int) (r_x1 : jW x1) (x2 : Int) (r_x2 : jW x2) (E : jE) (A : jA) (K : Int → jA → Prop) (h : (((A 49 18) < x2 → jrI 142 189 [some (.ref 49), some (.int (jI x1)), some (.int (jI 0)), none, none, none, none] [] E A K) ∧ (x2 ≤ (A 49 18) → (0 ≤ x2 ∧ x2 < 33) ∧ (0 ≤ (A 61 x2) ∧ (A 61 x2) < 32) ∧ ((¬ (A 50 (A 61 x2)) = (2 : Int) → jrI 142 181 [some (.ref 49), some (.int (jI x1)), some (.int (jI x2)), none, none, none, none] [] E A K) ∧ ((A 50 (A 61 x2)) = (2 : Int) → jrI 155 0 [some (.ref 49), some (.int (jI x2)), none, none] [] E A (fun v5 A3 => ((¬ v5 = x2 → (0 ≤ v5 ∧ v5 < 33) ∧ (0 ≤ x2 ∧ x2 < 33) ∧ ∀ A9 : jA, A9 = jup A3 64 x2 (A3 64 v5) → (0 ≤ v5 ∧ v5 < 33) ∧ (0 ≤ x2 ∧ x2 < 33) ∧ ∀ A14 : jA, A14 = jup A9 66 x2 (A9 66 v5) → (0 ≤ v5 ∧ v5 < 33) ∧ (0 ≤ x2 ∧ x2 < 33) ∧ ∀ A19 : jA, A19 = jup A14 67 x2 (A14 67 v5) → jrI 142 144 [some (.ref 49), some (.int (jI x1)), some (.int (jI x2)), some (.int (jI v5)), some (.int (jI 0)), none, none] [] E A19 K) ∧ (v5 = x2 → jrV 204 0 [some (.ref 49), some (.int (jI x2)), some (.int (jI x1)), none, none, none, none, none] [] E A3 (fun A22 => jrI 142 181 [some (.ref 49), some (.int (jI x1)), some (.int (jI x2)), none, none, none, none] [] E A22 K))))))))) : jrI 142 62 [some (.ref 49), some (.int (jI x1)), some (.int (jI x2)), none, none, none, none] [] E A K := by
  intro hA
  refine zw_go (pc1 := 63) (L1 := [some (.ref 49), some (.int (jI x1)), some (.int (jI x2)), none, none, none, none]) (st1 := [.int (jI x2)]) (σ1 := js E A) zM_X7_build dX7_build_62 rfl rfl rfl rfl ?_
  refine zw_go (pc1 := 64) (L1 := [some (.ref 49), some (.int (jI x1)), some (.int (jI x2)), none, none, none, none]) (st1 := [.ref 49, .int (jI x2)]) (σ1 := js E A) zM_X7_build dX7_build_63 rfl rfl rfl rfl ?_
  refine jw_getI zM_X7_build dX7_build_64 zF_7_142 rfl rfl rfl ?_
  refine jw_icmp_gt (tgt := 187) zM_X7_build dX7_build_67 rfl r_x2 (hA 49 18) (fun q => ?_) (fun q => ?_)
  · replace h := h.1 q
    refine jw_iconst (v := 0) zM_X7_build dX7_build_187 rfl ?_
    refine zw_go (pc1 := 189) (L1 := [some (.ref 49), some (.int (jI x1)), some (.int (jI 0)), none, none, none, none]) (st1 := []) (σ1 := js E A) zM_X7_build dX7_build_188 rfl rfl rfl rfl ?_
    exact zw_weak2 (h hA) ⟨rfl, rfl, rfl, trivial⟩
  · replace h := h.2 q
    refine zw_go (pc1 := 71) (L1 := [some (.ref 49), some (.int (jI x1)), some (.int (jI x2)), none, none, none, none]) (st1 := [.ref 49]) (σ1 := js E A) zM_X7_build dX7_build_70 rfl rfl rfl rfl ?_
    refine jw_getR (a := 50) zM_X7_build dX7_build_71 zF_7_7 rfl rfl rfl ?_
    refine zw_go (pc1 := 75) (L1 := [some (.ref 49), some (.int (jI x1)), some (.int (jI x2)), none, none, none, none]) (st1 := [.ref 49, .ref 50]) (σ1 := js E A) zM_X7_build dX7_build_74 rfl rfl rfl rfl ?_
    refine jw_getR (a := 61) zM_X7_build dX7_build_75 zF_7_43 rfl rfl rfl ?_
    refine zw_go (pc1 := 79) (L1 := [some (.ref 49), some (.int (jI x1)), some (.int (jI x2)), none, none, none, none]) (st1 := [.int (jI x2), .ref 61, .ref 50]) (σ1 := js E A) zM_X7_build dX7_build_78 rfl rfl rfl rfl ?_
    obtain ⟨hi1, h⟩ := h
    refine jw_iald zM_X7_build dX7_build_79 rfl rfl hi1 ?_
    obtain ⟨hi2, h⟩ := h
    refine jw_iald zM_X7_build dX7_build_80 rfl rfl hi2 ?_
    refine jw_iconst (v := 2) zM_X7_build dX7_build_81 rfl ?_
    refine jw_icmp_ne (tgt := 181) zM_X7_build dX7_build_82 rfl (hA 50 (A 61 x2)) (show jW 2 from ⟨by decide, by decide⟩) (fun q => ?_) (fun q => ?_)
    · replace h := h.1 q
      exact zw_weak2 (h hA) ⟨rfl, rfl, rfl, trivial⟩
    · replace h := h.2 q
      refine zw_go (pc1 := 86) (L1 := [some (.ref 49), some (.int (jI x1)), some (.int (jI x2)), none, none, none, none]) (st1 := [.ref 49]) (σ1 := js E A) zM_X7_build dX7_build_85 rfl rfl rfl rfl ?_
      refine zw_go (pc1 := 87) (L1 := [some (.ref 49), some (.int (jI x1)), some (.int (jI x2)), none, none, none, none]) (st1 := [.int (jI x2), .ref 49]) (σ1 := js E A) zM_X7_build dX7_build_86 rfl rfl rfl rfl ?_
      refine jw_callI (as := [.ref 49, .int (jI x2)]) (rest := []) zM_X7_build dX7_build_87 (zx_calV zC_7_174) zM_X7_firstLike rfl rfl rfl rfl rfl (j_args0 rfl rfl) rfl hA h (fun v5 A3 rv6 hA4 h => ?_)
      refine zw_go (pc1 := 91) (L1 := [some (.ref 49), some (.int (jI x1)), some (.int (jI x2)), some (.int (jI v5)), none, none, none]) (st1 := []) (σ1 := js E A3) zM_X7_build dX7_build_90 rfl rfl rfl rfl ?_
      refine zw_go (pc1 := 92) (L1 := [some (.ref 49), some (.int (jI x1)), some (.int (jI x2)), some (.int (jI v5)), none, none, none]) (st1 := [.int (jI v5)]) (σ1 := js E A3) zM_X7_build dX7_build_91 rfl rfl rfl rfl ?_
      refine zw_go (pc1 := 93) (L1 := [some (.ref 49), some (.int (jI x1)), some (.int (jI x2)), some (.int (jI v5)), none, none, none]) (st1 := [.int (jI x2), .int (jI v5)]) (σ1 := js E A3) zM_X7_build dX7_build_92 rfl rfl rfl rfl ?_
      refine jw_icmp_ne (tgt := 105) zM_X7_build dX7_build_93 rfl rv6 r_x2 (fun q => ?_) (fun q => ?_)
      · replace h := h.1 q
        refine zw_go (pc1 := 106) (L1 := [some (.ref 49), some (.int (jI x1)), some (.int (jI x2)), some (.int (jI v5)), none, none, none]) (st1 := [.ref 49]) (σ1 := js E A3) zM_X7_build dX7_build_105 rfl rfl rfl rfl ?_
        refine jw_getR (a := 64) zM_X7_build dX7_build_106 zF_7_52 rfl rfl rfl ?_
        refine zw_go (pc1 := 110) (L1 := [some (.ref 49), some (.int (jI x1)), some (.int (jI x2)), some (.int (jI v5)), none, none, none]) (st1 := [.int (jI x2), .ref 64]) (σ1 := js E A3) zM_X7_build dX7_build_109 rfl rfl rfl rfl ?_
        refine zw_go (pc1 := 111) (L1 := [some (.ref 49), some (.int (jI x1)), some (.int (jI x2)), some (.int (jI v5)), none, none, none]) (st1 := [.ref 49, .int (jI x2), .ref 64]) (σ1 := js E A3) zM_X7_build dX7_build_110 rfl rfl rfl rfl ?_
        refine jw_getR (a := 64) zM_X7_build dX7_build_111 zF_7_52 rfl rfl rfl ?_
        refine zw_go (pc1 := 115) (L1 := [some (.ref 49), some (.int (jI x1)), some (.int (jI x2)), some (.int (jI v5)), none, none, none]) (st1 := [.int (jI v5), .ref 64, .int (jI x2), .ref 64]) (σ1 := js E A3) zM_X7_build dX7_build_114 rfl rfl rfl rfl ?_
        obtain ⟨hi7, h⟩ := h
        refine jw_iald zM_X7_build dX7_build_115 rfl rfl hi7 ?_
        obtain ⟨hi8, h⟩ := h
        obtain ⟨A9, e10⟩ : ∃ z9 : jA, z9 = jup A3 64 x2 (A3 64 v5) := ⟨_, rfl⟩
        replace h := h A9 e10
        have hA11 : jOK A9 := jOK.up hA4 (hA4 64 v5) e10
        refine jw_iast zM_X7_build dX7_build_116 rfl rfl hi8 e10 ?_
        refine zw_go (pc1 := 118) (L1 := [some (.ref 49), some (.int (jI x1)), some (.int (jI x2)), some (.int (jI v5)), none, none, none]) (st1 := [.ref 49]) (σ1 := js E A9) zM_X7_build dX7_build_117 rfl rfl rfl rfl ?_
        refine jw_getR (a := 66) zM_X7_build dX7_build_118 zF_7_58 rfl rfl rfl ?_
        refine zw_go (pc1 := 122) (L1 := [some (.ref 49), some (.int (jI x1)), some (.int (jI x2)), some (.int (jI v5)), none, none, none]) (st1 := [.int (jI x2), .ref 66]) (σ1 := js E A9) zM_X7_build dX7_build_121 rfl rfl rfl rfl ?_
        refine zw_go (pc1 := 123) (L1 := [some (.ref 49), some (.int (jI x1)), some (.int (jI x2)), some (.int (jI v5)), none, none, none]) (st1 := [.ref 49, .int (jI x2), .ref 66]) (σ1 := js E A9) zM_X7_build dX7_build_122 rfl rfl rfl rfl ?_
        refine jw_getR (a := 66) zM_X7_build dX7_build_123 zF_7_58 rfl rfl rfl ?_
        refine zw_go (pc1 := 127) (L1 := [some (.ref 49), some (.int (jI x1)), some (.int (jI x2)), some (.int (jI v5)), none, none, none]) (st1 := [.int (jI v5), .ref 66, .int (jI x2), .ref 66]) (σ1 := js E A9) zM_X7_build dX7_build_126 rfl rfl rfl rfl ?_
        obtain ⟨hi12, h⟩ := h
        refine jw_iald zM_X7_build dX7_build_127 rfl rfl hi12 ?_
        obtain ⟨hi13, h⟩ := h
        obtain ⟨A14, e15⟩ : ∃ z9 : jA, z9 = jup A9 66 x2 (A9 66 v5) := ⟨_, rfl⟩
        replace h := h A14 e15
        have hA16 : jOK A14 := jOK.up hA11 (hA11 66 v5) e15
        refine jw_iast zM_X7_build dX7_build_128 rfl rfl hi13 e15 ?_
        refine zw_go (pc1 := 130) (L1 := [some (.ref 49), some (.int (jI x1)), some (.int (jI x2)), some (.int (jI v5)), none, none, none]) (st1 := [.ref 49]) (σ1 := js E A14) zM_X7_build dX7_build_129 rfl rfl rfl rfl ?_
        refine jw_getR (a := 67) zM_X7_build dX7_build_130 zF_7_61 rfl rfl rfl ?_
        refine zw_go (pc1 := 134) (L1 := [some (.ref 49), some (.int (jI x1)), some (.int (jI x2)), some (.int (jI v5)), none, none, none]) (st1 := [.int (jI x2), .ref 67]) (σ1 := js E A14) zM_X7_build dX7_build_133 rfl rfl rfl rfl ?_
        refine zw_go (pc1 := 135) (L1 := [some (.ref 49), some (.int (jI x1)), some (.int (jI x2)), some (.int (jI v5)), none, none, none]) (st1 := [.ref 49, .int (jI x2), .ref 67]) (σ1 := js E A14) zM_X7_build dX7_build_134 rfl rfl rfl rfl ?_
        refine jw_getR (a := 67) zM_X7_build dX7_build_135 zF_7_61 rfl rfl rfl ?_
        refine zw_go (pc1 := 139) (L1 := [some (.ref 49), some (.int (jI x1)), some (.int (jI x2)), some (.int (jI v5)), none, none, none]) (st1 := [.int (jI v5), .ref 67, .int (jI x2), .ref 67]) (σ1 := js E A14) zM_X7_build dX7_build_138 rfl rfl rfl rfl ?_
        obtain ⟨hi17, h⟩ := h
        refine jw_iald zM_X7_build dX7_build_139 rfl rfl hi17 ?_
        obtain ⟨hi18, h⟩ := h
        obtain ⟨A19, e20⟩ : ∃ z9 : jA, z9 = jup A14 67 x2 (A14 67 v5) := ⟨_, rfl⟩
        replace h := h A19 e20
        have hA21 : jOK A19 := jOK.up hA16 (hA16 67 v5) e20
        refine jw_iast zM_X7_build dX7_build_140 rfl rfl hi18 e20 ?_
        refine jw_iconst (v := 0) zM_X7_build dX7_build_141 rfl ?_
        refine zw_go (pc1 := 144) (L1 := [some (.ref 49), some (.int (jI x1)), some (.int (jI x2)), some (.int (jI v5)), some (.int (jI 0)), none, none]) (st1 := []) (σ1 := js E A19) zM_X7_build dX7_build_142 rfl rfl rfl rfl ?_
        exact zw_weak2 (h hA21) ⟨rfl, rfl, rfl, rfl, rfl, trivial⟩
      · replace h := h.2 q
        refine zw_go (pc1 := 97) (L1 := [some (.ref 49), some (.int (jI x1)), some (.int (jI x2)), some (.int (jI v5)), none, none, none]) (st1 := [.ref 49]) (σ1 := js E A3) zM_X7_build dX7_build_96 rfl rfl rfl rfl ?_
        refine zw_go (pc1 := 98) (L1 := [some (.ref 49), some (.int (jI x1)), some (.int (jI x2)), some (.int (jI v5)), none, none, none]) (st1 := [.int (jI x2), .ref 49]) (σ1 := js E A3) zM_X7_build dX7_build_97 rfl rfl rfl rfl ?_
        refine zw_go (pc1 := 99) (L1 := [some (.ref 49), some (.int (jI x1)), some (.int (jI x2)), some (.int (jI v5)), none, none, none]) (st1 := [.int (jI x1), .int (jI x2), .ref 49]) (σ1 := js E A3) zM_X7_build dX7_build_98 rfl rfl rfl rfl ?_
        refine jw_callV (as := [.ref 49, .int (jI x2), .int (jI x1)]) (rest := []) zM_X7_build dX7_build_99 (zx_calV zC_7_177) zM_X7_tellFile rfl rfl rfl rfl rfl (j_args0 rfl rfl) rfl hA4 h (fun A22 hA23 h => ?_)
        refine zw_goto (tgt := 181) zM_X7_build dX7_build_102 rfl ?_
        exact zw_weak2 (h hA23) ⟨rfl, rfl, rfl, trivial⟩
set_option maxHeartbeats 4000000 in
set_option maxRecDepth 100000 in
theorem vd_X7_build_144 (x1 : Int) (r_x1 : jW x1) (x2 : Int) (r_x2 : jW x2) (x3 : Int) (r_x3 : jW x3) (x4 : Int) (r_x4 : jW x4) (E : jE) (A : jA) (K : Int → jA → Prop) (h : (((13 : Int) ≤ x4 → jrI 142 181 [some (.ref 49), some (.int (jI x1)), some (.int (jI x2)), none, none, none, none] [] E A K) ∧ (x4 < (13 : Int) → (0 ≤ ((13 * x3) + x4) ∧ ((13 * x3) + x4) < 429) ∧ (0 ≤ ((13 * x2) + x4) ∧ ((13 * x2) + x4) < 429) ∧ ∀ A3 : jA, A3 = jup A 65 ((13 * x2) + x4) (A 65 ((13 * x3) + x4)) → jrI 142 144 [some (.ref 49), some (.int (jI x1)), some (.int (jI x2)), some (.int (jI x3)), some (.int (jI (x4 + 1))), none, none] [] E A3 K))) : jrI 142 144 [some (.ref 49), some (.int (jI x1)), some (.int (jI x2)), some (.int (jI x3)), some (.int (jI x4)), none, none] [] E A K := by
  intro hA
  refine zw_go (pc1 := 146) (L1 := [some (.ref 49), some (.int (jI x1)), some (.int (jI x2)), some (.int (jI x3)), some (.int (jI x4)), none, none]) (st1 := [.int (jI x4)]) (σ1 := js E A) zM_X7_build dX7_build_144 rfl rfl rfl rfl ?_
  refine jw_bipush (v := 13) zM_X7_build dX7_build_146 (by decide) ?_
  refine jw_icmp_ge (tgt := 181) zM_X7_build dX7_build_148 rfl r_x4 (show jW 13 from ⟨by decide, by decide⟩) (fun q => ?_) (fun q => ?_)
  · replace h := h.1 q
    exact zw_weak2 (h hA) ⟨rfl, rfl, rfl, trivial⟩
  · replace h := h.2 q
    refine zw_go (pc1 := 152) (L1 := [some (.ref 49), some (.int (jI x1)), some (.int (jI x2)), some (.int (jI x3)), some (.int (jI x4)), none, none]) (st1 := [.ref 49]) (σ1 := js E A) zM_X7_build dX7_build_151 rfl rfl rfl rfl ?_
    refine jw_getR (a := 65) zM_X7_build dX7_build_152 zF_7_55 rfl rfl rfl ?_
    refine jw_bipush (v := 13) zM_X7_build dX7_build_155 (by decide) ?_
    refine zw_go (pc1 := 158) (L1 := [some (.ref 49), some (.int (jI x1)), some (.int (jI x2)), some (.int (jI x3)), some (.int (jI x4)), none, none]) (st1 := [.int (jI x2), .int (jI 13), .ref 65]) (σ1 := js E A) zM_X7_build dX7_build_157 rfl rfl rfl rfl ?_
    refine jw_mul zM_X7_build dX7_build_158 ?_
    refine zw_go (pc1 := 161) (L1 := [some (.ref 49), some (.int (jI x1)), some (.int (jI x2)), some (.int (jI x3)), some (.int (jI x4)), none, none]) (st1 := [.int (jI x4), .int (jI (13 * x2)), .ref 65]) (σ1 := js E A) zM_X7_build dX7_build_159 rfl rfl rfl rfl ?_
    refine jw_add zM_X7_build dX7_build_161 ?_
    refine zw_go (pc1 := 163) (L1 := [some (.ref 49), some (.int (jI x1)), some (.int (jI x2)), some (.int (jI x3)), some (.int (jI x4)), none, none]) (st1 := [.ref 49, .int (jI ((13 * x2) + x4)), .ref 65]) (σ1 := js E A) zM_X7_build dX7_build_162 rfl rfl rfl rfl ?_
    refine jw_getR (a := 65) zM_X7_build dX7_build_163 zF_7_55 rfl rfl rfl ?_
    refine jw_bipush (v := 13) zM_X7_build dX7_build_166 (by decide) ?_
    refine zw_go (pc1 := 169) (L1 := [some (.ref 49), some (.int (jI x1)), some (.int (jI x2)), some (.int (jI x3)), some (.int (jI x4)), none, none]) (st1 := [.int (jI x3), .int (jI 13), .ref 65, .int (jI ((13 * x2) + x4)), .ref 65]) (σ1 := js E A) zM_X7_build dX7_build_168 rfl rfl rfl rfl ?_
    refine jw_mul zM_X7_build dX7_build_169 ?_
    refine zw_go (pc1 := 172) (L1 := [some (.ref 49), some (.int (jI x1)), some (.int (jI x2)), some (.int (jI x3)), some (.int (jI x4)), none, none]) (st1 := [.int (jI x4), .int (jI (13 * x3)), .ref 65, .int (jI ((13 * x2) + x4)), .ref 65]) (σ1 := js E A) zM_X7_build dX7_build_170 rfl rfl rfl rfl ?_
    refine jw_add zM_X7_build dX7_build_172 ?_
    obtain ⟨hi1, h⟩ := h
    refine jw_iald zM_X7_build dX7_build_173 rfl rfl hi1 ?_
    obtain ⟨hi2, h⟩ := h
    obtain ⟨A3, e4⟩ : ∃ z9 : jA, z9 = jup A 65 ((13 * x2) + x4) (A 65 ((13 * x3) + x4)) := ⟨_, rfl⟩
    replace h := h A3 e4
    have hA5 : jOK A3 := jOK.up hA (hA 65 ((13 * x3) + x4)) e4
    refine jw_iast zM_X7_build dX7_build_174 rfl rfl hi2 e4 ?_
    refine jw_iinc (x := x4) (L1 := [some (.ref 49), some (.int (jI x1)), some (.int (jI x2)), some (.int (jI x3)), some (.int (jI (x4 + 1))), none, none]) zM_X7_build dX7_build_175 rfl (show 4 < 7 by decide) rfl ?_
    refine zw_goto (tgt := 144) zM_X7_build dX7_build_178 rfl ?_
    exact zw_weak2 (h hA5) ⟨rfl, rfl, rfl, rfl, rfl, trivial⟩
set_option maxHeartbeats 4000000 in
set_option maxRecDepth 100000 in
theorem vd_X7_build_181 (x1 : Int) (r_x1 : jW x1) (x2 : Int) (r_x2 : jW x2) (E : jE) (A : jA) (K : Int → jA → Prop) (h : jrI 142 62 [some (.ref 49), some (.int (jI x1)), some (.int (jI (x2 + 1))), none, none, none, none] [] E A K) : jrI 142 181 [some (.ref 49), some (.int (jI x1)), some (.int (jI x2)), none, none, none, none] [] E A K := by
  intro hA
  refine jw_iinc (x := x2) (L1 := [some (.ref 49), some (.int (jI x1)), some (.int (jI (x2 + 1))), none, none, none, none]) zM_X7_build dX7_build_181 rfl (show 2 < 7 by decide) rfl ?_
  refine zw_goto (tgt := 62) zM_X7_build dX7_build_184 rfl ?_
  exact zw_weak2 (h hA) ⟨rfl, rfl, rfl, trivial⟩
set_option maxHeartbeats 4000000 in
set_option maxRecDepth 100000 in
theorem vd_X7_build_189 (x1 : Int) (r_x1 : jW x1) (x2 : Int) (r_x2 : jW x2) (E : jE) (A : jA) (K : Int → jA → Prop) (h : (((A 49 27) ≤ x2 → jrV 205 0 [some (.ref 49), some (.int (jI x1)), none, none, none, none, none, none, none] [] E A (fun A1 => jrI 142 282 [some (.ref 49), some (.int (jI x1)), some (.int (jI (A 49 15))), some (.int (jI (A1 49 15))), some (.int (jI 1)), none, none] [] E A1 K)) ∧ (x2 < (A 49 27) → jrI 142 199 [some (.ref 49), some (.int (jI x1)), some (.int (jI x2)), some (.int (jI 0)), none, none, none] [] E A K))) : jrI 142 189 [some (.ref 49), some (.int (jI x1)), some (.int (jI x2)), none, none, none, none] [] E A K := by
  intro hA
  refine zw_go (pc1 := 190) (L1 := [some (.ref 49), some (.int (jI x1)), some (.int (jI x2)), none, none, none, none]) (st1 := [.int (jI x2)]) (σ1 := js E A) zM_X7_build dX7_build_189 rfl rfl rfl rfl ?_
  refine zw_go (pc1 := 191) (L1 := [some (.ref 49), some (.int (jI x1)), some (.int (jI x2)), none, none, none, none]) (st1 := [.ref 49, .int (jI x2)]) (σ1 := js E A) zM_X7_build dX7_build_190 rfl rfl rfl rfl ?_
  refine jw_getI zM_X7_build dX7_build_191 zF_7_165 rfl rfl rfl ?_
  refine jw_icmp_ge (tgt := 264) zM_X7_build dX7_build_194 rfl r_x2 (hA 49 27) (fun q => ?_) (fun q => ?_)
  · replace h := h.1 q
    refine zw_go (pc1 := 265) (L1 := [some (.ref 49), some (.int (jI x1)), some (.int (jI x2)), none, none, none, none]) (st1 := [.ref 49]) (σ1 := js E A) zM_X7_build dX7_build_264 rfl rfl rfl rfl ?_
    refine jw_getI zM_X7_build dX7_build_265 zF_7_132 rfl rfl rfl ?_
    refine zw_go (pc1 := 269) (L1 := [some (.ref 49), some (.int (jI x1)), some (.int (jI (A 49 15))), none, none, none, none]) (st1 := []) (σ1 := js E A) zM_X7_build dX7_build_268 rfl rfl rfl rfl ?_
    refine zw_go (pc1 := 270) (L1 := [some (.ref 49), some (.int (jI x1)), some (.int (jI (A 49 15))), none, none, none, none]) (st1 := [.ref 49]) (σ1 := js E A) zM_X7_build dX7_build_269 rfl rfl rfl rfl ?_
    refine zw_go (pc1 := 271) (L1 := [some (.ref 49), some (.int (jI x1)), some (.int (jI (A 49 15))), none, none, none, none]) (st1 := [.int (jI x1), .ref 49]) (σ1 := js E A) zM_X7_build dX7_build_270 rfl rfl rfl rfl ?_
    refine jw_callV (as := [.ref 49, .int (jI x1)]) (rest := []) zM_X7_build dX7_build_271 (zx_calV zC_7_181) zM_X7_tellInodes rfl rfl rfl rfl rfl (j_args0 rfl rfl) rfl hA h (fun A1 hA2 h => ?_)
    refine zw_go (pc1 := 275) (L1 := [some (.ref 49), some (.int (jI x1)), some (.int (jI (A 49 15))), none, none, none, none]) (st1 := [.ref 49]) (σ1 := js E A1) zM_X7_build dX7_build_274 rfl rfl rfl rfl ?_
    refine jw_getI zM_X7_build dX7_build_275 zF_7_132 rfl rfl rfl ?_
    refine zw_go (pc1 := 279) (L1 := [some (.ref 49), some (.int (jI x1)), some (.int (jI (A 49 15))), some (.int (jI (A1 49 15))), none, none, none]) (st1 := []) (σ1 := js E A1) zM_X7_build dX7_build_278 rfl rfl rfl rfl ?_
    refine jw_iconst (v := 1) zM_X7_build dX7_build_279 rfl ?_
    refine zw_go (pc1 := 282) (L1 := [some (.ref 49), some (.int (jI x1)), some (.int (jI (A 49 15))), some (.int (jI (A1 49 15))), some (.int (jI 1)), none, none]) (st1 := []) (σ1 := js E A1) zM_X7_build dX7_build_280 rfl rfl rfl rfl ?_
    exact zw_weak2 (h hA2) ⟨rfl, rfl, rfl, rfl, rfl, trivial⟩
  · replace h := h.2 q
    refine jw_iconst (v := 0) zM_X7_build dX7_build_197 rfl ?_
    refine zw_go (pc1 := 199) (L1 := [some (.ref 49), some (.int (jI x1)), some (.int (jI x2)), some (.int (jI 0)), none, none, none]) (st1 := []) (σ1 := js E A) zM_X7_build dX7_build_198 rfl rfl rfl rfl ?_
    exact zw_weak2 (h hA) ⟨rfl, rfl, rfl, rfl, trivial⟩
set_option maxHeartbeats 4000000 in
set_option maxRecDepth 100000 in
theorem vd_X7_build_199 (x1 : Int) (r_x1 : jW x1) (x2 : Int) (r_x2 : jW x2) (x3 : Int) (r_x3 : jW x3) (E : jE) (A : jA) (K : Int → jA → Prop) (h : (0 ≤ x2 ∧ x2 < 32) ∧ (((A 68 x2) ≤ x3 → (0 ≤ x2 ∧ x2 < 32) ∧ ∀ A3 : jA, A3 = jup A 70 x2 (A 49 15) → (0 ≤ x2 ∧ x2 < 32) ∧ jrI 200 0 [some (.ref 49), some (.int (jI (A3 68 x2))), none, none] [] E A3 (fun v9 A7 => (0 ≤ x2 ∧ x2 < 32) ∧ ∀ A12 : jA, A12 = jup A7 71 x2 v9 → jrI 142 189 [some (.ref 49), some (.int (jI x1)), some (.int (jI (x2 + 1))), none, none, none, none] [] E A12 K)) ∧ (x3 < (A 68 x2) → (0 ≤ ((32 * x2) + x3) ∧ ((32 * x2) + x3) < 1024) ∧ (0 ≤ x3 ∧ x3 < 32) ∧ ∀ A17 : jA, A17 = jup A 62 x3 (A 69 ((32 * x2) + x3)) → jrI 142 199 [some (.ref 49), some (.int (jI x1)), some (.int (jI x2)), some (.int (jI (x3 + 1))), none, none, none] [] E A17 K))) : jrI 142 199 [some (.ref 49), some (.int (jI x1)), some (.int (jI x2)), some (.int (jI x3)), none, none, none] [] E A K := by
  intro hA
  refine zw_go (pc1 := 200) (L1 := [some (.ref 49), some (.int (jI x1)), some (.int (jI x2)), some (.int (jI x3)), none, none, none]) (st1 := [.int (jI x3)]) (σ1 := js E A) zM_X7_build dX7_build_199 rfl rfl rfl rfl ?_
  refine zw_go (pc1 := 201) (L1 := [some (.ref 49), some (.int (jI x1)), some (.int (jI x2)), some (.int (jI x3)), none, none, none]) (st1 := [.ref 49, .int (jI x3)]) (σ1 := js E A) zM_X7_build dX7_build_200 rfl rfl rfl rfl ?_
  refine jw_getR (a := 68) zM_X7_build dX7_build_201 zF_7_64 rfl rfl rfl ?_
  refine zw_go (pc1 := 205) (L1 := [some (.ref 49), some (.int (jI x1)), some (.int (jI x2)), some (.int (jI x3)), none, none, none]) (st1 := [.int (jI x2), .ref 68, .int (jI x3)]) (σ1 := js E A) zM_X7_build dX7_build_204 rfl rfl rfl rfl ?_
  obtain ⟨hi1, h⟩ := h
  refine jw_iald zM_X7_build dX7_build_205 rfl rfl hi1 ?_
  refine jw_icmp_ge (tgt := 232) zM_X7_build dX7_build_206 rfl r_x3 (hA 68 x2) (fun q => ?_) (fun q => ?_)
  · replace h := h.1 q
    refine zw_go (pc1 := 233) (L1 := [some (.ref 49), some (.int (jI x1)), some (.int (jI x2)), some (.int (jI x3)), none, none, none]) (st1 := [.ref 49]) (σ1 := js E A) zM_X7_build dX7_build_232 rfl rfl rfl rfl ?_
    refine jw_getR (a := 70) zM_X7_build dX7_build_233 zF_7_70 rfl rfl rfl ?_
    refine zw_go (pc1 := 237) (L1 := [some (.ref 49), some (.int (jI x1)), some (.int (jI x2)), some (.int (jI x3)), none, none, none]) (st1 := [.int (jI x2), .ref 70]) (σ1 := js E A) zM_X7_build dX7_build_236 rfl rfl rfl rfl ?_
    refine zw_go (pc1 := 238) (L1 := [some (.ref 49), some (.int (jI x1)), some (.int (jI x2)), some (.int (jI x3)), none, none, none]) (st1 := [.ref 49, .int (jI x2), .ref 70]) (σ1 := js E A) zM_X7_build dX7_build_237 rfl rfl rfl rfl ?_
    refine jw_getI zM_X7_build dX7_build_238 zF_7_132 rfl rfl rfl ?_
    obtain ⟨hi2, h⟩ := h
    obtain ⟨A3, e4⟩ : ∃ z9 : jA, z9 = jup A 70 x2 (A 49 15) := ⟨_, rfl⟩
    replace h := h A3 e4
    have hA5 : jOK A3 := jOK.up hA (hA 49 15) e4
    refine jw_iast zM_X7_build dX7_build_241 rfl rfl hi2 e4 ?_
    refine zw_go (pc1 := 243) (L1 := [some (.ref 49), some (.int (jI x1)), some (.int (jI x2)), some (.int (jI x3)), none, none, none]) (st1 := [.ref 49]) (σ1 := js E A3) zM_X7_build dX7_build_242 rfl rfl rfl rfl ?_
    refine jw_getR (a := 71) zM_X7_build dX7_build_243 zF_7_73 rfl rfl rfl ?_
    refine zw_go (pc1 := 247) (L1 := [some (.ref 49), some (.int (jI x1)), some (.int (jI x2)), some (.int (jI x3)), none, none, none]) (st1 := [.int (jI x2), .ref 71]) (σ1 := js E A3) zM_X7_build dX7_build_246 rfl rfl rfl rfl ?_
    refine zw_go (pc1 := 248) (L1 := [some (.ref 49), some (.int (jI x1)), some (.int (jI x2)), some (.int (jI x3)), none, none, none]) (st1 := [.ref 49, .int (jI x2), .ref 71]) (σ1 := js E A3) zM_X7_build dX7_build_247 rfl rfl rfl rfl ?_
    refine zw_go (pc1 := 249) (L1 := [some (.ref 49), some (.int (jI x1)), some (.int (jI x2)), some (.int (jI x3)), none, none, none]) (st1 := [.ref 49, .ref 49, .int (jI x2), .ref 71]) (σ1 := js E A3) zM_X7_build dX7_build_248 rfl rfl rfl rfl ?_
    refine jw_getR (a := 68) zM_X7_build dX7_build_249 zF_7_64 rfl rfl rfl ?_
    refine zw_go (pc1 := 253) (L1 := [some (.ref 49), some (.int (jI x1)), some (.int (jI x2)), some (.int (jI x3)), none, none, none]) (st1 := [.int (jI x2), .ref 68, .ref 49, .int (jI x2), .ref 71]) (σ1 := js E A3) zM_X7_build dX7_build_252 rfl rfl rfl rfl ?_
    obtain ⟨hi6, h⟩ := h
    refine jw_iald zM_X7_build dX7_build_253 rfl rfl hi6 ?_
    refine jw_callI (as := [.ref 49, .int (jI (A3 68 x2))]) (rest := [.int (jI x2), .ref 71]) zM_X7_build dX7_build_254 (zx_calV zC_7_162) zM_X7_store rfl rfl rfl rfl rfl (j_args0 rfl rfl) rfl hA5 h (fun v9 A7 rv10 hA8 h => ?_)
    obtain ⟨hi11, h⟩ := h
    obtain ⟨A12, e13⟩ : ∃ z9 : jA, z9 = jup A7 71 x2 v9 := ⟨_, rfl⟩
    replace h := h A12 e13
    have hA14 : jOK A12 := jOK.up hA8 rv10 e13
    refine jw_iast zM_X7_build dX7_build_257 rfl rfl hi11 e13 ?_
    refine jw_iinc (x := x2) (L1 := [some (.ref 49), some (.int (jI x1)), some (.int (jI (x2 + 1))), some (.int (jI x3)), none, none, none]) zM_X7_build dX7_build_258 rfl (show 2 < 7 by decide) rfl ?_
    refine zw_goto (tgt := 189) zM_X7_build dX7_build_261 rfl ?_
    exact zw_weak2 (h hA14) ⟨rfl, rfl, rfl, trivial⟩
  · replace h := h.2 q
    refine zw_go (pc1 := 210) (L1 := [some (.ref 49), some (.int (jI x1)), some (.int (jI x2)), some (.int (jI x3)), none, none, none]) (st1 := [.ref 49]) (σ1 := js E A) zM_X7_build dX7_build_209 rfl rfl rfl rfl ?_
    refine jw_getR (a := 62) zM_X7_build dX7_build_210 zF_7_46 rfl rfl rfl ?_
    refine zw_go (pc1 := 214) (L1 := [some (.ref 49), some (.int (jI x1)), some (.int (jI x2)), some (.int (jI x3)), none, none, none]) (st1 := [.int (jI x3), .ref 62]) (σ1 := js E A) zM_X7_build dX7_build_213 rfl rfl rfl rfl ?_
    refine zw_go (pc1 := 215) (L1 := [some (.ref 49), some (.int (jI x1)), some (.int (jI x2)), some (.int (jI x3)), none, none, none]) (st1 := [.ref 49, .int (jI x3), .ref 62]) (σ1 := js E A) zM_X7_build dX7_build_214 rfl rfl rfl rfl ?_
    refine jw_getR (a := 69) zM_X7_build dX7_build_215 zF_7_67 rfl rfl rfl ?_
    refine jw_bipush (v := 32) zM_X7_build dX7_build_218 (by decide) ?_
    refine zw_go (pc1 := 221) (L1 := [some (.ref 49), some (.int (jI x1)), some (.int (jI x2)), some (.int (jI x3)), none, none, none]) (st1 := [.int (jI x2), .int (jI 32), .ref 69, .int (jI x3), .ref 62]) (σ1 := js E A) zM_X7_build dX7_build_220 rfl rfl rfl rfl ?_
    refine jw_mul zM_X7_build dX7_build_221 ?_
    refine zw_go (pc1 := 223) (L1 := [some (.ref 49), some (.int (jI x1)), some (.int (jI x2)), some (.int (jI x3)), none, none, none]) (st1 := [.int (jI x3), .int (jI (32 * x2)), .ref 69, .int (jI x3), .ref 62]) (σ1 := js E A) zM_X7_build dX7_build_222 rfl rfl rfl rfl ?_
    refine jw_add zM_X7_build dX7_build_223 ?_
    obtain ⟨hi15, h⟩ := h
    refine jw_iald zM_X7_build dX7_build_224 rfl rfl hi15 ?_
    obtain ⟨hi16, h⟩ := h
    obtain ⟨A17, e18⟩ : ∃ z9 : jA, z9 = jup A 62 x3 (A 69 ((32 * x2) + x3)) := ⟨_, rfl⟩
    replace h := h A17 e18
    have hA19 : jOK A17 := jOK.up hA (hA 69 ((32 * x2) + x3)) e18
    refine jw_iast zM_X7_build dX7_build_225 rfl rfl hi16 e18 ?_
    refine jw_iinc (x := x3) (L1 := [some (.ref 49), some (.int (jI x1)), some (.int (jI x2)), some (.int (jI (x3 + 1))), none, none, none]) zM_X7_build dX7_build_226 rfl (show 3 < 7 by decide) rfl ?_
    refine zw_goto (tgt := 199) zM_X7_build dX7_build_229 rfl ?_
    exact zw_weak2 (h hA19) ⟨rfl, rfl, rfl, rfl, trivial⟩
set_option maxHeartbeats 4000000 in
set_option maxRecDepth 100000 in
theorem vd_X7_build_282 (x1 : Int) (r_x1 : jW x1) (x2 : Int) (r_x2 : jW x2) (x3 : Int) (r_x3 : jW x3) (x4 : Int) (r_x4 : jW x4) (E : jE) (A : jA) (K : Int → jA → Prop) (h : (((A 49 18) < x4 → jrI 142 386 [some (.ref 49), some (.int (jI x1)), some (.int (jI x2)), some (.int (jI x3)), some (.int (jI (A 49 15))), some (.int (jI 0)), none] [] E A K) ∧ (x4 ≤ (A 49 18) → (0 ≤ x4 ∧ x4 < 33) ∧ (0 ≤ (A 61 x4) ∧ (A 61 x4) < 32) ∧ ((¬ (A 50 (A 61 x4)) = (1 : Int) → jrI 142 324 [some (.ref 49), some (.int (jI x1)), some (.int (jI x2)), some (.int (jI x3)), some (.int (jI x4)), some (.int (jI (A 61 x4))), none] [.int (jI 1000)] E A K) ∧ ((A 50 (A 61 x4)) = (1 : Int) → jrI 187 0 [some (.ref 49), some (.int (jI (A 61 x4))), some (.int (jI 0)), none, none] [] E A (fun v5 A3 => jrI 142 324 [some (.ref 49), some (.int (jI x1)), some (.int (jI x2)), some (.int (jI x3)), some (.int (jI x4)), some (.int (jI (A 61 x4))), none] [.int (jI v5)] E A3 K)))))) : jrI 142 282 [some (.ref 49), some (.int (jI x1)), some (.int (jI x2)), some (.int (jI x3)), some (.int (jI x4)), none, none] [] E A K := by
  intro hA
  refine zw_go (pc1 := 284) (L1 := [some (.ref 49), some (.int (jI x1)), some (.int (jI x2)), some (.int (jI x3)), some (.int (jI x4)), none, none]) (st1 := [.int (jI x4)]) (σ1 := js E A) zM_X7_build dX7_build_282 rfl rfl rfl rfl ?_
  refine zw_go (pc1 := 285) (L1 := [some (.ref 49), some (.int (jI x1)), some (.int (jI x2)), some (.int (jI x3)), some (.int (jI x4)), none, none]) (st1 := [.ref 49, .int (jI x4)]) (σ1 := js E A) zM_X7_build dX7_build_284 rfl rfl rfl rfl ?_
  refine jw_getI zM_X7_build dX7_build_285 zF_7_142 rfl rfl rfl ?_
  refine jw_icmp_gt (tgt := 377) zM_X7_build dX7_build_288 rfl r_x4 (hA 49 18) (fun q => ?_) (fun q => ?_)
  · replace h := h.1 q
    refine zw_go (pc1 := 378) (L1 := [some (.ref 49), some (.int (jI x1)), some (.int (jI x2)), some (.int (jI x3)), some (.int (jI x4)), none, none]) (st1 := [.ref 49]) (σ1 := js E A) zM_X7_build dX7_build_377 rfl rfl rfl rfl ?_
    refine jw_getI zM_X7_build dX7_build_378 zF_7_132 rfl rfl rfl ?_
    refine zw_go (pc1 := 383) (L1 := [some (.ref 49), some (.int (jI x1)), some (.int (jI x2)), some (.int (jI x3)), some (.int (jI (A 49 15))), none, none]) (st1 := []) (σ1 := js E A) zM_X7_build dX7_build_381 rfl rfl rfl rfl ?_
    refine jw_iconst (v := 0) zM_X7_build dX7_build_383 rfl ?_
    refine zw_go (pc1 := 386) (L1 := [some (.ref 49), some (.int (jI x1)), some (.int (jI x2)), some (.int (jI x3)), some (.int (jI (A 49 15))), some (.int (jI 0)), none]) (st1 := []) (σ1 := js E A) zM_X7_build dX7_build_384 rfl rfl rfl rfl ?_
    exact zw_weak2 (h hA) ⟨rfl, rfl, rfl, rfl, rfl, rfl, trivial⟩
  · replace h := h.2 q
    refine zw_go (pc1 := 292) (L1 := [some (.ref 49), some (.int (jI x1)), some (.int (jI x2)), some (.int (jI x3)), some (.int (jI x4)), none, none]) (st1 := [.ref 49]) (σ1 := js E A) zM_X7_build dX7_build_291 rfl rfl rfl rfl ?_
    refine jw_getR (a := 61) zM_X7_build dX7_build_292 zF_7_43 rfl rfl rfl ?_
    refine zw_go (pc1 := 297) (L1 := [some (.ref 49), some (.int (jI x1)), some (.int (jI x2)), some (.int (jI x3)), some (.int (jI x4)), none, none]) (st1 := [.int (jI x4), .ref 61]) (σ1 := js E A) zM_X7_build dX7_build_295 rfl rfl rfl rfl ?_
    obtain ⟨hi1, h⟩ := h
    refine jw_iald zM_X7_build dX7_build_297 rfl rfl hi1 ?_
    refine zw_go (pc1 := 300) (L1 := [some (.ref 49), some (.int (jI x1)), some (.int (jI x2)), some (.int (jI x3)), some (.int (jI x4)), some (.int (jI (A 61 x4))), none]) (st1 := []) (σ1 := js E A) zM_X7_build dX7_build_298 rfl rfl rfl rfl ?_
    refine zw_go (pc1 := 301) (L1 := [some (.ref 49), some (.int (jI x1)), some (.int (jI x2)), some (.int (jI x3)), some (.int (jI x4)), some (.int (jI (A 61 x4))), none]) (st1 := [.ref 49]) (σ1 := js E A) zM_X7_build dX7_build_300 rfl rfl rfl rfl ?_
    refine jw_getR (a := 50) zM_X7_build dX7_build_301 zF_7_7 rfl rfl rfl ?_
    refine zw_go (pc1 := 306) (L1 := [some (.ref 49), some (.int (jI x1)), some (.int (jI x2)), some (.int (jI x3)), some (.int (jI x4)), some (.int (jI (A 61 x4))), none]) (st1 := [.int (jI (A 61 x4)), .ref 50]) (σ1 := js E A) zM_X7_build dX7_build_304 rfl rfl rfl rfl ?_
    obtain ⟨hi2, h⟩ := h
    refine jw_iald zM_X7_build dX7_build_306 rfl rfl hi2 ?_
    refine jw_iconst (v := 1) zM_X7_build dX7_build_307 rfl ?_
    refine jw_icmp_ne (tgt := 321) zM_X7_build dX7_build_308 rfl (hA 50 (A 61 x4)) (show jW 1 from ⟨by decide, by decide⟩) (fun q => ?_) (fun q => ?_)
    · replace h := h.1 q
      refine jw_sipush (v := 1000) zM_X7_build dX7_build_321 (by decide) ?_
      exact zw_weak2 (h hA) ⟨rfl, rfl, rfl, rfl, rfl, rfl, trivial⟩
    · replace h := h.2 q
      refine zw_go (pc1 := 312) (L1 := [some (.ref 49), some (.int (jI x1)), some (.int (jI x2)), some (.int (jI x3)), some (.int (jI x4)), some (.int (jI (A 61 x4))), none]) (st1 := [.ref 49]) (σ1 := js E A) zM_X7_build dX7_build_311 rfl rfl rfl rfl ?_
      refine zw_go (pc1 := 314) (L1 := [some (.ref 49), some (.int (jI x1)), some (.int (jI x2)), some (.int (jI x3)), some (.int (jI x4)), some (.int (jI (A 61 x4))), none]) (st1 := [.int (jI (A 61 x4)), .ref 49]) (σ1 := js E A) zM_X7_build dX7_build_312 rfl rfl rfl rfl ?_
      refine jw_iconst (v := 0) zM_X7_build dX7_build_314 rfl ?_
      refine jw_callI (as := [.ref 49, .int (jI (A 61 x4)), .int (jI 0)]) (rest := []) zM_X7_build dX7_build_315 (zx_calV zC_7_145) zM_X7_nextName rfl rfl rfl rfl rfl (j_args0 rfl rfl) rfl hA h (fun v5 A3 rv6 hA4 h => ?_)
      refine zw_goto (tgt := 324) zM_X7_build dX7_build_318 rfl ?_
      exact zw_weak2 (h hA4) ⟨rfl, rfl, rfl, rfl, rfl, rfl, trivial⟩
set_option maxHeartbeats 4000000 in
set_option maxRecDepth 100000 in
theorem vd_X7_build_324 (x1 : Int) (r_x1 : jW x1) (x2 : Int) (r_x2 : jW x2) (x3 : Int) (r_x3 : jW x3) (x4 : Int) (r_x4 : jW x4) (x5 : Int) (r_x5 : jW x5) (y0 : Int) (r_y0 : jW y0) (E : jE) (A : jA) (K : Int → jA → Prop) (h : jrI 142 326 [some (.ref 49), some (.int (jI x1)), some (.int (jI x2)), some (.int (jI x3)), some (.int (jI x4)), some (.int (jI x5)), some (.int (jI y0))] [] E A K) : jrI 142 324 [some (.ref 49), some (.int (jI x1)), some (.int (jI x2)), some (.int (jI x3)), some (.int (jI x4)), some (.int (jI x5)), none] [.int (jI y0)] E A K := by
  intro hA
  refine zw_go (pc1 := 326) (L1 := [some (.ref 49), some (.int (jI x1)), some (.int (jI x2)), some (.int (jI x3)), some (.int (jI x4)), some (.int (jI x5)), some (.int (jI y0))]) (st1 := []) (σ1 := js E A) zM_X7_build dX7_build_324 rfl rfl rfl rfl ?_
  exact zw_weak2 (h hA) ⟨rfl, rfl, rfl, rfl, rfl, rfl, rfl, trivial⟩
set_option maxHeartbeats 4000000 in
set_option maxRecDepth 100000 in
theorem vd_X7_build_326 (x1 : Int) (r_x1 : jW x1) (x2 : Int) (r_x2 : jW x2) (x3 : Int) (r_x3 : jW x3) (x4 : Int) (r_x4 : jW x4) (x5 : Int) (r_x5 : jW x5) (x6 : Int) (r_x6 : jW x6) (E : jE) (A : jA) (K : Int → jA → Prop) (h : (((1000 : Int) ≤ x6 → jrI 142 282 [some (.ref 49), some (.int (jI x1)), some (.int (jI x2)), some (.int (jI x3)), some (.int (jI (x4 + 1))), none, none] [] E A K) ∧ (x6 < (1000 : Int) → jrV 206 0 [some (.ref 49), some (.int (jI x6))] [] E A (fun A1 => (0 ≤ (A1 49 19) ∧ (A1 49 19) < 300) ∧ (0 ≤ (A1 57 (A1 49 19)) ∧ (A1 57 (A1 49 19)) < 32) ∧ jrV 206 0 [some (.ref 49), some (.int (jI (A1 60 (A1 57 (A1 49 19)))))] [] E A1 (fun A5 => jrI 187 0 [some (.ref 49), some (.int (jI x5)), some (.int (jI x6)), none, none] [] E A5 (fun v9 A7 => jrI 142 326 [some (.ref 49), some (.int (jI x1)), some (.int (jI x2)), some (.int (jI x3)), some (.int (jI x4)), some (.int (jI x5)), some (.int (jI v9))] [] E A7 K)))))) : jrI 142 326 [some (.ref 49), some (.int (jI x1)), some (.int (jI x2)), some (.int (jI x3)), some (.int (jI x4)), some (.int (jI x5)), some (.int (jI x6))] [] E A K := by
  intro hA
  refine zw_go (pc1 := 328) (L1 := [some (.ref 49), some (.int (jI x1)), some (.int (jI x2)), some (.int (jI x3)), some (.int (jI x4)), some (.int (jI x5)), some (.int (jI x6))]) (st1 := [.int (jI x6)]) (σ1 := js E A) zM_X7_build dX7_build_326 rfl rfl rfl rfl ?_
  refine jw_sipush (v := 1000) zM_X7_build dX7_build_328 (by decide) ?_
  refine jw_icmp_ge (tgt := 371) zM_X7_build dX7_build_331 rfl r_x6 (show jW 1000 from ⟨by decide, by decide⟩) (fun q => ?_) (fun q => ?_)
  · replace h := h.1 q
    refine jw_iinc (x := x4) (L1 := [some (.ref 49), some (.int (jI x1)), some (.int (jI x2)), some (.int (jI x3)), some (.int (jI (x4 + 1))), some (.int (jI x5)), some (.int (jI x6))]) zM_X7_build dX7_build_371 rfl (show 4 < 7 by decide) rfl ?_
    refine zw_goto (tgt := 282) zM_X7_build dX7_build_374 rfl ?_
    exact zw_weak2 (h hA) ⟨rfl, rfl, rfl, rfl, rfl, trivial⟩
  · replace h := h.2 q
    refine zw_go (pc1 := 335) (L1 := [some (.ref 49), some (.int (jI x1)), some (.int (jI x2)), some (.int (jI x3)), some (.int (jI x4)), some (.int (jI x5)), some (.int (jI x6))]) (st1 := [.ref 49]) (σ1 := js E A) zM_X7_build dX7_build_334 rfl rfl rfl rfl ?_
    refine zw_go (pc1 := 337) (L1 := [some (.ref 49), some (.int (jI x1)), some (.int (jI x2)), some (.int (jI x3)), some (.int (jI x4)), some (.int (jI x5)), some (.int (jI x6))]) (st1 := [.int (jI x6), .ref 49]) (σ1 := js E A) zM_X7_build dX7_build_335 rfl rfl rfl rfl ?_
    refine jw_callV (as := [.ref 49, .int (jI x6)]) (rest := []) zM_X7_build dX7_build_337 (zx_calV zC_7_184) zM_X7_tellWord rfl rfl rfl rfl rfl (j_args0 rfl rfl) rfl hA h (fun A1 hA2 h => ?_)
    refine zw_go (pc1 := 341) (L1 := [some (.ref 49), some (.int (jI x1)), some (.int (jI x2)), some (.int (jI x3)), some (.int (jI x4)), some (.int (jI x5)), some (.int (jI x6))]) (st1 := [.ref 49]) (σ1 := js E A1) zM_X7_build dX7_build_340 rfl rfl rfl rfl ?_
    refine zw_go (pc1 := 342) (L1 := [some (.ref 49), some (.int (jI x1)), some (.int (jI x2)), some (.int (jI x3)), some (.int (jI x4)), some (.int (jI x5)), some (.int (jI x6))]) (st1 := [.ref 49, .ref 49]) (σ1 := js E A1) zM_X7_build dX7_build_341 rfl rfl rfl rfl ?_
    refine jw_getR (a := 60) zM_X7_build dX7_build_342 zF_7_40 rfl rfl rfl ?_
    refine zw_go (pc1 := 346) (L1 := [some (.ref 49), some (.int (jI x1)), some (.int (jI x2)), some (.int (jI x3)), some (.int (jI x4)), some (.int (jI x5)), some (.int (jI x6))]) (st1 := [.ref 49, .ref 60, .ref 49]) (σ1 := js E A1) zM_X7_build dX7_build_345 rfl rfl rfl rfl ?_
    refine jw_getR (a := 57) zM_X7_build dX7_build_346 zF_7_31 rfl rfl rfl ?_
    refine zw_go (pc1 := 350) (L1 := [some (.ref 49), some (.int (jI x1)), some (.int (jI x2)), some (.int (jI x3)), some (.int (jI x4)), some (.int (jI x5)), some (.int (jI x6))]) (st1 := [.ref 49, .ref 57, .ref 60, .ref 49]) (σ1 := js E A1) zM_X7_build dX7_build_349 rfl rfl rfl rfl ?_
    refine jw_getI zM_X7_build dX7_build_350 zF_7_139 rfl rfl rfl ?_
    obtain ⟨hi3, h⟩ := h
    refine jw_iald zM_X7_build dX7_build_353 rfl rfl hi3 ?_
    obtain ⟨hi4, h⟩ := h
    refine jw_iald zM_X7_build dX7_build_354 rfl rfl hi4 ?_
    refine jw_callV (as := [.ref 49, .int (jI (A1 60 (A1 57 (A1 49 19))))]) (rest := []) zM_X7_build dX7_build_355 (zx_calV zC_7_184) zM_X7_tellWord rfl rfl rfl rfl rfl (j_args0 rfl rfl) rfl hA2 h (fun A5 hA6 h => ?_)
    refine zw_go (pc1 := 359) (L1 := [some (.ref 49), some (.int (jI x1)), some (.int (jI x2)), some (.int (jI x3)), some (.int (jI x4)), some (.int (jI x5)), some (.int (jI x6))]) (st1 := [.ref 49]) (σ1 := js E A5) zM_X7_build dX7_build_358 rfl rfl rfl rfl ?_
    refine zw_go (pc1 := 361) (L1 := [some (.ref 49), some (.int (jI x1)), some (.int (jI x2)), some (.int (jI x3)), some (.int (jI x4)), some (.int (jI x5)), some (.int (jI x6))]) (st1 := [.int (jI x5), .ref 49]) (σ1 := js E A5) zM_X7_build dX7_build_359 rfl rfl rfl rfl ?_
    refine zw_go (pc1 := 363) (L1 := [some (.ref 49), some (.int (jI x1)), some (.int (jI x2)), some (.int (jI x3)), some (.int (jI x4)), some (.int (jI x5)), some (.int (jI x6))]) (st1 := [.int (jI x6), .int (jI x5), .ref 49]) (σ1 := js E A5) zM_X7_build dX7_build_361 rfl rfl rfl rfl ?_
    refine jw_callI (as := [.ref 49, .int (jI x5), .int (jI x6)]) (rest := []) zM_X7_build dX7_build_363 (zx_calV zC_7_145) zM_X7_nextName rfl rfl rfl rfl rfl (j_args0 rfl rfl) rfl hA6 h (fun v9 A7 rv10 hA8 h => ?_)
    refine zw_go (pc1 := 368) (L1 := [some (.ref 49), some (.int (jI x1)), some (.int (jI x2)), some (.int (jI x3)), some (.int (jI x4)), some (.int (jI x5)), some (.int (jI v9))]) (st1 := []) (σ1 := js E A7) zM_X7_build dX7_build_366 rfl rfl rfl rfl ?_
    refine zw_goto (tgt := 326) zM_X7_build dX7_build_368 rfl ?_
    exact zw_weak2 (h hA8) ⟨rfl, rfl, rfl, rfl, rfl, rfl, rfl, trivial⟩
set_option maxHeartbeats 4000000 in
set_option maxRecDepth 100000 in
theorem vd_X7_build_386 (x1 : Int) (r_x1 : jW x1) (x2 : Int) (r_x2 : jW x2) (x3 : Int) (r_x3 : jW x3) (x4 : Int) (r_x4 : jW x4) (x5 : Int) (r_x5 : jW x5) (E : jE) (A : jA) (K : Int → jA → Prop) (h : (((A 49 27) ≤ x5 → jrI 142 443 [some (.ref 49), some (.int (jI x1)), some (.int (jI x2)), some (.int (jI x3)), some (.int (jI x4)), some (.int (jI (A 49 15))), some (.int (jI 1))] [] E A K) ∧ (x5 < (A 49 27) → (0 ≤ x5 ∧ x5 < 32) ∧ jrV 206 0 [some (.ref 49), some (.int (jI (A 70 x5)))] [] E A (fun A2 => (0 ≤ x5 ∧ x5 < 32) ∧ jrV 206 0 [some (.ref 49), some (.int (jI (A2 71 x5)))] [] E A2 (fun A5 => (0 ≤ x5 ∧ x5 < 32) ∧ jrV 203 0 [some (.ref 49), some (.int (jI (A5 68 x5)))] [] E A5 (fun A8 => jrI 142 386 [some (.ref 49), some (.int (jI x1)), some (.int (jI x2)), some (.int (jI x3)), some (.int (jI x4)), some (.int (jI (x5 + 1))), none] [] E A8 K)))))) : jrI 142 386 [some (.ref 49), some (.int (jI x1)), some (.int (jI x2)), some (.int (jI x3)), some (.int (jI x4)), some (.int (jI x5)), none] [] E A K := by
  intro hA
  refine zw_go (pc1 := 388) (L1 := [some (.ref 49), some (.int (jI x1)), some (.int (jI x2)), some (.int (jI x3)), some (.int (jI x4)), some (.int (jI x5)), none]) (st1 := [.int (jI x5)]) (σ1 := js E A) zM_X7_build dX7_build_386 rfl rfl rfl rfl ?_
  refine zw_go (pc1 := 389) (L1 := [some (.ref 49), some (.int (jI x1)), some (.int (jI x2)), some (.int (jI x3)), some (.int (jI x4)), some (.int (jI x5)), none]) (st1 := [.ref 49, .int (jI x5)]) (σ1 := js E A) zM_X7_build dX7_build_388 rfl rfl rfl rfl ?_
  refine jw_getI zM_X7_build dX7_build_389 zF_7_165 rfl rfl rfl ?_
  refine jw_icmp_ge (tgt := 434) zM_X7_build dX7_build_392 rfl r_x5 (hA 49 27) (fun q => ?_) (fun q => ?_)
  · replace h := h.1 q
    refine zw_go (pc1 := 435) (L1 := [some (.ref 49), some (.int (jI x1)), some (.int (jI x2)), some (.int (jI x3)), some (.int (jI x4)), some (.int (jI x5)), none]) (st1 := [.ref 49]) (σ1 := js E A) zM_X7_build dX7_build_434 rfl rfl rfl rfl ?_
    refine jw_getI zM_X7_build dX7_build_435 zF_7_132 rfl rfl rfl ?_
    refine zw_go (pc1 := 440) (L1 := [some (.ref 49), some (.int (jI x1)), some (.int (jI x2)), some (.int (jI x3)), some (.int (jI x4)), some (.int (jI (A 49 15))), none]) (st1 := []) (σ1 := js E A) zM_X7_build dX7_build_438 rfl rfl rfl rfl ?_
    refine jw_iconst (v := 1) zM_X7_build dX7_build_440 rfl ?_
    refine zw_go (pc1 := 443) (L1 := [some (.ref 49), some (.int (jI x1)), some (.int (jI x2)), some (.int (jI x3)), some (.int (jI x4)), some (.int (jI (A 49 15))), some (.int (jI 1))]) (st1 := []) (σ1 := js E A) zM_X7_build dX7_build_441 rfl rfl rfl rfl ?_
    exact zw_weak2 (h hA) ⟨rfl, rfl, rfl, rfl, rfl, rfl, rfl, trivial⟩
  · replace h := h.2 q
    refine zw_go (pc1 := 396) (L1 := [some (.ref 49), some (.int (jI x1)), some (.int (jI x2)), some (.int (jI x3)), some (.int (jI x4)), some (.int (jI x5)), none]) (st1 := [.ref 49]) (σ1 := js E A) zM_X7_build dX7_build_395 rfl rfl rfl rfl ?_
    refine zw_go (pc1 := 397) (L1 := [some (.ref 49), some (.int (jI x1)), some (.int (jI x2)), some (.int (jI x3)), some (.int (jI x4)), some (.int (jI x5)), none]) (st1 := [.ref 49, .ref 49]) (σ1 := js E A) zM_X7_build dX7_build_396 rfl rfl rfl rfl ?_
    refine jw_getR (a := 70) zM_X7_build dX7_build_397 zF_7_70 rfl rfl rfl ?_
    refine zw_go (pc1 := 402) (L1 := [some (.ref 49), some (.int (jI x1)), some (.int (jI x2)), some (.int (jI x3)), some (.int (jI x4)), some (.int (jI x5)), none]) (st1 := [.int (jI x5), .ref 70, .ref 49]) (σ1 := js E A) zM_X7_build dX7_build_400 rfl rfl rfl rfl ?_
    obtain ⟨hi1, h⟩ := h
    refine jw_iald zM_X7_build dX7_build_402 rfl rfl hi1 ?_
    refine jw_callV (as := [.ref 49, .int (jI (A 70 x5))]) (rest := []) zM_X7_build dX7_build_403 (zx_calV zC_7_184) zM_X7_tellWord rfl rfl rfl rfl rfl (j_args0 rfl rfl) rfl hA h (fun A2 hA3 h => ?_)
    refine zw_go (pc1 := 407) (L1 := [some (.ref 49), some (.int (jI x1)), some (.int (jI x2)), some (.int (jI x3)), some (.int (jI x4)), some (.int (jI x5)), none]) (st1 := [.ref 49]) (σ1 := js E A2) zM_X7_build dX7_build_406 rfl rfl rfl rfl ?_
    refine zw_go (pc1 := 408) (L1 := [some (.ref 49), some (.int (jI x1)), some (.int (jI x2)), some (.int (jI x3)), some (.int (jI x4)), some (.int (jI x5)), none]) (st1 := [.ref 49, .ref 49]) (σ1 := js E A2) zM_X7_build dX7_build_407 rfl rfl rfl rfl ?_
    refine jw_getR (a := 71) zM_X7_build dX7_build_408 zF_7_73 rfl rfl rfl ?_
    refine zw_go (pc1 := 413) (L1 := [some (.ref 49), some (.int (jI x1)), some (.int (jI x2)), some (.int (jI x3)), some (.int (jI x4)), some (.int (jI x5)), none]) (st1 := [.int (jI x5), .ref 71, .ref 49]) (σ1 := js E A2) zM_X7_build dX7_build_411 rfl rfl rfl rfl ?_
    obtain ⟨hi4, h⟩ := h
    refine jw_iald zM_X7_build dX7_build_413 rfl rfl hi4 ?_
    refine jw_callV (as := [.ref 49, .int (jI (A2 71 x5))]) (rest := []) zM_X7_build dX7_build_414 (zx_calV zC_7_184) zM_X7_tellWord rfl rfl rfl rfl rfl (j_args0 rfl rfl) rfl hA3 h (fun A5 hA6 h => ?_)
    refine zw_go (pc1 := 418) (L1 := [some (.ref 49), some (.int (jI x1)), some (.int (jI x2)), some (.int (jI x3)), some (.int (jI x4)), some (.int (jI x5)), none]) (st1 := [.ref 49]) (σ1 := js E A5) zM_X7_build dX7_build_417 rfl rfl rfl rfl ?_
    refine zw_go (pc1 := 419) (L1 := [some (.ref 49), some (.int (jI x1)), some (.int (jI x2)), some (.int (jI x3)), some (.int (jI x4)), some (.int (jI x5)), none]) (st1 := [.ref 49, .ref 49]) (σ1 := js E A5) zM_X7_build dX7_build_418 rfl rfl rfl rfl ?_
    refine jw_getR (a := 68) zM_X7_build dX7_build_419 zF_7_64 rfl rfl rfl ?_
    refine zw_go (pc1 := 424) (L1 := [some (.ref 49), some (.int (jI x1)), some (.int (jI x2)), some (.int (jI x3)), some (.int (jI x4)), some (.int (jI x5)), none]) (st1 := [.int (jI x5), .ref 68, .ref 49]) (σ1 := js E A5) zM_X7_build dX7_build_422 rfl rfl rfl rfl ?_
    obtain ⟨hi7, h⟩ := h
    refine jw_iald zM_X7_build dX7_build_424 rfl rfl hi7 ?_
    refine jw_callV (as := [.ref 49, .int (jI (A5 68 x5))]) (rest := []) zM_X7_build dX7_build_425 (zx_calV zC_7_135) zM_X7_tell rfl rfl rfl rfl rfl (j_args0 rfl rfl) rfl hA6 h (fun A8 hA9 h => ?_)
    refine jw_iinc (x := x5) (L1 := [some (.ref 49), some (.int (jI x1)), some (.int (jI x2)), some (.int (jI x3)), some (.int (jI x4)), some (.int (jI (x5 + 1))), none]) zM_X7_build dX7_build_428 rfl (show 5 < 7 by decide) rfl ?_
    refine zw_goto (tgt := 386) zM_X7_build dX7_build_431 rfl ?_
    exact zw_weak2 (h hA9) ⟨rfl, rfl, rfl, rfl, rfl, rfl, trivial⟩
set_option maxHeartbeats 4000000 in
set_option maxRecDepth 100000 in
theorem vd_X7_build_443 (x1 : Int) (r_x1 : jW x1) (x2 : Int) (r_x2 : jW x2) (x3 : Int) (r_x3 : jW x3) (x4 : Int) (r_x4 : jW x4) (x5 : Int) (r_x5 : jW x5) (x6 : Int) (r_x6 : jW x6) (E : jE) (A : jA) (K : Int → jA → Prop) (h : (((A 49 18) < x6 → (0 ≤ (A 49 14) ∧ (A 49 14) < 3) ∧ ∀ A2 : jA, A2 = jup A 59 (A 49 14) (A 49 15) → ∀ A5 : jA, A5 = jup A2 49 15 0 → jrV 203 0 [some (.ref 49), some (.int (jI 84))] [] E A5 (fun A8 => jrV 203 0 [some (.ref 49), some (.int (jI 73))] [] E A8 (fun A10 => jrV 203 0 [some (.ref 49), some (.int (jI x1))] [] E A10 (fun A12 => jrV 203 0 [some (.ref 49), some (.int (jI 0))] [] E A12 (fun A14 => jrV 206 0 [some (.ref 49), some (.int (jI (A14 49 18)))] [] E A14 (fun A16 => jrV 206 0 [some (.ref 49), some (.int (jI x2))] [] E A16 (fun A18 => jrV 206 0 [some (.ref 49), some (.int (jI x3))] [] E A18 (fun A20 => jrV 206 0 [some (.ref 49), some (.int (jI x4))] [] E A20 (fun A22 => jrV 206 0 [some (.ref 49), some (.int (jI x5))] [] E A22 (fun A24 => (0 ≤ (A24 49 14) ∧ (A24 49 14) < 3) ∧ jrV 206 0 [some (.ref 49), some (.int (jI (A24 59 (A24 49 14))))] [] E A24 (fun A27 => jrI 201 0 [some (.ref 49), some (.int (jI (A27 49 14))), none, none, none] [] E A27 (fun v31 A29 => jrV 197 0 [some (.ref 49), some (.int (jI 16)), some (.int (jI v31))] [] E A29 (fun A33 => jW ((A33 49 11) + 1) ∧ ∀ A36 : jA, A36 = jup A33 49 11 ((A33 49 11) + 1) → jW ((A36 49 11) - 1) ∧ K ((A36 49 11) - 1) A36))))))))))))) ∧ (x6 ≤ (A 49 18) → (0 ≤ x6 ∧ x6 < 33) ∧ jrV 206 0 [some (.ref 49), some (.int (jI (A 72 x6)))] [] E A (fun A41 => jrI 142 443 [some (.ref 49), some (.int (jI x1)), some (.int (jI x2)), some (.int (jI x3)), some (.int (jI x4)), some (.int (jI x5)), some (.int (jI (x6 + 1)))] [] E A41 K)))) : jrI 142 443 [some (.ref 49), some (.int (jI x1)), some (.int (jI x2)), some (.int (jI x3)), some (.int (jI x4)), some (.int (jI x5)), some (.int (jI x6))] [] E A K := by
  intro hA
  refine zw_go (pc1 := 445) (L1 := [some (.ref 49), some (.int (jI x1)), some (.int (jI x2)), some (.int (jI x3)), some (.int (jI x4)), some (.int (jI x5)), some (.int (jI x6))]) (st1 := [.int (jI x6)]) (σ1 := js E A) zM_X7_build dX7_build_443 rfl rfl rfl rfl ?_
  refine zw_go (pc1 := 446) (L1 := [some (.ref 49), some (.int (jI x1)), some (.int (jI x2)), some (.int (jI x3)), some (.int (jI x4)), some (.int (jI x5)), some (.int (jI x6))]) (st1 := [.ref 49, .int (jI x6)]) (σ1 := js E A) zM_X7_build dX7_build_445 rfl rfl rfl rfl ?_
  refine jw_getI zM_X7_build dX7_build_446 zF_7_142 rfl rfl rfl ?_
  refine jw_icmp_gt (tgt := 469) zM_X7_build dX7_build_449 rfl r_x6 (hA 49 18) (fun q => ?_) (fun q => ?_)
  · replace h := h.1 q
    refine zw_go (pc1 := 470) (L1 := [some (.ref 49), some (.int (jI x1)), some (.int (jI x2)), some (.int (jI x3)), some (.int (jI x4)), some (.int (jI x5)), some (.int (jI x6))]) (st1 := [.ref 49]) (σ1 := js E A) zM_X7_build dX7_build_469 rfl rfl rfl rfl ?_
    refine jw_getR (a := 59) zM_X7_build dX7_build_470 zF_7_37 rfl rfl rfl ?_
    refine zw_go (pc1 := 474) (L1 := [some (.ref 49), some (.int (jI x1)), some (.int (jI x2)), some (.int (jI x3)), some (.int (jI x4)), some (.int (jI x5)), some (.int (jI x6))]) (st1 := [.ref 49, .ref 59]) (σ1 := js E A) zM_X7_build dX7_build_473 rfl rfl rfl rfl ?_
    refine jw_getI zM_X7_build dX7_build_474 zF_7_129 rfl rfl rfl ?_
    refine zw_go (pc1 := 478) (L1 := [some (.ref 49), some (.int (jI x1)), some (.int (jI x2)), some (.int (jI x3)), some (.int (jI x4)), some (.int (jI x5)), some (.int (jI x6))]) (st1 := [.ref 49, .int (jI (A 49 14)), .ref 59]) (σ1 := js E A) zM_X7_build dX7_build_477 rfl rfl rfl rfl ?_
    refine jw_getI zM_X7_build dX7_build_478 zF_7_132 rfl rfl rfl ?_
    obtain ⟨hi1, h⟩ := h
    obtain ⟨A2, e3⟩ : ∃ z9 : jA, z9 = jup A 59 (A 49 14) (A 49 15) := ⟨_, rfl⟩
    replace h := h A2 e3
    have hA4 : jOK A2 := jOK.up hA (hA 49 15) e3
    refine jw_iast zM_X7_build dX7_build_481 rfl rfl hi1 e3 ?_
    refine zw_go (pc1 := 483) (L1 := [some (.ref 49), some (.int (jI x1)), some (.int (jI x2)), some (.int (jI x3)), some (.int (jI x4)), some (.int (jI x5)), some (.int (jI x6))]) (st1 := [.ref 49]) (σ1 := js E A2) zM_X7_build dX7_build_482 rfl rfl rfl rfl ?_
    refine jw_iconst (v := 0) zM_X7_build dX7_build_483 rfl ?_
    obtain ⟨A5, e6⟩ : ∃ z9 : jA, z9 = jup A2 49 15 0 := ⟨_, rfl⟩
    replace h := h A5 e6
    have hA7 : jOK A5 := jOK.up hA4 (show jW 0 from ⟨by decide, by decide⟩) e6
    refine jw_putI zM_X7_build dX7_build_484 zF_7_132 rfl rfl rfl rfl e6 ?_
    refine zw_go (pc1 := 488) (L1 := [some (.ref 49), some (.int (jI x1)), some (.int (jI x2)), some (.int (jI x3)), some (.int (jI x4)), some (.int (jI x5)), some (.int (jI x6))]) (st1 := [.ref 49]) (σ1 := js E A5) zM_X7_build dX7_build_487 rfl rfl rfl rfl ?_
    refine jw_bipush (v := 84) zM_X7_build dX7_build_488 (by decide) ?_
    refine jw_callV (as := [.ref 49, .int (jI 84)]) (rest := []) zM_X7_build dX7_build_490 (zx_calV zC_7_135) zM_X7_tell rfl rfl rfl rfl rfl (j_args0 rfl rfl) rfl hA7 h (fun A8 hA9 h => ?_)
    refine zw_go (pc1 := 494) (L1 := [some (.ref 49), some (.int (jI x1)), some (.int (jI x2)), some (.int (jI x3)), some (.int (jI x4)), some (.int (jI x5)), some (.int (jI x6))]) (st1 := [.ref 49]) (σ1 := js E A8) zM_X7_build dX7_build_493 rfl rfl rfl rfl ?_
    refine jw_bipush (v := 73) zM_X7_build dX7_build_494 (by decide) ?_
    refine jw_callV (as := [.ref 49, .int (jI 73)]) (rest := []) zM_X7_build dX7_build_496 (zx_calV zC_7_135) zM_X7_tell rfl rfl rfl rfl rfl (j_args0 rfl rfl) rfl hA9 h (fun A10 hA11 h => ?_)
    refine zw_go (pc1 := 500) (L1 := [some (.ref 49), some (.int (jI x1)), some (.int (jI x2)), some (.int (jI x3)), some (.int (jI x4)), some (.int (jI x5)), some (.int (jI x6))]) (st1 := [.ref 49]) (σ1 := js E A10) zM_X7_build dX7_build_499 rfl rfl rfl rfl ?_
    refine zw_go (pc1 := 501) (L1 := [some (.ref 49), some (.int (jI x1)), some (.int (jI x2)), some (.int (jI x3)), some (.int (jI x4)), some (.int (jI x5)), some (.int (jI x6))]) (st1 := [.int (jI x1), .ref 49]) (σ1 := js E A10) zM_X7_build dX7_build_500 rfl rfl rfl rfl ?_
    refine jw_callV (as := [.ref 49, .int (jI x1)]) (rest := []) zM_X7_build dX7_build_501 (zx_calV zC_7_135) zM_X7_tell rfl rfl rfl rfl rfl (j_args0 rfl rfl) rfl hA11 h (fun A12 hA13 h => ?_)
    refine zw_go (pc1 := 505) (L1 := [some (.ref 49), some (.int (jI x1)), some (.int (jI x2)), some (.int (jI x3)), some (.int (jI x4)), some (.int (jI x5)), some (.int (jI x6))]) (st1 := [.ref 49]) (σ1 := js E A12) zM_X7_build dX7_build_504 rfl rfl rfl rfl ?_
    refine jw_iconst (v := 0) zM_X7_build dX7_build_505 rfl ?_
    refine jw_callV (as := [.ref 49, .int (jI 0)]) (rest := []) zM_X7_build dX7_build_506 (zx_calV zC_7_135) zM_X7_tell rfl rfl rfl rfl rfl (j_args0 rfl rfl) rfl hA13 h (fun A14 hA15 h => ?_)
    refine zw_go (pc1 := 510) (L1 := [some (.ref 49), some (.int (jI x1)), some (.int (jI x2)), some (.int (jI x3)), some (.int (jI x4)), some (.int (jI x5)), some (.int (jI x6))]) (st1 := [.ref 49]) (σ1 := js E A14) zM_X7_build dX7_build_509 rfl rfl rfl rfl ?_
    refine zw_go (pc1 := 511) (L1 := [some (.ref 49), some (.int (jI x1)), some (.int (jI x2)), some (.int (jI x3)), some (.int (jI x4)), some (.int (jI x5)), some (.int (jI x6))]) (st1 := [.ref 49, .ref 49]) (σ1 := js E A14) zM_X7_build dX7_build_510 rfl rfl rfl rfl ?_
    refine jw_getI zM_X7_build dX7_build_511 zF_7_142 rfl rfl rfl ?_
    refine jw_callV (as := [.ref 49, .int (jI (A14 49 18))]) (rest := []) zM_X7_build dX7_build_514 (zx_calV zC_7_184) zM_X7_tellWord rfl rfl rfl rfl rfl (j_args0 rfl rfl) rfl hA15 h (fun A16 hA17 h => ?_)
    refine zw_go (pc1 := 518) (L1 := [some (.ref 49), some (.int (jI x1)), some (.int (jI x2)), some (.int (jI x3)), some (.int (jI x4)), some (.int (jI x5)), some (.int (jI x6))]) (st1 := [.ref 49]) (σ1 := js E A16) zM_X7_build dX7_build_517 rfl rfl rfl rfl ?_
    refine zw_go (pc1 := 519) (L1 := [some (.ref 49), some (.int (jI x1)), some (.int (jI x2)), some (.int (jI x3)), some (.int (jI x4)), some (.int (jI x5)), some (.int (jI x6))]) (st1 := [.int (jI x2), .ref 49]) (σ1 := js E A16) zM_X7_build dX7_build_518 rfl rfl rfl rfl ?_
    refine jw_callV (as := [.ref 49, .int (jI x2)]) (rest := []) zM_X7_build dX7_build_519 (zx_calV zC_7_184) zM_X7_tellWord rfl rfl rfl rfl rfl (j_args0 rfl rfl) rfl hA17 h (fun A18 hA19 h => ?_)
    refine zw_go (pc1 := 523) (L1 := [some (.ref 49), some (.int (jI x1)), some (.int (jI x2)), some (.int (jI x3)), some (.int (jI x4)), some (.int (jI x5)), some (.int (jI x6))]) (st1 := [.ref 49]) (σ1 := js E A18) zM_X7_build dX7_build_522 rfl rfl rfl rfl ?_
    refine zw_go (pc1 := 524) (L1 := [some (.ref 49), some (.int (jI x1)), some (.int (jI x2)), some (.int (jI x3)), some (.int (jI x4)), some (.int (jI x5)), some (.int (jI x6))]) (st1 := [.int (jI x3), .ref 49]) (σ1 := js E A18) zM_X7_build dX7_build_523 rfl rfl rfl rfl ?_
    refine jw_callV (as := [.ref 49, .int (jI x3)]) (rest := []) zM_X7_build dX7_build_524 (zx_calV zC_7_184) zM_X7_tellWord rfl rfl rfl rfl rfl (j_args0 rfl rfl) rfl hA19 h (fun A20 hA21 h => ?_)
    refine zw_go (pc1 := 528) (L1 := [some (.ref 49), some (.int (jI x1)), some (.int (jI x2)), some (.int (jI x3)), some (.int (jI x4)), some (.int (jI x5)), some (.int (jI x6))]) (st1 := [.ref 49]) (σ1 := js E A20) zM_X7_build dX7_build_527 rfl rfl rfl rfl ?_
    refine zw_go (pc1 := 530) (L1 := [some (.ref 49), some (.int (jI x1)), some (.int (jI x2)), some (.int (jI x3)), some (.int (jI x4)), some (.int (jI x5)), some (.int (jI x6))]) (st1 := [.int (jI x4), .ref 49]) (σ1 := js E A20) zM_X7_build dX7_build_528 rfl rfl rfl rfl ?_
    refine jw_callV (as := [.ref 49, .int (jI x4)]) (rest := []) zM_X7_build dX7_build_530 (zx_calV zC_7_184) zM_X7_tellWord rfl rfl rfl rfl rfl (j_args0 rfl rfl) rfl hA21 h (fun A22 hA23 h => ?_)
    refine zw_go (pc1 := 534) (L1 := [some (.ref 49), some (.int (jI x1)), some (.int (jI x2)), some (.int (jI x3)), some (.int (jI x4)), some (.int (jI x5)), some (.int (jI x6))]) (st1 := [.ref 49]) (σ1 := js E A22) zM_X7_build dX7_build_533 rfl rfl rfl rfl ?_
    refine zw_go (pc1 := 536) (L1 := [some (.ref 49), some (.int (jI x1)), some (.int (jI x2)), some (.int (jI x3)), some (.int (jI x4)), some (.int (jI x5)), some (.int (jI x6))]) (st1 := [.int (jI x5), .ref 49]) (σ1 := js E A22) zM_X7_build dX7_build_534 rfl rfl rfl rfl ?_
    refine jw_callV (as := [.ref 49, .int (jI x5)]) (rest := []) zM_X7_build dX7_build_536 (zx_calV zC_7_184) zM_X7_tellWord rfl rfl rfl rfl rfl (j_args0 rfl rfl) rfl hA23 h (fun A24 hA25 h => ?_)
    refine zw_go (pc1 := 540) (L1 := [some (.ref 49), some (.int (jI x1)), some (.int (jI x2)), some (.int (jI x3)), some (.int (jI x4)), some (.int (jI x5)), some (.int (jI x6))]) (st1 := [.ref 49]) (σ1 := js E A24) zM_X7_build dX7_build_539 rfl rfl rfl rfl ?_
    refine zw_go (pc1 := 541) (L1 := [some (.ref 49), some (.int (jI x1)), some (.int (jI x2)), some (.int (jI x3)), some (.int (jI x4)), some (.int (jI x5)), some (.int (jI x6))]) (st1 := [.ref 49, .ref 49]) (σ1 := js E A24) zM_X7_build dX7_build_540 rfl rfl rfl rfl ?_
    refine jw_getR (a := 59) zM_X7_build dX7_build_541 zF_7_37 rfl rfl rfl ?_
    refine zw_go (pc1 := 545) (L1 := [some (.ref 49), some (.int (jI x1)), some (.int (jI x2)), some (.int (jI x3)), some (.int (jI x4)), some (.int (jI x5)), some (.int (jI x6))]) (st1 := [.ref 49, .ref 59, .ref 49]) (σ1 := js E A24) zM_X7_build dX7_build_544 rfl rfl rfl rfl ?_
    refine jw_getI zM_X7_build dX7_build_545 zF_7_129 rfl rfl rfl ?_
    obtain ⟨hi26, h⟩ := h
    refine jw_iald zM_X7_build dX7_build_548 rfl rfl hi26 ?_
    refine jw_callV (as := [.ref 49, .int (jI (A24 59 (A24 49 14)))]) (rest := []) zM_X7_build dX7_build_549 (zx_calV zC_7_184) zM_X7_tellWord rfl rfl rfl rfl rfl (j_args0 rfl rfl) rfl hA25 h (fun A27 hA28 h => ?_)
    refine zw_go (pc1 := 553) (L1 := [some (.ref 49), some (.int (jI x1)), some (.int (jI x2)), some (.int (jI x3)), some (.int (jI x4)), some (.int (jI x5)), some (.int (jI x6))]) (st1 := [.ref 49]) (σ1 := js E A27) zM_X7_build dX7_build_552 rfl rfl rfl rfl ?_
    refine jw_bipush (v := 16) zM_X7_build dX7_build_553 (by decide) ?_
    refine zw_go (pc1 := 556) (L1 := [some (.ref 49), some (.int (jI x1)), some (.int (jI x2)), some (.int (jI x3)), some (.int (jI x4)), some (.int (jI x5)), some (.int (jI x6))]) (st1 := [.ref 49, .int (jI 16), .ref 49]) (σ1 := js E A27) zM_X7_build dX7_build_555 rfl rfl rfl rfl ?_
    refine zw_go (pc1 := 557) (L1 := [some (.ref 49), some (.int (jI x1)), some (.int (jI x2)), some (.int (jI x3)), some (.int (jI x4)), some (.int (jI x5)), some (.int (jI x6))]) (st1 := [.ref 49, .ref 49, .int (jI 16), .ref 49]) (σ1 := js E A27) zM_X7_build dX7_build_556 rfl rfl rfl rfl ?_
    refine jw_getI zM_X7_build dX7_build_557 zF_7_129 rfl rfl rfl ?_
    refine jw_callI (as := [.ref 49, .int (jI (A27 49 14))]) (rest := [.int (jI 16), .ref 49]) zM_X7_build dX7_build_560 (zx_calV zC_7_187) zM_X7_sumOf rfl rfl rfl rfl rfl (j_args0 rfl rfl) rfl hA28 h (fun v31 A29 rv32 hA30 h => ?_)
    refine jw_callV (as := [.ref 49, .int (jI 16), .int (jI v31)]) (rest := []) zM_X7_build dX7_build_563 (zx_calV zC_7_190) zM_X7_putWord rfl rfl rfl rfl rfl (j_args0 rfl rfl) rfl hA30 h (fun A33 hA34 h => ?_)
    refine zw_go (pc1 := 567) (L1 := [some (.ref 49), some (.int (jI x1)), some (.int (jI x2)), some (.int (jI x3)), some (.int (jI x4)), some (.int (jI x5)), some (.int (jI x6))]) (st1 := [.ref 49]) (σ1 := js E A33) zM_X7_build dX7_build_566 rfl rfl rfl rfl ?_
    refine zw_go (pc1 := 568) (L1 := [some (.ref 49), some (.int (jI x1)), some (.int (jI x2)), some (.int (jI x3)), some (.int (jI x4)), some (.int (jI x5)), some (.int (jI x6))]) (st1 := [.ref 49, .ref 49]) (σ1 := js E A33) zM_X7_build dX7_build_567 rfl rfl rfl rfl ?_
    refine jw_getI zM_X7_build dX7_build_568 zF_7_168 rfl rfl rfl ?_
    refine jw_iconst (v := 1) zM_X7_build dX7_build_571 rfl ?_
    refine jw_add zM_X7_build dX7_build_572 ?_
    obtain ⟨hw35, h⟩ := h
    obtain ⟨A36, e37⟩ : ∃ z9 : jA, z9 = jup A33 49 11 ((A33 49 11) + 1) := ⟨_, rfl⟩
    replace h := h A36 e37
    have hA38 : jOK A36 := jOK.up hA34 hw35 e37
    refine jw_putI zM_X7_build dX7_build_573 zF_7_168 rfl rfl rfl rfl e37 ?_
    refine zw_go (pc1 := 577) (L1 := [some (.ref 49), some (.int (jI x1)), some (.int (jI x2)), some (.int (jI x3)), some (.int (jI x4)), some (.int (jI x5)), some (.int (jI x6))]) (st1 := [.ref 49]) (σ1 := js E A36) zM_X7_build dX7_build_576 rfl rfl rfl rfl ?_
    refine jw_getI zM_X7_build dX7_build_577 zF_7_168 rfl rfl rfl ?_
    refine jw_iconst (v := 1) zM_X7_build dX7_build_580 rfl ?_
    refine jw_sub zM_X7_build dX7_build_581 ?_
    obtain ⟨hw39, h⟩ := h
    exact jw_reti zM_X7_build dX7_build_582 rfl hw39 hA38 h
  · replace h := h.2 q
    refine zw_go (pc1 := 453) (L1 := [some (.ref 49), some (.int (jI x1)), some (.int (jI x2)), some (.int (jI x3)), some (.int (jI x4)), some (.int (jI x5)), some (.int (jI x6))]) (st1 := [.ref 49]) (σ1 := js E A) zM_X7_build dX7_build_452 rfl rfl rfl rfl ?_
    refine zw_go (pc1 := 454) (L1 := [some (.ref 49), some (.int (jI x1)), some (.int (jI x2)), some (.int (jI x3)), some (.int (jI x4)), some (.int (jI x5)), some (.int (jI x6))]) (st1 := [.ref 49, .ref 49]) (σ1 := js E A) zM_X7_build dX7_build_453 rfl rfl rfl rfl ?_
    refine jw_getR (a := 72) zM_X7_build dX7_build_454 zF_7_76 rfl rfl rfl ?_
    refine zw_go (pc1 := 459) (L1 := [some (.ref 49), some (.int (jI x1)), some (.int (jI x2)), some (.int (jI x3)), some (.int (jI x4)), some (.int (jI x5)), some (.int (jI x6))]) (st1 := [.int (jI x6), .ref 72, .ref 49]) (σ1 := js E A) zM_X7_build dX7_build_457 rfl rfl rfl rfl ?_
    obtain ⟨hi40, h⟩ := h
    refine jw_iald zM_X7_build dX7_build_459 rfl rfl hi40 ?_
    refine jw_callV (as := [.ref 49, .int (jI (A 72 x6))]) (rest := []) zM_X7_build dX7_build_460 (zx_calV zC_7_184) zM_X7_tellWord rfl rfl rfl rfl rfl (j_args0 rfl rfl) rfl hA h (fun A41 hA42 h => ?_)
    refine jw_iinc (x := x6) (L1 := [some (.ref 49), some (.int (jI x1)), some (.int (jI x2)), some (.int (jI x3)), some (.int (jI x4)), some (.int (jI x5)), some (.int (jI (x6 + 1)))]) zM_X7_build dX7_build_463 rfl (show 6 < 7 by decide) rfl ?_
    refine zw_goto (tgt := 443) zM_X7_build dX7_build_466 rfl ?_
    exact zw_weak2 (h hA42) ⟨rfl, rfl, rfl, rfl, rfl, rfl, rfl, trivial⟩
set_option maxHeartbeats 4000000 in
set_option maxRecDepth 100000 in
theorem vd_X7_byteAt_0 (x1 : Int) (r_x1 : jW x1) (x2 : Int) (r_x2 : jW x2) (E : jE) (A : jA) (K : Int → jA → Prop) (h : (0 ≤ ((6000 * x1) + x2) ∧ ((6000 * x1) + x2) < 18000) ∧ K (A 58 ((6000 * x1) + x2)) A) : jrI 143 0 [some (.ref 49), some (.int (jI x1)), some (.int (jI x2))] [] E A K := by
  intro hA
  refine zw_go (pc1 := 1) (L1 := [some (.ref 49), some (.int (jI x1)), some (.int (jI x2))]) (st1 := [.ref 49]) (σ1 := js E A) zM_X7_byteAt dX7_byteAt_0 rfl rfl rfl rfl ?_
  refine jw_getR (a := 58) zM_X7_byteAt dX7_byteAt_1 zF_7_34 rfl rfl rfl ?_
  refine jw_sipush (v := 6000) zM_X7_byteAt dX7_byteAt_4 (by decide) ?_
  refine zw_go (pc1 := 8) (L1 := [some (.ref 49), some (.int (jI x1)), some (.int (jI x2))]) (st1 := [.int (jI x1), .int (jI 6000), .ref 58]) (σ1 := js E A) zM_X7_byteAt dX7_byteAt_7 rfl rfl rfl rfl ?_
  refine jw_mul zM_X7_byteAt dX7_byteAt_8 ?_
  refine zw_go (pc1 := 10) (L1 := [some (.ref 49), some (.int (jI x1)), some (.int (jI x2))]) (st1 := [.int (jI x2), .int (jI (6000 * x1)), .ref 58]) (σ1 := js E A) zM_X7_byteAt dX7_byteAt_9 rfl rfl rfl rfl ?_
  refine jw_add zM_X7_byteAt dX7_byteAt_10 ?_
  obtain ⟨hi1, h⟩ := h
  refine jw_iald zM_X7_byteAt dX7_byteAt_11 rfl rfl hi1 ?_
  exact jw_reti zM_X7_byteAt dX7_byteAt_12 rfl (hA 58 ((6000 * x1) + x2)) hA h
set_option maxHeartbeats 4000000 in
set_option maxRecDepth 100000 in
theorem vd_X7_canBe_0 (x1 : Int) (r_x1 : jW x1) (x2 : Int) (r_x2 : jW x2) (x3 : Int) (r_x3 : jW x3) (x4 : Int) (r_x4 : jW x4) (E : jE) (A : jA) (K : Int → jA → Prop) (h : ((¬ x3 = (0 : Int) → ((x2 < (18 : Int) → K 0 A) ∧ ((18 : Int) ≤ x2 → jrI 175 0 [some (.int (jI x3))] [] E A (fun v3 A1 => jrI 210 0 [some (.ref 49), some (.int (jI x1)), some (.int (jI 6))] [] E A1 (fun v7 A5 => jW (x2 + v3) ∧ (((x2 + v3) ≤ v7 → ((x3 < (32768 : Int) → jrI 144 62 [some (.ref 49), some (.int (jI x1)), none, none, some (.int (jI x4)), some (.int (jI x2)), some (.int (jI (x2 + x3))), some (.int (jI 0)), none] [] E A5 K) ∧ ((32768 : Int) ≤ x3 → jW (32768 + x4) ∧ ((¬ x3 = (32768 + x4) → K 0 A5) ∧ (x3 = (32768 + x4) → K 1 A5))))) ∧ (v7 < (x2 + v3) → K 0 A5))))))) ∧ (x3 = (0 : Int) → K 1 A))) : jrI 144 0 [some (.ref 49), some (.int (jI x1)), some (.int (jI x2)), some (.int (jI x3)), some (.int (jI x4)), none, none, none, none] [] E A K := by
  intro hA
  refine zw_go (pc1 := 1) (L1 := [some (.ref 49), some (.int (jI x1)), some (.int (jI x2)), some (.int (jI x3)), some (.int (jI x4)), none, none, none, none]) (st1 := [.int (jI x3)]) (σ1 := js E A) zM_X7_canBe dX7_canBe_0 rfl rfl rfl rfl ?_
  refine jw_if_ne (tgt := 6) zM_X7_canBe dX7_canBe_1 rfl r_x3 (fun q => ?_) (fun q => ?_)
  · replace h := h.1 q
    refine zw_go (pc1 := 7) (L1 := [some (.ref 49), some (.int (jI x1)), some (.int (jI x2)), some (.int (jI x3)), some (.int (jI x4)), none, none, none, none]) (st1 := [.int (jI x2)]) (σ1 := js E A) zM_X7_canBe dX7_canBe_6 rfl rfl rfl rfl ?_
    refine jw_bipush (v := 18) zM_X7_canBe dX7_canBe_7 (by decide) ?_
    refine jw_icmp_lt (tgt := 28) zM_X7_canBe dX7_canBe_9 rfl r_x2 (show jW 18 from ⟨by decide, by decide⟩) (fun q => ?_) (fun q => ?_)
    · replace h := h.1 q
      refine jw_iconst (v := 0) zM_X7_canBe dX7_canBe_28 rfl ?_
      exact jw_retz zM_X7_canBe dX7_canBe_29 rfl (Or.inl rfl) hA h
    · replace h := h.2 q
      refine zw_go (pc1 := 13) (L1 := [some (.ref 49), some (.int (jI x1)), some (.int (jI x2)), some (.int (jI x3)), some (.int (jI x4)), none, none, none, none]) (st1 := [.int (jI x2)]) (σ1 := js E A) zM_X7_canBe dX7_canBe_12 rfl rfl rfl rfl ?_
      refine zw_go (pc1 := 14) (L1 := [some (.ref 49), some (.int (jI x1)), some (.int (jI x2)), some (.int (jI x3)), some (.int (jI x4)), none, none, none, none]) (st1 := [.int (jI x3), .int (jI x2)]) (σ1 := js E A) zM_X7_canBe dX7_canBe_13 rfl rfl rfl rfl ?_
      refine jw_callI (as := [.int (jI x3)]) (rest := [.int (jI x2)]) zM_X7_canBe dX7_canBe_14 (zx_calS zC_7_204) zM_X7_lies rfl rfl rfl rfl rfl rfl rfl hA h (fun v3 A1 rv4 hA2 h => ?_)
      refine jw_add zM_X7_canBe dX7_canBe_17 ?_
      refine zw_go (pc1 := 19) (L1 := [some (.ref 49), some (.int (jI x1)), some (.int (jI x2)), some (.int (jI x3)), some (.int (jI x4)), none, none, none, none]) (st1 := [.ref 49, .int (jI (x2 + v3))]) (σ1 := js E A1) zM_X7_canBe dX7_canBe_18 rfl rfl rfl rfl ?_
      refine zw_go (pc1 := 20) (L1 := [some (.ref 49), some (.int (jI x1)), some (.int (jI x2)), some (.int (jI x3)), some (.int (jI x4)), none, none, none, none]) (st1 := [.int (jI x1), .ref 49, .int (jI (x2 + v3))]) (σ1 := js E A1) zM_X7_canBe dX7_canBe_19 rfl rfl rfl rfl ?_
      refine jw_bipush (v := 6) zM_X7_canBe dX7_canBe_20 (by decide) ?_
      refine jw_callI (as := [.ref 49, .int (jI x1), .int (jI 6)]) (rest := [.int (jI (x2 + v3))]) zM_X7_canBe dX7_canBe_22 (zx_calV zC_7_201) zM_X7_word rfl rfl rfl rfl rfl (j_args0 rfl rfl) rfl hA2 h (fun v7 A5 rv8 hA6 h => ?_)
      obtain ⟨hw9, h⟩ := h
      refine jw_icmp_le (tgt := 30) zM_X7_canBe dX7_canBe_25 rfl hw9 rv8 (fun q => ?_) (fun q => ?_)
      · replace h := h.1 q
        refine zw_go (pc1 := 31) (L1 := [some (.ref 49), some (.int (jI x1)), some (.int (jI x2)), some (.int (jI x3)), some (.int (jI x4)), none, none, none, none]) (st1 := [.int (jI x3)]) (σ1 := js E A5) zM_X7_canBe dX7_canBe_30 rfl rfl rfl rfl ?_
        refine jw_ldc (w := 32768) zM_X7_canBe dX7_canBe_31 zK_7_158 (by decide) ?_
        refine jw_icmp_lt (tgt := 51) zM_X7_canBe dX7_canBe_33 rfl r_x3 (show jW 32768 from ⟨by decide, by decide⟩) (fun q => ?_) (fun q => ?_)
        · replace h := h.1 q
          refine zw_go (pc1 := 52) (L1 := [some (.ref 49), some (.int (jI x1)), some (.int (jI x2)), some (.int (jI x3)), some (.int (jI x4)), none, none, none, none]) (st1 := [.int (jI x2)]) (σ1 := js E A5) zM_X7_canBe dX7_canBe_51 rfl rfl rfl rfl ?_
          refine zw_go (pc1 := 54) (L1 := [some (.ref 49), some (.int (jI x1)), some (.int (jI x2)), some (.int (jI x3)), some (.int (jI x4)), some (.int (jI x2)), none, none, none]) (st1 := []) (σ1 := js E A5) zM_X7_canBe dX7_canBe_52 rfl rfl rfl rfl ?_
          refine zw_go (pc1 := 55) (L1 := [some (.ref 49), some (.int (jI x1)), some (.int (jI x2)), some (.int (jI x3)), some (.int (jI x4)), some (.int (jI x2)), none, none, none]) (st1 := [.int (jI x2)]) (σ1 := js E A5) zM_X7_canBe dX7_canBe_54 rfl rfl rfl rfl ?_
          refine zw_go (pc1 := 56) (L1 := [some (.ref 49), some (.int (jI x1)), some (.int (jI x2)), some (.int (jI x3)), some (.int (jI x4)), some (.int (jI x2)), none, none, none]) (st1 := [.int (jI x3), .int (jI x2)]) (σ1 := js E A5) zM_X7_canBe dX7_canBe_55 rfl rfl rfl rfl ?_
          refine jw_add zM_X7_canBe dX7_canBe_56 ?_
          refine zw_go (pc1 := 59) (L1 := [some (.ref 49), some (.int (jI x1)), some (.int (jI x2)), some (.int (jI x3)), some (.int (jI x4)), some (.int (jI x2)), some (.int (jI (x2 + x3))), none, none]) (st1 := []) (σ1 := js E A5) zM_X7_canBe dX7_canBe_57 rfl rfl rfl rfl ?_
          refine jw_iconst (v := 0) zM_X7_canBe dX7_canBe_59 rfl ?_
          refine zw_go (pc1 := 62) (L1 := [some (.ref 49), some (.int (jI x1)), some (.int (jI x2)), some (.int (jI x3)), some (.int (jI x4)), some (.int (jI x2)), some (.int (jI (x2 + x3))), some (.int (jI 0)), none]) (st1 := []) (σ1 := js E A5) zM_X7_canBe dX7_canBe_60 rfl rfl rfl rfl ?_
          exact zw_weak2 (h hA6) ⟨rfl, rfl, rfl, rfl, rfl, rfl, trivial⟩
        · replace h := h.2 q
          refine zw_go (pc1 := 37) (L1 := [some (.ref 49), some (.int (jI x1)), some (.int (jI x2)), some (.int (jI x3)), some (.int (jI x4)), none, none, none, none]) (st1 := [.int (jI x3)]) (σ1 := js E A5) zM_X7_canBe dX7_canBe_36 rfl rfl rfl rfl ?_
          refine jw_ldc (w := 32768) zM_X7_canBe dX7_canBe_37 zK_7_158 (by decide) ?_
          refine zw_go (pc1 := 41) (L1 := [some (.ref 49), some (.int (jI x1)), some (.int (jI x2)), some (.int (jI x3)), some (.int (jI x4)), none, none, none, none]) (st1 := [.int (jI x4), .int (jI 32768), .int (jI x3)]) (σ1 := js E A5) zM_X7_canBe dX7_canBe_39 rfl rfl rfl rfl ?_
          refine jw_add zM_X7_canBe dX7_canBe_41 ?_
          obtain ⟨hw10, h⟩ := h
          refine jw_icmp_ne (tgt := 49) zM_X7_canBe dX7_canBe_42 rfl r_x3 hw10 (fun q => ?_) (fun q => ?_)
          · replace h := h.1 q
            refine jw_iconst (v := 0) zM_X7_canBe dX7_canBe_49 rfl ?_
            exact jw_retz zM_X7_canBe dX7_canBe_50 rfl (Or.inl rfl) hA6 h
          · replace h := h.2 q
            refine jw_iconst (v := 1) zM_X7_canBe dX7_canBe_45 rfl ?_
            refine zw_goto (tgt := 50) zM_X7_canBe dX7_canBe_46 rfl ?_
            exact jw_retz zM_X7_canBe dX7_canBe_50 rfl (Or.inr rfl) hA6 h
      · replace h := h.2 q
        refine jw_iconst (v := 0) zM_X7_canBe dX7_canBe_28 rfl ?_
        exact jw_retz zM_X7_canBe dX7_canBe_29 rfl (Or.inl rfl) hA6 h
  · replace h := h.2 q
    refine jw_iconst (v := 1) zM_X7_canBe dX7_canBe_4 rfl ?_
    exact jw_retz zM_X7_canBe dX7_canBe_5 rfl (Or.inr rfl) hA h
set_option maxHeartbeats 4000000 in
set_option maxRecDepth 100000 in
theorem vd_X7_canBe_62 (x1 : Int) (r_x1 : jW x1) (x4 : Int) (r_x4 : jW x4) (x5 : Int) (r_x5 : jW x5) (x6 : Int) (r_x6 : jW x6) (x7 : Int) (r_x7 : jW x7) (E : jE) (A : jA) (K : Int → jA → Prop) (h : ((x6 ≤ x5 → ((¬ x7 = x4 → K 0 A) ∧ (x7 = x4 → K 1 A))) ∧ (x5 < x6 → jrI 143 0 [some (.ref 49), some (.int (jI x1)), some (.int (jI x5))] [] E A (fun v3 A1 => (((128 : Int) ≤ v3 → ((v3 ≤ (128 : Int) → jrI 144 132 [some (.ref 49), some (.int (jI x1)), none, none, some (.int (jI x4)), some (.int (jI (x5 + 1))), some (.int (jI x6)), some (.int (jI x7)), none] [] E A1 K) ∧ ((128 : Int) < v3 → jrI 144 132 [some (.ref 49), some (.int (jI x1)), none, none, some (.int (jI x4)), some (.int (jI ((x5 + 1) + 1))), some (.int (jI x6)), some (.int (jI (x7 + (257 - v3)))), none] [] E A1 K))) ∧ (v3 < (128 : Int) → jrI 144 132 [some (.ref 49), some (.int (jI x1)), none, none, some (.int (jI x4)), some (.int (jI ((x5 + 1) + (v3 + 1)))), some (.int (jI x6)), some (.int (jI (x7 + (v3 + 1)))), none] [] E A1 K)))))) : jrI 144 62 [some (.ref 49), some (.int (jI x1)), none, none, some (.int (jI x4)), some (.int (jI x5)), some (.int (jI x6)), some (.int (jI x7)), none] [] E A K := by
  intro hA
  refine zw_go (pc1 := 64) (L1 := [some (.ref 49), some (.int (jI x1)), none, none, some (.int (jI x4)), some (.int (jI x5)), some (.int (jI x6)), some (.int (jI x7)), none]) (st1 := [.int (jI x5)]) (σ1 := js E A) zM_X7_canBe dX7_canBe_62 rfl rfl rfl rfl ?_
  refine zw_go (pc1 := 66) (L1 := [some (.ref 49), some (.int (jI x1)), none, none, some (.int (jI x4)), some (.int (jI x5)), some (.int (jI x6)), some (.int (jI x7)), none]) (st1 := [.int (jI x6), .int (jI x5)]) (σ1 := js E A) zM_X7_canBe dX7_canBe_64 rfl rfl rfl rfl ?_
  refine jw_icmp_ge (tgt := 151) zM_X7_canBe dX7_canBe_66 rfl r_x5 r_x6 (fun q => ?_) (fun q => ?_)
  · replace h := h.1 q
    refine zw_go (pc1 := 153) (L1 := [some (.ref 49), some (.int (jI x1)), none, none, some (.int (jI x4)), some (.int (jI x5)), some (.int (jI x6)), some (.int (jI x7)), none]) (st1 := [.int (jI x7)]) (σ1 := js E A) zM_X7_canBe dX7_canBe_151 rfl rfl rfl rfl ?_
    refine zw_go (pc1 := 155) (L1 := [some (.ref 49), some (.int (jI x1)), none, none, some (.int (jI x4)), some (.int (jI x5)), some (.int (jI x6)), some (.int (jI x7)), none]) (st1 := [.int (jI x4), .int (jI x7)]) (σ1 := js E A) zM_X7_canBe dX7_canBe_153 rfl rfl rfl rfl ?_
    refine jw_icmp_ne (tgt := 162) zM_X7_canBe dX7_canBe_155 rfl r_x7 r_x4 (fun q => ?_) (fun q => ?_)
    · replace h := h.1 q
      refine jw_iconst (v := 0) zM_X7_canBe dX7_canBe_162 rfl ?_
      exact jw_retz zM_X7_canBe dX7_canBe_163 rfl (Or.inl rfl) hA h
    · replace h := h.2 q
      refine jw_iconst (v := 1) zM_X7_canBe dX7_canBe_158 rfl ?_
      refine zw_goto (tgt := 163) zM_X7_canBe dX7_canBe_159 rfl ?_
      exact jw_retz zM_X7_canBe dX7_canBe_163 rfl (Or.inr rfl) hA h
  · replace h := h.2 q
    refine zw_go (pc1 := 70) (L1 := [some (.ref 49), some (.int (jI x1)), none, none, some (.int (jI x4)), some (.int (jI x5)), some (.int (jI x6)), some (.int (jI x7)), none]) (st1 := [.ref 49]) (σ1 := js E A) zM_X7_canBe dX7_canBe_69 rfl rfl rfl rfl ?_
    refine zw_go (pc1 := 71) (L1 := [some (.ref 49), some (.int (jI x1)), none, none, some (.int (jI x4)), some (.int (jI x5)), some (.int (jI x6)), some (.int (jI x7)), none]) (st1 := [.int (jI x1), .ref 49]) (σ1 := js E A) zM_X7_canBe dX7_canBe_70 rfl rfl rfl rfl ?_
    refine zw_go (pc1 := 73) (L1 := [some (.ref 49), some (.int (jI x1)), none, none, some (.int (jI x4)), some (.int (jI x5)), some (.int (jI x6)), some (.int (jI x7)), none]) (st1 := [.int (jI x5), .int (jI x1), .ref 49]) (σ1 := js E A) zM_X7_canBe dX7_canBe_71 rfl rfl rfl rfl ?_
    refine jw_callI (as := [.ref 49, .int (jI x1), .int (jI x5)]) (rest := []) zM_X7_canBe dX7_canBe_73 (zx_calV zC_7_198) zM_X7_byteAt rfl rfl rfl rfl rfl (j_args0 rfl rfl) rfl hA h (fun v3 A1 rv4 hA2 h => ?_)
    refine zw_go (pc1 := 78) (L1 := [some (.ref 49), some (.int (jI x1)), none, none, some (.int (jI x4)), some (.int (jI x5)), some (.int (jI x6)), some (.int (jI x7)), some (.int (jI v3))]) (st1 := []) (σ1 := js E A1) zM_X7_canBe dX7_canBe_76 rfl rfl rfl rfl ?_
    refine jw_iinc (x := x5) (L1 := [some (.ref 49), some (.int (jI x1)), none, none, some (.int (jI x4)), some (.int (jI (x5 + 1))), some (.int (jI x6)), some (.int (jI x7)), some (.int (jI v3))]) zM_X7_canBe dX7_canBe_78 rfl (show 5 < 9 by decide) rfl ?_
    refine zw_go (pc1 := 83) (L1 := [some (.ref 49), some (.int (jI x1)), none, none, some (.int (jI x4)), some (.int (jI (x5 + 1))), some (.int (jI x6)), some (.int (jI x7)), some (.int (jI v3))]) (st1 := [.int (jI v3)]) (σ1 := js E A1) zM_X7_canBe dX7_canBe_81 rfl rfl rfl rfl ?_
    refine jw_sipush (v := 128) zM_X7_canBe dX7_canBe_83 (by decide) ?_
    refine jw_icmp_ge (tgt := 110) zM_X7_canBe dX7_canBe_86 rfl rv4 (show jW 128 from ⟨by decide, by decide⟩) (fun q => ?_) (fun q => ?_)
    · replace h := h.1 q
      refine zw_go (pc1 := 112) (L1 := [some (.ref 49), some (.int (jI x1)), none, none, some (.int (jI x4)), some (.int (jI (x5 + 1))), some (.int (jI x6)), some (.int (jI x7)), some (.int (jI v3))]) (st1 := [.int (jI v3)]) (σ1 := js E A1) zM_X7_canBe dX7_canBe_110 rfl rfl rfl rfl ?_
      refine jw_sipush (v := 128) zM_X7_canBe dX7_canBe_112 (by decide) ?_
      refine jw_icmp_le (tgt := 132) zM_X7_canBe dX7_canBe_115 rfl rv4 (show jW 128 from ⟨by decide, by decide⟩) (fun q => ?_) (fun q => ?_)
      · replace h := h.1 q
        exact zw_weak2 (h hA2) ⟨rfl, rfl, rfl, rfl, rfl, rfl, trivial⟩
      · replace h := h.2 q
        refine jw_iinc (x := (x5 + 1)) (L1 := [some (.ref 49), some (.int (jI x1)), none, none, some (.int (jI x4)), some (.int (jI ((x5 + 1) + 1))), some (.int (jI x6)), some (.int (jI x7)), some (.int (jI v3))]) zM_X7_canBe dX7_canBe_118 rfl (show 5 < 9 by decide) rfl ?_
        refine zw_go (pc1 := 123) (L1 := [some (.ref 49), some (.int (jI x1)), none, none, some (.int (jI x4)), some (.int (jI ((x5 + 1) + 1))), some (.int (jI x6)), some (.int (jI x7)), some (.int (jI v3))]) (st1 := [.int (jI x7)]) (σ1 := js E A1) zM_X7_canBe dX7_canBe_121 rfl rfl rfl rfl ?_
        refine jw_sipush (v := 257) zM_X7_canBe dX7_canBe_123 (by decide) ?_
        refine zw_go (pc1 := 128) (L1 := [some (.ref 49), some (.int (jI x1)), none, none, some (.int (jI x4)), some (.int (jI ((x5 + 1) + 1))), some (.int (jI x6)), some (.int (jI x7)), some (.int (jI v3))]) (st1 := [.int (jI v3), .int (jI 257), .int (jI x7)]) (σ1 := js E A1) zM_X7_canBe dX7_canBe_126 rfl rfl rfl rfl ?_
        refine jw_sub zM_X7_canBe dX7_canBe_128 ?_
        refine jw_add zM_X7_canBe dX7_canBe_129 ?_
        refine zw_go (pc1 := 132) (L1 := [some (.ref 49), some (.int (jI x1)), none, none, some (.int (jI x4)), some (.int (jI ((x5 + 1) + 1))), some (.int (jI x6)), some (.int (jI (x7 + (257 - v3)))), some (.int (jI v3))]) (st1 := []) (σ1 := js E A1) zM_X7_canBe dX7_canBe_130 rfl rfl rfl rfl ?_
        exact zw_weak2 (h hA2) ⟨rfl, rfl, rfl, rfl, rfl, rfl, trivial⟩
    · replace h := h.2 q
      refine zw_go (pc1 := 91) (L1 := [some (.ref 49), some (.int (jI x1)), none, none, some (.int (jI x4)), some (.int (jI (x5 + 1))), some (.int (jI x6)), some (.int (jI x7)), some (.int (jI v3))]) (st1 := [.int (jI (x5 + 1))]) (σ1 := js E A1) zM_X7_canBe dX7_canBe_89 rfl rfl rfl rfl ?_
      refine zw_go (pc1 := 93) (L1 := [some (.ref 49), some (.int (jI x1)), none, none, some (.int (jI x4)), some (.int (jI (x5 + 1))), some (.int (jI x6)), some (.int (jI x7)), some (.int (jI v3))]) (st1 := [.int (jI v3), .int (jI (x5 + 1))]) (σ1 := js E A1) zM_X7_canBe dX7_canBe_91 rfl rfl rfl rfl ?_
      refine jw_iconst (v := 1) zM_X7_canBe dX7_canBe_93 rfl ?_
      refine jw_add zM_X7_canBe dX7_canBe_94 ?_
      refine jw_add zM_X7_canBe dX7_canBe_95 ?_
      refine zw_go (pc1 := 98) (L1 := [some (.ref 49), some (.int (jI x1)), none, none, some (.int (jI x4)), some (.int (jI ((x5 + 1) + (v3 + 1)))), some (.int (jI x6)), some (.int (jI x7)), some (.int (jI v3))]) (st1 := []) (σ1 := js E A1) zM_X7_canBe dX7_canBe_96 rfl rfl rfl rfl ?_
      refine zw_go (pc1 := 100) (L1 := [some (.ref 49), some (.int (jI x1)), none, none, some (.int (jI x4)), some (.int (jI ((x5 + 1) + (v3 + 1)))), some (.int (jI x6)), some (.int (jI x7)), some (.int (jI v3))]) (st1 := [.int (jI x7)]) (σ1 := js E A1) zM_X7_canBe dX7_canBe_98 rfl rfl rfl rfl ?_
      refine zw_go (pc1 := 102) (L1 := [some (.ref 49), some (.int (jI x1)), none, none, some (.int (jI x4)), some (.int (jI ((x5 + 1) + (v3 + 1)))), some (.int (jI x6)), some (.int (jI x7)), some (.int (jI v3))]) (st1 := [.int (jI v3), .int (jI x7)]) (σ1 := js E A1) zM_X7_canBe dX7_canBe_100 rfl rfl rfl rfl ?_
      refine jw_iconst (v := 1) zM_X7_canBe dX7_canBe_102 rfl ?_
      refine jw_add zM_X7_canBe dX7_canBe_103 ?_
      refine jw_add zM_X7_canBe dX7_canBe_104 ?_
      refine zw_go (pc1 := 107) (L1 := [some (.ref 49), some (.int (jI x1)), none, none, some (.int (jI x4)), some (.int (jI ((x5 + 1) + (v3 + 1)))), some (.int (jI x6)), some (.int (jI (x7 + (v3 + 1)))), some (.int (jI v3))]) (st1 := []) (σ1 := js E A1) zM_X7_canBe dX7_canBe_105 rfl rfl rfl rfl ?_
      refine zw_goto (tgt := 132) zM_X7_canBe dX7_canBe_107 rfl ?_
      exact zw_weak2 (h hA2) ⟨rfl, rfl, rfl, rfl, rfl, rfl, trivial⟩
set_option maxHeartbeats 4000000 in
set_option maxRecDepth 100000 in
theorem vd_X7_canBe_132 (x1 : Int) (r_x1 : jW x1) (x4 : Int) (r_x4 : jW x4) (x5 : Int) (r_x5 : jW x5) (x6 : Int) (r_x6 : jW x6) (x7 : Int) (r_x7 : jW x7) (E : jE) (A : jA) (K : Int → jA → Prop) (h : ((x4 < x7 → K 0 A) ∧ (x7 ≤ x4 → ((x5 ≤ x6 → jrI 144 62 [some (.ref 49), some (.int (jI x1)), none, none, some (.int (jI x4)), some (.int (jI x5)), some (.int (jI x6)), some (.int (jI x7)), none] [] E A K) ∧ (x6 < x5 → K 0 A))))) : jrI 144 132 [some (.ref 49), some (.int (jI x1)), none, none, some (.int (jI x4)), some (.int (jI x5)), some (.int (jI x6)), some (.int (jI x7)), none] [] E A K := by
  intro hA
  refine zw_go (pc1 := 134) (L1 := [some (.ref 49), some (.int (jI x1)), none, none, some (.int (jI x4)), some (.int (jI x5)), some (.int (jI x6)), some (.int (jI x7)), none]) (st1 := [.int (jI x7)]) (σ1 := js E A) zM_X7_canBe dX7_canBe_132 rfl rfl rfl rfl ?_
  refine zw_go (pc1 := 136) (L1 := [some (.ref 49), some (.int (jI x1)), none, none, some (.int (jI x4)), some (.int (jI x5)), some (.int (jI x6)), some (.int (jI x7)), none]) (st1 := [.int (jI x4), .int (jI x7)]) (σ1 := js E A) zM_X7_canBe dX7_canBe_134 rfl rfl rfl rfl ?_
  refine jw_icmp_gt (tgt := 146) zM_X7_canBe dX7_canBe_136 rfl r_x7 r_x4 (fun q => ?_) (fun q => ?_)
  · replace h := h.1 q
    refine jw_iconst (v := 0) zM_X7_canBe dX7_canBe_146 rfl ?_
    exact jw_retz zM_X7_canBe dX7_canBe_147 rfl (Or.inl rfl) hA h
  · replace h := h.2 q
    refine zw_go (pc1 := 141) (L1 := [some (.ref 49), some (.int (jI x1)), none, none, some (.int (jI x4)), some (.int (jI x5)), some (.int (jI x6)), some (.int (jI x7)), none]) (st1 := [.int (jI x5)]) (σ1 := js E A) zM_X7_canBe dX7_canBe_139 rfl rfl rfl rfl ?_
    refine zw_go (pc1 := 143) (L1 := [some (.ref 49), some (.int (jI x1)), none, none, some (.int (jI x4)), some (.int (jI x5)), some (.int (jI x6)), some (.int (jI x7)), none]) (st1 := [.int (jI x6), .int (jI x5)]) (σ1 := js E A) zM_X7_canBe dX7_canBe_141 rfl rfl rfl rfl ?_
    refine jw_icmp_le (tgt := 148) zM_X7_canBe dX7_canBe_143 rfl r_x5 r_x6 (fun q => ?_) (fun q => ?_)
    · replace h := h.1 q
      refine zw_goto (tgt := 62) zM_X7_canBe dX7_canBe_148 rfl ?_
      exact zw_weak2 (h hA) ⟨rfl, rfl, rfl, rfl, rfl, rfl, trivial⟩
    · replace h := h.2 q
      refine jw_iconst (v := 0) zM_X7_canBe dX7_canBe_146 rfl ?_
      exact jw_retz zM_X7_canBe dX7_canBe_147 rfl (Or.inl rfl) hA h
set_option maxHeartbeats 4000000 in
set_option maxRecDepth 100000 in
theorem vd_X7_child_0 (x1 : Int) (r_x1 : jW x1) (x2 : Int) (r_x2 : jW x2) (x3 : Int) (r_x3 : jW x3) (E : jE) (A : jA) (K : Int → jA → Prop) (h : jrI 145 6 [some (.ref 49), some (.int (jI x1)), some (.int (jI x2)), some (.int (jI x3)), some (.int (jI 0)), some (.int (jI 0))] [] E A K) : jrI 145 0 [some (.ref 49), some (.int (jI x1)), some (.int (jI x2)), some (.int (jI x3)), none, none] [] E A K := by
  intro hA
  refine jw_iconst (v := 0) zM_X7_child dX7_child_0 rfl ?_
  refine zw_go (pc1 := 3) (L1 := [some (.ref 49), some (.int (jI x1)), some (.int (jI x2)), some (.int (jI x3)), some (.int (jI 0)), none]) (st1 := []) (σ1 := js E A) zM_X7_child dX7_child_1 rfl rfl rfl rfl ?_
  refine jw_iconst (v := 0) zM_X7_child dX7_child_3 rfl ?_
  refine zw_go (pc1 := 6) (L1 := [some (.ref 49), some (.int (jI x1)), some (.int (jI x2)), some (.int (jI x3)), some (.int (jI 0)), some (.int (jI 0))]) (st1 := []) (σ1 := js E A) zM_X7_child dX7_child_4 rfl rfl rfl rfl ?_
  exact zw_weak2 (h hA) ⟨rfl, rfl, rfl, rfl, rfl, rfl, trivial⟩
set_option maxHeartbeats 4000000 in
set_option maxRecDepth 100000 in
theorem vd_X7_child_6 (x1 : Int) (r_x1 : jW x1) (x2 : Int) (r_x2 : jW x2) (x3 : Int) (r_x3 : jW x3) (x4 : Int) (r_x4 : jW x4) (x5 : Int) (r_x5 : jW x5) (E : jE) (A : jA) (K : Int → jA → Prop) (h : jrI 180 0 [some (.ref 49), some (.int (jI x1)), some (.int (jI x2))] [] E A (fun v3 A1 => ((v3 ≤ x5 → K x4 A1) ∧ (x5 < v3 → jrI 156 0 [some (.ref 49), some (.int (jI x1)), some (.int (jI x2))] [] E A1 (fun v7 A5 => jrI 181 0 [some (.ref 49), some (.int (jI x1)), some (.int (jI (v7 + x5)))] [] E A5 (fun v11 A9 => ((¬ v11 = x3 → jrI 145 54 [some (.ref 49), some (.int (jI x1)), some (.int (jI x2)), some (.int (jI x3)), none, some (.int (jI x5))] [.int (jI x4)] E A9 K) ∧ (v11 = x3 → jrI 156 0 [some (.ref 49), some (.int (jI x1)), some (.int (jI x2))] [] E A9 (fun v15 A13 => jrI 190 0 [some (.ref 49), some (.int (jI x1)), some (.int (jI (v15 + x5)))] [] E A13 (fun v19 A17 => jrI 145 54 [some (.ref 49), some (.int (jI x1)), some (.int (jI x2)), some (.int (jI x3)), none, some (.int (jI x5))] [.int (jI v19)] E A17 K)))))))))) : jrI 145 6 [some (.ref 49), some (.int (jI x1)), some (.int (jI x2)), some (.int (jI x3)), some (.int (jI x4)), some (.int (jI x5))] [] E A K := by
  intro hA
  refine zw_go (pc1 := 8) (L1 := [some (.ref 49), some (.int (jI x1)), some (.int (jI x2)), some (.int (jI x3)), some (.int (jI x4)), some (.int (jI x5))]) (st1 := [.int (jI x5)]) (σ1 := js E A) zM_X7_child dX7_child_6 rfl rfl rfl rfl ?_
  refine zw_go (pc1 := 9) (L1 := [some (.ref 49), some (.int (jI x1)), some (.int (jI x2)), some (.int (jI x3)), some (.int (jI x4)), some (.int (jI x5))]) (st1 := [.ref 49, .int (jI x5)]) (σ1 := js E A) zM_X7_child dX7_child_8 rfl rfl rfl rfl ?_
  refine zw_go (pc1 := 10) (L1 := [some (.ref 49), some (.int (jI x1)), some (.int (jI x2)), some (.int (jI x3)), some (.int (jI x4)), some (.int (jI x5))]) (st1 := [.int (jI x1), .ref 49, .int (jI x5)]) (σ1 := js E A) zM_X7_child dX7_child_9 rfl rfl rfl rfl ?_
  refine zw_go (pc1 := 11) (L1 := [some (.ref 49), some (.int (jI x1)), some (.int (jI x2)), some (.int (jI x3)), some (.int (jI x4)), some (.int (jI x5))]) (st1 := [.int (jI x2), .int (jI x1), .ref 49, .int (jI x5)]) (σ1 := js E A) zM_X7_child dX7_child_10 rfl rfl rfl rfl ?_
  refine jw_callI (as := [.ref 49, .int (jI x1), .int (jI x2)]) (rest := [.int (jI x5)]) zM_X7_child dX7_child_11 (zx_calV zC_7_238) zM_X7_manyOf rfl rfl rfl rfl rfl (j_args0 rfl rfl) rfl hA h (fun v3 A1 rv4 hA2 h => ?_)
  refine jw_icmp_ge (tgt := 62) zM_X7_child dX7_child_14 rfl r_x5 rv4 (fun q => ?_) (fun q => ?_)
  · replace h := h.1 q
    refine zw_go (pc1 := 64) (L1 := [some (.ref 49), some (.int (jI x1)), some (.int (jI x2)), some (.int (jI x3)), some (.int (jI x4)), some (.int (jI x5))]) (st1 := [.int (jI x4)]) (σ1 := js E A1) zM_X7_child dX7_child_62 rfl rfl rfl rfl ?_
    exact jw_reti zM_X7_child dX7_child_64 rfl r_x4 hA2 h
  · replace h := h.2 q
    refine zw_go (pc1 := 18) (L1 := [some (.ref 49), some (.int (jI x1)), some (.int (jI x2)), some (.int (jI x3)), some (.int (jI x4)), some (.int (jI x5))]) (st1 := [.ref 49]) (σ1 := js E A1) zM_X7_child dX7_child_17 rfl rfl rfl rfl ?_
    refine zw_go (pc1 := 19) (L1 := [some (.ref 49), some (.int (jI x1)), some (.int (jI x2)), some (.int (jI x3)), some (.int (jI x4)), some (.int (jI x5))]) (st1 := [.int (jI x1), .ref 49]) (σ1 := js E A1) zM_X7_child dX7_child_18 rfl rfl rfl rfl ?_
    refine zw_go (pc1 := 20) (L1 := [some (.ref 49), some (.int (jI x1)), some (.int (jI x2)), some (.int (jI x3)), some (.int (jI x4)), some (.int (jI x5))]) (st1 := [.ref 49, .int (jI x1), .ref 49]) (σ1 := js E A1) zM_X7_child dX7_child_19 rfl rfl rfl rfl ?_
    refine zw_go (pc1 := 21) (L1 := [some (.ref 49), some (.int (jI x1)), some (.int (jI x2)), some (.int (jI x3)), some (.int (jI x4)), some (.int (jI x5))]) (st1 := [.int (jI x1), .ref 49, .int (jI x1), .ref 49]) (σ1 := js E A1) zM_X7_child dX7_child_20 rfl rfl rfl rfl ?_
    refine zw_go (pc1 := 22) (L1 := [some (.ref 49), some (.int (jI x1)), some (.int (jI x2)), some (.int (jI x3)), some (.int (jI x4)), some (.int (jI x5))]) (st1 := [.int (jI x2), .int (jI x1), .ref 49, .int (jI x1), .ref 49]) (σ1 := js E A1) zM_X7_child dX7_child_21 rfl rfl rfl rfl ?_
    refine jw_callI (as := [.ref 49, .int (jI x1), .int (jI x2)]) (rest := [.int (jI x1), .ref 49]) zM_X7_child dX7_child_22 (zx_calV zC_7_251) zM_X7_firstOf rfl rfl rfl rfl rfl (j_args0 rfl rfl) rfl hA2 h (fun v7 A5 rv8 hA6 h => ?_)
    refine zw_go (pc1 := 27) (L1 := [some (.ref 49), some (.int (jI x1)), some (.int (jI x2)), some (.int (jI x3)), some (.int (jI x4)), some (.int (jI x5))]) (st1 := [.int (jI x5), .int (jI v7), .int (jI x1), .ref 49]) (σ1 := js E A5) zM_X7_child dX7_child_25 rfl rfl rfl rfl ?_
    refine jw_add zM_X7_child dX7_child_27 ?_
    refine jw_callI (as := [.ref 49, .int (jI x1), .int (jI (v7 + x5))]) (rest := []) zM_X7_child dX7_child_28 (zx_calV zC_7_241) zM_X7_nameAt rfl rfl rfl rfl rfl (j_args0 rfl rfl) rfl hA6 h (fun v11 A9 rv12 hA10 h => ?_)
    refine zw_go (pc1 := 32) (L1 := [some (.ref 49), some (.int (jI x1)), some (.int (jI x2)), some (.int (jI x3)), some (.int (jI x4)), some (.int (jI x5))]) (st1 := [.int (jI x3), .int (jI v11)]) (σ1 := js E A9) zM_X7_child dX7_child_31 rfl rfl rfl rfl ?_
    refine jw_icmp_ne (tgt := 52) zM_X7_child dX7_child_32 rfl rv12 r_x3 (fun q => ?_) (fun q => ?_)
    · replace h := h.1 q
      refine zw_go (pc1 := 54) (L1 := [some (.ref 49), some (.int (jI x1)), some (.int (jI x2)), some (.int (jI x3)), some (.int (jI x4)), some (.int (jI x5))]) (st1 := [.int (jI x4)]) (σ1 := js E A9) zM_X7_child dX7_child_52 rfl rfl rfl rfl ?_
      exact zw_weak2 (h hA10) ⟨rfl, rfl, rfl, rfl, rfl, trivial⟩
    · replace h := h.2 q
      refine zw_go (pc1 := 36) (L1 := [some (.ref 49), some (.int (jI x1)), some (.int (jI x2)), some (.int (jI x3)), some (.int (jI x4)), some (.int (jI x5))]) (st1 := [.ref 49]) (σ1 := js E A9) zM_X7_child dX7_child_35 rfl rfl rfl rfl ?_
      refine zw_go (pc1 := 37) (L1 := [some (.ref 49), some (.int (jI x1)), some (.int (jI x2)), some (.int (jI x3)), some (.int (jI x4)), some (.int (jI x5))]) (st1 := [.int (jI x1), .ref 49]) (σ1 := js E A9) zM_X7_child dX7_child_36 rfl rfl rfl rfl ?_
      refine zw_go (pc1 := 38) (L1 := [some (.ref 49), some (.int (jI x1)), some (.int (jI x2)), some (.int (jI x3)), some (.int (jI x4)), some (.int (jI x5))]) (st1 := [.ref 49, .int (jI x1), .ref 49]) (σ1 := js E A9) zM_X7_child dX7_child_37 rfl rfl rfl rfl ?_
      refine zw_go (pc1 := 39) (L1 := [some (.ref 49), some (.int (jI x1)), some (.int (jI x2)), some (.int (jI x3)), some (.int (jI x4)), some (.int (jI x5))]) (st1 := [.int (jI x1), .ref 49, .int (jI x1), .ref 49]) (σ1 := js E A9) zM_X7_child dX7_child_38 rfl rfl rfl rfl ?_
      refine zw_go (pc1 := 40) (L1 := [some (.ref 49), some (.int (jI x1)), some (.int (jI x2)), some (.int (jI x3)), some (.int (jI x4)), some (.int (jI x5))]) (st1 := [.int (jI x2), .int (jI x1), .ref 49, .int (jI x1), .ref 49]) (σ1 := js E A9) zM_X7_child dX7_child_39 rfl rfl rfl rfl ?_
      refine jw_callI (as := [.ref 49, .int (jI x1), .int (jI x2)]) (rest := [.int (jI x1), .ref 49]) zM_X7_child dX7_child_40 (zx_calV zC_7_251) zM_X7_firstOf rfl rfl rfl rfl rfl (j_args0 rfl rfl) rfl hA10 h (fun v15 A13 rv16 hA14 h => ?_)
      refine zw_go (pc1 := 45) (L1 := [some (.ref 49), some (.int (jI x1)), some (.int (jI x2)), some (.int (jI x3)), some (.int (jI x4)), some (.int (jI x5))]) (st1 := [.int (jI x5), .int (jI v15), .int (jI x1), .ref 49]) (σ1 := js E A13) zM_X7_child dX7_child_43 rfl rfl rfl rfl ?_
      refine jw_add zM_X7_child dX7_child_45 ?_
      refine jw_callI (as := [.ref 49, .int (jI x1), .int (jI (v15 + x5))]) (rest := []) zM_X7_child dX7_child_46 (zx_calV zC_7_244) zM_X7_numberAt rfl rfl rfl rfl rfl (j_args0 rfl rfl) rfl hA14 h (fun v19 A17 rv20 hA18 h => ?_)
      refine zw_goto (tgt := 54) zM_X7_child dX7_child_49 rfl ?_
      exact zw_weak2 (h hA18) ⟨rfl, rfl, rfl, rfl, rfl, trivial⟩
set_option maxHeartbeats 4000000 in
set_option maxRecDepth 100000 in
theorem vd_X7_child_54 (x1 : Int) (r_x1 : jW x1) (x2 : Int) (r_x2 : jW x2) (x3 : Int) (r_x3 : jW x3) (x5 : Int) (r_x5 : jW x5) (y0 : Int) (r_y0 : jW y0) (E : jE) (A : jA) (K : Int → jA → Prop) (h : jrI 145 6 [some (.ref 49), some (.int (jI x1)), some (.int (jI x2)), some (.int (jI x3)), some (.int (jI y0)), some (.int (jI (x5 + 1)))] [] E A K) : jrI 145 54 [some (.ref 49), some (.int (jI x1)), some (.int (jI x2)), some (.int (jI x3)), none, some (.int (jI x5))] [.int (jI y0)] E A K := by
  intro hA
  refine zw_go (pc1 := 56) (L1 := [some (.ref 49), some (.int (jI x1)), some (.int (jI x2)), some (.int (jI x3)), some (.int (jI y0)), some (.int (jI x5))]) (st1 := []) (σ1 := js E A) zM_X7_child dX7_child_54 rfl rfl rfl rfl ?_
  refine jw_iinc (x := x5) (L1 := [some (.ref 49), some (.int (jI x1)), some (.int (jI x2)), some (.int (jI x3)), some (.int (jI y0)), some (.int (jI (x5 + 1)))]) zM_X7_child dX7_child_56 rfl (show 5 < 6 by decide) rfl ?_
  refine zw_goto (tgt := 6) zM_X7_child dX7_child_59 rfl ?_
  exact zw_weak2 (h hA) ⟨rfl, rfl, rfl, rfl, rfl, rfl, trivial⟩
set_option maxHeartbeats 4000000 in
set_option maxRecDepth 100000 in
theorem vd_X7_clear_0  (E : jE) (A : jA) (K : Int → jA → Prop) (h : ∀ A1 : jA, A1 = jup A 49 0 0 → ∀ A4 : jA, A4 = jup A1 49 1 1 → ∀ A7 : jA, A7 = jup A4 49 7 0 → ∀ A11 : jA, A11 = jup A7 51 0 0 → ∀ A15 : jA, A15 = jup A11 52 0 0 → K (A1 49 1) A15) : jrI 146 0 [some (.ref 49), none] [] E A K := by
  intro hA
  refine zw_go (pc1 := 1) (L1 := [some (.ref 49), none]) (st1 := [.ref 49]) (σ1 := js E A) zM_X7_clear dX7_clear_0 rfl rfl rfl rfl ?_
  refine jw_iconst (v := 0) zM_X7_clear dX7_clear_1 rfl ?_
  obtain ⟨A1, e2⟩ : ∃ z9 : jA, z9 = jup A 49 0 0 := ⟨_, rfl⟩
  replace h := h A1 e2
  have hA3 : jOK A1 := jOK.up hA (show jW 0 from ⟨by decide, by decide⟩) e2
  refine jw_putI zM_X7_clear dX7_clear_2 zF_7_98 rfl rfl rfl rfl e2 ?_
  refine zw_go (pc1 := 6) (L1 := [some (.ref 49), none]) (st1 := [.ref 49]) (σ1 := js E A1) zM_X7_clear dX7_clear_5 rfl rfl rfl rfl ?_
  refine jw_getI zM_X7_clear dX7_clear_6 zF_7_94 rfl rfl rfl ?_
  refine zw_go (pc1 := 10) (L1 := [some (.ref 49), some (.int (jI (A1 49 1)))]) (st1 := []) (σ1 := js E A1) zM_X7_clear dX7_clear_9 rfl rfl rfl rfl ?_
  refine zw_go (pc1 := 11) (L1 := [some (.ref 49), some (.int (jI (A1 49 1)))]) (st1 := [.ref 49]) (σ1 := js E A1) zM_X7_clear dX7_clear_10 rfl rfl rfl rfl ?_
  refine jw_iconst (v := 1) zM_X7_clear dX7_clear_11 rfl ?_
  obtain ⟨A4, e5⟩ : ∃ z9 : jA, z9 = jup A1 49 1 1 := ⟨_, rfl⟩
  replace h := h A4 e5
  have hA6 : jOK A4 := jOK.up hA3 (show jW 1 from ⟨by decide, by decide⟩) e5
  refine jw_putI zM_X7_clear dX7_clear_12 zF_7_94 rfl rfl rfl rfl e5 ?_
  refine zw_go (pc1 := 16) (L1 := [some (.ref 49), some (.int (jI (A1 49 1)))]) (st1 := [.ref 49]) (σ1 := js E A4) zM_X7_clear dX7_clear_15 rfl rfl rfl rfl ?_
  refine jw_iconst (v := 0) zM_X7_clear dX7_clear_16 rfl ?_
  obtain ⟨A7, e8⟩ : ∃ z9 : jA, z9 = jup A4 49 7 0 := ⟨_, rfl⟩
  replace h := h A7 e8
  have hA9 : jOK A7 := jOK.up hA6 (show jW 0 from ⟨by decide, by decide⟩) e8
  refine jw_putI zM_X7_clear dX7_clear_17 zF_7_105 rfl rfl rfl rfl e8 ?_
  refine zw_go (pc1 := 21) (L1 := [some (.ref 49), some (.int (jI (A1 49 1)))]) (st1 := [.ref 49]) (σ1 := js E A7) zM_X7_clear dX7_clear_20 rfl rfl rfl rfl ?_
  refine jw_getR (a := 51) zM_X7_clear dX7_clear_21 zF_7_13 rfl rfl rfl ?_
  refine jw_iconst (v := 0) zM_X7_clear dX7_clear_24 rfl ?_
  refine jw_iconst (v := 0) zM_X7_clear dX7_clear_25 rfl ?_
  obtain ⟨A11, e12⟩ : ∃ z9 : jA, z9 = jup A7 51 0 0 := ⟨_, rfl⟩
  replace h := h A11 e12
  have hA13 : jOK A11 := jOK.up hA9 (show jW 0 from ⟨by decide, by decide⟩) e12
  refine jw_iast zM_X7_clear dX7_clear_26 rfl rfl ⟨by decide, by decide⟩ e12 ?_
  refine zw_go (pc1 := 28) (L1 := [some (.ref 49), some (.int (jI (A1 49 1)))]) (st1 := [.ref 49]) (σ1 := js E A11) zM_X7_clear dX7_clear_27 rfl rfl rfl rfl ?_
  refine jw_getR (a := 52) zM_X7_clear dX7_clear_28 zF_7_16 rfl rfl rfl ?_
  refine jw_iconst (v := 0) zM_X7_clear dX7_clear_31 rfl ?_
  refine jw_iconst (v := 0) zM_X7_clear dX7_clear_32 rfl ?_
  obtain ⟨A15, e16⟩ : ∃ z9 : jA, z9 = jup A11 52 0 0 := ⟨_, rfl⟩
  replace h := h A15 e16
  have hA17 : jOK A15 := jOK.up hA13 (show jW 0 from ⟨by decide, by decide⟩) e16
  refine jw_iast zM_X7_clear dX7_clear_33 rfl rfl ⟨by decide, by decide⟩ e16 ?_
  refine zw_go (pc1 := 35) (L1 := [some (.ref 49), some (.int (jI (A1 49 1)))]) (st1 := [.int (jI (A1 49 1))]) (σ1 := js E A15) zM_X7_clear dX7_clear_34 rfl rfl rfl rfl ?_
  exact jw_reti zM_X7_clear dX7_clear_35 rfl (hA3 49 1) hA17 h
