set_option maxHeartbeats 4000000 in
set_option maxRecDepth 100000 in
theorem vd_X7_look_0 (x1 : Int) (r_x1 : jW x1) (x2 : Int) (r_x2 : jW x2) (E : jE) (A : jA) (K : Int → jA → Prop) (h : ∀ A1 : jA, A1 = jup A 49 0 0 → jrI 171 0 [some (.ref 49), some (.int (jI x1))] [] E A1 (fun v6 A4 => ((¬ v6 = (0 : Int) → jrI 160 0 [some (.int (jI x2)), some (.int (jI 1)), some (.int (jI 999))] [] E A4 (fun v10 A8 => ((¬ v10 = (0 : Int) → jrI 173 0 [some (.ref 49), some (.int (jI x1))] [] E A8 (fun v14 A12 => ((v14 = (1 : Int) → jrI 174 0 [some (.ref 49), some (.int (jI x1)), some (.int (jI x2)), none, none, none, none, none, none] [] E A12 (fun v18 A16 => ((¬ v18 = (0 : Int) → jrI 179 57 [some (.ref 49), none, none, some (.int (jI v18)), some (.int (jI 0)), none, none] [] E A16 K) ∧ (v18 = (0 : Int) → K 0 A16)))) ∧ (¬ v14 = (1 : Int) → K (-3) A12)))) ∧ (v10 = (0 : Int) → K (-2) A8)))) ∧ (v6 = (0 : Int) → K (-1) A4)))) : jrI 179 0 [some (.ref 49), some (.int (jI x1)), some (.int (jI x2)), none, none, none, none] [] E A K := by
  intro hA
  refine zw_go (pc1 := 1) (L1 := [some (.ref 49), some (.int (jI x1)), some (.int (jI x2)), none, none, none, none]) (st1 := [.ref 49]) (σ1 := js E A) zM_X7_look dX7_look_0 rfl rfl rfl rfl ?_
  refine jw_iconst (v := 0) zM_X7_look dX7_look_1 rfl ?_
  obtain ⟨A1, e2⟩ : ∃ z9 : jA, z9 = jup A 49 0 0 := ⟨_, rfl⟩
  replace h := h A1 e2
  have hA3 : jOK A1 := jOK.up hA (show jW 0 from ⟨by decide, by decide⟩) e2
  refine jw_putI zM_X7_look dX7_look_2 zF_7_98 rfl rfl rfl rfl e2 ?_
  refine zw_go (pc1 := 6) (L1 := [some (.ref 49), some (.int (jI x1)), some (.int (jI x2)), none, none, none, none]) (st1 := [.ref 49]) (σ1 := js E A1) zM_X7_look dX7_look_5 rfl rfl rfl rfl ?_
  refine zw_go (pc1 := 7) (L1 := [some (.ref 49), some (.int (jI x1)), some (.int (jI x2)), none, none, none, none]) (st1 := [.int (jI x1), .ref 49]) (σ1 := js E A1) zM_X7_look dX7_look_6 rfl rfl rfl rfl ?_
  refine jw_callI (as := [.ref 49, .int (jI x1)]) (rest := []) zM_X7_look dX7_look_7 (zx_calV zC_7_278) zM_X7_isView rfl rfl rfl rfl rfl (j_args0 rfl rfl) rfl hA3 h (fun v6 A4 rv7 hA5 h => ?_)
  refine jw_if_ne (tgt := 15) zM_X7_look dX7_look_10 rfl rv7 (fun q => ?_) (fun q => ?_)
  · replace h := h.1 q
    refine zw_go (pc1 := 16) (L1 := [some (.ref 49), some (.int (jI x1)), some (.int (jI x2)), none, none, none, none]) (st1 := [.int (jI x2)]) (σ1 := js E A4) zM_X7_look dX7_look_15 rfl rfl rfl rfl ?_
    refine jw_iconst (v := 1) zM_X7_look dX7_look_16 rfl ?_
    refine jw_sipush (v := 999) zM_X7_look dX7_look_17 (by decide) ?_
    refine jw_callI (as := [.int (jI x2), .int (jI 1), .int (jI 999)]) (rest := []) zM_X7_look dX7_look_20 (zx_calS zC_7_101) zM_X7_in rfl rfl rfl rfl rfl rfl rfl hA5 h (fun v10 A8 rv11 hA9 h => ?_)
    refine jw_if_ne (tgt := 29) zM_X7_look dX7_look_23 rfl rv11 (fun q => ?_) (fun q => ?_)
    · replace h := h.1 q
      refine zw_go (pc1 := 30) (L1 := [some (.ref 49), some (.int (jI x1)), some (.int (jI x2)), none, none, none, none]) (st1 := [.ref 49]) (σ1 := js E A8) zM_X7_look dX7_look_29 rfl rfl rfl rfl ?_
      refine zw_go (pc1 := 31) (L1 := [some (.ref 49), some (.int (jI x1)), some (.int (jI x2)), none, none, none, none]) (st1 := [.int (jI x1), .ref 49]) (σ1 := js E A8) zM_X7_look dX7_look_30 rfl rfl rfl rfl ?_
      refine jw_callI (as := [.ref 49, .int (jI x1)]) (rest := []) zM_X7_look dX7_look_31 (zx_calV zC_7_281) zM_X7_kindOf rfl rfl rfl rfl rfl (j_args0 rfl rfl) rfl hA9 h (fun v14 A12 rv15 hA13 h => ?_)
      refine jw_iconst (v := 1) zM_X7_look dX7_look_34 rfl ?_
      refine jw_icmp_eq (tgt := 41) zM_X7_look dX7_look_35 rfl rv15 (show jW 1 from ⟨by decide, by decide⟩) (fun q => ?_) (fun q => ?_)
      · replace h := h.1 q
        refine zw_go (pc1 := 42) (L1 := [some (.ref 49), some (.int (jI x1)), some (.int (jI x2)), none, none, none, none]) (st1 := [.ref 49]) (σ1 := js E A12) zM_X7_look dX7_look_41 rfl rfl rfl rfl ?_
        refine zw_go (pc1 := 43) (L1 := [some (.ref 49), some (.int (jI x1)), some (.int (jI x2)), none, none, none, none]) (st1 := [.int (jI x1), .ref 49]) (σ1 := js E A12) zM_X7_look dX7_look_42 rfl rfl rfl rfl ?_
        refine zw_go (pc1 := 44) (L1 := [some (.ref 49), some (.int (jI x1)), some (.int (jI x2)), none, none, none, none]) (st1 := [.int (jI x2), .int (jI x1), .ref 49]) (σ1 := js E A12) zM_X7_look dX7_look_43 rfl rfl rfl rfl ?_
        refine jw_callI (as := [.ref 49, .int (jI x1), .int (jI x2)]) (rest := []) zM_X7_look dX7_look_44 (zx_calV zC_7_284) zM_X7_leads rfl rfl rfl rfl rfl (j_args0 rfl rfl) rfl hA13 h (fun v18 A16 rv19 hA17 h => ?_)
        refine zw_go (pc1 := 48) (L1 := [some (.ref 49), some (.int (jI x1)), some (.int (jI x2)), some (.int (jI v18)), none, none, none]) (st1 := []) (σ1 := js E A16) zM_X7_look dX7_look_47 rfl rfl rfl rfl ?_
        refine zw_go (pc1 := 49) (L1 := [some (.ref 49), some (.int (jI x1)), some (.int (jI x2)), some (.int (jI v18)), none, none, none]) (st1 := [.int (jI v18)]) (σ1 := js E A16) zM_X7_look dX7_look_48 rfl rfl rfl rfl ?_
        refine jw_if_ne (tgt := 54) zM_X7_look dX7_look_49 rfl rv19 (fun q => ?_) (fun q => ?_)
        · replace h := h.1 q
          refine jw_iconst (v := 0) zM_X7_look dX7_look_54 rfl ?_
          refine zw_go (pc1 := 57) (L1 := [some (.ref 49), some (.int (jI x1)), some (.int (jI x2)), some (.int (jI v18)), some (.int (jI 0)), none, none]) (st1 := []) (σ1 := js E A16) zM_X7_look dX7_look_55 rfl rfl rfl rfl ?_
          exact zw_weak2 (h hA17) ⟨rfl, rfl, rfl, trivial⟩
        · replace h := h.2 q
          refine jw_iconst (v := 0) zM_X7_look dX7_look_52 rfl ?_
          exact jw_reti zM_X7_look dX7_look_53 rfl (show jW 0 from ⟨by decide, by decide⟩) hA17 h
      · replace h := h.2 q
        refine jw_bipush (v := (-3)) zM_X7_look dX7_look_38 (by decide) ?_
        exact jw_reti zM_X7_look dX7_look_40 rfl (show jW (-3) from ⟨by decide, by decide⟩) hA13 h
    · replace h := h.2 q
      refine jw_bipush (v := (-2)) zM_X7_look dX7_look_26 (by decide) ?_
      exact jw_reti zM_X7_look dX7_look_28 rfl (show jW (-2) from ⟨by decide, by decide⟩) hA9 h
  · replace h := h.2 q
    refine jw_iconst (v := (-1)) zM_X7_look dX7_look_13 rfl ?_
    exact jw_reti zM_X7_look dX7_look_14 rfl (show jW (-1) from ⟨by decide, by decide⟩) hA5 h
set_option maxHeartbeats 4000000 in
set_option maxRecDepth 100000 in
theorem vd_X7_look_57 (x3 : Int) (r_x3 : jW x3) (x4 : Int) (r_x4 : jW x4) (E : jE) (A : jA) (K : Int → jA → Prop) (h : (((A 49 37) ≤ x4 → ((¬ (A 49 37) = (60 : Int) → jW ((A 49 37) + 1) ∧ ∀ A2 : jA, A2 = jup A 49 37 ((A 49 37) + 1) → jW ((A2 49 37) - 1) ∧ K ((A2 49 37) - 1) A2) ∧ ((A 49 37) = (60 : Int) → K (-4) A))) ∧ (x4 < (A 49 37) → (0 ≤ x4 ∧ x4 < 61) ∧ ((¬ (A 75 x4) = x3 → jrI 179 82 [some (.ref 49), none, none, some (.int (jI x3)), some (.int (jI x4)), none, none] [.int (jI 0)] E A K) ∧ ((A 75 x4) = x3 → jrI 179 82 [some (.ref 49), none, none, some (.int (jI x3)), some (.int (jI x4)), none, none] [.int (jI 1)] E A K))))) : jrI 179 57 [some (.ref 49), none, none, some (.int (jI x3)), some (.int (jI x4)), none, none] [] E A K := by
  intro hA
  refine zw_go (pc1 := 59) (L1 := [some (.ref 49), none, none, some (.int (jI x3)), some (.int (jI x4)), none, none]) (st1 := [.int (jI x4)]) (σ1 := js E A) zM_X7_look dX7_look_57 rfl rfl rfl rfl ?_
  refine zw_go (pc1 := 60) (L1 := [some (.ref 49), none, none, some (.int (jI x3)), some (.int (jI x4)), none, none]) (st1 := [.ref 49, .int (jI x4)]) (σ1 := js E A) zM_X7_look dX7_look_59 rfl rfl rfl rfl ?_
  refine jw_getI zM_X7_look dX7_look_60 zF_7_269 rfl rfl rfl ?_
  refine jw_icmp_ge (tgt := 183) zM_X7_look dX7_look_63 rfl r_x4 (hA 49 37) (fun q => ?_) (fun q => ?_)
  · replace h := h.1 q
    refine zw_go (pc1 := 184) (L1 := [some (.ref 49), none, none, some (.int (jI x3)), some (.int (jI x4)), none, none]) (st1 := [.ref 49]) (σ1 := js E A) zM_X7_look dX7_look_183 rfl rfl rfl rfl ?_
    refine jw_getI zM_X7_look dX7_look_184 zF_7_269 rfl rfl rfl ?_
    refine jw_bipush (v := 60) zM_X7_look dX7_look_187 (by decide) ?_
    refine jw_icmp_ne (tgt := 195) zM_X7_look dX7_look_189 rfl (hA 49 37) (show jW 60 from ⟨by decide, by decide⟩) (fun q => ?_) (fun q => ?_)
    · replace h := h.1 q
      refine zw_go (pc1 := 196) (L1 := [some (.ref 49), none, none, some (.int (jI x3)), some (.int (jI x4)), none, none]) (st1 := [.ref 49]) (σ1 := js E A) zM_X7_look dX7_look_195 rfl rfl rfl rfl ?_
      refine zw_go (pc1 := 197) (L1 := [some (.ref 49), none, none, some (.int (jI x3)), some (.int (jI x4)), none, none]) (st1 := [.ref 49, .ref 49]) (σ1 := js E A) zM_X7_look dX7_look_196 rfl rfl rfl rfl ?_
      refine jw_getI zM_X7_look dX7_look_197 zF_7_269 rfl rfl rfl ?_
      refine jw_iconst (v := 1) zM_X7_look dX7_look_200 rfl ?_
      refine jw_add zM_X7_look dX7_look_201 ?_
      obtain ⟨hw1, h⟩ := h
      obtain ⟨A2, e3⟩ : ∃ z9 : jA, z9 = jup A 49 37 ((A 49 37) + 1) := ⟨_, rfl⟩
      replace h := h A2 e3
      have hA4 : jOK A2 := jOK.up hA hw1 e3
      refine jw_putI zM_X7_look dX7_look_202 zF_7_269 rfl rfl rfl rfl e3 ?_
      refine zw_go (pc1 := 206) (L1 := [some (.ref 49), none, none, some (.int (jI x3)), some (.int (jI x4)), none, none]) (st1 := [.ref 49]) (σ1 := js E A2) zM_X7_look dX7_look_205 rfl rfl rfl rfl ?_
      refine jw_getI zM_X7_look dX7_look_206 zF_7_269 rfl rfl rfl ?_
      refine jw_iconst (v := 1) zM_X7_look dX7_look_209 rfl ?_
      refine jw_sub zM_X7_look dX7_look_210 ?_
      obtain ⟨hw5, h⟩ := h
      exact jw_reti zM_X7_look dX7_look_211 rfl hw5 hA4 h
    · replace h := h.2 q
      refine jw_bipush (v := (-4)) zM_X7_look dX7_look_192 (by decide) ?_
      exact jw_reti zM_X7_look dX7_look_194 rfl (show jW (-4) from ⟨by decide, by decide⟩) hA h
  · replace h := h.2 q
    refine zw_go (pc1 := 67) (L1 := [some (.ref 49), none, none, some (.int (jI x3)), some (.int (jI x4)), none, none]) (st1 := [.ref 49]) (σ1 := js E A) zM_X7_look dX7_look_66 rfl rfl rfl rfl ?_
    refine jw_getR (a := 75) zM_X7_look dX7_look_67 zF_7_85 rfl rfl rfl ?_
    refine zw_go (pc1 := 72) (L1 := [some (.ref 49), none, none, some (.int (jI x3)), some (.int (jI x4)), none, none]) (st1 := [.int (jI x4), .ref 75]) (σ1 := js E A) zM_X7_look dX7_look_70 rfl rfl rfl rfl ?_
    obtain ⟨hi6, h⟩ := h
    refine jw_iald zM_X7_look dX7_look_72 rfl rfl hi6 ?_
    refine zw_go (pc1 := 74) (L1 := [some (.ref 49), none, none, some (.int (jI x3)), some (.int (jI x4)), none, none]) (st1 := [.int (jI x3), .int (jI (A 75 x4))]) (σ1 := js E A) zM_X7_look dX7_look_73 rfl rfl rfl rfl ?_
    refine jw_icmp_ne (tgt := 81) zM_X7_look dX7_look_74 rfl (hA 75 x4) r_x3 (fun q => ?_) (fun q => ?_)
    · replace h := h.1 q
      refine jw_iconst (v := 0) zM_X7_look dX7_look_81 rfl ?_
      exact zw_weak2 (h hA) ⟨rfl, rfl, rfl, trivial⟩
    · replace h := h.2 q
      refine jw_iconst (v := 1) zM_X7_look dX7_look_77 rfl ?_
      refine zw_goto (tgt := 82) zM_X7_look dX7_look_78 rfl ?_
      exact zw_weak2 (h hA) ⟨rfl, rfl, rfl, trivial⟩
set_option maxHeartbeats 4000000 in
set_option maxRecDepth 100000 in
theorem vd_X7_look_82 (x3 : Int) (r_x3 : jW x3) (x4 : Int) (r_x4 : jW x4) (y0 : Int) (r_y0 : jW y0) (E : jE) (A : jA) (K : Int → jA → Prop) (h : jrI 179 87 [some (.ref 49), none, none, some (.int (jI x3)), some (.int (jI x4)), some (.int (jI y0)), some (.int (jI 0))] [] E A K) : jrI 179 82 [some (.ref 49), none, none, some (.int (jI x3)), some (.int (jI x4)), none, none] [.int (jI y0)] E A K := by
  intro hA
  refine zw_go (pc1 := 84) (L1 := [some (.ref 49), none, none, some (.int (jI x3)), some (.int (jI x4)), some (.int (jI y0)), none]) (st1 := []) (σ1 := js E A) zM_X7_look dX7_look_82 rfl rfl rfl rfl ?_
  refine jw_iconst (v := 0) zM_X7_look dX7_look_84 rfl ?_
  refine zw_go (pc1 := 87) (L1 := [some (.ref 49), none, none, some (.int (jI x3)), some (.int (jI x4)), some (.int (jI y0)), some (.int (jI 0))]) (st1 := []) (σ1 := js E A) zM_X7_look dX7_look_85 rfl rfl rfl rfl ?_
  exact zw_weak2 (h hA) ⟨rfl, rfl, rfl, rfl, rfl, trivial⟩
set_option maxHeartbeats 4000000 in
set_option maxRecDepth 100000 in
theorem vd_X7_look_87 (x3 : Int) (r_x3 : jW x3) (x4 : Int) (r_x4 : jW x4) (x5 : Int) (r_x5 : jW x5) (x6 : Int) (r_x6 : jW x6) (E : jE) (A : jA) (K : Int → jA → Prop) (h : ((x3 ≤ x6 → jrI 179 169 [some (.ref 49), none, none, some (.int (jI x3)), some (.int (jI x4)), some (.int (jI x5)), none] [] E A K) ∧ (x6 < x3 → ((x5 = (0 : Int) → jrI 179 169 [some (.ref 49), none, none, some (.int (jI x3)), some (.int (jI x4)), some (.int (jI x5)), none] [] E A K) ∧ (¬ x5 = (0 : Int) → (0 ≤ ((3 * x4) + x6) ∧ ((3 * x4) + x6) < 183) ∧ (0 ≤ ((3 * (A 49 37)) + x6) ∧ ((3 * (A 49 37)) + x6) < 183) ∧ ((¬ (A 76 ((3 * x4) + x6)) = (A 76 ((3 * (A 49 37)) + x6)) → jrI 179 160 [some (.ref 49), none, none, some (.int (jI x3)), some (.int (jI x4)), none, some (.int (jI x6))] [] E A K) ∧ ((A 76 ((3 * x4) + x6)) = (A 76 ((3 * (A 49 37)) + x6)) → (0 ≤ ((3 * x4) + x6) ∧ ((3 * x4) + x6) < 183) ∧ (0 ≤ ((3 * (A 49 37)) + x6) ∧ ((3 * (A 49 37)) + x6) < 183) ∧ ((¬ (A 77 ((3 * x4) + x6)) = (A 77 ((3 * (A 49 37)) + x6)) → jrI 179 160 [some (.ref 49), none, none, some (.int (jI x3)), some (.int (jI x4)), none, some (.int (jI x6))] [] E A K) ∧ ((A 77 ((3 * x4) + x6)) = (A 77 ((3 * (A 49 37)) + x6)) → jrI 179 161 [some (.ref 49), none, none, some (.int (jI x3)), some (.int (jI x4)), none, some (.int (jI x6))] [.int (jI 1)] E A K))))))))) : jrI 179 87 [some (.ref 49), none, none, some (.int (jI x3)), some (.int (jI x4)), some (.int (jI x5)), some (.int (jI x6))] [] E A K := by
  intro hA
  refine zw_go (pc1 := 89) (L1 := [some (.ref 49), none, none, some (.int (jI x3)), some (.int (jI x4)), some (.int (jI x5)), some (.int (jI x6))]) (st1 := [.int (jI x6)]) (σ1 := js E A) zM_X7_look dX7_look_87 rfl rfl rfl rfl ?_
  refine zw_go (pc1 := 90) (L1 := [some (.ref 49), none, none, some (.int (jI x3)), some (.int (jI x4)), some (.int (jI x5)), some (.int (jI x6))]) (st1 := [.int (jI x3), .int (jI x6)]) (σ1 := js E A) zM_X7_look dX7_look_89 rfl rfl rfl rfl ?_
  refine jw_icmp_ge (tgt := 169) zM_X7_look dX7_look_90 rfl r_x6 r_x3 (fun q => ?_) (fun q => ?_)
  · replace h := h.1 q
    exact zw_weak2 (h hA) ⟨rfl, rfl, rfl, rfl, trivial⟩
  · replace h := h.2 q
    refine zw_go (pc1 := 95) (L1 := [some (.ref 49), none, none, some (.int (jI x3)), some (.int (jI x4)), some (.int (jI x5)), some (.int (jI x6))]) (st1 := [.int (jI x5)]) (σ1 := js E A) zM_X7_look dX7_look_93 rfl rfl rfl rfl ?_
    refine jw_if_eq (tgt := 169) zM_X7_look dX7_look_95 rfl r_x5 (fun q => ?_) (fun q => ?_)
    · replace h := h.1 q
      exact zw_weak2 (h hA) ⟨rfl, rfl, rfl, rfl, trivial⟩
    · replace h := h.2 q
      refine zw_go (pc1 := 99) (L1 := [some (.ref 49), none, none, some (.int (jI x3)), some (.int (jI x4)), some (.int (jI x5)), some (.int (jI x6))]) (st1 := [.ref 49]) (σ1 := js E A) zM_X7_look dX7_look_98 rfl rfl rfl rfl ?_
      refine jw_getR (a := 76) zM_X7_look dX7_look_99 zF_7_88 rfl rfl rfl ?_
      refine jw_iconst (v := 3) zM_X7_look dX7_look_102 rfl ?_
      refine zw_go (pc1 := 105) (L1 := [some (.ref 49), none, none, some (.int (jI x3)), some (.int (jI x4)), some (.int (jI x5)), some (.int (jI x6))]) (st1 := [.int (jI x4), .int (jI 3), .ref 76]) (σ1 := js E A) zM_X7_look dX7_look_103 rfl rfl rfl rfl ?_
      refine jw_mul zM_X7_look dX7_look_105 ?_
      refine zw_go (pc1 := 108) (L1 := [some (.ref 49), none, none, some (.int (jI x3)), some (.int (jI x4)), some (.int (jI x5)), some (.int (jI x6))]) (st1 := [.int (jI x6), .int (jI (3 * x4)), .ref 76]) (σ1 := js E A) zM_X7_look dX7_look_106 rfl rfl rfl rfl ?_
      refine jw_add zM_X7_look dX7_look_108 ?_
      obtain ⟨hi1, h⟩ := h
      refine jw_iald zM_X7_look dX7_look_109 rfl rfl hi1 ?_
      refine zw_go (pc1 := 111) (L1 := [some (.ref 49), none, none, some (.int (jI x3)), some (.int (jI x4)), some (.int (jI x5)), some (.int (jI x6))]) (st1 := [.ref 49, .int (jI (A 76 ((3 * x4) + x6)))]) (σ1 := js E A) zM_X7_look dX7_look_110 rfl rfl rfl rfl ?_
      refine jw_getR (a := 76) zM_X7_look dX7_look_111 zF_7_88 rfl rfl rfl ?_
      refine jw_iconst (v := 3) zM_X7_look dX7_look_114 rfl ?_
      refine zw_go (pc1 := 116) (L1 := [some (.ref 49), none, none, some (.int (jI x3)), some (.int (jI x4)), some (.int (jI x5)), some (.int (jI x6))]) (st1 := [.ref 49, .int (jI 3), .ref 76, .int (jI (A 76 ((3 * x4) + x6)))]) (σ1 := js E A) zM_X7_look dX7_look_115 rfl rfl rfl rfl ?_
      refine jw_getI zM_X7_look dX7_look_116 zF_7_269 rfl rfl rfl ?_
      refine jw_mul zM_X7_look dX7_look_119 ?_
      refine zw_go (pc1 := 122) (L1 := [some (.ref 49), none, none, some (.int (jI x3)), some (.int (jI x4)), some (.int (jI x5)), some (.int (jI x6))]) (st1 := [.int (jI x6), .int (jI (3 * (A 49 37))), .ref 76, .int (jI (A 76 ((3 * x4) + x6)))]) (σ1 := js E A) zM_X7_look dX7_look_120 rfl rfl rfl rfl ?_
      refine jw_add zM_X7_look dX7_look_122 ?_
      obtain ⟨hi2, h⟩ := h
      refine jw_iald zM_X7_look dX7_look_123 rfl rfl hi2 ?_
      refine jw_icmp_ne (tgt := 160) zM_X7_look dX7_look_124 rfl (hA 76 ((3 * x4) + x6)) (hA 76 ((3 * (A 49 37)) + x6)) (fun q => ?_) (fun q => ?_)
      · replace h := h.1 q
        exact zw_weak2 (h hA) ⟨rfl, rfl, rfl, rfl, trivial⟩
      · replace h := h.2 q
        refine zw_go (pc1 := 128) (L1 := [some (.ref 49), none, none, some (.int (jI x3)), some (.int (jI x4)), some (.int (jI x5)), some (.int (jI x6))]) (st1 := [.ref 49]) (σ1 := js E A) zM_X7_look dX7_look_127 rfl rfl rfl rfl ?_
        refine jw_getR (a := 77) zM_X7_look dX7_look_128 zF_7_91 rfl rfl rfl ?_
        refine jw_iconst (v := 3) zM_X7_look dX7_look_131 rfl ?_
        refine zw_go (pc1 := 134) (L1 := [some (.ref 49), none, none, some (.int (jI x3)), some (.int (jI x4)), some (.int (jI x5)), some (.int (jI x6))]) (st1 := [.int (jI x4), .int (jI 3), .ref 77]) (σ1 := js E A) zM_X7_look dX7_look_132 rfl rfl rfl rfl ?_
        refine jw_mul zM_X7_look dX7_look_134 ?_
        refine zw_go (pc1 := 137) (L1 := [some (.ref 49), none, none, some (.int (jI x3)), some (.int (jI x4)), some (.int (jI x5)), some (.int (jI x6))]) (st1 := [.int (jI x6), .int (jI (3 * x4)), .ref 77]) (σ1 := js E A) zM_X7_look dX7_look_135 rfl rfl rfl rfl ?_
        refine jw_add zM_X7_look dX7_look_137 ?_
        obtain ⟨hi3, h⟩ := h
        refine jw_iald zM_X7_look dX7_look_138 rfl rfl hi3 ?_
        refine zw_go (pc1 := 140) (L1 := [some (.ref 49), none, none, some (.int (jI x3)), some (.int (jI x4)), some (.int (jI x5)), some (.int (jI x6))]) (st1 := [.ref 49, .int (jI (A 77 ((3 * x4) + x6)))]) (σ1 := js E A) zM_X7_look dX7_look_139 rfl rfl rfl rfl ?_
        refine jw_getR (a := 77) zM_X7_look dX7_look_140 zF_7_91 rfl rfl rfl ?_
        refine jw_iconst (v := 3) zM_X7_look dX7_look_143 rfl ?_
        refine zw_go (pc1 := 145) (L1 := [some (.ref 49), none, none, some (.int (jI x3)), some (.int (jI x4)), some (.int (jI x5)), some (.int (jI x6))]) (st1 := [.ref 49, .int (jI 3), .ref 77, .int (jI (A 77 ((3 * x4) + x6)))]) (σ1 := js E A) zM_X7_look dX7_look_144 rfl rfl rfl rfl ?_
        refine jw_getI zM_X7_look dX7_look_145 zF_7_269 rfl rfl rfl ?_
        refine jw_mul zM_X7_look dX7_look_148 ?_
        refine zw_go (pc1 := 151) (L1 := [some (.ref 49), none, none, some (.int (jI x3)), some (.int (jI x4)), some (.int (jI x5)), some (.int (jI x6))]) (st1 := [.int (jI x6), .int (jI (3 * (A 49 37))), .ref 77, .int (jI (A 77 ((3 * x4) + x6)))]) (σ1 := js E A) zM_X7_look dX7_look_149 rfl rfl rfl rfl ?_
        refine jw_add zM_X7_look dX7_look_151 ?_
        obtain ⟨hi4, h⟩ := h
        refine jw_iald zM_X7_look dX7_look_152 rfl rfl hi4 ?_
        refine jw_icmp_ne (tgt := 160) zM_X7_look dX7_look_153 rfl (hA 77 ((3 * x4) + x6)) (hA 77 ((3 * (A 49 37)) + x6)) (fun q => ?_) (fun q => ?_)
        · replace h := h.1 q
          exact zw_weak2 (h hA) ⟨rfl, rfl, rfl, rfl, trivial⟩
        · replace h := h.2 q
          refine jw_iconst (v := 1) zM_X7_look dX7_look_156 rfl ?_
          refine zw_goto (tgt := 161) zM_X7_look dX7_look_157 rfl ?_
          exact zw_weak2 (h hA) ⟨rfl, rfl, rfl, rfl, trivial⟩
set_option maxHeartbeats 4000000 in
set_option maxRecDepth 100000 in
theorem vd_X7_look_160 (x3 : Int) (r_x3 : jW x3) (x4 : Int) (r_x4 : jW x4) (x6 : Int) (r_x6 : jW x6) (E : jE) (A : jA) (K : Int → jA → Prop) (h : jrI 179 161 [some (.ref 49), none, none, some (.int (jI x3)), some (.int (jI x4)), none, some (.int (jI x6))] [.int (jI 0)] E A K) : jrI 179 160 [some (.ref 49), none, none, some (.int (jI x3)), some (.int (jI x4)), none, some (.int (jI x6))] [] E A K := by
  intro hA
  refine jw_iconst (v := 0) zM_X7_look dX7_look_160 rfl ?_
  exact zw_weak2 (h hA) ⟨rfl, rfl, rfl, rfl, trivial⟩
set_option maxHeartbeats 4000000 in
set_option maxRecDepth 100000 in
theorem vd_X7_look_161 (x3 : Int) (r_x3 : jW x3) (x4 : Int) (r_x4 : jW x4) (x6 : Int) (r_x6 : jW x6) (y0 : Int) (r_y0 : jW y0) (E : jE) (A : jA) (K : Int → jA → Prop) (h : jrI 179 87 [some (.ref 49), none, none, some (.int (jI x3)), some (.int (jI x4)), some (.int (jI y0)), some (.int (jI (x6 + 1)))] [] E A K) : jrI 179 161 [some (.ref 49), none, none, some (.int (jI x3)), some (.int (jI x4)), none, some (.int (jI x6))] [.int (jI y0)] E A K := by
  intro hA
  refine zw_go (pc1 := 163) (L1 := [some (.ref 49), none, none, some (.int (jI x3)), some (.int (jI x4)), some (.int (jI y0)), some (.int (jI x6))]) (st1 := []) (σ1 := js E A) zM_X7_look dX7_look_161 rfl rfl rfl rfl ?_
  refine jw_iinc (x := x6) (L1 := [some (.ref 49), none, none, some (.int (jI x3)), some (.int (jI x4)), some (.int (jI y0)), some (.int (jI (x6 + 1)))]) zM_X7_look dX7_look_163 rfl (show 6 < 7 by decide) rfl ?_
  refine zw_goto (tgt := 87) zM_X7_look dX7_look_166 rfl ?_
  exact zw_weak2 (h hA) ⟨rfl, rfl, rfl, rfl, rfl, trivial⟩
set_option maxHeartbeats 4000000 in
set_option maxRecDepth 100000 in
theorem vd_X7_look_169 (x3 : Int) (r_x3 : jW x3) (x4 : Int) (r_x4 : jW x4) (x5 : Int) (r_x5 : jW x5) (E : jE) (A : jA) (K : Int → jA → Prop) (h : ((x5 = (0 : Int) → jrI 179 57 [some (.ref 49), none, none, some (.int (jI x3)), some (.int (jI (x4 + 1))), none, none] [] E A K) ∧ (¬ x5 = (0 : Int) → K x4 A))) : jrI 179 169 [some (.ref 49), none, none, some (.int (jI x3)), some (.int (jI x4)), some (.int (jI x5)), none] [] E A K := by
  intro hA
  refine zw_go (pc1 := 171) (L1 := [some (.ref 49), none, none, some (.int (jI x3)), some (.int (jI x4)), some (.int (jI x5)), none]) (st1 := [.int (jI x5)]) (σ1 := js E A) zM_X7_look dX7_look_169 rfl rfl rfl rfl ?_
  refine jw_if_eq (tgt := 177) zM_X7_look dX7_look_171 rfl r_x5 (fun q => ?_) (fun q => ?_)
  · replace h := h.1 q
    refine jw_iinc (x := x4) (L1 := [some (.ref 49), none, none, some (.int (jI x3)), some (.int (jI (x4 + 1))), some (.int (jI x5)), none]) zM_X7_look dX7_look_177 rfl (show 4 < 7 by decide) rfl ?_
    refine zw_goto (tgt := 57) zM_X7_look dX7_look_180 rfl ?_
    exact zw_weak2 (h hA) ⟨rfl, rfl, rfl, trivial⟩
  · replace h := h.2 q
    refine zw_go (pc1 := 176) (L1 := [some (.ref 49), none, none, some (.int (jI x3)), some (.int (jI x4)), some (.int (jI x5)), none]) (st1 := [.int (jI x4)]) (σ1 := js E A) zM_X7_look dX7_look_174 rfl rfl rfl rfl ?_
    exact jw_reti zM_X7_look dX7_look_176 rfl r_x4 hA h
set_option maxHeartbeats 4000000 in
set_option maxRecDepth 100000 in
theorem vd_X7_manyOf_0 (x1 : Int) (r_x1 : jW x1) (x2 : Int) (r_x2 : jW x2) (E : jE) (A : jA) (K : Int → jA → Prop) (h : jrI 162 0 [some (.ref 49), some (.int (jI x1)), some (.int (jI x2))] [] E A (fun v3 A1 => jrI 210 0 [some (.ref 49), some (.int (jI x1)), some (.int (jI (v3 + 8)))] [] E A1 (fun v7 A5 => K v7 A5))) : jrI 180 0 [some (.ref 49), some (.int (jI x1)), some (.int (jI x2))] [] E A K := by
  intro hA
  refine zw_go (pc1 := 1) (L1 := [some (.ref 49), some (.int (jI x1)), some (.int (jI x2))]) (st1 := [.ref 49]) (σ1 := js E A) zM_X7_manyOf dX7_manyOf_0 rfl rfl rfl rfl ?_
  refine zw_go (pc1 := 2) (L1 := [some (.ref 49), some (.int (jI x1)), some (.int (jI x2))]) (st1 := [.int (jI x1), .ref 49]) (σ1 := js E A) zM_X7_manyOf dX7_manyOf_1 rfl rfl rfl rfl ?_
  refine zw_go (pc1 := 3) (L1 := [some (.ref 49), some (.int (jI x1)), some (.int (jI x2))]) (st1 := [.ref 49, .int (jI x1), .ref 49]) (σ1 := js E A) zM_X7_manyOf dX7_manyOf_2 rfl rfl rfl rfl ?_
  refine zw_go (pc1 := 4) (L1 := [some (.ref 49), some (.int (jI x1)), some (.int (jI x2))]) (st1 := [.int (jI x1), .ref 49, .int (jI x1), .ref 49]) (σ1 := js E A) zM_X7_manyOf dX7_manyOf_3 rfl rfl rfl rfl ?_
  refine zw_go (pc1 := 5) (L1 := [some (.ref 49), some (.int (jI x1)), some (.int (jI x2))]) (st1 := [.int (jI x2), .int (jI x1), .ref 49, .int (jI x1), .ref 49]) (σ1 := js E A) zM_X7_manyOf dX7_manyOf_4 rfl rfl rfl rfl ?_
  refine jw_callI (as := [.ref 49, .int (jI x1), .int (jI x2)]) (rest := [.int (jI x1), .ref 49]) zM_X7_manyOf dX7_manyOf_5 (zx_calV zC_7_226) zM_X7_inode rfl rfl rfl rfl rfl (j_args0 rfl rfl) rfl hA h (fun v3 A1 rv4 hA2 h => ?_)
  refine jw_bipush (v := 8) zM_X7_manyOf dX7_manyOf_8 (by decide) ?_
  refine jw_add zM_X7_manyOf dX7_manyOf_10 ?_
  refine jw_callI (as := [.ref 49, .int (jI x1), .int (jI (v3 + 8))]) (rest := []) zM_X7_manyOf dX7_manyOf_11 (zx_calV zC_7_201) zM_X7_word rfl rfl rfl rfl rfl (j_args0 rfl rfl) rfl hA2 h (fun v7 A5 rv8 hA6 h => ?_)
  exact jw_reti zM_X7_manyOf dX7_manyOf_14 rfl rv8 hA6 h
set_option maxHeartbeats 4000000 in
set_option maxRecDepth 100000 in
theorem vd_X7_nameAt_0 (x1 : Int) (r_x1 : jW x1) (x2 : Int) (r_x2 : jW x2) (E : jE) (A : jA) (K : Int → jA → Prop) (h : jrI 210 0 [some (.ref 49), some (.int (jI x1)), some (.int (jI 8))] [] E A (fun v3 A1 => jrI 210 0 [some (.ref 49), some (.int (jI x1)), some (.int (jI (v3 + (4 * x2))))] [] E A1 (fun v7 A5 => K v7 A5))) : jrI 181 0 [some (.ref 49), some (.int (jI x1)), some (.int (jI x2))] [] E A K := by
  intro hA
  refine zw_go (pc1 := 1) (L1 := [some (.ref 49), some (.int (jI x1)), some (.int (jI x2))]) (st1 := [.ref 49]) (σ1 := js E A) zM_X7_nameAt dX7_nameAt_0 rfl rfl rfl rfl ?_
  refine zw_go (pc1 := 2) (L1 := [some (.ref 49), some (.int (jI x1)), some (.int (jI x2))]) (st1 := [.int (jI x1), .ref 49]) (σ1 := js E A) zM_X7_nameAt dX7_nameAt_1 rfl rfl rfl rfl ?_
  refine zw_go (pc1 := 3) (L1 := [some (.ref 49), some (.int (jI x1)), some (.int (jI x2))]) (st1 := [.ref 49, .int (jI x1), .ref 49]) (σ1 := js E A) zM_X7_nameAt dX7_nameAt_2 rfl rfl rfl rfl ?_
  refine zw_go (pc1 := 4) (L1 := [some (.ref 49), some (.int (jI x1)), some (.int (jI x2))]) (st1 := [.int (jI x1), .ref 49, .int (jI x1), .ref 49]) (σ1 := js E A) zM_X7_nameAt dX7_nameAt_3 rfl rfl rfl rfl ?_
  refine jw_bipush (v := 8) zM_X7_nameAt dX7_nameAt_4 (by decide) ?_
  refine jw_callI (as := [.ref 49, .int (jI x1), .int (jI 8)]) (rest := [.int (jI x1), .ref 49]) zM_X7_nameAt dX7_nameAt_6 (zx_calV zC_7_201) zM_X7_word rfl rfl rfl rfl rfl (j_args0 rfl rfl) rfl hA h (fun v3 A1 rv4 hA2 h => ?_)
  refine jw_iconst (v := 4) zM_X7_nameAt dX7_nameAt_9 rfl ?_
  refine zw_go (pc1 := 11) (L1 := [some (.ref 49), some (.int (jI x1)), some (.int (jI x2))]) (st1 := [.int (jI x2), .int (jI 4), .int (jI v3), .int (jI x1), .ref 49]) (σ1 := js E A1) zM_X7_nameAt dX7_nameAt_10 rfl rfl rfl rfl ?_
  refine jw_mul zM_X7_nameAt dX7_nameAt_11 ?_
  refine jw_add zM_X7_nameAt dX7_nameAt_12 ?_
  refine jw_callI (as := [.ref 49, .int (jI x1), .int (jI (v3 + (4 * x2)))]) (rest := []) zM_X7_nameAt dX7_nameAt_13 (zx_calV zC_7_201) zM_X7_word rfl rfl rfl rfl rfl (j_args0 rfl rfl) rfl hA2 h (fun v7 A5 rv8 hA6 h => ?_)
  exact jw_reti zM_X7_nameAt dX7_nameAt_16 rfl rv8 hA6 h
set_option maxHeartbeats 4000000 in
set_option maxRecDepth 100000 in
theorem vd_X7_nameIt_0 (x1 : Int) (r_x1 : jW x1) (x2 : Int) (r_x2 : jW x2) (x3 : Int) (r_x3 : jW x3) (E : jE) (A : jA) (K : jA → Prop) (h : (0 ≤ (A 49 7) ∧ (A 49 7) < 300) ∧ ∀ A2 : jA, A2 = jup A 55 (A 49 7) x1 → (0 ≤ (A2 49 7) ∧ (A2 49 7) < 300) ∧ ∀ A6 : jA, A6 = jup A2 56 (A2 49 7) x2 → (0 ≤ (A6 49 7) ∧ (A6 49 7) < 300) ∧ ∀ A10 : jA, A10 = jup A6 57 (A6 49 7) x3 → jW ((A10 49 7) + 1) ∧ ∀ A14 : jA, A14 = jup A10 49 7 ((A10 49 7) + 1) → K A14) : jrV 182 0 [some (.ref 49), some (.int (jI x1)), some (.int (jI x2)), some (.int (jI x3))] [] E A K := by
  intro hA
  refine zw_go (pc1 := 1) (L1 := [some (.ref 49), some (.int (jI x1)), some (.int (jI x2)), some (.int (jI x3))]) (st1 := [.ref 49]) (σ1 := js E A) zM_X7_nameIt dX7_nameIt_0 rfl rfl rfl rfl ?_
  refine jw_getR (a := 55) zM_X7_nameIt dX7_nameIt_1 zF_7_25 rfl rfl rfl ?_
  refine zw_go (pc1 := 5) (L1 := [some (.ref 49), some (.int (jI x1)), some (.int (jI x2)), some (.int (jI x3))]) (st1 := [.ref 49, .ref 55]) (σ1 := js E A) zM_X7_nameIt dX7_nameIt_4 rfl rfl rfl rfl ?_
  refine jw_getI zM_X7_nameIt dX7_nameIt_5 zF_7_105 rfl rfl rfl ?_
  refine zw_go (pc1 := 9) (L1 := [some (.ref 49), some (.int (jI x1)), some (.int (jI x2)), some (.int (jI x3))]) (st1 := [.int (jI x1), .int (jI (A 49 7)), .ref 55]) (σ1 := js E A) zM_X7_nameIt dX7_nameIt_8 rfl rfl rfl rfl ?_
  obtain ⟨hi1, h⟩ := h
  obtain ⟨A2, e3⟩ : ∃ z9 : jA, z9 = jup A 55 (A 49 7) x1 := ⟨_, rfl⟩
  replace h := h A2 e3
  have hA4 : jOK A2 := jOK.up hA r_x1 e3
  refine jw_iast zM_X7_nameIt dX7_nameIt_9 rfl rfl hi1 e3 ?_
  refine zw_go (pc1 := 11) (L1 := [some (.ref 49), some (.int (jI x1)), some (.int (jI x2)), some (.int (jI x3))]) (st1 := [.ref 49]) (σ1 := js E A2) zM_X7_nameIt dX7_nameIt_10 rfl rfl rfl rfl ?_
  refine jw_getR (a := 56) zM_X7_nameIt dX7_nameIt_11 zF_7_28 rfl rfl rfl ?_
  refine zw_go (pc1 := 15) (L1 := [some (.ref 49), some (.int (jI x1)), some (.int (jI x2)), some (.int (jI x3))]) (st1 := [.ref 49, .ref 56]) (σ1 := js E A2) zM_X7_nameIt dX7_nameIt_14 rfl rfl rfl rfl ?_
  refine jw_getI zM_X7_nameIt dX7_nameIt_15 zF_7_105 rfl rfl rfl ?_
  refine zw_go (pc1 := 19) (L1 := [some (.ref 49), some (.int (jI x1)), some (.int (jI x2)), some (.int (jI x3))]) (st1 := [.int (jI x2), .int (jI (A2 49 7)), .ref 56]) (σ1 := js E A2) zM_X7_nameIt dX7_nameIt_18 rfl rfl rfl rfl ?_
  obtain ⟨hi5, h⟩ := h
  obtain ⟨A6, e7⟩ : ∃ z9 : jA, z9 = jup A2 56 (A2 49 7) x2 := ⟨_, rfl⟩
  replace h := h A6 e7
  have hA8 : jOK A6 := jOK.up hA4 r_x2 e7
  refine jw_iast zM_X7_nameIt dX7_nameIt_19 rfl rfl hi5 e7 ?_
  refine zw_go (pc1 := 21) (L1 := [some (.ref 49), some (.int (jI x1)), some (.int (jI x2)), some (.int (jI x3))]) (st1 := [.ref 49]) (σ1 := js E A6) zM_X7_nameIt dX7_nameIt_20 rfl rfl rfl rfl ?_
  refine jw_getR (a := 57) zM_X7_nameIt dX7_nameIt_21 zF_7_31 rfl rfl rfl ?_
  refine zw_go (pc1 := 25) (L1 := [some (.ref 49), some (.int (jI x1)), some (.int (jI x2)), some (.int (jI x3))]) (st1 := [.ref 49, .ref 57]) (σ1 := js E A6) zM_X7_nameIt dX7_nameIt_24 rfl rfl rfl rfl ?_
  refine jw_getI zM_X7_nameIt dX7_nameIt_25 zF_7_105 rfl rfl rfl ?_
  refine zw_go (pc1 := 29) (L1 := [some (.ref 49), some (.int (jI x1)), some (.int (jI x2)), some (.int (jI x3))]) (st1 := [.int (jI x3), .int (jI (A6 49 7)), .ref 57]) (σ1 := js E A6) zM_X7_nameIt dX7_nameIt_28 rfl rfl rfl rfl ?_
  obtain ⟨hi9, h⟩ := h
  obtain ⟨A10, e11⟩ : ∃ z9 : jA, z9 = jup A6 57 (A6 49 7) x3 := ⟨_, rfl⟩
  replace h := h A10 e11
  have hA12 : jOK A10 := jOK.up hA8 r_x3 e11
  refine jw_iast zM_X7_nameIt dX7_nameIt_29 rfl rfl hi9 e11 ?_
  refine zw_go (pc1 := 31) (L1 := [some (.ref 49), some (.int (jI x1)), some (.int (jI x2)), some (.int (jI x3))]) (st1 := [.ref 49]) (σ1 := js E A10) zM_X7_nameIt dX7_nameIt_30 rfl rfl rfl rfl ?_
  refine zw_go (pc1 := 32) (L1 := [some (.ref 49), some (.int (jI x1)), some (.int (jI x2)), some (.int (jI x3))]) (st1 := [.ref 49, .ref 49]) (σ1 := js E A10) zM_X7_nameIt dX7_nameIt_31 rfl rfl rfl rfl ?_
  refine jw_getI zM_X7_nameIt dX7_nameIt_32 zF_7_105 rfl rfl rfl ?_
  refine jw_iconst (v := 1) zM_X7_nameIt dX7_nameIt_35 rfl ?_
  refine jw_add zM_X7_nameIt dX7_nameIt_36 ?_
  obtain ⟨hw13, h⟩ := h
  obtain ⟨A14, e15⟩ : ∃ z9 : jA, z9 = jup A10 49 7 ((A10 49 7) + 1) := ⟨_, rfl⟩
  replace h := h A14 e15
  have hA16 : jOK A14 := jOK.up hA12 hw13 e15
  refine jw_putI zM_X7_nameIt dX7_nameIt_37 zF_7_105 rfl rfl rfl rfl e15 ?_
  exact jw_retv zM_X7_nameIt dX7_nameIt_40 rfl hA16 h
set_option maxHeartbeats 4000000 in
set_option maxRecDepth 100000 in
theorem vd_X7_named_0 (x1 : Int) (r_x1 : jW x1) (x2 : Int) (r_x2 : jW x2) (x3 : Int) (r_x3 : jW x3) (x4 : Int) (r_x4 : jW x4) (E : jE) (A : jA) (K : Int → jA → Prop) (h : jrI 183 6 [some (.ref 49), some (.int (jI x1)), some (.int (jI x2)), some (.int (jI x3)), some (.int (jI x4)), some (.int (jI 0)), some (.int (jI 1)), none, none] [] E A K) : jrI 183 0 [some (.ref 49), some (.int (jI x1)), some (.int (jI x2)), some (.int (jI x3)), some (.int (jI x4)), none, none, none, none] [] E A K := by
  intro hA
  refine jw_iconst (v := 0) zM_X7_named dX7_named_0 rfl ?_
  refine zw_go (pc1 := 3) (L1 := [some (.ref 49), some (.int (jI x1)), some (.int (jI x2)), some (.int (jI x3)), some (.int (jI x4)), some (.int (jI 0)), none, none, none]) (st1 := []) (σ1 := js E A) zM_X7_named dX7_named_1 rfl rfl rfl rfl ?_
  refine jw_iconst (v := 1) zM_X7_named dX7_named_3 rfl ?_
  refine zw_go (pc1 := 6) (L1 := [some (.ref 49), some (.int (jI x1)), some (.int (jI x2)), some (.int (jI x3)), some (.int (jI x4)), some (.int (jI 0)), some (.int (jI 1)), none, none]) (st1 := []) (σ1 := js E A) zM_X7_named dX7_named_4 rfl rfl rfl rfl ?_
  exact zw_weak2 (h hA) ⟨rfl, rfl, rfl, rfl, rfl, rfl, rfl, trivial⟩
set_option maxHeartbeats 4000000 in
set_option maxRecDepth 100000 in
theorem vd_X7_named_6 (x1 : Int) (r_x1 : jW x1) (x2 : Int) (r_x2 : jW x2) (x3 : Int) (r_x3 : jW x3) (x4 : Int) (r_x4 : jW x4) (x5 : Int) (r_x5 : jW x5) (x6 : Int) (r_x6 : jW x6) (E : jE) (A : jA) (K : Int → jA → Prop) (h : ((x2 < x6 → K x5 A) ∧ (x6 ≤ x2 → jrI 164 0 [some (.ref 49), some (.int (jI x1)), some (.int (jI x6))] [] E A (fun v3 A1 => ((v3 = (0 : Int) → jrI 183 50 [some (.ref 49), some (.int (jI x1)), some (.int (jI x2)), some (.int (jI x3)), some (.int (jI x4)), some (.int (jI x5)), some (.int (jI x6)), none, none] [] E A1 K) ∧ (¬ v3 = (0 : Int) → ((x4 = (0 : Int) → jrI 183 46 [some (.ref 49), some (.int (jI x1)), some (.int (jI x2)), some (.int (jI x3)), some (.int (jI x4)), some (.int (jI x5)), some (.int (jI x6)), none, none] [] E A1 K) ∧ (¬ x4 = (0 : Int) → jrI 162 0 [some (.ref 49), some (.int (jI x1)), some (.int (jI x3))] [] E A1 (fun v7 A5 => jrI 210 0 [some (.ref 49), some (.int (jI x1)), some (.int (jI (v7 + 10)))] [] E A5 (fun v11 A9 => ((¬ v11 = x6 → jrI 183 50 [some (.ref 49), some (.int (jI x1)), some (.int (jI x2)), some (.int (jI x3)), some (.int (jI x4)), some (.int (jI x5)), some (.int (jI x6)), none, none] [] E A9 K) ∧ (v11 = x6 → jrI 183 46 [some (.ref 49), some (.int (jI x1)), some (.int (jI x2)), some (.int (jI x3)), some (.int (jI x4)), some (.int (jI x5)), some (.int (jI x6)), none, none] [] E A9 K)))))))))))) : jrI 183 6 [some (.ref 49), some (.int (jI x1)), some (.int (jI x2)), some (.int (jI x3)), some (.int (jI x4)), some (.int (jI x5)), some (.int (jI x6)), none, none] [] E A K := by
  intro hA
  refine zw_go (pc1 := 8) (L1 := [some (.ref 49), some (.int (jI x1)), some (.int (jI x2)), some (.int (jI x3)), some (.int (jI x4)), some (.int (jI x5)), some (.int (jI x6)), none, none]) (st1 := [.int (jI x6)]) (σ1 := js E A) zM_X7_named dX7_named_6 rfl rfl rfl rfl ?_
  refine zw_go (pc1 := 9) (L1 := [some (.ref 49), some (.int (jI x1)), some (.int (jI x2)), some (.int (jI x3)), some (.int (jI x4)), some (.int (jI x5)), some (.int (jI x6)), none, none]) (st1 := [.int (jI x2), .int (jI x6)]) (σ1 := js E A) zM_X7_named dX7_named_8 rfl rfl rfl rfl ?_
  refine jw_icmp_gt (tgt := 114) zM_X7_named dX7_named_9 rfl r_x6 r_x2 (fun q => ?_) (fun q => ?_)
  · replace h := h.1 q
    refine zw_go (pc1 := 116) (L1 := [some (.ref 49), some (.int (jI x1)), some (.int (jI x2)), some (.int (jI x3)), some (.int (jI x4)), some (.int (jI x5)), some (.int (jI x6)), none, none]) (st1 := [.int (jI x5)]) (σ1 := js E A) zM_X7_named dX7_named_114 rfl rfl rfl rfl ?_
    exact jw_reti zM_X7_named dX7_named_116 rfl r_x5 hA h
  · replace h := h.2 q
    refine zw_go (pc1 := 13) (L1 := [some (.ref 49), some (.int (jI x1)), some (.int (jI x2)), some (.int (jI x3)), some (.int (jI x4)), some (.int (jI x5)), some (.int (jI x6)), none, none]) (st1 := [.ref 49]) (σ1 := js E A) zM_X7_named dX7_named_12 rfl rfl rfl rfl ?_
    refine zw_go (pc1 := 14) (L1 := [some (.ref 49), some (.int (jI x1)), some (.int (jI x2)), some (.int (jI x3)), some (.int (jI x4)), some (.int (jI x5)), some (.int (jI x6)), none, none]) (st1 := [.int (jI x1), .ref 49]) (σ1 := js E A) zM_X7_named dX7_named_13 rfl rfl rfl rfl ?_
    refine zw_go (pc1 := 16) (L1 := [some (.ref 49), some (.int (jI x1)), some (.int (jI x2)), some (.int (jI x3)), some (.int (jI x4)), some (.int (jI x5)), some (.int (jI x6)), none, none]) (st1 := [.int (jI x6), .int (jI x1), .ref 49]) (σ1 := js E A) zM_X7_named dX7_named_14 rfl rfl rfl rfl ?_
    refine jw_callI (as := [.ref 49, .int (jI x1), .int (jI x6)]) (rest := []) zM_X7_named dX7_named_16 (zx_calV zC_7_235) zM_X7_isFolder rfl rfl rfl rfl rfl (j_args0 rfl rfl) rfl hA h (fun v3 A1 rv4 hA2 h => ?_)
    refine jw_if_eq (tgt := 50) zM_X7_named dX7_named_19 rfl rv4 (fun q => ?_) (fun q => ?_)
    · replace h := h.1 q
      exact zw_weak2 (h hA2) ⟨rfl, rfl, rfl, rfl, rfl, rfl, rfl, trivial⟩
    · replace h := h.2 q
      refine zw_go (pc1 := 24) (L1 := [some (.ref 49), some (.int (jI x1)), some (.int (jI x2)), some (.int (jI x3)), some (.int (jI x4)), some (.int (jI x5)), some (.int (jI x6)), none, none]) (st1 := [.int (jI x4)]) (σ1 := js E A1) zM_X7_named dX7_named_22 rfl rfl rfl rfl ?_
      refine jw_if_eq (tgt := 46) zM_X7_named dX7_named_24 rfl r_x4 (fun q => ?_) (fun q => ?_)
      · replace h := h.1 q
        exact zw_weak2 (h hA2) ⟨rfl, rfl, rfl, rfl, rfl, rfl, rfl, trivial⟩
      · replace h := h.2 q
        refine zw_go (pc1 := 28) (L1 := [some (.ref 49), some (.int (jI x1)), some (.int (jI x2)), some (.int (jI x3)), some (.int (jI x4)), some (.int (jI x5)), some (.int (jI x6)), none, none]) (st1 := [.ref 49]) (σ1 := js E A1) zM_X7_named dX7_named_27 rfl rfl rfl rfl ?_
        refine zw_go (pc1 := 29) (L1 := [some (.ref 49), some (.int (jI x1)), some (.int (jI x2)), some (.int (jI x3)), some (.int (jI x4)), some (.int (jI x5)), some (.int (jI x6)), none, none]) (st1 := [.int (jI x1), .ref 49]) (σ1 := js E A1) zM_X7_named dX7_named_28 rfl rfl rfl rfl ?_
        refine zw_go (pc1 := 30) (L1 := [some (.ref 49), some (.int (jI x1)), some (.int (jI x2)), some (.int (jI x3)), some (.int (jI x4)), some (.int (jI x5)), some (.int (jI x6)), none, none]) (st1 := [.ref 49, .int (jI x1), .ref 49]) (σ1 := js E A1) zM_X7_named dX7_named_29 rfl rfl rfl rfl ?_
        refine zw_go (pc1 := 31) (L1 := [some (.ref 49), some (.int (jI x1)), some (.int (jI x2)), some (.int (jI x3)), some (.int (jI x4)), some (.int (jI x5)), some (.int (jI x6)), none, none]) (st1 := [.int (jI x1), .ref 49, .int (jI x1), .ref 49]) (σ1 := js E A1) zM_X7_named dX7_named_30 rfl rfl rfl rfl ?_
        refine zw_go (pc1 := 32) (L1 := [some (.ref 49), some (.int (jI x1)), some (.int (jI x2)), some (.int (jI x3)), some (.int (jI x4)), some (.int (jI x5)), some (.int (jI x6)), none, none]) (st1 := [.int (jI x3), .int (jI x1), .ref 49, .int (jI x1), .ref 49]) (σ1 := js E A1) zM_X7_named dX7_named_31 rfl rfl rfl rfl ?_
        refine jw_callI (as := [.ref 49, .int (jI x1), .int (jI x3)]) (rest := [.int (jI x1), .ref 49]) zM_X7_named dX7_named_32 (zx_calV zC_7_226) zM_X7_inode rfl rfl rfl rfl rfl (j_args0 rfl rfl) rfl hA2 h (fun v7 A5 rv8 hA6 h => ?_)
        refine jw_bipush (v := 10) zM_X7_named dX7_named_35 (by decide) ?_
        refine jw_add zM_X7_named dX7_named_37 ?_
        refine jw_callI (as := [.ref 49, .int (jI x1), .int (jI (v7 + 10))]) (rest := []) zM_X7_named dX7_named_38 (zx_calV zC_7_201) zM_X7_word rfl rfl rfl rfl rfl (j_args0 rfl rfl) rfl hA6 h (fun v11 A9 rv12 hA10 h => ?_)
        refine zw_go (pc1 := 43) (L1 := [some (.ref 49), some (.int (jI x1)), some (.int (jI x2)), some (.int (jI x3)), some (.int (jI x4)), some (.int (jI x5)), some (.int (jI x6)), none, none]) (st1 := [.int (jI x6), .int (jI v11)]) (σ1 := js E A9) zM_X7_named dX7_named_41 rfl rfl rfl rfl ?_
        refine jw_icmp_ne (tgt := 50) zM_X7_named dX7_named_43 rfl rv12 r_x6 (fun q => ?_) (fun q => ?_)
        · replace h := h.1 q
          exact zw_weak2 (h hA10) ⟨rfl, rfl, rfl, rfl, rfl, rfl, rfl, trivial⟩
        · replace h := h.2 q
          exact zw_weak2 (h hA10) ⟨rfl, rfl, rfl, rfl, rfl, rfl, rfl, trivial⟩
set_option maxHeartbeats 4000000 in
set_option maxRecDepth 100000 in
theorem vd_X7_named_46 (x1 : Int) (r_x1 : jW x1) (x2 : Int) (r_x2 : jW x2) (x3 : Int) (r_x3 : jW x3) (x4 : Int) (r_x4 : jW x4) (x5 : Int) (r_x5 : jW x5) (x6 : Int) (r_x6 : jW x6) (E : jE) (A : jA) (K : Int → jA → Prop) (h : jrI 183 51 [some (.ref 49), some (.int (jI x1)), some (.int (jI x2)), some (.int (jI x3)), some (.int (jI x4)), some (.int (jI x5)), some (.int (jI x6)), none, none] [.int (jI 1)] E A K) : jrI 183 46 [some (.ref 49), some (.int (jI x1)), some (.int (jI x2)), some (.int (jI x3)), some (.int (jI x4)), some (.int (jI x5)), some (.int (jI x6)), none, none] [] E A K := by
  intro hA
  refine jw_iconst (v := 1) zM_X7_named dX7_named_46 rfl ?_
  refine zw_goto (tgt := 51) zM_X7_named dX7_named_47 rfl ?_
  exact zw_weak2 (h hA) ⟨rfl, rfl, rfl, rfl, rfl, rfl, rfl, trivial⟩
set_option maxHeartbeats 4000000 in
set_option maxRecDepth 100000 in
theorem vd_X7_named_50 (x1 : Int) (r_x1 : jW x1) (x2 : Int) (r_x2 : jW x2) (x3 : Int) (r_x3 : jW x3) (x4 : Int) (r_x4 : jW x4) (x5 : Int) (r_x5 : jW x5) (x6 : Int) (r_x6 : jW x6) (E : jE) (A : jA) (K : Int → jA → Prop) (h : jrI 183 51 [some (.ref 49), some (.int (jI x1)), some (.int (jI x2)), some (.int (jI x3)), some (.int (jI x4)), some (.int (jI x5)), some (.int (jI x6)), none, none] [.int (jI 0)] E A K) : jrI 183 50 [some (.ref 49), some (.int (jI x1)), some (.int (jI x2)), some (.int (jI x3)), some (.int (jI x4)), some (.int (jI x5)), some (.int (jI x6)), none, none] [] E A K := by
  intro hA
  refine jw_iconst (v := 0) zM_X7_named dX7_named_50 rfl ?_
  exact zw_weak2 (h hA) ⟨rfl, rfl, rfl, rfl, rfl, rfl, rfl, trivial⟩
set_option maxHeartbeats 4000000 in
set_option maxRecDepth 100000 in
theorem vd_X7_named_51 (x1 : Int) (r_x1 : jW x1) (x2 : Int) (r_x2 : jW x2) (x3 : Int) (r_x3 : jW x3) (x4 : Int) (r_x4 : jW x4) (x5 : Int) (r_x5 : jW x5) (x6 : Int) (r_x6 : jW x6) (y0 : Int) (r_y0 : jW y0) (E : jE) (A : jA) (K : Int → jA → Prop) (h : jrI 183 56 [some (.ref 49), some (.int (jI x1)), some (.int (jI x2)), some (.int (jI x3)), some (.int (jI x4)), some (.int (jI x5)), some (.int (jI x6)), some (.int (jI y0)), some (.int (jI 0))] [] E A K) : jrI 183 51 [some (.ref 49), some (.int (jI x1)), some (.int (jI x2)), some (.int (jI x3)), some (.int (jI x4)), some (.int (jI x5)), some (.int (jI x6)), none, none] [.int (jI y0)] E A K := by
  intro hA
  refine zw_go (pc1 := 53) (L1 := [some (.ref 49), some (.int (jI x1)), some (.int (jI x2)), some (.int (jI x3)), some (.int (jI x4)), some (.int (jI x5)), some (.int (jI x6)), some (.int (jI y0)), none]) (st1 := []) (σ1 := js E A) zM_X7_named dX7_named_51 rfl rfl rfl rfl ?_
  refine jw_iconst (v := 0) zM_X7_named dX7_named_53 rfl ?_
  refine zw_go (pc1 := 56) (L1 := [some (.ref 49), some (.int (jI x1)), some (.int (jI x2)), some (.int (jI x3)), some (.int (jI x4)), some (.int (jI x5)), some (.int (jI x6)), some (.int (jI y0)), some (.int (jI 0))]) (st1 := []) (σ1 := js E A) zM_X7_named dX7_named_54 rfl rfl rfl rfl ?_
  exact zw_weak2 (h hA) ⟨rfl, rfl, rfl, rfl, rfl, rfl, rfl, rfl, rfl, trivial⟩
set_option maxHeartbeats 4000000 in
set_option maxRecDepth 100000 in
theorem vd_X7_named_56 (x1 : Int) (r_x1 : jW x1) (x2 : Int) (r_x2 : jW x2) (x3 : Int) (r_x3 : jW x3) (x4 : Int) (r_x4 : jW x4) (x5 : Int) (r_x5 : jW x5) (x6 : Int) (r_x6 : jW x6) (x7 : Int) (r_x7 : jW x7) (x8 : Int) (r_x8 : jW x8) (E : jE) (A : jA) (K : Int → jA → Prop) (h : ((x7 = (0 : Int) → jrI 183 108 [some (.ref 49), some (.int (jI x1)), some (.int (jI x2)), some (.int (jI x3)), some (.int (jI x4)), some (.int (jI x5)), some (.int (jI x6)), none, none] [] E A K) ∧ (¬ x7 = (0 : Int) → jrI 180 0 [some (.ref 49), some (.int (jI x1)), some (.int (jI x6))] [] E A (fun v3 A1 => ((v3 ≤ x8 → jrI 183 108 [some (.ref 49), some (.int (jI x1)), some (.int (jI x2)), some (.int (jI x3)), some (.int (jI x4)), some (.int (jI x5)), some (.int (jI x6)), none, none] [] E A1 K) ∧ (x8 < v3 → jrI 156 0 [some (.ref 49), some (.int (jI x1)), some (.int (jI x6))] [] E A1 (fun v7 A5 => jrI 190 0 [some (.ref 49), some (.int (jI x1)), some (.int (jI (v7 + x8)))] [] E A5 (fun v11 A9 => ((¬ v11 = x3 → jrI 183 99 [some (.ref 49), some (.int (jI x1)), some (.int (jI x2)), some (.int (jI x3)), some (.int (jI x4)), none, some (.int (jI x6)), some (.int (jI x7)), some (.int (jI x8))] [.int (jI 0), .int (jI x5)] E A9 K) ∧ (v11 = x3 → jrI 183 99 [some (.ref 49), some (.int (jI x1)), some (.int (jI x2)), some (.int (jI x3)), some (.int (jI x4)), none, some (.int (jI x6)), some (.int (jI x7)), some (.int (jI x8))] [.int (jI 1), .int (jI x5)] E A9 K)))))))))) : jrI 183 56 [some (.ref 49), some (.int (jI x1)), some (.int (jI x2)), some (.int (jI x3)), some (.int (jI x4)), some (.int (jI x5)), some (.int (jI x6)), some (.int (jI x7)), some (.int (jI x8))] [] E A K := by
  intro hA
  refine zw_go (pc1 := 58) (L1 := [some (.ref 49), some (.int (jI x1)), some (.int (jI x2)), some (.int (jI x3)), some (.int (jI x4)), some (.int (jI x5)), some (.int (jI x6)), some (.int (jI x7)), some (.int (jI x8))]) (st1 := [.int (jI x7)]) (σ1 := js E A) zM_X7_named dX7_named_56 rfl rfl rfl rfl ?_
  refine jw_if_eq (tgt := 108) zM_X7_named dX7_named_58 rfl r_x7 (fun q => ?_) (fun q => ?_)
  · replace h := h.1 q
    exact zw_weak2 (h hA) ⟨rfl, rfl, rfl, rfl, rfl, rfl, rfl, trivial⟩
  · replace h := h.2 q
    refine zw_go (pc1 := 63) (L1 := [some (.ref 49), some (.int (jI x1)), some (.int (jI x2)), some (.int (jI x3)), some (.int (jI x4)), some (.int (jI x5)), some (.int (jI x6)), some (.int (jI x7)), some (.int (jI x8))]) (st1 := [.int (jI x8)]) (σ1 := js E A) zM_X7_named dX7_named_61 rfl rfl rfl rfl ?_
    refine zw_go (pc1 := 64) (L1 := [some (.ref 49), some (.int (jI x1)), some (.int (jI x2)), some (.int (jI x3)), some (.int (jI x4)), some (.int (jI x5)), some (.int (jI x6)), some (.int (jI x7)), some (.int (jI x8))]) (st1 := [.ref 49, .int (jI x8)]) (σ1 := js E A) zM_X7_named dX7_named_63 rfl rfl rfl rfl ?_
    refine zw_go (pc1 := 65) (L1 := [some (.ref 49), some (.int (jI x1)), some (.int (jI x2)), some (.int (jI x3)), some (.int (jI x4)), some (.int (jI x5)), some (.int (jI x6)), some (.int (jI x7)), some (.int (jI x8))]) (st1 := [.int (jI x1), .ref 49, .int (jI x8)]) (σ1 := js E A) zM_X7_named dX7_named_64 rfl rfl rfl rfl ?_
    refine zw_go (pc1 := 67) (L1 := [some (.ref 49), some (.int (jI x1)), some (.int (jI x2)), some (.int (jI x3)), some (.int (jI x4)), some (.int (jI x5)), some (.int (jI x6)), some (.int (jI x7)), some (.int (jI x8))]) (st1 := [.int (jI x6), .int (jI x1), .ref 49, .int (jI x8)]) (σ1 := js E A) zM_X7_named dX7_named_65 rfl rfl rfl rfl ?_
    refine jw_callI (as := [.ref 49, .int (jI x1), .int (jI x6)]) (rest := [.int (jI x8)]) zM_X7_named dX7_named_67 (zx_calV zC_7_238) zM_X7_manyOf rfl rfl rfl rfl rfl (j_args0 rfl rfl) rfl hA h (fun v3 A1 rv4 hA2 h => ?_)
    refine jw_icmp_ge (tgt := 108) zM_X7_named dX7_named_70 rfl r_x8 rv4 (fun q => ?_) (fun q => ?_)
    · replace h := h.1 q
      exact zw_weak2 (h hA2) ⟨rfl, rfl, rfl, rfl, rfl, rfl, rfl, trivial⟩
    · replace h := h.2 q
      refine zw_go (pc1 := 75) (L1 := [some (.ref 49), some (.int (jI x1)), some (.int (jI x2)), some (.int (jI x3)), some (.int (jI x4)), some (.int (jI x5)), some (.int (jI x6)), some (.int (jI x7)), some (.int (jI x8))]) (st1 := [.int (jI x5)]) (σ1 := js E A1) zM_X7_named dX7_named_73 rfl rfl rfl rfl ?_
      refine zw_go (pc1 := 76) (L1 := [some (.ref 49), some (.int (jI x1)), some (.int (jI x2)), some (.int (jI x3)), some (.int (jI x4)), some (.int (jI x5)), some (.int (jI x6)), some (.int (jI x7)), some (.int (jI x8))]) (st1 := [.ref 49, .int (jI x5)]) (σ1 := js E A1) zM_X7_named dX7_named_75 rfl rfl rfl rfl ?_
      refine zw_go (pc1 := 77) (L1 := [some (.ref 49), some (.int (jI x1)), some (.int (jI x2)), some (.int (jI x3)), some (.int (jI x4)), some (.int (jI x5)), some (.int (jI x6)), some (.int (jI x7)), some (.int (jI x8))]) (st1 := [.int (jI x1), .ref 49, .int (jI x5)]) (σ1 := js E A1) zM_X7_named dX7_named_76 rfl rfl rfl rfl ?_
      refine zw_go (pc1 := 78) (L1 := [some (.ref 49), some (.int (jI x1)), some (.int (jI x2)), some (.int (jI x3)), some (.int (jI x4)), some (.int (jI x5)), some (.int (jI x6)), some (.int (jI x7)), some (.int (jI x8))]) (st1 := [.ref 49, .int (jI x1), .ref 49, .int (jI x5)]) (σ1 := js E A1) zM_X7_named dX7_named_77 rfl rfl rfl rfl ?_
      refine zw_go (pc1 := 79) (L1 := [some (.ref 49), some (.int (jI x1)), some (.int (jI x2)), some (.int (jI x3)), some (.int (jI x4)), some (.int (jI x5)), some (.int (jI x6)), some (.int (jI x7)), some (.int (jI x8))]) (st1 := [.int (jI x1), .ref 49, .int (jI x1), .ref 49, .int (jI x5)]) (σ1 := js E A1) zM_X7_named dX7_named_78 rfl rfl rfl rfl ?_
      refine zw_go (pc1 := 81) (L1 := [some (.ref 49), some (.int (jI x1)), some (.int (jI x2)), some (.int (jI x3)), some (.int (jI x4)), some (.int (jI x5)), some (.int (jI x6)), some (.int (jI x7)), some (.int (jI x8))]) (st1 := [.int (jI x6), .int (jI x1), .ref 49, .int (jI x1), .ref 49, .int (jI x5)]) (σ1 := js E A1) zM_X7_named dX7_named_79 rfl rfl rfl rfl ?_
      refine jw_callI (as := [.ref 49, .int (jI x1), .int (jI x6)]) (rest := [.int (jI x1), .ref 49, .int (jI x5)]) zM_X7_named dX7_named_81 (zx_calV zC_7_251) zM_X7_firstOf rfl rfl rfl rfl rfl (j_args0 rfl rfl) rfl hA2 h (fun v7 A5 rv8 hA6 h => ?_)
      refine zw_go (pc1 := 86) (L1 := [some (.ref 49), some (.int (jI x1)), some (.int (jI x2)), some (.int (jI x3)), some (.int (jI x4)), some (.int (jI x5)), some (.int (jI x6)), some (.int (jI x7)), some (.int (jI x8))]) (st1 := [.int (jI x8), .int (jI v7), .int (jI x1), .ref 49, .int (jI x5)]) (σ1 := js E A5) zM_X7_named dX7_named_84 rfl rfl rfl rfl ?_
      refine jw_add zM_X7_named dX7_named_86 ?_
      refine jw_callI (as := [.ref 49, .int (jI x1), .int (jI (v7 + x8))]) (rest := [.int (jI x5)]) zM_X7_named dX7_named_87 (zx_calV zC_7_244) zM_X7_numberAt rfl rfl rfl rfl rfl (j_args0 rfl rfl) rfl hA6 h (fun v11 A9 rv12 hA10 h => ?_)
      refine zw_go (pc1 := 91) (L1 := [some (.ref 49), some (.int (jI x1)), some (.int (jI x2)), some (.int (jI x3)), some (.int (jI x4)), some (.int (jI x5)), some (.int (jI x6)), some (.int (jI x7)), some (.int (jI x8))]) (st1 := [.int (jI x3), .int (jI v11), .int (jI x5)]) (σ1 := js E A9) zM_X7_named dX7_named_90 rfl rfl rfl rfl ?_
      refine jw_icmp_ne (tgt := 98) zM_X7_named dX7_named_91 rfl rv12 r_x3 (fun q => ?_) (fun q => ?_)
      · replace h := h.1 q
        refine jw_iconst (v := 0) zM_X7_named dX7_named_98 rfl ?_
        exact zw_weak2 (h hA10) ⟨rfl, rfl, rfl, rfl, rfl, rfl, rfl, rfl, trivial⟩
      · replace h := h.2 q
        refine jw_iconst (v := 1) zM_X7_named dX7_named_94 rfl ?_
        refine zw_goto (tgt := 99) zM_X7_named dX7_named_95 rfl ?_
        exact zw_weak2 (h hA10) ⟨rfl, rfl, rfl, rfl, rfl, rfl, rfl, rfl, trivial⟩
set_option maxHeartbeats 4000000 in
set_option maxRecDepth 100000 in
theorem vd_X7_named_99 (x1 : Int) (r_x1 : jW x1) (x2 : Int) (r_x2 : jW x2) (x3 : Int) (r_x3 : jW x3) (x4 : Int) (r_x4 : jW x4) (x6 : Int) (r_x6 : jW x6) (x7 : Int) (r_x7 : jW x7) (x8 : Int) (r_x8 : jW x8) (y0 : Int) (r_y0 : jW y0) (y1 : Int) (r_y1 : jW y1) (E : jE) (A : jA) (K : Int → jA → Prop) (h : jrI 183 56 [some (.ref 49), some (.int (jI x1)), some (.int (jI x2)), some (.int (jI x3)), some (.int (jI x4)), some (.int (jI (y1 + y0))), some (.int (jI x6)), some (.int (jI x7)), some (.int (jI (x8 + 1)))] [] E A K) : jrI 183 99 [some (.ref 49), some (.int (jI x1)), some (.int (jI x2)), some (.int (jI x3)), some (.int (jI x4)), none, some (.int (jI x6)), some (.int (jI x7)), some (.int (jI x8))] [.int (jI y0), .int (jI y1)] E A K := by
  intro hA
  refine jw_add zM_X7_named dX7_named_99 ?_
  refine zw_go (pc1 := 102) (L1 := [some (.ref 49), some (.int (jI x1)), some (.int (jI x2)), some (.int (jI x3)), some (.int (jI x4)), some (.int (jI (y1 + y0))), some (.int (jI x6)), some (.int (jI x7)), some (.int (jI x8))]) (st1 := []) (σ1 := js E A) zM_X7_named dX7_named_100 rfl rfl rfl rfl ?_
  refine jw_iinc (x := x8) (L1 := [some (.ref 49), some (.int (jI x1)), some (.int (jI x2)), some (.int (jI x3)), some (.int (jI x4)), some (.int (jI (y1 + y0))), some (.int (jI x6)), some (.int (jI x7)), some (.int (jI (x8 + 1)))]) zM_X7_named dX7_named_102 rfl (show 8 < 9 by decide) rfl ?_
  refine zw_goto (tgt := 56) zM_X7_named dX7_named_105 rfl ?_
  exact zw_weak2 (h hA) ⟨rfl, rfl, rfl, rfl, rfl, rfl, rfl, rfl, rfl, trivial⟩
set_option maxHeartbeats 4000000 in
set_option maxRecDepth 100000 in
theorem vd_X7_named_108 (x1 : Int) (r_x1 : jW x1) (x2 : Int) (r_x2 : jW x2) (x3 : Int) (r_x3 : jW x3) (x4 : Int) (r_x4 : jW x4) (x5 : Int) (r_x5 : jW x5) (x6 : Int) (r_x6 : jW x6) (E : jE) (A : jA) (K : Int → jA → Prop) (h : jrI 183 6 [some (.ref 49), some (.int (jI x1)), some (.int (jI x2)), some (.int (jI x3)), some (.int (jI x4)), some (.int (jI x5)), some (.int (jI (x6 + 1))), none, none] [] E A K) : jrI 183 108 [some (.ref 49), some (.int (jI x1)), some (.int (jI x2)), some (.int (jI x3)), some (.int (jI x4)), some (.int (jI x5)), some (.int (jI x6)), none, none] [] E A K := by
  intro hA
  refine jw_iinc (x := x6) (L1 := [some (.ref 49), some (.int (jI x1)), some (.int (jI x2)), some (.int (jI x3)), some (.int (jI x4)), some (.int (jI x5)), some (.int (jI (x6 + 1))), none, none]) zM_X7_named dX7_named_108 rfl (show 6 < 9 by decide) rfl ?_
  refine zw_goto (tgt := 6) zM_X7_named dX7_named_111 rfl ?_
  exact zw_weak2 (h hA) ⟨rfl, rfl, rfl, rfl, rfl, rfl, rfl, trivial⟩
set_option maxHeartbeats 4000000 in
set_option maxRecDepth 100000 in
theorem vd_X7_namesIn_0 (x1 : Int) (r_x1 : jW x1) (E : jE) (A : jA) (K : Int → jA → Prop) (h : jrI 186 0 [some (.ref 49), some (.int (jI x1)), some (.int (jI 0)), none] [] E A (fun v3 A1 => jrI 184 9 [some (.ref 49), some (.int (jI x1)), some (.int (jI 0)), some (.int (jI v3))] [] E A1 K)) : jrI 184 0 [some (.ref 49), some (.int (jI x1)), none, none] [] E A K := by
  intro hA
  refine jw_iconst (v := 0) zM_X7_namesIn dX7_namesIn_0 rfl ?_
  refine zw_go (pc1 := 2) (L1 := [some (.ref 49), some (.int (jI x1)), some (.int (jI 0)), none]) (st1 := []) (σ1 := js E A) zM_X7_namesIn dX7_namesIn_1 rfl rfl rfl rfl ?_
  refine zw_go (pc1 := 3) (L1 := [some (.ref 49), some (.int (jI x1)), some (.int (jI 0)), none]) (st1 := [.ref 49]) (σ1 := js E A) zM_X7_namesIn dX7_namesIn_2 rfl rfl rfl rfl ?_
  refine zw_go (pc1 := 4) (L1 := [some (.ref 49), some (.int (jI x1)), some (.int (jI 0)), none]) (st1 := [.int (jI x1), .ref 49]) (σ1 := js E A) zM_X7_namesIn dX7_namesIn_3 rfl rfl rfl rfl ?_
  refine jw_iconst (v := 0) zM_X7_namesIn dX7_namesIn_4 rfl ?_
  refine jw_callI (as := [.ref 49, .int (jI x1), .int (jI 0)]) (rest := []) zM_X7_namesIn dX7_namesIn_5 (zx_calV zC_7_287) zM_X7_nextIn rfl rfl rfl rfl rfl (j_args0 rfl rfl) rfl hA h (fun v3 A1 rv4 hA2 h => ?_)
  refine zw_go (pc1 := 9) (L1 := [some (.ref 49), some (.int (jI x1)), some (.int (jI 0)), some (.int (jI v3))]) (st1 := []) (σ1 := js E A1) zM_X7_namesIn dX7_namesIn_8 rfl rfl rfl rfl ?_
  exact zw_weak2 (h hA2) ⟨rfl, rfl, rfl, rfl, trivial⟩
set_option maxHeartbeats 4000000 in
set_option maxRecDepth 100000 in
theorem vd_X7_namesIn_9 (x1 : Int) (r_x1 : jW x1) (x2 : Int) (r_x2 : jW x2) (x3 : Int) (r_x3 : jW x3) (E : jE) (A : jA) (K : Int → jA → Prop) (h : (((1000 : Int) ≤ x3 → K x2 A) ∧ (x3 < (1000 : Int) → jrI 186 0 [some (.ref 49), some (.int (jI x1)), some (.int (jI x3)), none] [] E A (fun v3 A1 => jrI 184 9 [some (.ref 49), some (.int (jI x1)), some (.int (jI (x2 + 1))), some (.int (jI v3))] [] E A1 K)))) : jrI 184 9 [some (.ref 49), some (.int (jI x1)), some (.int (jI x2)), some (.int (jI x3))] [] E A K := by
  intro hA
  refine zw_go (pc1 := 10) (L1 := [some (.ref 49), some (.int (jI x1)), some (.int (jI x2)), some (.int (jI x3))]) (st1 := [.int (jI x3)]) (σ1 := js E A) zM_X7_namesIn dX7_namesIn_9 rfl rfl rfl rfl ?_
  refine jw_sipush (v := 1000) zM_X7_namesIn dX7_namesIn_10 (by decide) ?_
  refine jw_icmp_ge (tgt := 29) zM_X7_namesIn dX7_namesIn_13 rfl r_x3 (show jW 1000 from ⟨by decide, by decide⟩) (fun q => ?_) (fun q => ?_)
  · replace h := h.1 q
    refine zw_go (pc1 := 30) (L1 := [some (.ref 49), some (.int (jI x1)), some (.int (jI x2)), some (.int (jI x3))]) (st1 := [.int (jI x2)]) (σ1 := js E A) zM_X7_namesIn dX7_namesIn_29 rfl rfl rfl rfl ?_
    exact jw_reti zM_X7_namesIn dX7_namesIn_30 rfl r_x2 hA h
  · replace h := h.2 q
    refine jw_iinc (x := x2) (L1 := [some (.ref 49), some (.int (jI x1)), some (.int (jI (x2 + 1))), some (.int (jI x3))]) zM_X7_namesIn dX7_namesIn_16 rfl (show 2 < 4 by decide) rfl ?_
    refine zw_go (pc1 := 20) (L1 := [some (.ref 49), some (.int (jI x1)), some (.int (jI (x2 + 1))), some (.int (jI x3))]) (st1 := [.ref 49]) (σ1 := js E A) zM_X7_namesIn dX7_namesIn_19 rfl rfl rfl rfl ?_
    refine zw_go (pc1 := 21) (L1 := [some (.ref 49), some (.int (jI x1)), some (.int (jI (x2 + 1))), some (.int (jI x3))]) (st1 := [.int (jI x1), .ref 49]) (σ1 := js E A) zM_X7_namesIn dX7_namesIn_20 rfl rfl rfl rfl ?_
    refine zw_go (pc1 := 22) (L1 := [some (.ref 49), some (.int (jI x1)), some (.int (jI (x2 + 1))), some (.int (jI x3))]) (st1 := [.int (jI x3), .int (jI x1), .ref 49]) (σ1 := js E A) zM_X7_namesIn dX7_namesIn_21 rfl rfl rfl rfl ?_
    refine jw_callI (as := [.ref 49, .int (jI x1), .int (jI x3)]) (rest := []) zM_X7_namesIn dX7_namesIn_22 (zx_calV zC_7_287) zM_X7_nextIn rfl rfl rfl rfl rfl (j_args0 rfl rfl) rfl hA h (fun v3 A1 rv4 hA2 h => ?_)
    refine zw_go (pc1 := 26) (L1 := [some (.ref 49), some (.int (jI x1)), some (.int (jI (x2 + 1))), some (.int (jI v3))]) (st1 := []) (σ1 := js E A1) zM_X7_namesIn dX7_namesIn_25 rfl rfl rfl rfl ?_
    refine zw_goto (tgt := 9) zM_X7_namesIn dX7_namesIn_26 rfl ?_
    exact zw_weak2 (h hA2) ⟨rfl, rfl, rfl, rfl, trivial⟩
set_option maxHeartbeats 4000000 in
set_option maxRecDepth 100000 in
theorem vd_X7_namesOf_0 (x1 : Int) (r_x1 : jW x1) (E : jE) (A : jA) (K : Int → jA → Prop) (h : jrI 185 4 [some (.ref 49), some (.int (jI x1)), some (.int (jI 0)), some (.int (jI 0))] [] E A K) : jrI 185 0 [some (.ref 49), some (.int (jI x1)), none, none] [] E A K := by
  intro hA
  refine jw_iconst (v := 0) zM_X7_namesOf dX7_namesOf_0 rfl ?_
  refine zw_go (pc1 := 2) (L1 := [some (.ref 49), some (.int (jI x1)), some (.int (jI 0)), none]) (st1 := []) (σ1 := js E A) zM_X7_namesOf dX7_namesOf_1 rfl rfl rfl rfl ?_
  refine jw_iconst (v := 0) zM_X7_namesOf dX7_namesOf_2 rfl ?_
  refine zw_go (pc1 := 4) (L1 := [some (.ref 49), some (.int (jI x1)), some (.int (jI 0)), some (.int (jI 0))]) (st1 := []) (σ1 := js E A) zM_X7_namesOf dX7_namesOf_3 rfl rfl rfl rfl ?_
  exact zw_weak2 (h hA) ⟨rfl, rfl, rfl, rfl, trivial⟩
set_option maxHeartbeats 4000000 in
set_option maxRecDepth 100000 in
theorem vd_X7_namesOf_4 (x1 : Int) (r_x1 : jW x1) (x2 : Int) (r_x2 : jW x2) (x3 : Int) (r_x3 : jW x3) (E : jE) (A : jA) (K : Int → jA → Prop) (h : (((A 49 7) ≤ x3 → K x2 A) ∧ (x3 < (A 49 7) → (0 ≤ x3 ∧ x3 < 300) ∧ ((¬ (A 57 x3) = x1 → jrI 185 28 [some (.ref 49), some (.int (jI x1)), none, some (.int (jI x3))] [.int (jI 0), .int (jI x2)] E A K) ∧ ((A 57 x3) = x1 → jrI 185 28 [some (.ref 49), some (.int (jI x1)), none, some (.int (jI x3))] [.int (jI 1), .int (jI x2)] E A K))))) : jrI 185 4 [some (.ref 49), some (.int (jI x1)), some (.int (jI x2)), some (.int (jI x3))] [] E A K := by
  intro hA
  refine zw_go (pc1 := 5) (L1 := [some (.ref 49), some (.int (jI x1)), some (.int (jI x2)), some (.int (jI x3))]) (st1 := [.int (jI x3)]) (σ1 := js E A) zM_X7_namesOf dX7_namesOf_4 rfl rfl rfl rfl ?_
  refine zw_go (pc1 := 6) (L1 := [some (.ref 49), some (.int (jI x1)), some (.int (jI x2)), some (.int (jI x3))]) (st1 := [.ref 49, .int (jI x3)]) (σ1 := js E A) zM_X7_namesOf dX7_namesOf_5 rfl rfl rfl rfl ?_
  refine jw_getI zM_X7_namesOf dX7_namesOf_6 zF_7_105 rfl rfl rfl ?_
  refine jw_icmp_ge (tgt := 36) zM_X7_namesOf dX7_namesOf_9 rfl r_x3 (hA 49 7) (fun q => ?_) (fun q => ?_)
  · replace h := h.1 q
    refine zw_go (pc1 := 37) (L1 := [some (.ref 49), some (.int (jI x1)), some (.int (jI x2)), some (.int (jI x3))]) (st1 := [.int (jI x2)]) (σ1 := js E A) zM_X7_namesOf dX7_namesOf_36 rfl rfl rfl rfl ?_
    exact jw_reti zM_X7_namesOf dX7_namesOf_37 rfl r_x2 hA h
  · replace h := h.2 q
    refine zw_go (pc1 := 13) (L1 := [some (.ref 49), some (.int (jI x1)), some (.int (jI x2)), some (.int (jI x3))]) (st1 := [.int (jI x2)]) (σ1 := js E A) zM_X7_namesOf dX7_namesOf_12 rfl rfl rfl rfl ?_
    refine zw_go (pc1 := 14) (L1 := [some (.ref 49), some (.int (jI x1)), some (.int (jI x2)), some (.int (jI x3))]) (st1 := [.ref 49, .int (jI x2)]) (σ1 := js E A) zM_X7_namesOf dX7_namesOf_13 rfl rfl rfl rfl ?_
    refine jw_getR (a := 57) zM_X7_namesOf dX7_namesOf_14 zF_7_31 rfl rfl rfl ?_
    refine zw_go (pc1 := 18) (L1 := [some (.ref 49), some (.int (jI x1)), some (.int (jI x2)), some (.int (jI x3))]) (st1 := [.int (jI x3), .ref 57, .int (jI x2)]) (σ1 := js E A) zM_X7_namesOf dX7_namesOf_17 rfl rfl rfl rfl ?_
    obtain ⟨hi1, h⟩ := h
    refine jw_iald zM_X7_namesOf dX7_namesOf_18 rfl rfl hi1 ?_
    refine zw_go (pc1 := 20) (L1 := [some (.ref 49), some (.int (jI x1)), some (.int (jI x2)), some (.int (jI x3))]) (st1 := [.int (jI x1), .int (jI (A 57 x3)), .int (jI x2)]) (σ1 := js E A) zM_X7_namesOf dX7_namesOf_19 rfl rfl rfl rfl ?_
    refine jw_icmp_ne (tgt := 27) zM_X7_namesOf dX7_namesOf_20 rfl (hA 57 x3) r_x1 (fun q => ?_) (fun q => ?_)
    · replace h := h.1 q
      refine jw_iconst (v := 0) zM_X7_namesOf dX7_namesOf_27 rfl ?_
      exact zw_weak2 (h hA) ⟨rfl, rfl, rfl, trivial⟩
    · replace h := h.2 q
      refine jw_iconst (v := 1) zM_X7_namesOf dX7_namesOf_23 rfl ?_
      refine zw_goto (tgt := 28) zM_X7_namesOf dX7_namesOf_24 rfl ?_
      exact zw_weak2 (h hA) ⟨rfl, rfl, rfl, trivial⟩
set_option maxHeartbeats 4000000 in
set_option maxRecDepth 100000 in
theorem vd_X7_namesOf_28 (x1 : Int) (r_x1 : jW x1) (x3 : Int) (r_x3 : jW x3) (y0 : Int) (r_y0 : jW y0) (y1 : Int) (r_y1 : jW y1) (E : jE) (A : jA) (K : Int → jA → Prop) (h : jrI 185 4 [some (.ref 49), some (.int (jI x1)), some (.int (jI (y1 + y0))), some (.int (jI (x3 + 1)))] [] E A K) : jrI 185 28 [some (.ref 49), some (.int (jI x1)), none, some (.int (jI x3))] [.int (jI y0), .int (jI y1)] E A K := by
  intro hA
  refine jw_add zM_X7_namesOf dX7_namesOf_28 ?_
  refine zw_go (pc1 := 30) (L1 := [some (.ref 49), some (.int (jI x1)), some (.int (jI (y1 + y0))), some (.int (jI x3))]) (st1 := []) (σ1 := js E A) zM_X7_namesOf dX7_namesOf_29 rfl rfl rfl rfl ?_
  refine jw_iinc (x := x3) (L1 := [some (.ref 49), some (.int (jI x1)), some (.int (jI (y1 + y0))), some (.int (jI (x3 + 1)))]) zM_X7_namesOf dX7_namesOf_30 rfl (show 3 < 4 by decide) rfl ?_
  refine zw_goto (tgt := 4) zM_X7_namesOf dX7_namesOf_33 rfl ?_
  exact zw_weak2 (h hA) ⟨rfl, rfl, rfl, rfl, trivial⟩
set_option maxHeartbeats 4000000 in
set_option maxRecDepth 100000 in
theorem vd_X7_nextIn_0 (x1 : Int) (r_x1 : jW x1) (x2 : Int) (r_x2 : jW x2) (E : jE) (A : jA) (K : Int → jA → Prop) (h : jrI 186 4 [some (.ref 49), some (.int (jI x1)), none, some (.int (jI (x2 + 1)))] [] E A K) : jrI 186 0 [some (.ref 49), some (.int (jI x1)), some (.int (jI x2)), none] [] E A K := by
  intro hA
  refine zw_go (pc1 := 1) (L1 := [some (.ref 49), some (.int (jI x1)), some (.int (jI x2)), none]) (st1 := [.int (jI x2)]) (σ1 := js E A) zM_X7_nextIn dX7_nextIn_0 rfl rfl rfl rfl ?_
  refine jw_iconst (v := 1) zM_X7_nextIn dX7_nextIn_1 rfl ?_
  refine jw_add zM_X7_nextIn dX7_nextIn_2 ?_
  refine zw_go (pc1 := 4) (L1 := [some (.ref 49), some (.int (jI x1)), some (.int (jI x2)), some (.int (jI (x2 + 1)))]) (st1 := []) (σ1 := js E A) zM_X7_nextIn dX7_nextIn_3 rfl rfl rfl rfl ?_
  exact zw_weak2 (h hA) ⟨rfl, rfl, rfl, trivial⟩
set_option maxHeartbeats 4000000 in
set_option maxRecDepth 100000 in
theorem vd_X7_nextIn_4 (x1 : Int) (r_x1 : jW x1) (x3 : Int) (r_x3 : jW x3) (E : jE) (A : jA) (K : Int → jA → Prop) (h : (((1000 : Int) ≤ x3 → K 1000 A) ∧ (x3 < (1000 : Int) → jrI 174 0 [some (.ref 49), some (.int (jI x1)), some (.int (jI x3)), none, none, none, none, none, none] [] E A (fun v3 A1 => ((v3 ≤ (0 : Int) → jrI 186 4 [some (.ref 49), some (.int (jI x1)), none, some (.int (jI (x3 + 1)))] [] E A1 K) ∧ ((0 : Int) < v3 → K x3 A1)))))) : jrI 186 4 [some (.ref 49), some (.int (jI x1)), none, some (.int (jI x3))] [] E A K := by
  intro hA
  refine zw_go (pc1 := 5) (L1 := [some (.ref 49), some (.int (jI x1)), none, some (.int (jI x3))]) (st1 := [.int (jI x3)]) (σ1 := js E A) zM_X7_nextIn dX7_nextIn_4 rfl rfl rfl rfl ?_
  refine jw_sipush (v := 1000) zM_X7_nextIn dX7_nextIn_5 (by decide) ?_
  refine jw_icmp_ge (tgt := 28) zM_X7_nextIn dX7_nextIn_8 rfl r_x3 (show jW 1000 from ⟨by decide, by decide⟩) (fun q => ?_) (fun q => ?_)
  · replace h := h.1 q
    refine jw_sipush (v := 1000) zM_X7_nextIn dX7_nextIn_28 (by decide) ?_
    exact jw_reti zM_X7_nextIn dX7_nextIn_31 rfl (show jW 1000 from ⟨by decide, by decide⟩) hA h
  · replace h := h.2 q
    refine zw_go (pc1 := 12) (L1 := [some (.ref 49), some (.int (jI x1)), none, some (.int (jI x3))]) (st1 := [.ref 49]) (σ1 := js E A) zM_X7_nextIn dX7_nextIn_11 rfl rfl rfl rfl ?_
    refine zw_go (pc1 := 13) (L1 := [some (.ref 49), some (.int (jI x1)), none, some (.int (jI x3))]) (st1 := [.int (jI x1), .ref 49]) (σ1 := js E A) zM_X7_nextIn dX7_nextIn_12 rfl rfl rfl rfl ?_
    refine zw_go (pc1 := 14) (L1 := [some (.ref 49), some (.int (jI x1)), none, some (.int (jI x3))]) (st1 := [.int (jI x3), .int (jI x1), .ref 49]) (σ1 := js E A) zM_X7_nextIn dX7_nextIn_13 rfl rfl rfl rfl ?_
    refine jw_callI (as := [.ref 49, .int (jI x1), .int (jI x3)]) (rest := []) zM_X7_nextIn dX7_nextIn_14 (zx_calV zC_7_284) zM_X7_leads rfl rfl rfl rfl rfl (j_args0 rfl rfl) rfl hA h (fun v3 A1 rv4 hA2 h => ?_)
    refine jw_if_le (tgt := 22) zM_X7_nextIn dX7_nextIn_17 rfl rv4 (fun q => ?_) (fun q => ?_)
    · replace h := h.1 q
      refine jw_iinc (x := x3) (L1 := [some (.ref 49), some (.int (jI x1)), none, some (.int (jI (x3 + 1)))]) zM_X7_nextIn dX7_nextIn_22 rfl (show 3 < 4 by decide) rfl ?_
      refine zw_goto (tgt := 4) zM_X7_nextIn dX7_nextIn_25 rfl ?_
      exact zw_weak2 (h hA2) ⟨rfl, rfl, rfl, trivial⟩
    · replace h := h.2 q
      refine zw_go (pc1 := 21) (L1 := [some (.ref 49), some (.int (jI x1)), none, some (.int (jI x3))]) (st1 := [.int (jI x3)]) (σ1 := js E A1) zM_X7_nextIn dX7_nextIn_20 rfl rfl rfl rfl ?_
      exact jw_reti zM_X7_nextIn dX7_nextIn_21 rfl r_x3 hA2 h
set_option maxHeartbeats 4000000 in
set_option maxRecDepth 100000 in
theorem vd_X7_nextName_0 (x1 : Int) (r_x1 : jW x1) (x2 : Int) (r_x2 : jW x2) (E : jE) (A : jA) (K : Int → jA → Prop) (h : jrI 187 7 [some (.ref 49), some (.int (jI x1)), some (.int (jI x2)), some (.int (jI 1000)), some (.int (jI 0))] [] E A K) : jrI 187 0 [some (.ref 49), some (.int (jI x1)), some (.int (jI x2)), none, none] [] E A K := by
  intro hA
  refine jw_sipush (v := 1000) zM_X7_nextName dX7_nextName_0 (by decide) ?_
  refine zw_go (pc1 := 4) (L1 := [some (.ref 49), some (.int (jI x1)), some (.int (jI x2)), some (.int (jI 1000)), none]) (st1 := []) (σ1 := js E A) zM_X7_nextName dX7_nextName_3 rfl rfl rfl rfl ?_
  refine jw_iconst (v := 0) zM_X7_nextName dX7_nextName_4 rfl ?_
  refine zw_go (pc1 := 7) (L1 := [some (.ref 49), some (.int (jI x1)), some (.int (jI x2)), some (.int (jI 1000)), some (.int (jI 0))]) (st1 := []) (σ1 := js E A) zM_X7_nextName dX7_nextName_5 rfl rfl rfl rfl ?_
  exact zw_weak2 (h hA) ⟨rfl, rfl, rfl, rfl, rfl, trivial⟩
set_option maxHeartbeats 4000000 in
set_option maxRecDepth 100000 in
theorem vd_X7_nextName_7 (x1 : Int) (r_x1 : jW x1) (x2 : Int) (r_x2 : jW x2) (x3 : Int) (r_x3 : jW x3) (x4 : Int) (r_x4 : jW x4) (E : jE) (A : jA) (K : Int → jA → Prop) (h : (((A 49 7) ≤ x4 → K x3 A) ∧ (x4 < (A 49 7) → (0 ≤ x4 ∧ x4 < 300) ∧ ((¬ (A 55 x4) = x1 → jrI 187 63 [some (.ref 49), some (.int (jI x1)), some (.int (jI x2)), some (.int (jI x3)), some (.int (jI x4))] [] E A K) ∧ ((A 55 x4) = x1 → (0 ≤ x4 ∧ x4 < 300) ∧ (((A 56 x4) ≤ x2 → jrI 187 63 [some (.ref 49), some (.int (jI x1)), some (.int (jI x2)), some (.int (jI x3)), some (.int (jI x4))] [] E A K) ∧ (x2 < (A 56 x4) → (0 ≤ x4 ∧ x4 < 300) ∧ ((x3 ≤ (A 56 x4) → jrI 187 63 [some (.ref 49), some (.int (jI x1)), some (.int (jI x2)), some (.int (jI x3)), some (.int (jI x4))] [] E A K) ∧ ((A 56 x4) < x3 → (0 ≤ x4 ∧ x4 < 300) ∧ ∀ A5 : jA, A5 = jup A 49 19 x4 → jrI 187 63 [some (.ref 49), some (.int (jI x1)), some (.int (jI x2)), some (.int (jI (A 56 x4))), some (.int (jI x4))] [] E A5 K))))))))) : jrI 187 7 [some (.ref 49), some (.int (jI x1)), some (.int (jI x2)), some (.int (jI x3)), some (.int (jI x4))] [] E A K := by
  intro hA
  refine zw_go (pc1 := 9) (L1 := [some (.ref 49), some (.int (jI x1)), some (.int (jI x2)), some (.int (jI x3)), some (.int (jI x4))]) (st1 := [.int (jI x4)]) (σ1 := js E A) zM_X7_nextName dX7_nextName_7 rfl rfl rfl rfl ?_
  refine zw_go (pc1 := 10) (L1 := [some (.ref 49), some (.int (jI x1)), some (.int (jI x2)), some (.int (jI x3)), some (.int (jI x4))]) (st1 := [.ref 49, .int (jI x4)]) (σ1 := js E A) zM_X7_nextName dX7_nextName_9 rfl rfl rfl rfl ?_
  refine jw_getI zM_X7_nextName dX7_nextName_10 zF_7_105 rfl rfl rfl ?_
  refine jw_icmp_ge (tgt := 69) zM_X7_nextName dX7_nextName_13 rfl r_x4 (hA 49 7) (fun q => ?_) (fun q => ?_)
  · replace h := h.1 q
    refine zw_go (pc1 := 70) (L1 := [some (.ref 49), some (.int (jI x1)), some (.int (jI x2)), some (.int (jI x3)), some (.int (jI x4))]) (st1 := [.int (jI x3)]) (σ1 := js E A) zM_X7_nextName dX7_nextName_69 rfl rfl rfl rfl ?_
    exact jw_reti zM_X7_nextName dX7_nextName_70 rfl r_x3 hA h
  · replace h := h.2 q
    refine zw_go (pc1 := 17) (L1 := [some (.ref 49), some (.int (jI x1)), some (.int (jI x2)), some (.int (jI x3)), some (.int (jI x4))]) (st1 := [.ref 49]) (σ1 := js E A) zM_X7_nextName dX7_nextName_16 rfl rfl rfl rfl ?_
    refine jw_getR (a := 55) zM_X7_nextName dX7_nextName_17 zF_7_25 rfl rfl rfl ?_
    refine zw_go (pc1 := 22) (L1 := [some (.ref 49), some (.int (jI x1)), some (.int (jI x2)), some (.int (jI x3)), some (.int (jI x4))]) (st1 := [.int (jI x4), .ref 55]) (σ1 := js E A) zM_X7_nextName dX7_nextName_20 rfl rfl rfl rfl ?_
    obtain ⟨hi1, h⟩ := h
    refine jw_iald zM_X7_nextName dX7_nextName_22 rfl rfl hi1 ?_
    refine zw_go (pc1 := 24) (L1 := [some (.ref 49), some (.int (jI x1)), some (.int (jI x2)), some (.int (jI x3)), some (.int (jI x4))]) (st1 := [.int (jI x1), .int (jI (A 55 x4))]) (σ1 := js E A) zM_X7_nextName dX7_nextName_23 rfl rfl rfl rfl ?_
    refine jw_icmp_ne (tgt := 63) zM_X7_nextName dX7_nextName_24 rfl (hA 55 x4) r_x1 (fun q => ?_) (fun q => ?_)
    · replace h := h.1 q
      exact zw_weak2 (h hA) ⟨rfl, rfl, rfl, rfl, rfl, trivial⟩
    · replace h := h.2 q
      refine zw_go (pc1 := 28) (L1 := [some (.ref 49), some (.int (jI x1)), some (.int (jI x2)), some (.int (jI x3)), some (.int (jI x4))]) (st1 := [.ref 49]) (σ1 := js E A) zM_X7_nextName dX7_nextName_27 rfl rfl rfl rfl ?_
      refine jw_getR (a := 56) zM_X7_nextName dX7_nextName_28 zF_7_28 rfl rfl rfl ?_
      refine zw_go (pc1 := 33) (L1 := [some (.ref 49), some (.int (jI x1)), some (.int (jI x2)), some (.int (jI x3)), some (.int (jI x4))]) (st1 := [.int (jI x4), .ref 56]) (σ1 := js E A) zM_X7_nextName dX7_nextName_31 rfl rfl rfl rfl ?_
      obtain ⟨hi2, h⟩ := h
      refine jw_iald zM_X7_nextName dX7_nextName_33 rfl rfl hi2 ?_
      refine zw_go (pc1 := 35) (L1 := [some (.ref 49), some (.int (jI x1)), some (.int (jI x2)), some (.int (jI x3)), some (.int (jI x4))]) (st1 := [.int (jI x2), .int (jI (A 56 x4))]) (σ1 := js E A) zM_X7_nextName dX7_nextName_34 rfl rfl rfl rfl ?_
      refine jw_icmp_le (tgt := 63) zM_X7_nextName dX7_nextName_35 rfl (hA 56 x4) r_x2 (fun q => ?_) (fun q => ?_)
      · replace h := h.1 q
        exact zw_weak2 (h hA) ⟨rfl, rfl, rfl, rfl, rfl, trivial⟩
      · replace h := h.2 q
        refine zw_go (pc1 := 39) (L1 := [some (.ref 49), some (.int (jI x1)), some (.int (jI x2)), some (.int (jI x3)), some (.int (jI x4))]) (st1 := [.ref 49]) (σ1 := js E A) zM_X7_nextName dX7_nextName_38 rfl rfl rfl rfl ?_
        refine jw_getR (a := 56) zM_X7_nextName dX7_nextName_39 zF_7_28 rfl rfl rfl ?_
        refine zw_go (pc1 := 44) (L1 := [some (.ref 49), some (.int (jI x1)), some (.int (jI x2)), some (.int (jI x3)), some (.int (jI x4))]) (st1 := [.int (jI x4), .ref 56]) (σ1 := js E A) zM_X7_nextName dX7_nextName_42 rfl rfl rfl rfl ?_
        obtain ⟨hi3, h⟩ := h
        refine jw_iald zM_X7_nextName dX7_nextName_44 rfl rfl hi3 ?_
        refine zw_go (pc1 := 46) (L1 := [some (.ref 49), some (.int (jI x1)), some (.int (jI x2)), some (.int (jI x3)), some (.int (jI x4))]) (st1 := [.int (jI x3), .int (jI (A 56 x4))]) (σ1 := js E A) zM_X7_nextName dX7_nextName_45 rfl rfl rfl rfl ?_
        refine jw_icmp_ge (tgt := 63) zM_X7_nextName dX7_nextName_46 rfl (hA 56 x4) r_x3 (fun q => ?_) (fun q => ?_)
        · replace h := h.1 q
          exact zw_weak2 (h hA) ⟨rfl, rfl, rfl, rfl, rfl, trivial⟩
        · replace h := h.2 q
          refine zw_go (pc1 := 50) (L1 := [some (.ref 49), some (.int (jI x1)), some (.int (jI x2)), some (.int (jI x3)), some (.int (jI x4))]) (st1 := [.ref 49]) (σ1 := js E A) zM_X7_nextName dX7_nextName_49 rfl rfl rfl rfl ?_
          refine jw_getR (a := 56) zM_X7_nextName dX7_nextName_50 zF_7_28 rfl rfl rfl ?_
          refine zw_go (pc1 := 55) (L1 := [some (.ref 49), some (.int (jI x1)), some (.int (jI x2)), some (.int (jI x3)), some (.int (jI x4))]) (st1 := [.int (jI x4), .ref 56]) (σ1 := js E A) zM_X7_nextName dX7_nextName_53 rfl rfl rfl rfl ?_
          obtain ⟨hi4, h⟩ := h
          refine jw_iald zM_X7_nextName dX7_nextName_55 rfl rfl hi4 ?_
          refine zw_go (pc1 := 57) (L1 := [some (.ref 49), some (.int (jI x1)), some (.int (jI x2)), some (.int (jI (A 56 x4))), some (.int (jI x4))]) (st1 := []) (σ1 := js E A) zM_X7_nextName dX7_nextName_56 rfl rfl rfl rfl ?_
          refine zw_go (pc1 := 58) (L1 := [some (.ref 49), some (.int (jI x1)), some (.int (jI x2)), some (.int (jI (A 56 x4))), some (.int (jI x4))]) (st1 := [.ref 49]) (σ1 := js E A) zM_X7_nextName dX7_nextName_57 rfl rfl rfl rfl ?_
          refine zw_go (pc1 := 60) (L1 := [some (.ref 49), some (.int (jI x1)), some (.int (jI x2)), some (.int (jI (A 56 x4))), some (.int (jI x4))]) (st1 := [.int (jI x4), .ref 49]) (σ1 := js E A) zM_X7_nextName dX7_nextName_58 rfl rfl rfl rfl ?_
          obtain ⟨A5, e6⟩ : ∃ z9 : jA, z9 = jup A 49 19 x4 := ⟨_, rfl⟩
          replace h := h A5 e6
          have hA7 : jOK A5 := jOK.up hA r_x4 e6
          refine jw_putI zM_X7_nextName dX7_nextName_60 zF_7_139 rfl rfl rfl rfl e6 ?_
          exact zw_weak2 (h hA7) ⟨rfl, rfl, rfl, rfl, rfl, trivial⟩
set_option maxHeartbeats 4000000 in
set_option maxRecDepth 100000 in
theorem vd_X7_nextName_63 (x1 : Int) (r_x1 : jW x1) (x2 : Int) (r_x2 : jW x2) (x3 : Int) (r_x3 : jW x3) (x4 : Int) (r_x4 : jW x4) (E : jE) (A : jA) (K : Int → jA → Prop) (h : jrI 187 7 [some (.ref 49), some (.int (jI x1)), some (.int (jI x2)), some (.int (jI x3)), some (.int (jI (x4 + 1)))] [] E A K) : jrI 187 63 [some (.ref 49), some (.int (jI x1)), some (.int (jI x2)), some (.int (jI x3)), some (.int (jI x4))] [] E A K := by
  intro hA
  refine jw_iinc (x := x4) (L1 := [some (.ref 49), some (.int (jI x1)), some (.int (jI x2)), some (.int (jI x3)), some (.int (jI (x4 + 1)))]) zM_X7_nextName dX7_nextName_63 rfl (show 4 < 5 by decide) rfl ?_
  refine zw_goto (tgt := 7) zM_X7_nextName dX7_nextName_66 rfl ?_
  exact zw_weak2 (h hA) ⟨rfl, rfl, rfl, rfl, rfl, trivial⟩
set_option maxHeartbeats 4000000 in
set_option maxRecDepth 100000 in
theorem vd_X7_node_0 (x1 : Int) (r_x1 : jW x1) (x2 : Int) (r_x2 : jW x2) (x3 : Int) (r_x3 : jW x3) (E : jE) (A : jA) (K : Int → jA → Prop) (h : ∀ A1 : jA, A1 = jup A 49 0 0 → jrI 165 0 [some (.ref 49), some (.int (jI x1))] [] E A1 (fun v6 A4 => ((¬ v6 = (0 : Int) → jrI 191 0 [some (.ref 49), some (.int (jI x1))] [] E A4 (fun v10 A8 => jrI 160 0 [some (.int (jI x2)), some (.int (jI 1)), some (.int (jI v10))] [] E A8 (fun v14 A12 => ((v14 = (0 : Int) → K (-2) A12) ∧ (¬ v14 = (0 : Int) → jrI 160 0 [some (.int (jI x3)), some (.int (jI 0)), some (.int (jI 4))] [] E A12 (fun v18 A16 => ((v18 = (0 : Int) → K (-2) A16) ∧ (¬ v18 = (0 : Int) → jrI 208 0 [some (.ref 49), some (.int (jI x1)), some (.int (jI x2)), some (.int (jI x3)), none, none] [] E A16 (fun v22 A20 => K v22 A20))))))))) ∧ (v6 = (0 : Int) → K (-1) A4)))) : jrI 188 0 [some (.ref 49), some (.int (jI x1)), some (.int (jI x2)), some (.int (jI x3))] [] E A K := by
  intro hA
  refine zw_go (pc1 := 1) (L1 := [some (.ref 49), some (.int (jI x1)), some (.int (jI x2)), some (.int (jI x3))]) (st1 := [.ref 49]) (σ1 := js E A) zM_X7_node dX7_node_0 rfl rfl rfl rfl ?_
  refine jw_iconst (v := 0) zM_X7_node dX7_node_1 rfl ?_
  obtain ⟨A1, e2⟩ : ∃ z9 : jA, z9 = jup A 49 0 0 := ⟨_, rfl⟩
  replace h := h A1 e2
  have hA3 : jOK A1 := jOK.up hA (show jW 0 from ⟨by decide, by decide⟩) e2
  refine jw_putI zM_X7_node dX7_node_2 zF_7_98 rfl rfl rfl rfl e2 ?_
  refine zw_go (pc1 := 6) (L1 := [some (.ref 49), some (.int (jI x1)), some (.int (jI x2)), some (.int (jI x3))]) (st1 := [.ref 49]) (σ1 := js E A1) zM_X7_node dX7_node_5 rfl rfl rfl rfl ?_
  refine zw_go (pc1 := 7) (L1 := [some (.ref 49), some (.int (jI x1)), some (.int (jI x2)), some (.int (jI x3))]) (st1 := [.int (jI x1), .ref 49]) (σ1 := js E A1) zM_X7_node dX7_node_6 rfl rfl rfl rfl ?_
  refine jw_callI (as := [.ref 49, .int (jI x1)]) (rest := []) zM_X7_node dX7_node_7 (zx_calV zC_7_263) zM_X7_isImage rfl rfl rfl rfl rfl (j_args0 rfl rfl) rfl hA3 h (fun v6 A4 rv7 hA5 h => ?_)
  refine jw_if_ne (tgt := 15) zM_X7_node dX7_node_10 rfl rv7 (fun q => ?_) (fun q => ?_)
  · replace h := h.1 q
    refine zw_go (pc1 := 16) (L1 := [some (.ref 49), some (.int (jI x1)), some (.int (jI x2)), some (.int (jI x3))]) (st1 := [.int (jI x2)]) (σ1 := js E A4) zM_X7_node dX7_node_15 rfl rfl rfl rfl ?_
    refine jw_iconst (v := 1) zM_X7_node dX7_node_16 rfl ?_
    refine zw_go (pc1 := 18) (L1 := [some (.ref 49), some (.int (jI x1)), some (.int (jI x2)), some (.int (jI x3))]) (st1 := [.ref 49, .int (jI 1), .int (jI x2)]) (σ1 := js E A4) zM_X7_node dX7_node_17 rfl rfl rfl rfl ?_
    refine zw_go (pc1 := 19) (L1 := [some (.ref 49), some (.int (jI x1)), some (.int (jI x2)), some (.int (jI x3))]) (st1 := [.int (jI x1), .ref 49, .int (jI 1), .int (jI x2)]) (σ1 := js E A4) zM_X7_node dX7_node_18 rfl rfl rfl rfl ?_
    refine jw_callI (as := [.ref 49, .int (jI x1)]) (rest := [.int (jI 1), .int (jI x2)]) zM_X7_node dX7_node_19 (zx_calV zC_7_207) zM_X7_numbersIn rfl rfl rfl rfl rfl (j_args0 rfl rfl) rfl hA5 h (fun v10 A8 rv11 hA9 h => ?_)
    refine jw_callI (as := [.int (jI x2), .int (jI 1), .int (jI v10)]) (rest := []) zM_X7_node dX7_node_22 (zx_calS zC_7_101) zM_X7_in rfl rfl rfl rfl rfl rfl rfl hA9 h (fun v14 A12 rv15 hA13 h => ?_)
    refine jw_if_eq (tgt := 47) zM_X7_node dX7_node_25 rfl rv15 (fun q => ?_) (fun q => ?_)
    · replace h := h.1 q
      refine jw_bipush (v := (-2)) zM_X7_node dX7_node_47 (by decide) ?_
      exact jw_reti zM_X7_node dX7_node_49 rfl (show jW (-2) from ⟨by decide, by decide⟩) hA13 h
    · replace h := h.2 q
      refine zw_go (pc1 := 29) (L1 := [some (.ref 49), some (.int (jI x1)), some (.int (jI x2)), some (.int (jI x3))]) (st1 := [.int (jI x3)]) (σ1 := js E A12) zM_X7_node dX7_node_28 rfl rfl rfl rfl ?_
      refine jw_iconst (v := 0) zM_X7_node dX7_node_29 rfl ?_
      refine jw_iconst (v := 4) zM_X7_node dX7_node_30 rfl ?_
      refine jw_callI (as := [.int (jI x3), .int (jI 0), .int (jI 4)]) (rest := []) zM_X7_node dX7_node_31 (zx_calS zC_7_101) zM_X7_in rfl rfl rfl rfl rfl rfl rfl hA13 h (fun v18 A16 rv19 hA17 h => ?_)
      refine jw_if_eq (tgt := 47) zM_X7_node dX7_node_34 rfl rv19 (fun q => ?_) (fun q => ?_)
      · replace h := h.1 q
        refine jw_bipush (v := (-2)) zM_X7_node dX7_node_47 (by decide) ?_
        exact jw_reti zM_X7_node dX7_node_49 rfl (show jW (-2) from ⟨by decide, by decide⟩) hA17 h
      · replace h := h.2 q
        refine zw_go (pc1 := 38) (L1 := [some (.ref 49), some (.int (jI x1)), some (.int (jI x2)), some (.int (jI x3))]) (st1 := [.ref 49]) (σ1 := js E A16) zM_X7_node dX7_node_37 rfl rfl rfl rfl ?_
        refine zw_go (pc1 := 39) (L1 := [some (.ref 49), some (.int (jI x1)), some (.int (jI x2)), some (.int (jI x3))]) (st1 := [.int (jI x1), .ref 49]) (σ1 := js E A16) zM_X7_node dX7_node_38 rfl rfl rfl rfl ?_
        refine zw_go (pc1 := 40) (L1 := [some (.ref 49), some (.int (jI x1)), some (.int (jI x2)), some (.int (jI x3))]) (st1 := [.int (jI x2), .int (jI x1), .ref 49]) (σ1 := js E A16) zM_X7_node dX7_node_39 rfl rfl rfl rfl ?_
        refine zw_go (pc1 := 41) (L1 := [some (.ref 49), some (.int (jI x1)), some (.int (jI x2)), some (.int (jI x3))]) (st1 := [.int (jI x3), .int (jI x2), .int (jI x1), .ref 49]) (σ1 := js E A16) zM_X7_node dX7_node_40 rfl rfl rfl rfl ?_
        refine jw_callI (as := [.ref 49, .int (jI x1), .int (jI x2), .int (jI x3)]) (rest := []) zM_X7_node dX7_node_41 (zx_calV zC_7_266) zM_X7_told rfl rfl rfl rfl rfl (j_args0 rfl rfl) rfl hA17 h (fun v22 A20 rv23 hA21 h => ?_)
        refine zw_goto (tgt := 49) zM_X7_node dX7_node_44 rfl ?_
        exact jw_reti zM_X7_node dX7_node_49 rfl rv23 hA21 h
  · replace h := h.2 q
    refine jw_iconst (v := (-1)) zM_X7_node dX7_node_13 rfl ?_
    exact jw_reti zM_X7_node dX7_node_14 rfl (show jW (-1) from ⟨by decide, by decide⟩) hA5 h
set_option maxHeartbeats 4000000 in
set_option maxRecDepth 100000 in
theorem vd_X7_number_0  (E : jE) (A : jA) (K : jA → Prop) (h : jrV 189 2 [some (.ref 49), some (.int (jI 0)), none, none, none] [] E A K) : jrV 189 0 [some (.ref 49), none, none, none, none] [] E A K := by
  intro hA
  refine jw_iconst (v := 0) zM_X7_number dX7_number_0 rfl ?_
  refine zw_go (pc1 := 2) (L1 := [some (.ref 49), some (.int (jI 0)), none, none, none]) (st1 := []) (σ1 := js E A) zM_X7_number dX7_number_1 rfl rfl rfl rfl ?_
  exact zw_weak2 (h hA) ⟨rfl, rfl, trivial⟩
set_option maxHeartbeats 4000000 in
set_option maxRecDepth 100000 in
theorem vd_X7_number_2 (x1 : Int) (r_x1 : jW x1) (E : jE) (A : jA) (K : jA → Prop) (h : (((32 : Int) ≤ x1 → ∀ A2 : jA, A2 = jup A 60 0 1 → ∀ A6 : jA, A6 = jup A2 61 1 0 → ∀ A9 : jA, A9 = jup A6 49 18 1 → jrV 189 42 [some (.ref 49), some (.int (jI 1)), none, none, none] [] E A9 K) ∧ (x1 < (32 : Int) → (0 ≤ x1 ∧ x1 < 32) ∧ ∀ A13 : jA, A13 = jup A 60 x1 0 → jrV 189 2 [some (.ref 49), some (.int (jI (x1 + 1))), none, none, none] [] E A13 K))) : jrV 189 2 [some (.ref 49), some (.int (jI x1)), none, none, none] [] E A K := by
  intro hA
  refine zw_go (pc1 := 3) (L1 := [some (.ref 49), some (.int (jI x1)), none, none, none]) (st1 := [.int (jI x1)]) (σ1 := js E A) zM_X7_number dX7_number_2 rfl rfl rfl rfl ?_
  refine jw_bipush (v := 32) zM_X7_number dX7_number_3 (by decide) ?_
  refine jw_icmp_ge (tgt := 21) zM_X7_number dX7_number_5 rfl r_x1 (show jW 32 from ⟨by decide, by decide⟩) (fun q => ?_) (fun q => ?_)
  · replace h := h.1 q
    refine zw_go (pc1 := 22) (L1 := [some (.ref 49), some (.int (jI x1)), none, none, none]) (st1 := [.ref 49]) (σ1 := js E A) zM_X7_number dX7_number_21 rfl rfl rfl rfl ?_
    refine jw_getR (a := 60) zM_X7_number dX7_number_22 zF_7_40 rfl rfl rfl ?_
    refine jw_iconst (v := 0) zM_X7_number dX7_number_25 rfl ?_
    refine jw_iconst (v := 1) zM_X7_number dX7_number_26 rfl ?_
    obtain ⟨A2, e3⟩ : ∃ z9 : jA, z9 = jup A 60 0 1 := ⟨_, rfl⟩
    replace h := h A2 e3
    have hA4 : jOK A2 := jOK.up hA (show jW 1 from ⟨by decide, by decide⟩) e3
    refine jw_iast zM_X7_number dX7_number_27 rfl rfl ⟨by decide, by decide⟩ e3 ?_
    refine zw_go (pc1 := 29) (L1 := [some (.ref 49), some (.int (jI x1)), none, none, none]) (st1 := [.ref 49]) (σ1 := js E A2) zM_X7_number dX7_number_28 rfl rfl rfl rfl ?_
    refine jw_getR (a := 61) zM_X7_number dX7_number_29 zF_7_43 rfl rfl rfl ?_
    refine jw_iconst (v := 1) zM_X7_number dX7_number_32 rfl ?_
    refine jw_iconst (v := 0) zM_X7_number dX7_number_33 rfl ?_
    obtain ⟨A6, e7⟩ : ∃ z9 : jA, z9 = jup A2 61 1 0 := ⟨_, rfl⟩
    replace h := h A6 e7
    have hA8 : jOK A6 := jOK.up hA4 (show jW 0 from ⟨by decide, by decide⟩) e7
    refine jw_iast zM_X7_number dX7_number_34 rfl rfl ⟨by decide, by decide⟩ e7 ?_
    refine zw_go (pc1 := 36) (L1 := [some (.ref 49), some (.int (jI x1)), none, none, none]) (st1 := [.ref 49]) (σ1 := js E A6) zM_X7_number dX7_number_35 rfl rfl rfl rfl ?_
    refine jw_iconst (v := 1) zM_X7_number dX7_number_36 rfl ?_
    obtain ⟨A9, e10⟩ : ∃ z9 : jA, z9 = jup A6 49 18 1 := ⟨_, rfl⟩
    replace h := h A9 e10
    have hA11 : jOK A9 := jOK.up hA8 (show jW 1 from ⟨by decide, by decide⟩) e10
    refine jw_putI zM_X7_number dX7_number_37 zF_7_142 rfl rfl rfl rfl e10 ?_
    refine jw_iconst (v := 1) zM_X7_number dX7_number_40 rfl ?_
    refine zw_go (pc1 := 42) (L1 := [some (.ref 49), some (.int (jI 1)), none, none, none]) (st1 := []) (σ1 := js E A9) zM_X7_number dX7_number_41 rfl rfl rfl rfl ?_
    exact zw_weak2 (h hA11) ⟨rfl, rfl, trivial⟩
  · replace h := h.2 q
    refine zw_go (pc1 := 9) (L1 := [some (.ref 49), some (.int (jI x1)), none, none, none]) (st1 := [.ref 49]) (σ1 := js E A) zM_X7_number dX7_number_8 rfl rfl rfl rfl ?_
    refine jw_getR (a := 60) zM_X7_number dX7_number_9 zF_7_40 rfl rfl rfl ?_
    refine zw_go (pc1 := 13) (L1 := [some (.ref 49), some (.int (jI x1)), none, none, none]) (st1 := [.int (jI x1), .ref 60]) (σ1 := js E A) zM_X7_number dX7_number_12 rfl rfl rfl rfl ?_
    refine jw_iconst (v := 0) zM_X7_number dX7_number_13 rfl ?_
    obtain ⟨hi12, h⟩ := h
    obtain ⟨A13, e14⟩ : ∃ z9 : jA, z9 = jup A 60 x1 0 := ⟨_, rfl⟩
    replace h := h A13 e14
    have hA15 : jOK A13 := jOK.up hA (show jW 0 from ⟨by decide, by decide⟩) e14
    refine jw_iast zM_X7_number dX7_number_14 rfl rfl hi12 e14 ?_
    refine jw_iinc (x := x1) (L1 := [some (.ref 49), some (.int (jI (x1 + 1))), none, none, none]) zM_X7_number dX7_number_15 rfl (show 1 < 5 by decide) rfl ?_
    refine zw_goto (tgt := 2) zM_X7_number dX7_number_18 rfl ?_
    exact zw_weak2 (h hA15) ⟨rfl, rfl, trivial⟩
set_option maxHeartbeats 4000000 in
set_option maxRecDepth 100000 in
theorem vd_X7_number_42 (x1 : Int) (r_x1 : jW x1) (E : jE) (A : jA) (K : jA → Prop) (h : (((A 49 18) < x1 → K A) ∧ (x1 ≤ (A 49 18) → (0 ≤ x1 ∧ x1 < 33) ∧ (0 ≤ (A 61 x1) ∧ (A 61 x1) < 32) ∧ ((¬ (A 50 (A 61 x1)) = (1 : Int) → jrV 189 144 [some (.ref 49), some (.int (jI x1)), none, none, none] [] E A K) ∧ ((A 50 (A 61 x1)) = (1 : Int) → jrI 187 0 [some (.ref 49), some (.int (jI (A 61 x1))), some (.int (jI 0)), none, none] [] E A (fun v5 A3 => jrV 189 74 [some (.ref 49), some (.int (jI x1)), some (.int (jI (A 61 x1))), some (.int (jI v5)), none] [] E A3 K)))))) : jrV 189 42 [some (.ref 49), some (.int (jI x1)), none, none, none] [] E A K := by
  intro hA
  refine zw_go (pc1 := 43) (L1 := [some (.ref 49), some (.int (jI x1)), none, none, none]) (st1 := [.int (jI x1)]) (σ1 := js E A) zM_X7_number dX7_number_42 rfl rfl rfl rfl ?_
  refine zw_go (pc1 := 44) (L1 := [some (.ref 49), some (.int (jI x1)), none, none, none]) (st1 := [.ref 49, .int (jI x1)]) (σ1 := js E A) zM_X7_number dX7_number_43 rfl rfl rfl rfl ?_
  refine jw_getI zM_X7_number dX7_number_44 zF_7_142 rfl rfl rfl ?_
  refine jw_icmp_gt (tgt := 150) zM_X7_number dX7_number_47 rfl r_x1 (hA 49 18) (fun q => ?_) (fun q => ?_)
  · replace h := h.1 q
    exact jw_retv zM_X7_number dX7_number_150 rfl hA h
  · replace h := h.2 q
    refine zw_go (pc1 := 51) (L1 := [some (.ref 49), some (.int (jI x1)), none, none, none]) (st1 := [.ref 49]) (σ1 := js E A) zM_X7_number dX7_number_50 rfl rfl rfl rfl ?_
    refine jw_getR (a := 61) zM_X7_number dX7_number_51 zF_7_43 rfl rfl rfl ?_
    refine zw_go (pc1 := 55) (L1 := [some (.ref 49), some (.int (jI x1)), none, none, none]) (st1 := [.int (jI x1), .ref 61]) (σ1 := js E A) zM_X7_number dX7_number_54 rfl rfl rfl rfl ?_
    obtain ⟨hi1, h⟩ := h
    refine jw_iald zM_X7_number dX7_number_55 rfl rfl hi1 ?_
    refine zw_go (pc1 := 57) (L1 := [some (.ref 49), some (.int (jI x1)), some (.int (jI (A 61 x1))), none, none]) (st1 := []) (σ1 := js E A) zM_X7_number dX7_number_56 rfl rfl rfl rfl ?_
    refine zw_go (pc1 := 58) (L1 := [some (.ref 49), some (.int (jI x1)), some (.int (jI (A 61 x1))), none, none]) (st1 := [.ref 49]) (σ1 := js E A) zM_X7_number dX7_number_57 rfl rfl rfl rfl ?_
    refine jw_getR (a := 50) zM_X7_number dX7_number_58 zF_7_7 rfl rfl rfl ?_
    refine zw_go (pc1 := 62) (L1 := [some (.ref 49), some (.int (jI x1)), some (.int (jI (A 61 x1))), none, none]) (st1 := [.int (jI (A 61 x1)), .ref 50]) (σ1 := js E A) zM_X7_number dX7_number_61 rfl rfl rfl rfl ?_
    obtain ⟨hi2, h⟩ := h
    refine jw_iald zM_X7_number dX7_number_62 rfl rfl hi2 ?_
    refine jw_iconst (v := 1) zM_X7_number dX7_number_63 rfl ?_
    refine jw_icmp_ne (tgt := 144) zM_X7_number dX7_number_64 rfl (hA 50 (A 61 x1)) (show jW 1 from ⟨by decide, by decide⟩) (fun q => ?_) (fun q => ?_)
    · replace h := h.1 q
      exact zw_weak2 (h hA) ⟨rfl, rfl, trivial⟩
    · replace h := h.2 q
      refine zw_go (pc1 := 68) (L1 := [some (.ref 49), some (.int (jI x1)), some (.int (jI (A 61 x1))), none, none]) (st1 := [.ref 49]) (σ1 := js E A) zM_X7_number dX7_number_67 rfl rfl rfl rfl ?_
      refine zw_go (pc1 := 69) (L1 := [some (.ref 49), some (.int (jI x1)), some (.int (jI (A 61 x1))), none, none]) (st1 := [.int (jI (A 61 x1)), .ref 49]) (σ1 := js E A) zM_X7_number dX7_number_68 rfl rfl rfl rfl ?_
      refine jw_iconst (v := 0) zM_X7_number dX7_number_69 rfl ?_
      refine jw_callI (as := [.ref 49, .int (jI (A 61 x1)), .int (jI 0)]) (rest := []) zM_X7_number dX7_number_70 (zx_calV zC_7_145) zM_X7_nextName rfl rfl rfl rfl rfl (j_args0 rfl rfl) rfl hA h (fun v5 A3 rv6 hA4 h => ?_)
      refine zw_go (pc1 := 74) (L1 := [some (.ref 49), some (.int (jI x1)), some (.int (jI (A 61 x1))), some (.int (jI v5)), none]) (st1 := []) (σ1 := js E A3) zM_X7_number dX7_number_73 rfl rfl rfl rfl ?_
      exact zw_weak2 (h hA4) ⟨rfl, rfl, rfl, rfl, trivial⟩
set_option maxHeartbeats 4000000 in
set_option maxRecDepth 100000 in
theorem vd_X7_number_74 (x1 : Int) (r_x1 : jW x1) (x2 : Int) (r_x2 : jW x2) (x3 : Int) (r_x3 : jW x3) (E : jE) (A : jA) (K : jA → Prop) (h : (((1000 : Int) ≤ x3 → jrV 189 144 [some (.ref 49), some (.int (jI x1)), none, none, none] [] E A K) ∧ (x3 < (1000 : Int) → (0 ≤ (A 49 19) ∧ (A 49 19) < 300) ∧ (0 ≤ (A 57 (A 49 19)) ∧ (A 57 (A 49 19)) < 32) ∧ ((¬ (A 60 (A 57 (A 49 19))) = (0 : Int) → jrV 189 134 [some (.ref 49), some (.int (jI x1)), some (.int (jI x2)), some (.int (jI x3)), none] [] E A K) ∧ ((A 60 (A 57 (A 49 19))) = (0 : Int) → jW ((A 49 18) + 1) ∧ ∀ A4 : jA, A4 = jup A 49 18 ((A 49 18) + 1) → (0 ≤ (A 57 (A 49 19)) ∧ (A 57 (A 49 19)) < 32) ∧ ∀ A8 : jA, A8 = jup A4 60 (A 57 (A 49 19)) (A4 49 18) → (0 ≤ (A8 49 18) ∧ (A8 49 18) < 33) ∧ ∀ A12 : jA, A12 = jup A8 61 (A8 49 18) (A 57 (A 49 19)) → jrV 189 134 [some (.ref 49), some (.int (jI x1)), some (.int (jI x2)), some (.int (jI x3)), none] [] E A12 K))))) : jrV 189 74 [some (.ref 49), some (.int (jI x1)), some (.int (jI x2)), some (.int (jI x3)), none] [] E A K := by
  intro hA
  refine zw_go (pc1 := 75) (L1 := [some (.ref 49), some (.int (jI x1)), some (.int (jI x2)), some (.int (jI x3)), none]) (st1 := [.int (jI x3)]) (σ1 := js E A) zM_X7_number dX7_number_74 rfl rfl rfl rfl ?_
  refine jw_sipush (v := 1000) zM_X7_number dX7_number_75 (by decide) ?_
  refine jw_icmp_ge (tgt := 144) zM_X7_number dX7_number_78 rfl r_x3 (show jW 1000 from ⟨by decide, by decide⟩) (fun q => ?_) (fun q => ?_)
  · replace h := h.1 q
    exact zw_weak2 (h hA) ⟨rfl, rfl, trivial⟩
  · replace h := h.2 q
    refine zw_go (pc1 := 82) (L1 := [some (.ref 49), some (.int (jI x1)), some (.int (jI x2)), some (.int (jI x3)), none]) (st1 := [.ref 49]) (σ1 := js E A) zM_X7_number dX7_number_81 rfl rfl rfl rfl ?_
    refine jw_getR (a := 57) zM_X7_number dX7_number_82 zF_7_31 rfl rfl rfl ?_
    refine zw_go (pc1 := 86) (L1 := [some (.ref 49), some (.int (jI x1)), some (.int (jI x2)), some (.int (jI x3)), none]) (st1 := [.ref 49, .ref 57]) (σ1 := js E A) zM_X7_number dX7_number_85 rfl rfl rfl rfl ?_
    refine jw_getI zM_X7_number dX7_number_86 zF_7_139 rfl rfl rfl ?_
    obtain ⟨hi1, h⟩ := h
    refine jw_iald zM_X7_number dX7_number_89 rfl rfl hi1 ?_
    refine zw_go (pc1 := 92) (L1 := [some (.ref 49), some (.int (jI x1)), some (.int (jI x2)), some (.int (jI x3)), some (.int (jI (A 57 (A 49 19))))]) (st1 := []) (σ1 := js E A) zM_X7_number dX7_number_90 rfl rfl rfl rfl ?_
    refine zw_go (pc1 := 93) (L1 := [some (.ref 49), some (.int (jI x1)), some (.int (jI x2)), some (.int (jI x3)), some (.int (jI (A 57 (A 49 19))))]) (st1 := [.ref 49]) (σ1 := js E A) zM_X7_number dX7_number_92 rfl rfl rfl rfl ?_
    refine jw_getR (a := 60) zM_X7_number dX7_number_93 zF_7_40 rfl rfl rfl ?_
    refine zw_go (pc1 := 98) (L1 := [some (.ref 49), some (.int (jI x1)), some (.int (jI x2)), some (.int (jI x3)), some (.int (jI (A 57 (A 49 19))))]) (st1 := [.int (jI (A 57 (A 49 19))), .ref 60]) (σ1 := js E A) zM_X7_number dX7_number_96 rfl rfl rfl rfl ?_
    obtain ⟨hi2, h⟩ := h
    refine jw_iald zM_X7_number dX7_number_98 rfl rfl hi2 ?_
    refine jw_if_ne (tgt := 134) zM_X7_number dX7_number_99 rfl (hA 60 (A 57 (A 49 19))) (fun q => ?_) (fun q => ?_)
    · replace h := h.1 q
      exact zw_weak2 (h hA) ⟨rfl, rfl, rfl, rfl, trivial⟩
    · replace h := h.2 q
      refine zw_go (pc1 := 103) (L1 := [some (.ref 49), some (.int (jI x1)), some (.int (jI x2)), some (.int (jI x3)), some (.int (jI (A 57 (A 49 19))))]) (st1 := [.ref 49]) (σ1 := js E A) zM_X7_number dX7_number_102 rfl rfl rfl rfl ?_
      refine zw_go (pc1 := 104) (L1 := [some (.ref 49), some (.int (jI x1)), some (.int (jI x2)), some (.int (jI x3)), some (.int (jI (A 57 (A 49 19))))]) (st1 := [.ref 49, .ref 49]) (σ1 := js E A) zM_X7_number dX7_number_103 rfl rfl rfl rfl ?_
      refine jw_getI zM_X7_number dX7_number_104 zF_7_142 rfl rfl rfl ?_
      refine jw_iconst (v := 1) zM_X7_number dX7_number_107 rfl ?_
      refine jw_add zM_X7_number dX7_number_108 ?_
      obtain ⟨hw3, h⟩ := h
      obtain ⟨A4, e5⟩ : ∃ z9 : jA, z9 = jup A 49 18 ((A 49 18) + 1) := ⟨_, rfl⟩
      replace h := h A4 e5
      have hA6 : jOK A4 := jOK.up hA hw3 e5
      refine jw_putI zM_X7_number dX7_number_109 zF_7_142 rfl rfl rfl rfl e5 ?_
      refine zw_go (pc1 := 113) (L1 := [some (.ref 49), some (.int (jI x1)), some (.int (jI x2)), some (.int (jI x3)), some (.int (jI (A 57 (A 49 19))))]) (st1 := [.ref 49]) (σ1 := js E A4) zM_X7_number dX7_number_112 rfl rfl rfl rfl ?_
      refine jw_getR (a := 60) zM_X7_number dX7_number_113 zF_7_40 rfl rfl rfl ?_
      refine zw_go (pc1 := 118) (L1 := [some (.ref 49), some (.int (jI x1)), some (.int (jI x2)), some (.int (jI x3)), some (.int (jI (A 57 (A 49 19))))]) (st1 := [.int (jI (A 57 (A 49 19))), .ref 60]) (σ1 := js E A4) zM_X7_number dX7_number_116 rfl rfl rfl rfl ?_
      refine zw_go (pc1 := 119) (L1 := [some (.ref 49), some (.int (jI x1)), some (.int (jI x2)), some (.int (jI x3)), some (.int (jI (A 57 (A 49 19))))]) (st1 := [.ref 49, .int (jI (A 57 (A 49 19))), .ref 60]) (σ1 := js E A4) zM_X7_number dX7_number_118 rfl rfl rfl rfl ?_
      refine jw_getI zM_X7_number dX7_number_119 zF_7_142 rfl rfl rfl ?_
      obtain ⟨hi7, h⟩ := h
      obtain ⟨A8, e9⟩ : ∃ z9 : jA, z9 = jup A4 60 (A 57 (A 49 19)) (A4 49 18) := ⟨_, rfl⟩
      replace h := h A8 e9
      have hA10 : jOK A8 := jOK.up hA6 (hA6 49 18) e9
      refine jw_iast zM_X7_number dX7_number_122 rfl rfl hi7 e9 ?_
      refine zw_go (pc1 := 124) (L1 := [some (.ref 49), some (.int (jI x1)), some (.int (jI x2)), some (.int (jI x3)), some (.int (jI (A 57 (A 49 19))))]) (st1 := [.ref 49]) (σ1 := js E A8) zM_X7_number dX7_number_123 rfl rfl rfl rfl ?_
      refine jw_getR (a := 61) zM_X7_number dX7_number_124 zF_7_43 rfl rfl rfl ?_
      refine zw_go (pc1 := 128) (L1 := [some (.ref 49), some (.int (jI x1)), some (.int (jI x2)), some (.int (jI x3)), some (.int (jI (A 57 (A 49 19))))]) (st1 := [.ref 49, .ref 61]) (σ1 := js E A8) zM_X7_number dX7_number_127 rfl rfl rfl rfl ?_
      refine jw_getI zM_X7_number dX7_number_128 zF_7_142 rfl rfl rfl ?_
      refine zw_go (pc1 := 133) (L1 := [some (.ref 49), some (.int (jI x1)), some (.int (jI x2)), some (.int (jI x3)), some (.int (jI (A 57 (A 49 19))))]) (st1 := [.int (jI (A 57 (A 49 19))), .int (jI (A8 49 18)), .ref 61]) (σ1 := js E A8) zM_X7_number dX7_number_131 rfl rfl rfl rfl ?_
      obtain ⟨hi11, h⟩ := h
      obtain ⟨A12, e13⟩ : ∃ z9 : jA, z9 = jup A8 61 (A8 49 18) (A 57 (A 49 19)) := ⟨_, rfl⟩
      replace h := h A12 e13
      have hA14 : jOK A12 := jOK.up hA10 (hA 57 (A 49 19)) e13
      refine jw_iast zM_X7_number dX7_number_133 rfl rfl hi11 e13 ?_
      exact zw_weak2 (h hA14) ⟨rfl, rfl, rfl, rfl, trivial⟩
set_option maxHeartbeats 4000000 in
set_option maxRecDepth 100000 in
theorem vd_X7_number_134 (x1 : Int) (r_x1 : jW x1) (x2 : Int) (r_x2 : jW x2) (x3 : Int) (r_x3 : jW x3) (E : jE) (A : jA) (K : jA → Prop) (h : jrI 187 0 [some (.ref 49), some (.int (jI x2)), some (.int (jI x3)), none, none] [] E A (fun v3 A1 => jrV 189 74 [some (.ref 49), some (.int (jI x1)), some (.int (jI x2)), some (.int (jI v3)), none] [] E A1 K)) : jrV 189 134 [some (.ref 49), some (.int (jI x1)), some (.int (jI x2)), some (.int (jI x3)), none] [] E A K := by
  intro hA
  refine zw_go (pc1 := 135) (L1 := [some (.ref 49), some (.int (jI x1)), some (.int (jI x2)), some (.int (jI x3)), none]) (st1 := [.ref 49]) (σ1 := js E A) zM_X7_number dX7_number_134 rfl rfl rfl rfl ?_
  refine zw_go (pc1 := 136) (L1 := [some (.ref 49), some (.int (jI x1)), some (.int (jI x2)), some (.int (jI x3)), none]) (st1 := [.int (jI x2), .ref 49]) (σ1 := js E A) zM_X7_number dX7_number_135 rfl rfl rfl rfl ?_
  refine zw_go (pc1 := 137) (L1 := [some (.ref 49), some (.int (jI x1)), some (.int (jI x2)), some (.int (jI x3)), none]) (st1 := [.int (jI x3), .int (jI x2), .ref 49]) (σ1 := js E A) zM_X7_number dX7_number_136 rfl rfl rfl rfl ?_
  refine jw_callI (as := [.ref 49, .int (jI x2), .int (jI x3)]) (rest := []) zM_X7_number dX7_number_137 (zx_calV zC_7_145) zM_X7_nextName rfl rfl rfl rfl rfl (j_args0 rfl rfl) rfl hA h (fun v3 A1 rv4 hA2 h => ?_)
  refine zw_go (pc1 := 141) (L1 := [some (.ref 49), some (.int (jI x1)), some (.int (jI x2)), some (.int (jI v3)), none]) (st1 := []) (σ1 := js E A1) zM_X7_number dX7_number_140 rfl rfl rfl rfl ?_
  refine zw_goto (tgt := 74) zM_X7_number dX7_number_141 rfl ?_
  exact zw_weak2 (h hA2) ⟨rfl, rfl, rfl, rfl, trivial⟩
set_option maxHeartbeats 4000000 in
set_option maxRecDepth 100000 in
theorem vd_X7_number_144 (x1 : Int) (r_x1 : jW x1) (E : jE) (A : jA) (K : jA → Prop) (h : jrV 189 42 [some (.ref 49), some (.int (jI (x1 + 1))), none, none, none] [] E A K) : jrV 189 144 [some (.ref 49), some (.int (jI x1)), none, none, none] [] E A K := by
  intro hA
  refine jw_iinc (x := x1) (L1 := [some (.ref 49), some (.int (jI (x1 + 1))), none, none, none]) zM_X7_number dX7_number_144 rfl (show 1 < 5 by decide) rfl ?_
  refine zw_goto (tgt := 42) zM_X7_number dX7_number_147 rfl ?_
  exact zw_weak2 (h hA) ⟨rfl, rfl, trivial⟩
set_option maxHeartbeats 4000000 in
set_option maxRecDepth 100000 in
theorem vd_X7_numberAt_0 (x1 : Int) (r_x1 : jW x1) (x2 : Int) (r_x2 : jW x2) (E : jE) (A : jA) (K : Int → jA → Prop) (h : jrI 210 0 [some (.ref 49), some (.int (jI x1)), some (.int (jI 8))] [] E A (fun v3 A1 => jrI 210 0 [some (.ref 49), some (.int (jI x1)), some (.int (jI ((v3 + (4 * x2)) + 2)))] [] E A1 (fun v7 A5 => K v7 A5))) : jrI 190 0 [some (.ref 49), some (.int (jI x1)), some (.int (jI x2))] [] E A K := by
  intro hA
  refine zw_go (pc1 := 1) (L1 := [some (.ref 49), some (.int (jI x1)), some (.int (jI x2))]) (st1 := [.ref 49]) (σ1 := js E A) zM_X7_numberAt dX7_numberAt_0 rfl rfl rfl rfl ?_
  refine zw_go (pc1 := 2) (L1 := [some (.ref 49), some (.int (jI x1)), some (.int (jI x2))]) (st1 := [.int (jI x1), .ref 49]) (σ1 := js E A) zM_X7_numberAt dX7_numberAt_1 rfl rfl rfl rfl ?_
  refine zw_go (pc1 := 3) (L1 := [some (.ref 49), some (.int (jI x1)), some (.int (jI x2))]) (st1 := [.ref 49, .int (jI x1), .ref 49]) (σ1 := js E A) zM_X7_numberAt dX7_numberAt_2 rfl rfl rfl rfl ?_
  refine zw_go (pc1 := 4) (L1 := [some (.ref 49), some (.int (jI x1)), some (.int (jI x2))]) (st1 := [.int (jI x1), .ref 49, .int (jI x1), .ref 49]) (σ1 := js E A) zM_X7_numberAt dX7_numberAt_3 rfl rfl rfl rfl ?_
  refine jw_bipush (v := 8) zM_X7_numberAt dX7_numberAt_4 (by decide) ?_
  refine jw_callI (as := [.ref 49, .int (jI x1), .int (jI 8)]) (rest := [.int (jI x1), .ref 49]) zM_X7_numberAt dX7_numberAt_6 (zx_calV zC_7_201) zM_X7_word rfl rfl rfl rfl rfl (j_args0 rfl rfl) rfl hA h (fun v3 A1 rv4 hA2 h => ?_)
  refine jw_iconst (v := 4) zM_X7_numberAt dX7_numberAt_9 rfl ?_
  refine zw_go (pc1 := 11) (L1 := [some (.ref 49), some (.int (jI x1)), some (.int (jI x2))]) (st1 := [.int (jI x2), .int (jI 4), .int (jI v3), .int (jI x1), .ref 49]) (σ1 := js E A1) zM_X7_numberAt dX7_numberAt_10 rfl rfl rfl rfl ?_
  refine jw_mul zM_X7_numberAt dX7_numberAt_11 ?_
  refine jw_add zM_X7_numberAt dX7_numberAt_12 ?_
  refine jw_iconst (v := 2) zM_X7_numberAt dX7_numberAt_13 rfl ?_
  refine jw_add zM_X7_numberAt dX7_numberAt_14 ?_
  refine jw_callI (as := [.ref 49, .int (jI x1), .int (jI ((v3 + (4 * x2)) + 2))]) (rest := []) zM_X7_numberAt dX7_numberAt_15 (zx_calV zC_7_201) zM_X7_word rfl rfl rfl rfl rfl (j_args0 rfl rfl) rfl hA2 h (fun v7 A5 rv8 hA6 h => ?_)
  exact jw_reti zM_X7_numberAt dX7_numberAt_18 rfl rv8 hA6 h
set_option maxHeartbeats 4000000 in
set_option maxRecDepth 100000 in
theorem vd_X7_numbersIn_0 (x1 : Int) (r_x1 : jW x1) (E : jE) (A : jA) (K : Int → jA → Prop) (h : jrI 210 0 [some (.ref 49), some (.int (jI x1)), some (.int (jI 4))] [] E A (fun v3 A1 => K v3 A1)) : jrI 191 0 [some (.ref 49), some (.int (jI x1))] [] E A K := by
  intro hA
  refine zw_go (pc1 := 1) (L1 := [some (.ref 49), some (.int (jI x1))]) (st1 := [.ref 49]) (σ1 := js E A) zM_X7_numbersIn dX7_numbersIn_0 rfl rfl rfl rfl ?_
  refine zw_go (pc1 := 2) (L1 := [some (.ref 49), some (.int (jI x1))]) (st1 := [.int (jI x1), .ref 49]) (σ1 := js E A) zM_X7_numbersIn dX7_numbersIn_1 rfl rfl rfl rfl ?_
  refine jw_iconst (v := 4) zM_X7_numbersIn dX7_numbersIn_2 rfl ?_
  refine jw_callI (as := [.ref 49, .int (jI x1), .int (jI 4)]) (rest := []) zM_X7_numbersIn dX7_numbersIn_3 (zx_calV zC_7_201) zM_X7_word rfl rfl rfl rfl rfl (j_args0 rfl rfl) rfl hA h (fun v3 A1 rv4 hA2 h => ?_)
  exact jw_reti zM_X7_numbersIn dX7_numbersIn_6 rfl rv4 hA2 h
