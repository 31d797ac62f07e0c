set_option maxHeartbeats 4000000 in
set_option maxRecDepth 100000 in
theorem vc_X7_link_0 (a0 : Nat) (x1 : Int32) (x2 : Int32) (x3 : Int32) (σ : zx_S) (K : Int32 → zx_S → Prop) (h : zK σ a0 = 20 ∧ ∀ σ2 : zx_S, σ2 = zx_pI σ a0 0 0 → zwI 167 0 [some (.ref a0), some (.int x1)] [] σ2 (fun v5 σ4 => ((v5 = (0 : Int32) → K (-1) σ4) ∧ (¬ v5 = (0 : Int32) → zK σ4 a0 = 20 ∧ zwI 167 0 [some (.ref a0), some (.int x3)] [] σ4 (fun v8 σ7 => ((¬ v8 = (0 : Int32) → zwI 160 0 [some (.int x2), some (.int 1), some (.int 999)] [] σ7 (fun v10 σ9 => ((¬ v10 = (0 : Int32) → zK σ9 a0 = 20 ∧ ∃ b12 : Nat, zR σ9 a0 2 = some b12 ∧ zK σ9 b12 = 1 ∧ zx_in x1 (zN σ9 b12) = true ∧ ((¬ (zI σ9 b12 (Int32.toNatClampNeg x1)) = (1 : Int32) → K (-3) σ9) ∧ ((zI σ9 b12 (Int32.toNatClampNeg x1)) = (1 : Int32) → zwI 169 0 [some (.ref a0), some (.int x1), some (.int x2), none, none] [] σ9 (fun v17 σ16 => ((¬ v17 = (0 : Int32) → K (-3) σ16) ∧ (v17 = (0 : Int32) → zK σ16 a0 = 20 ∧ ∃ b19 : Nat, zR σ16 a0 2 = some b19 ∧ zK σ16 b19 = 1 ∧ zx_in x3 (zN σ16 b19) = true ∧ (((zI σ16 b19 (Int32.toNatClampNeg x3)) = (2 : Int32) → zwI 185 0 [some (.ref a0), some (.int x3), none, none] [] σ16 (fun v24 σ23 => ((¬ v24 = (9 : Int32) → zK σ23 a0 = 20 ∧ zwV 182 0 [some (.ref a0), some (.int x1), some (.int x2), some (.int x3)] [] σ23 (fun σ26 => zK σ26 a0 = 20 ∧ zwI 185 0 [some (.ref a0), some (.int x3), none, none] [] σ26 (fun v29 σ28 => K v29 σ28))) ∧ (v24 = (9 : Int32) → K (-4) σ23)))) ∧ (¬ (zI σ16 b19 (Int32.toNatClampNeg x3)) = (2 : Int32) → K (-3) σ16)))))))) ∧ (v10 = (0 : Int32) → K (-2) σ9)))) ∧ (v8 = (0 : Int32) → K (-1) σ7))))))) : zwI 176 0 [some (.ref a0), some (.int x1), some (.int x2), some (.int x3)] [] σ K := by
  refine zw_go (pc1 := 1) (L1 := [some (.ref a0), some (.int x1), some (.int x2), some (.int x3)]) (st1 := [.ref a0]) (σ1 := σ) zM_X7_link dX7_link_0 rfl rfl rfl rfl ?_
  refine zw_iconst (v := 0) zM_X7_link dX7_link_1 (by decide) ?_
  obtain ⟨hk1, h⟩ := h
  obtain ⟨σ2, e3⟩ : ∃ z9 : zx_S, z9 = zx_pI σ a0 0 0 := ⟨_, rfl⟩
  replace h := h σ2 e3
  refine zw_putI zM_X7_link dX7_link_2 zF_7_98 rfl rfl hk1 e3 ?_
  refine zw_go (pc1 := 6) (L1 := [some (.ref a0), some (.int x1), some (.int x2), some (.int x3)]) (st1 := [.ref a0]) (σ1 := σ2) zM_X7_link dX7_link_5 rfl rfl rfl rfl ?_
  refine zw_go (pc1 := 7) (L1 := [some (.ref a0), some (.int x1), some (.int x2), some (.int x3)]) (st1 := [.int x1, .ref a0]) (σ1 := σ2) zM_X7_link dX7_link_6 rfl rfl rfl rfl ?_
  refine zw_callI (as := [.ref a0, .int x1]) (rest := []) zM_X7_link dX7_link_7 (zx_calV zC_7_108) zM_X7_isNode rfl rfl rfl rfl rfl (zx_args0 (by rw [e3]; exact hk1) rfl) rfl h (fun v5 σ4 h => ?_)
  refine zw_if_eq (tgt := 21) zM_X7_link dX7_link_10 rfl rfl (fun q => ?_) (fun q => ?_)
  · replace h := h.1 q
    refine zw_iconst (v := (-1)) zM_X7_link dX7_link_21 (by decide) ?_
    exact zw_reti zM_X7_link dX7_link_22 rfl h
  · replace h := h.2 q
    refine zw_go (pc1 := 14) (L1 := [some (.ref a0), some (.int x1), some (.int x2), some (.int x3)]) (st1 := [.ref a0]) (σ1 := σ4) zM_X7_link dX7_link_13 rfl rfl rfl rfl ?_
    refine zw_go (pc1 := 15) (L1 := [some (.ref a0), some (.int x1), some (.int x2), some (.int x3)]) (st1 := [.int x3, .ref a0]) (σ1 := σ4) zM_X7_link dX7_link_14 rfl rfl rfl rfl ?_
    obtain ⟨hk6, h⟩ := h
    refine zw_callI (as := [.ref a0, .int x3]) (rest := []) zM_X7_link dX7_link_15 (zx_calV zC_7_108) zM_X7_isNode rfl rfl rfl rfl rfl (zx_args0 hk6 rfl) rfl h (fun v8 σ7 h => ?_)
    refine zw_if_ne (tgt := 23) zM_X7_link dX7_link_18 rfl rfl (fun q => ?_) (fun q => ?_)
    · replace h := h.1 q
      refine zw_go (pc1 := 24) (L1 := [some (.ref a0), some (.int x1), some (.int x2), some (.int x3)]) (st1 := [.int x2]) (σ1 := σ7) zM_X7_link dX7_link_23 rfl rfl rfl rfl ?_
      refine zw_iconst (v := 1) zM_X7_link dX7_link_24 (by decide) ?_
      refine zw_sipush (v := 999) zM_X7_link dX7_link_25 (by decide) ?_
      refine zw_callI (as := [.int x2, .int 1, .int 999]) (rest := []) zM_X7_link dX7_link_28 (zx_calS zC_7_101) zM_X7_in rfl rfl rfl rfl rfl rfl rfl h (fun v10 σ9 h => ?_)
      refine zw_if_ne (tgt := 37) zM_X7_link dX7_link_31 rfl rfl (fun q => ?_) (fun q => ?_)
      · replace h := h.1 q
        refine zw_go (pc1 := 38) (L1 := [some (.ref a0), some (.int x1), some (.int x2), some (.int x3)]) (st1 := [.ref a0]) (σ1 := σ9) zM_X7_link dX7_link_37 rfl rfl rfl rfl ?_
        obtain ⟨hk11, h⟩ := h
        obtain ⟨b12, hr13, h⟩ := h
        refine zw_getR (a := b12) zM_X7_link dX7_link_38 zF_7_7 rfl hk11 hr13 ?_
        refine zw_go (pc1 := 42) (L1 := [some (.ref a0), some (.int x1), some (.int x2), some (.int x3)]) (st1 := [.int x1, .ref b12]) (σ1 := σ9) zM_X7_link dX7_link_41 rfl rfl rfl rfl ?_
        obtain ⟨hk14, h⟩ := h
        obtain ⟨hi15, h⟩ := h
        refine zw_iald zM_X7_link dX7_link_42 ⟨Or.inl hk14, hi15⟩ ?_
        refine zw_iconst (v := 1) zM_X7_link dX7_link_43 (by decide) ?_
        refine zw_icmp_ne (tgt := 66) zM_X7_link dX7_link_44 rfl rfl (fun q => ?_) (fun q => ?_)
        · replace h := h.1 q
          refine zw_bipush (v := (-3)) zM_X7_link dX7_link_66 (by decide) ?_
          exact zw_reti zM_X7_link dX7_link_68 rfl h
        · replace h := h.2 q
          refine zw_go (pc1 := 48) (L1 := [some (.ref a0), some (.int x1), some (.int x2), some (.int x3)]) (st1 := [.ref a0]) (σ1 := σ9) zM_X7_link dX7_link_47 rfl rfl rfl rfl ?_
          refine zw_go (pc1 := 49) (L1 := [some (.ref a0), some (.int x1), some (.int x2), some (.int x3)]) (st1 := [.int x1, .ref a0]) (σ1 := σ9) zM_X7_link dX7_link_48 rfl rfl rfl rfl ?_
          refine zw_go (pc1 := 50) (L1 := [some (.ref a0), some (.int x1), some (.int x2), some (.int x3)]) (st1 := [.int x2, .int x1, .ref a0]) (σ1 := σ9) zM_X7_link dX7_link_49 rfl rfl rfl rfl ?_
          refine zw_callI (as := [.ref a0, .int x1, .int x2]) (rest := []) zM_X7_link dX7_link_50 (zx_calV zC_7_112) zM_X7_isThere rfl rfl rfl rfl rfl (zx_args0 hk11 rfl) rfl h (fun v17 σ16 h => ?_)
          refine zw_if_ne (tgt := 66) zM_X7_link dX7_link_53 rfl rfl (fun q => ?_) (fun q => ?_)
          · replace h := h.1 q
            refine zw_bipush (v := (-3)) zM_X7_link dX7_link_66 (by decide) ?_
            exact zw_reti zM_X7_link dX7_link_68 rfl h
          · replace h := h.2 q
            refine zw_go (pc1 := 57) (L1 := [some (.ref a0), some (.int x1), some (.int x2), some (.int x3)]) (st1 := [.ref a0]) (σ1 := σ16) zM_X7_link dX7_link_56 rfl rfl rfl rfl ?_
            obtain ⟨hk18, h⟩ := h
            obtain ⟨b19, hr20, h⟩ := h
            refine zw_getR (a := b19) zM_X7_link dX7_link_57 zF_7_7 rfl hk18 hr20 ?_
            refine zw_go (pc1 := 61) (L1 := [some (.ref a0), some (.int x1), some (.int x2), some (.int x3)]) (st1 := [.int x3, .ref b19]) (σ1 := σ16) zM_X7_link dX7_link_60 rfl rfl rfl rfl ?_
            obtain ⟨hk21, h⟩ := h
            obtain ⟨hi22, h⟩ := h
            refine zw_iald zM_X7_link dX7_link_61 ⟨Or.inl hk21, hi22⟩ ?_
            refine zw_iconst (v := 2) zM_X7_link dX7_link_62 (by decide) ?_
            refine zw_icmp_eq (tgt := 69) zM_X7_link dX7_link_63 rfl rfl (fun q => ?_) (fun q => ?_)
            · replace h := h.1 q
              refine zw_go (pc1 := 70) (L1 := [some (.ref a0), some (.int x1), some (.int x2), some (.int x3)]) (st1 := [.ref a0]) (σ1 := σ16) zM_X7_link dX7_link_69 rfl rfl rfl rfl ?_
              refine zw_go (pc1 := 71) (L1 := [some (.ref a0), some (.int x1), some (.int x2), some (.int x3)]) (st1 := [.int x3, .ref a0]) (σ1 := σ16) zM_X7_link dX7_link_70 rfl rfl rfl rfl ?_
              refine zw_callI (as := [.ref a0, .int x3]) (rest := []) zM_X7_link dX7_link_71 (zx_calV zC_7_124) zM_X7_namesOf rfl rfl rfl rfl rfl (zx_args0 hk18 rfl) rfl h (fun v24 σ23 h => ?_)
              refine zw_bipush (v := 9) zM_X7_link dX7_link_74 (by decide) ?_
              refine zw_icmp_ne (tgt := 82) zM_X7_link dX7_link_76 rfl rfl (fun q => ?_) (fun q => ?_)
              · replace h := h.1 q
                refine zw_go (pc1 := 83) (L1 := [some (.ref a0), some (.int x1), some (.int x2), some (.int x3)]) (st1 := [.ref a0]) (σ1 := σ23) zM_X7_link dX7_link_82 rfl rfl rfl rfl ?_
                refine zw_go (pc1 := 84) (L1 := [some (.ref a0), some (.int x1), some (.int x2), some (.int x3)]) (st1 := [.int x1, .ref a0]) (σ1 := σ23) zM_X7_link dX7_link_83 rfl rfl rfl rfl ?_
                refine zw_go (pc1 := 85) (L1 := [some (.ref a0), some (.int x1), some (.int x2), some (.int x3)]) (st1 := [.int x2, .int x1, .ref a0]) (σ1 := σ23) zM_X7_link dX7_link_84 rfl rfl rfl rfl ?_
                refine zw_go (pc1 := 86) (L1 := [some (.ref a0), some (.int x1), some (.int x2), some (.int x3)]) (st1 := [.int x3, .int x2, .int x1, .ref a0]) (σ1 := σ23) zM_X7_link dX7_link_85 rfl rfl rfl rfl ?_
                obtain ⟨hk25, h⟩ := h
                refine zw_callV (as := [.ref a0, .int x1, .int x2, .int x3]) (rest := []) zM_X7_link dX7_link_86 (zx_calV zC_7_116) zM_X7_nameIt rfl rfl rfl rfl rfl (zx_args0 hk25 rfl) rfl h (fun σ26 h => ?_)
                refine zw_go (pc1 := 90) (L1 := [some (.ref a0), some (.int x1), some (.int x2), some (.int x3)]) (st1 := [.ref a0]) (σ1 := σ26) zM_X7_link dX7_link_89 rfl rfl rfl rfl ?_
                refine zw_go (pc1 := 91) (L1 := [some (.ref a0), some (.int x1), some (.int x2), some (.int x3)]) (st1 := [.int x3, .ref a0]) (σ1 := σ26) zM_X7_link dX7_link_90 rfl rfl rfl rfl ?_
                obtain ⟨hk27, h⟩ := h
                refine zw_callI (as := [.ref a0, .int x3]) (rest := []) zM_X7_link dX7_link_91 (zx_calV zC_7_124) zM_X7_namesOf rfl rfl rfl rfl rfl (zx_args0 hk27 rfl) rfl h (fun v29 σ28 h => ?_)
                exact zw_reti zM_X7_link dX7_link_94 rfl h
              · replace h := h.2 q
                refine zw_bipush (v := (-4)) zM_X7_link dX7_link_79 (by decide) ?_
                exact zw_reti zM_X7_link dX7_link_81 rfl h
            · replace h := h.2 q
              refine zw_bipush (v := (-3)) zM_X7_link dX7_link_66 (by decide) ?_
              exact zw_reti zM_X7_link dX7_link_68 rfl h
      · replace h := h.2 q
        refine zw_bipush (v := (-2)) zM_X7_link dX7_link_34 (by decide) ?_
        exact zw_reti zM_X7_link dX7_link_36 rfl h
    · replace h := h.2 q
      refine zw_iconst (v := (-1)) zM_X7_link dX7_link_21 (by decide) ?_
      exact zw_reti zM_X7_link dX7_link_22 rfl h
set_option maxHeartbeats 4000000 in
set_option maxRecDepth 100000 in
theorem vc_X7_list_0 (a0 : Nat) (x1 : Int32) (x2 : Int32) (σ : zx_S) (K : Int32 → zx_S → Prop) (h : zK σ a0 = 20 ∧ ∀ σ2 : zx_S, σ2 = zx_pI σ a0 0 0 → zwI 171 0 [some (.ref a0), some (.int x1)] [] σ2 (fun v5 σ4 => ((¬ v5 = (0 : Int32) → (((0 : Int32) ≤ x2 → zK σ4 a0 = 20 ∧ zwI 173 0 [some (.ref a0), some (.int x1)] [] σ4 (fun v8 σ7 => ((v8 = (1 : Int32) → zK σ7 a0 = 20 ∧ zwI 186 0 [some (.ref a0), some (.int x1), some (.int 0), none] [] σ7 (fun v11 σ10 => zwI 177 44 [some (.ref a0), some (.int x1), some (.int x2), some (.int v11), some (.int 0)] [] σ10 K)) ∧ (¬ v8 = (1 : Int32) → K (-3) σ7)))) ∧ (¬ (0 : Int32) ≤ x2 → K (-2) σ4))) ∧ (v5 = (0 : Int32) → K (-1) σ4)))) : zwI 177 0 [some (.ref a0), some (.int x1), some (.int x2), none, none] [] σ K := by
  refine zw_go (pc1 := 1) (L1 := [some (.ref a0), some (.int x1), some (.int x2), none, none]) (st1 := [.ref a0]) (σ1 := σ) zM_X7_list dX7_list_0 rfl rfl rfl rfl ?_
  refine zw_iconst (v := 0) zM_X7_list dX7_list_1 (by decide) ?_
  obtain ⟨hk1, h⟩ := h
  obtain ⟨σ2, e3⟩ : ∃ z9 : zx_S, z9 = zx_pI σ a0 0 0 := ⟨_, rfl⟩
  replace h := h σ2 e3
  refine zw_putI zM_X7_list dX7_list_2 zF_7_98 rfl rfl hk1 e3 ?_
  refine zw_go (pc1 := 6) (L1 := [some (.ref a0), some (.int x1), some (.int x2), none, none]) (st1 := [.ref a0]) (σ1 := σ2) zM_X7_list dX7_list_5 rfl rfl rfl rfl ?_
  refine zw_go (pc1 := 7) (L1 := [some (.ref a0), some (.int x1), some (.int x2), none, none]) (st1 := [.int x1, .ref a0]) (σ1 := σ2) zM_X7_list dX7_list_6 rfl rfl rfl rfl ?_
  refine zw_callI (as := [.ref a0, .int x1]) (rest := []) zM_X7_list dX7_list_7 (zx_calV zC_7_278) zM_X7_isView rfl rfl rfl rfl rfl (zx_args0 (by rw [e3]; exact hk1) rfl) rfl h (fun v5 σ4 h => ?_)
  refine zw_if_ne (tgt := 15) zM_X7_list dX7_list_10 rfl rfl (fun q => ?_) (fun q => ?_)
  · replace h := h.1 q
    refine zw_go (pc1 := 16) (L1 := [some (.ref a0), some (.int x1), some (.int x2), none, none]) (st1 := [.int x2]) (σ1 := σ4) zM_X7_list dX7_list_15 rfl rfl rfl rfl ?_
    refine zw_if_ge (tgt := 22) zM_X7_list dX7_list_16 rfl rfl (fun q => ?_) (fun q => ?_)
    · replace h := h.1 q
      refine zw_go (pc1 := 23) (L1 := [some (.ref a0), some (.int x1), some (.int x2), none, none]) (st1 := [.ref a0]) (σ1 := σ4) zM_X7_list dX7_list_22 rfl rfl rfl rfl ?_
      refine zw_go (pc1 := 24) (L1 := [some (.ref a0), some (.int x1), some (.int x2), none, none]) (st1 := [.int x1, .ref a0]) (σ1 := σ4) zM_X7_list dX7_list_23 rfl rfl rfl rfl ?_
      obtain ⟨hk6, h⟩ := h
      refine zw_callI (as := [.ref a0, .int x1]) (rest := []) zM_X7_list dX7_list_24 (zx_calV zC_7_281) zM_X7_kindOf rfl rfl rfl rfl rfl (zx_args0 hk6 rfl) rfl h (fun v8 σ7 h => ?_)
      refine zw_iconst (v := 1) zM_X7_list dX7_list_27 (by decide) ?_
      refine zw_icmp_eq (tgt := 34) zM_X7_list dX7_list_28 rfl rfl (fun q => ?_) (fun q => ?_)
      · replace h := h.1 q
        refine zw_go (pc1 := 35) (L1 := [some (.ref a0), some (.int x1), some (.int x2), none, none]) (st1 := [.ref a0]) (σ1 := σ7) zM_X7_list dX7_list_34 rfl rfl rfl rfl ?_
        refine zw_go (pc1 := 36) (L1 := [some (.ref a0), some (.int x1), some (.int x2), none, none]) (st1 := [.int x1, .ref a0]) (σ1 := σ7) zM_X7_list dX7_list_35 rfl rfl rfl rfl ?_
        refine zw_iconst (v := 0) zM_X7_list dX7_list_36 (by decide) ?_
        obtain ⟨hk9, h⟩ := h
        refine zw_callI (as := [.ref a0, .int x1, .int 0]) (rest := []) zM_X7_list dX7_list_37 (zx_calV zC_7_287) zM_X7_nextIn rfl rfl rfl rfl rfl (zx_args0 hk9 rfl) rfl h (fun v11 σ10 h => ?_)
        refine zw_go (pc1 := 41) (L1 := [some (.ref a0), some (.int x1), some (.int x2), some (.int v11), none]) (st1 := []) (σ1 := σ10) zM_X7_list dX7_list_40 rfl rfl rfl rfl ?_
        refine zw_iconst (v := 0) zM_X7_list dX7_list_41 (by decide) ?_
        refine zw_go (pc1 := 44) (L1 := [some (.ref a0), some (.int x1), some (.int x2), some (.int v11), some (.int 0)]) (st1 := []) (σ1 := σ10) zM_X7_list dX7_list_42 rfl rfl rfl rfl ?_
        exact zw_weak2 h ⟨rfl, rfl, rfl, rfl, rfl, trivial⟩
      · replace h := h.2 q
        refine zw_bipush (v := (-3)) zM_X7_list dX7_list_31 (by decide) ?_
        exact zw_reti zM_X7_list dX7_list_33 rfl h
    · replace h := h.2 q
      refine zw_bipush (v := (-2)) zM_X7_list dX7_list_19 (by decide) ?_
      exact zw_reti zM_X7_list dX7_list_21 rfl h
  · replace h := h.2 q
    refine zw_iconst (v := (-1)) zM_X7_list dX7_list_13 (by decide) ?_
    exact zw_reti zM_X7_list dX7_list_14 rfl h
set_option maxHeartbeats 4000000 in
set_option maxRecDepth 100000 in
theorem vc_X7_list_44 (a0 : Nat) (x1 : Int32) (x2 : Int32) (x3 : Int32) (x4 : Int32) (σ : zx_S) (K : Int32 → zx_S → Prop) (h : ((x2 ≤ x4 → zwI 177 70 [none, none, none, some (.int x3), none] [] σ K) ∧ (¬ x2 ≤ x4 → (((1000 : Int32) ≤ x3 → zwI 177 70 [none, none, none, some (.int x3), none] [] σ K) ∧ (¬ (1000 : Int32) ≤ x3 → zK σ a0 = 20 ∧ zwI 186 0 [some (.ref a0), some (.int x1), some (.int x3), none] [] σ (fun v3 σ2 => zwI 177 44 [some (.ref a0), some (.int x1), some (.int x2), some (.int v3), some (.int (x4 + Int32.ofInt 1))] [] σ2 K)))))) : zwI 177 44 [some (.ref a0), some (.int x1), some (.int x2), some (.int x3), some (.int x4)] [] σ K := by
  refine zw_go (pc1 := 46) (L1 := [some (.ref a0), some (.int x1), some (.int x2), some (.int x3), some (.int x4)]) (st1 := [.int x4]) (σ1 := σ) zM_X7_list dX7_list_44 rfl rfl rfl rfl ?_
  refine zw_go (pc1 := 47) (L1 := [some (.ref a0), some (.int x1), some (.int x2), some (.int x3), some (.int x4)]) (st1 := [.int x2, .int x4]) (σ1 := σ) zM_X7_list dX7_list_46 rfl rfl rfl rfl ?_
  refine zw_icmp_ge (tgt := 70) zM_X7_list dX7_list_47 rfl rfl (fun q => ?_) (fun q => ?_)
  · replace h := h.1 q
    exact zw_weak2 h ⟨rfl, trivial⟩
  · replace h := h.2 q
    refine zw_go (pc1 := 51) (L1 := [some (.ref a0), some (.int x1), some (.int x2), some (.int x3), some (.int x4)]) (st1 := [.int x3]) (σ1 := σ) zM_X7_list dX7_list_50 rfl rfl rfl rfl ?_
    refine zw_sipush (v := 1000) zM_X7_list dX7_list_51 (by decide) ?_
    refine zw_icmp_ge (tgt := 70) zM_X7_list dX7_list_54 rfl rfl (fun q => ?_) (fun q => ?_)
    · replace h := h.1 q
      exact zw_weak2 h ⟨rfl, trivial⟩
    · replace h := h.2 q
      refine zw_go (pc1 := 58) (L1 := [some (.ref a0), some (.int x1), some (.int x2), some (.int x3), some (.int x4)]) (st1 := [.ref a0]) (σ1 := σ) zM_X7_list dX7_list_57 rfl rfl rfl rfl ?_
      refine zw_go (pc1 := 59) (L1 := [some (.ref a0), some (.int x1), some (.int x2), some (.int x3), some (.int x4)]) (st1 := [.int x1, .ref a0]) (σ1 := σ) zM_X7_list dX7_list_58 rfl rfl rfl rfl ?_
      refine zw_go (pc1 := 60) (L1 := [some (.ref a0), some (.int x1), some (.int x2), some (.int x3), some (.int x4)]) (st1 := [.int x3, .int x1, .ref a0]) (σ1 := σ) zM_X7_list dX7_list_59 rfl rfl rfl rfl ?_
      obtain ⟨hk1, h⟩ := h
      refine zw_callI (as := [.ref a0, .int x1, .int x3]) (rest := []) zM_X7_list dX7_list_60 (zx_calV zC_7_287) zM_X7_nextIn rfl rfl rfl rfl rfl (zx_args0 hk1 rfl) rfl h (fun v3 σ2 h => ?_)
      refine zw_go (pc1 := 64) (L1 := [some (.ref a0), some (.int x1), some (.int x2), some (.int v3), some (.int x4)]) (st1 := []) (σ1 := σ2) zM_X7_list dX7_list_63 rfl rfl rfl rfl ?_
      refine zw_go (pc1 := 67) (L1 := [some (.ref a0), some (.int x1), some (.int x2), some (.int v3), some (.int (x4 + Int32.ofInt 1))]) (st1 := []) (σ1 := σ2) zM_X7_list dX7_list_64 rfl rfl rfl rfl ?_
      refine zw_goto (tgt := 44) zM_X7_list dX7_list_67 rfl ?_
      exact zw_weak2 h ⟨rfl, rfl, rfl, rfl, rfl, trivial⟩
set_option maxHeartbeats 4000000 in
set_option maxRecDepth 100000 in
theorem vc_X7_list_70 (x3 : Int32) (σ : zx_S) (K : Int32 → zx_S → Prop) (h : (((1000 : Int32) ≤ x3 → K 0 σ) ∧ (¬ (1000 : Int32) ≤ x3 → K x3 σ))) : zwI 177 70 [none, none, none, some (.int x3), none] [] σ K := by
  refine zw_go (pc1 := 71) (L1 := [none, none, none, some (.int x3), none]) (st1 := [.int x3]) (σ1 := σ) zM_X7_list dX7_list_70 rfl rfl rfl rfl ?_
  refine zw_sipush (v := 1000) zM_X7_list dX7_list_71 (by decide) ?_
  refine zw_icmp_ge (tgt := 81) zM_X7_list dX7_list_74 rfl rfl (fun q => ?_) (fun q => ?_)
  · replace h := h.1 q
    refine zw_iconst (v := 0) zM_X7_list dX7_list_81 (by decide) ?_
    exact zw_reti zM_X7_list dX7_list_82 rfl h
  · replace h := h.2 q
    refine zw_go (pc1 := 78) (L1 := [none, none, none, some (.int x3), none]) (st1 := [.int x3]) (σ1 := σ) zM_X7_list dX7_list_77 rfl rfl rfl rfl ?_
    refine zw_goto (tgt := 82) zM_X7_list dX7_list_78 rfl ?_
    exact zw_reti zM_X7_list dX7_list_82 rfl h
set_option maxHeartbeats 4000000 in
set_option maxRecDepth 100000 in
theorem vc_X7_load_0 (a0 : Nat) (σ : zx_S) (K : Int32 → zx_S → Prop) (h : zK σ a0 = 20 ∧ ∀ σ2 : zx_S, σ2 = zx_pI σ a0 0 0 → ((¬ (zI σ2 a0 11) = (3 : Int32) → zwI 178 18 [some (.ref a0), some (.int 0)] [] σ2 K) ∧ ((zI σ2 a0 11) = (3 : Int32) → K (-4) σ2))) : zwI 178 0 [some (.ref a0), none] [] σ K := by
  refine zw_go (pc1 := 1) (L1 := [some (.ref a0), none]) (st1 := [.ref a0]) (σ1 := σ) zM_X7_load dX7_load_0 rfl rfl rfl rfl ?_
  refine zw_iconst (v := 0) zM_X7_load dX7_load_1 (by decide) ?_
  obtain ⟨hk1, h⟩ := h
  obtain ⟨σ2, e3⟩ : ∃ z9 : zx_S, z9 = zx_pI σ a0 0 0 := ⟨_, rfl⟩
  replace h := h σ2 e3
  refine zw_putI zM_X7_load dX7_load_2 zF_7_98 rfl rfl hk1 e3 ?_
  refine zw_go (pc1 := 6) (L1 := [some (.ref a0), none]) (st1 := [.ref a0]) (σ1 := σ2) zM_X7_load dX7_load_5 rfl rfl rfl rfl ?_
  refine zw_getI zM_X7_load dX7_load_6 zF_7_168 rfl (by rw [e3]; exact hk1) ?_
  refine zw_iconst (v := 3) zM_X7_load dX7_load_9 (by decide) ?_
  refine zw_icmp_ne (tgt := 16) zM_X7_load dX7_load_10 rfl rfl (fun q => ?_) (fun q => ?_)
  · replace h := h.1 q
    refine zw_iconst (v := 0) zM_X7_load dX7_load_16 (by decide) ?_
    refine zw_go (pc1 := 18) (L1 := [some (.ref a0), some (.int 0)]) (st1 := []) (σ1 := σ2) zM_X7_load dX7_load_17 rfl rfl rfl rfl ?_
    exact zw_weak2 h ⟨rfl, rfl, trivial⟩
  · replace h := h.2 q
    refine zw_bipush (v := (-4)) zM_X7_load dX7_load_13 (by decide) ?_
    exact zw_reti zM_X7_load dX7_load_15 rfl h
set_option maxHeartbeats 4000000 in
set_option maxRecDepth 100000 in
theorem vc_X7_load_18 (a0 : Nat) (x1 : Int32) (σ : zx_S) (K : Int32 → zx_S → Prop) (h : zK σ a0 = 20 ∧ (((zI σ a0 34) ≤ x1 → ∃ b2 : Nat, zR σ a0 13 = some b2 ∧ zK σ b2 = 1 ∧ zx_in (zI σ a0 11) (zN σ b2) = true ∧ ∀ σ6 : zx_S, σ6 = zx_pI σ b2 (Int32.toNatClampNeg (zI σ a0 11)) (zI σ a0 34) → ∀ σ8 : zx_S, σ8 = zx_pI σ6 a0 34 0 → zwI 172 0 [some (.ref a0), some (.int (zI σ8 a0 11)), none, none, none] [] σ8 (fun v11 σ10 => ((v11 ≤ (0 : Int32) → zK σ10 a0 = 20 ∧ ∀ σ13 : zx_S, σ13 = zx_pI σ10 a0 11 ((zI σ10 a0 11) + 1) → K ((zI σ13 a0 11) - 1) σ13) ∧ (¬ v11 ≤ (0 : Int32) → K ((-10) - v11) σ10)))) ∧ (¬ (zI σ a0 34) ≤ x1 → ∃ b15 : Nat, zR σ a0 12 = some b15 ∧ ∃ b17 : Nat, zR σ a0 33 = some b17 ∧ zK σ b17 = 1 ∧ zx_in x1 (zN σ b17) = true ∧ zK σ b15 = 1 ∧ zx_in ((6000 * (zI σ a0 11)) + x1) (zN σ b15) = true ∧ ∀ σ23 : zx_S, σ23 = zx_pI σ b15 (Int32.toNatClampNeg ((6000 * (zI σ a0 11)) + x1)) (zI σ b17 (Int32.toNatClampNeg x1)) → zwI 178 18 [some (.ref a0), some (.int (x1 + Int32.ofInt 1))] [] σ23 K))) : zwI 178 18 [some (.ref a0), some (.int x1)] [] σ K := by
  refine zw_go (pc1 := 19) (L1 := [some (.ref a0), some (.int x1)]) (st1 := [.int x1]) (σ1 := σ) zM_X7_load dX7_load_18 rfl rfl rfl rfl ?_
  refine zw_go (pc1 := 20) (L1 := [some (.ref a0), some (.int x1)]) (st1 := [.ref a0, .int x1]) (σ1 := σ) zM_X7_load dX7_load_19 rfl rfl rfl rfl ?_
  obtain ⟨hk1, h⟩ := h
  refine zw_getI zM_X7_load dX7_load_20 zF_7_195 rfl hk1 ?_
  refine zw_icmp_ge (tgt := 53) zM_X7_load dX7_load_23 rfl rfl (fun q => ?_) (fun q => ?_)
  · replace h := h.1 q
    refine zw_go (pc1 := 54) (L1 := [some (.ref a0), some (.int x1)]) (st1 := [.ref a0]) (σ1 := σ) zM_X7_load dX7_load_53 rfl rfl rfl rfl ?_
    obtain ⟨b2, hr3, h⟩ := h
    refine zw_getR (a := b2) zM_X7_load dX7_load_54 zF_7_37 rfl hk1 hr3 ?_
    refine zw_go (pc1 := 58) (L1 := [some (.ref a0), some (.int x1)]) (st1 := [.ref a0, .ref b2]) (σ1 := σ) zM_X7_load dX7_load_57 rfl rfl rfl rfl ?_
    refine zw_getI zM_X7_load dX7_load_58 zF_7_168 rfl hk1 ?_
    refine zw_go (pc1 := 62) (L1 := [some (.ref a0), some (.int x1)]) (st1 := [.ref a0, .int (zI σ a0 11), .ref b2]) (σ1 := σ) zM_X7_load dX7_load_61 rfl rfl rfl rfl ?_
    refine zw_getI zM_X7_load dX7_load_62 zF_7_195 rfl hk1 ?_
    obtain ⟨hk4, h⟩ := h
    obtain ⟨hi5, h⟩ := h
    obtain ⟨σ6, e7⟩ : ∃ z9 : zx_S, z9 = zx_pI σ b2 (Int32.toNatClampNeg (zI σ a0 11)) (zI σ a0 34) := ⟨_, rfl⟩
    replace h := h σ6 e7
    refine zw_iast zM_X7_load dX7_load_65 ⟨hk4, hi5⟩ e7 ?_
    refine zw_go (pc1 := 67) (L1 := [some (.ref a0), some (.int x1)]) (st1 := [.ref a0]) (σ1 := σ6) zM_X7_load dX7_load_66 rfl rfl rfl rfl ?_
    refine zw_iconst (v := 0) zM_X7_load dX7_load_67 (by decide) ?_
    obtain ⟨σ8, e9⟩ : ∃ z9 : zx_S, z9 = zx_pI σ6 a0 34 0 := ⟨_, rfl⟩
    replace h := h σ8 e9
    refine zw_putI zM_X7_load dX7_load_68 zF_7_195 rfl rfl (by rw [e7]; exact hk1) e9 ?_
    refine zw_go (pc1 := 72) (L1 := [some (.ref a0), some (.int x1)]) (st1 := [.ref a0]) (σ1 := σ8) zM_X7_load dX7_load_71 rfl rfl rfl rfl ?_
    refine zw_go (pc1 := 73) (L1 := [some (.ref a0), some (.int x1)]) (st1 := [.ref a0, .ref a0]) (σ1 := σ8) zM_X7_load dX7_load_72 rfl rfl rfl rfl ?_
    refine zw_getI zM_X7_load dX7_load_73 zF_7_168 rfl (by rw [e9, e7]; exact hk1) ?_
    refine zw_callI (as := [.ref a0, .int (zI σ8 a0 11)]) (rest := []) zM_X7_load dX7_load_76 (zx_calV zC_7_254) zM_X7_judge rfl rfl rfl rfl rfl (zx_args0 (by rw [e9, e7]; exact hk1) rfl) rfl h (fun v11 σ10 h => ?_)
    refine zw_go (pc1 := 80) (L1 := [some (.ref a0), some (.int v11)]) (st1 := []) (σ1 := σ10) zM_X7_load dX7_load_79 rfl rfl rfl rfl ?_
    refine zw_go (pc1 := 81) (L1 := [some (.ref a0), some (.int v11)]) (st1 := [.int v11]) (σ1 := σ10) zM_X7_load dX7_load_80 rfl rfl rfl rfl ?_
    refine zw_if_le (tgt := 89) zM_X7_load dX7_load_81 rfl rfl (fun q => ?_) (fun q => ?_)
    · replace h := h.1 q
      refine zw_go (pc1 := 90) (L1 := [some (.ref a0), some (.int v11)]) (st1 := [.ref a0]) (σ1 := σ10) zM_X7_load dX7_load_89 rfl rfl rfl rfl ?_
      refine zw_go (pc1 := 91) (L1 := [some (.ref a0), some (.int v11)]) (st1 := [.ref a0, .ref a0]) (σ1 := σ10) zM_X7_load dX7_load_90 rfl rfl rfl rfl ?_
      obtain ⟨hk12, h⟩ := h
      refine zw_getI zM_X7_load dX7_load_91 zF_7_168 rfl hk12 ?_
      refine zw_iconst (v := 1) zM_X7_load dX7_load_94 (by decide) ?_
      refine zw_go (pc1 := 96) (L1 := [some (.ref a0), some (.int v11)]) (st1 := [.int ((zI σ10 a0 11) + 1), .ref a0]) (σ1 := σ10) zM_X7_load dX7_load_95 rfl rfl rfl rfl ?_
      obtain ⟨σ13, e14⟩ : ∃ z9 : zx_S, z9 = zx_pI σ10 a0 11 ((zI σ10 a0 11) + 1) := ⟨_, rfl⟩
      replace h := h σ13 e14
      refine zw_putI zM_X7_load dX7_load_96 zF_7_168 rfl rfl hk12 e14 ?_
      refine zw_go (pc1 := 100) (L1 := [some (.ref a0), some (.int v11)]) (st1 := [.ref a0]) (σ1 := σ13) zM_X7_load dX7_load_99 rfl rfl rfl rfl ?_
      refine zw_getI zM_X7_load dX7_load_100 zF_7_168 rfl (by rw [e14]; exact hk12) ?_
      refine zw_iconst (v := 1) zM_X7_load dX7_load_103 (by decide) ?_
      refine zw_go (pc1 := 105) (L1 := [some (.ref a0), some (.int v11)]) (st1 := [.int ((zI σ13 a0 11) - 1)]) (σ1 := σ13) zM_X7_load dX7_load_104 rfl rfl rfl rfl ?_
      exact zw_reti zM_X7_load dX7_load_105 rfl h
    · replace h := h.2 q
      refine zw_bipush (v := (-10)) zM_X7_load dX7_load_84 (by decide) ?_
      refine zw_go (pc1 := 87) (L1 := [some (.ref a0), some (.int v11)]) (st1 := [.int v11, .int (-10)]) (σ1 := σ10) zM_X7_load dX7_load_86 rfl rfl rfl rfl ?_
      refine zw_go (pc1 := 88) (L1 := [some (.ref a0), some (.int v11)]) (st1 := [.int ((-10) - v11)]) (σ1 := σ10) zM_X7_load dX7_load_87 rfl rfl rfl rfl ?_
      exact zw_reti zM_X7_load dX7_load_88 rfl h
  · replace h := h.2 q
    refine zw_go (pc1 := 27) (L1 := [some (.ref a0), some (.int x1)]) (st1 := [.ref a0]) (σ1 := σ) zM_X7_load dX7_load_26 rfl rfl rfl rfl ?_
    obtain ⟨b15, hr16, h⟩ := h
    refine zw_getR (a := b15) zM_X7_load dX7_load_27 zF_7_34 rfl hk1 hr16 ?_
    refine zw_sipush (v := 6000) zM_X7_load dX7_load_30 (by decide) ?_
    refine zw_go (pc1 := 34) (L1 := [some (.ref a0), some (.int x1)]) (st1 := [.ref a0, .int 6000, .ref b15]) (σ1 := σ) zM_X7_load dX7_load_33 rfl rfl rfl rfl ?_
    refine zw_getI zM_X7_load dX7_load_34 zF_7_168 rfl hk1 ?_
    refine zw_go (pc1 := 38) (L1 := [some (.ref a0), some (.int x1)]) (st1 := [.int (6000 * (zI σ a0 11)), .ref b15]) (σ1 := σ) zM_X7_load dX7_load_37 rfl rfl rfl rfl ?_
    refine zw_go (pc1 := 39) (L1 := [some (.ref a0), some (.int x1)]) (st1 := [.int x1, .int (6000 * (zI σ a0 11)), .ref b15]) (σ1 := σ) zM_X7_load dX7_load_38 rfl rfl rfl rfl ?_
    refine zw_go (pc1 := 40) (L1 := [some (.ref a0), some (.int x1)]) (st1 := [.int ((6000 * (zI σ a0 11)) + x1), .ref b15]) (σ1 := σ) zM_X7_load dX7_load_39 rfl rfl rfl rfl ?_
    refine zw_go (pc1 := 41) (L1 := [some (.ref a0), some (.int x1)]) (st1 := [.ref a0, .int ((6000 * (zI σ a0 11)) + x1), .ref b15]) (σ1 := σ) zM_X7_load dX7_load_40 rfl rfl rfl rfl ?_
    obtain ⟨b17, hr18, h⟩ := h
    refine zw_getR (a := b17) zM_X7_load dX7_load_41 zF_7_79 rfl hk1 hr18 ?_
    refine zw_go (pc1 := 45) (L1 := [some (.ref a0), some (.int x1)]) (st1 := [.int x1, .ref b17, .int ((6000 * (zI σ a0 11)) + x1), .ref b15]) (σ1 := σ) zM_X7_load dX7_load_44 rfl rfl rfl rfl ?_
    obtain ⟨hk19, h⟩ := h
    obtain ⟨hi20, h⟩ := h
    refine zw_iald zM_X7_load dX7_load_45 ⟨Or.inl hk19, hi20⟩ ?_
    obtain ⟨hk21, h⟩ := h
    obtain ⟨hi22, h⟩ := h
    obtain ⟨σ23, e24⟩ : ∃ z9 : zx_S, z9 = zx_pI σ b15 (Int32.toNatClampNeg ((6000 * (zI σ a0 11)) + x1)) (zI σ b17 (Int32.toNatClampNeg x1)) := ⟨_, rfl⟩
    replace h := h σ23 e24
    refine zw_iast zM_X7_load dX7_load_46 ⟨hk21, hi22⟩ e24 ?_
    refine zw_go (pc1 := 50) (L1 := [some (.ref a0), some (.int (x1 + Int32.ofInt 1))]) (st1 := []) (σ1 := σ23) zM_X7_load dX7_load_47 rfl rfl rfl rfl ?_
    refine zw_goto (tgt := 18) zM_X7_load dX7_load_50 rfl ?_
    exact zw_weak2 h ⟨rfl, rfl, trivial⟩
set_option maxHeartbeats 4000000 in
set_option maxRecDepth 100000 in
theorem vc_X7_look_0 (a0 : Nat) (x1 : Int32) (x2 : Int32) (σ : zx_S) (K : Int32 → zx_S → Prop) (h : zK σ a0 = 20 ∧ ∀ σ2 : zx_S, σ2 = zx_pI σ a0 0 0 → zwI 171 0 [some (.ref a0), some (.int x1)] [] σ2 (fun v5 σ4 => ((¬ v5 = (0 : Int32) → zwI 160 0 [some (.int x2), some (.int 1), some (.int 999)] [] σ4 (fun v7 σ6 => ((¬ v7 = (0 : Int32) → zK σ6 a0 = 20 ∧ zwI 173 0 [some (.ref a0), some (.int x1)] [] σ6 (fun v10 σ9 => ((v10 = (1 : Int32) → zK σ9 a0 = 20 ∧ zwI 174 0 [some (.ref a0), some (.int x1), some (.int x2), none, none, none, none, none, none] [] σ9 (fun v13 σ12 => ((¬ v13 = (0 : Int32) → zwI 179 57 [some (.ref a0), none, none, some (.int v13), some (.int 0), none, none] [] σ12 K) ∧ (v13 = (0 : Int32) → K 0 σ12)))) ∧ (¬ v10 = (1 : Int32) → K (-3) σ9)))) ∧ (v7 = (0 : Int32) → K (-2) σ6)))) ∧ (v5 = (0 : Int32) → K (-1) σ4)))) : zwI 179 0 [some (.ref a0), some (.int x1), some (.int x2), none, none, none, none] [] σ K := by
  refine zw_go (pc1 := 1) (L1 := [some (.ref a0), some (.int x1), some (.int x2), none, none, none, none]) (st1 := [.ref a0]) (σ1 := σ) zM_X7_look dX7_look_0 rfl rfl rfl rfl ?_
  refine zw_iconst (v := 0) zM_X7_look dX7_look_1 (by decide) ?_
  obtain ⟨hk1, h⟩ := h
  obtain ⟨σ2, e3⟩ : ∃ z9 : zx_S, z9 = zx_pI σ a0 0 0 := ⟨_, rfl⟩
  replace h := h σ2 e3
  refine zw_putI zM_X7_look dX7_look_2 zF_7_98 rfl rfl hk1 e3 ?_
  refine zw_go (pc1 := 6) (L1 := [some (.ref a0), some (.int x1), some (.int x2), none, none, none, none]) (st1 := [.ref a0]) (σ1 := σ2) zM_X7_look dX7_look_5 rfl rfl rfl rfl ?_
  refine zw_go (pc1 := 7) (L1 := [some (.ref a0), some (.int x1), some (.int x2), none, none, none, none]) (st1 := [.int x1, .ref a0]) (σ1 := σ2) zM_X7_look dX7_look_6 rfl rfl rfl rfl ?_
  refine zw_callI (as := [.ref a0, .int x1]) (rest := []) zM_X7_look dX7_look_7 (zx_calV zC_7_278) zM_X7_isView rfl rfl rfl rfl rfl (zx_args0 (by rw [e3]; exact hk1) rfl) rfl h (fun v5 σ4 h => ?_)
  refine zw_if_ne (tgt := 15) zM_X7_look dX7_look_10 rfl rfl (fun q => ?_) (fun q => ?_)
  · replace h := h.1 q
    refine zw_go (pc1 := 16) (L1 := [some (.ref a0), some (.int x1), some (.int x2), none, none, none, none]) (st1 := [.int x2]) (σ1 := σ4) zM_X7_look dX7_look_15 rfl rfl rfl rfl ?_
    refine zw_iconst (v := 1) zM_X7_look dX7_look_16 (by decide) ?_
    refine zw_sipush (v := 999) zM_X7_look dX7_look_17 (by decide) ?_
    refine zw_callI (as := [.int x2, .int 1, .int 999]) (rest := []) zM_X7_look dX7_look_20 (zx_calS zC_7_101) zM_X7_in rfl rfl rfl rfl rfl rfl rfl h (fun v7 σ6 h => ?_)
    refine zw_if_ne (tgt := 29) zM_X7_look dX7_look_23 rfl rfl (fun q => ?_) (fun q => ?_)
    · replace h := h.1 q
      refine zw_go (pc1 := 30) (L1 := [some (.ref a0), some (.int x1), some (.int x2), none, none, none, none]) (st1 := [.ref a0]) (σ1 := σ6) zM_X7_look dX7_look_29 rfl rfl rfl rfl ?_
      refine zw_go (pc1 := 31) (L1 := [some (.ref a0), some (.int x1), some (.int x2), none, none, none, none]) (st1 := [.int x1, .ref a0]) (σ1 := σ6) zM_X7_look dX7_look_30 rfl rfl rfl rfl ?_
      obtain ⟨hk8, h⟩ := h
      refine zw_callI (as := [.ref a0, .int x1]) (rest := []) zM_X7_look dX7_look_31 (zx_calV zC_7_281) zM_X7_kindOf rfl rfl rfl rfl rfl (zx_args0 hk8 rfl) rfl h (fun v10 σ9 h => ?_)
      refine zw_iconst (v := 1) zM_X7_look dX7_look_34 (by decide) ?_
      refine zw_icmp_eq (tgt := 41) zM_X7_look dX7_look_35 rfl rfl (fun q => ?_) (fun q => ?_)
      · replace h := h.1 q
        refine zw_go (pc1 := 42) (L1 := [some (.ref a0), some (.int x1), some (.int x2), none, none, none, none]) (st1 := [.ref a0]) (σ1 := σ9) zM_X7_look dX7_look_41 rfl rfl rfl rfl ?_
        refine zw_go (pc1 := 43) (L1 := [some (.ref a0), some (.int x1), some (.int x2), none, none, none, none]) (st1 := [.int x1, .ref a0]) (σ1 := σ9) zM_X7_look dX7_look_42 rfl rfl rfl rfl ?_
        refine zw_go (pc1 := 44) (L1 := [some (.ref a0), some (.int x1), some (.int x2), none, none, none, none]) (st1 := [.int x2, .int x1, .ref a0]) (σ1 := σ9) zM_X7_look dX7_look_43 rfl rfl rfl rfl ?_
        obtain ⟨hk11, h⟩ := h
        refine zw_callI (as := [.ref a0, .int x1, .int x2]) (rest := []) zM_X7_look dX7_look_44 (zx_calV zC_7_284) zM_X7_leads rfl rfl rfl rfl rfl (zx_args0 hk11 rfl) rfl h (fun v13 σ12 h => ?_)
        refine zw_go (pc1 := 48) (L1 := [some (.ref a0), some (.int x1), some (.int x2), some (.int v13), none, none, none]) (st1 := []) (σ1 := σ12) zM_X7_look dX7_look_47 rfl rfl rfl rfl ?_
        refine zw_go (pc1 := 49) (L1 := [some (.ref a0), some (.int x1), some (.int x2), some (.int v13), none, none, none]) (st1 := [.int v13]) (σ1 := σ12) zM_X7_look dX7_look_48 rfl rfl rfl rfl ?_
        refine zw_if_ne (tgt := 54) zM_X7_look dX7_look_49 rfl rfl (fun q => ?_) (fun q => ?_)
        · replace h := h.1 q
          refine zw_iconst (v := 0) zM_X7_look dX7_look_54 (by decide) ?_
          refine zw_go (pc1 := 57) (L1 := [some (.ref a0), some (.int x1), some (.int x2), some (.int v13), some (.int 0), none, none]) (st1 := []) (σ1 := σ12) zM_X7_look dX7_look_55 rfl rfl rfl rfl ?_
          exact zw_weak2 h ⟨rfl, rfl, rfl, trivial⟩
        · replace h := h.2 q
          refine zw_iconst (v := 0) zM_X7_look dX7_look_52 (by decide) ?_
          exact zw_reti zM_X7_look dX7_look_53 rfl h
      · replace h := h.2 q
        refine zw_bipush (v := (-3)) zM_X7_look dX7_look_38 (by decide) ?_
        exact zw_reti zM_X7_look dX7_look_40 rfl h
    · replace h := h.2 q
      refine zw_bipush (v := (-2)) zM_X7_look dX7_look_26 (by decide) ?_
      exact zw_reti zM_X7_look dX7_look_28 rfl h
  · replace h := h.2 q
    refine zw_iconst (v := (-1)) zM_X7_look dX7_look_13 (by decide) ?_
    exact zw_reti zM_X7_look dX7_look_14 rfl h
set_option maxHeartbeats 4000000 in
set_option maxRecDepth 100000 in
theorem vc_X7_look_57 (a0 : Nat) (x3 : Int32) (x4 : Int32) (σ : zx_S) (K : Int32 → zx_S → Prop) (h : zK σ a0 = 20 ∧ (((zI σ a0 37) ≤ x4 → ((¬ (zI σ a0 37) = (60 : Int32) → ∀ σ2 : zx_S, σ2 = zx_pI σ a0 37 ((zI σ a0 37) + 1) → K ((zI σ2 a0 37) - 1) σ2) ∧ ((zI σ a0 37) = (60 : Int32) → K (-4) σ))) ∧ (¬ (zI σ a0 37) ≤ x4 → ∃ b4 : Nat, zR σ a0 38 = some b4 ∧ zK σ b4 = 1 ∧ zx_in x4 (zN σ b4) = true ∧ ((¬ (zI σ b4 (Int32.toNatClampNeg x4)) = x3 → zwI 179 82 [some (.ref a0), none, none, some (.int x3), some (.int x4), none, none] [.int 0] σ K) ∧ ((zI σ b4 (Int32.toNatClampNeg x4)) = x3 → zwI 179 82 [some (.ref a0), none, none, some (.int x3), some (.int x4), none, none] [.int 1] σ K))))) : zwI 179 57 [some (.ref a0), none, none, some (.int x3), some (.int x4), none, none] [] σ K := by
  refine zw_go (pc1 := 59) (L1 := [some (.ref a0), none, none, some (.int x3), some (.int x4), none, none]) (st1 := [.int x4]) (σ1 := σ) zM_X7_look dX7_look_57 rfl rfl rfl rfl ?_
  refine zw_go (pc1 := 60) (L1 := [some (.ref a0), none, none, some (.int x3), some (.int x4), none, none]) (st1 := [.ref a0, .int x4]) (σ1 := σ) zM_X7_look dX7_look_59 rfl rfl rfl rfl ?_
  obtain ⟨hk1, h⟩ := h
  refine zw_getI zM_X7_look dX7_look_60 zF_7_269 rfl hk1 ?_
  refine zw_icmp_ge (tgt := 183) zM_X7_look dX7_look_63 rfl rfl (fun q => ?_) (fun q => ?_)
  · replace h := h.1 q
    refine zw_go (pc1 := 184) (L1 := [some (.ref a0), none, none, some (.int x3), some (.int x4), none, none]) (st1 := [.ref a0]) (σ1 := σ) zM_X7_look dX7_look_183 rfl rfl rfl rfl ?_
    refine zw_getI zM_X7_look dX7_look_184 zF_7_269 rfl hk1 ?_
    refine zw_bipush (v := 60) zM_X7_look dX7_look_187 (by decide) ?_
    refine zw_icmp_ne (tgt := 195) zM_X7_look dX7_look_189 rfl rfl (fun q => ?_) (fun q => ?_)
    · replace h := h.1 q
      refine zw_go (pc1 := 196) (L1 := [some (.ref a0), none, none, some (.int x3), some (.int x4), none, none]) (st1 := [.ref a0]) (σ1 := σ) zM_X7_look dX7_look_195 rfl rfl rfl rfl ?_
      refine zw_go (pc1 := 197) (L1 := [some (.ref a0), none, none, some (.int x3), some (.int x4), none, none]) (st1 := [.ref a0, .ref a0]) (σ1 := σ) zM_X7_look dX7_look_196 rfl rfl rfl rfl ?_
      refine zw_getI zM_X7_look dX7_look_197 zF_7_269 rfl hk1 ?_
      refine zw_iconst (v := 1) zM_X7_look dX7_look_200 (by decide) ?_
      refine zw_go (pc1 := 202) (L1 := [some (.ref a0), none, none, some (.int x3), some (.int x4), none, none]) (st1 := [.int ((zI σ a0 37) + 1), .ref a0]) (σ1 := σ) zM_X7_look dX7_look_201 rfl rfl rfl rfl ?_
      obtain ⟨σ2, e3⟩ : ∃ z9 : zx_S, z9 = zx_pI σ a0 37 ((zI σ a0 37) + 1) := ⟨_, rfl⟩
      replace h := h σ2 e3
      refine zw_putI zM_X7_look dX7_look_202 zF_7_269 rfl rfl hk1 e3 ?_
      refine zw_go (pc1 := 206) (L1 := [some (.ref a0), none, none, some (.int x3), some (.int x4), none, none]) (st1 := [.ref a0]) (σ1 := σ2) zM_X7_look dX7_look_205 rfl rfl rfl rfl ?_
      refine zw_getI zM_X7_look dX7_look_206 zF_7_269 rfl (by rw [e3]; exact hk1) ?_
      refine zw_iconst (v := 1) zM_X7_look dX7_look_209 (by decide) ?_
      refine zw_go (pc1 := 211) (L1 := [some (.ref a0), none, none, some (.int x3), some (.int x4), none, none]) (st1 := [.int ((zI σ2 a0 37) - 1)]) (σ1 := σ2) zM_X7_look dX7_look_210 rfl rfl rfl rfl ?_
      exact zw_reti zM_X7_look dX7_look_211 rfl h
    · replace h := h.2 q
      refine zw_bipush (v := (-4)) zM_X7_look dX7_look_192 (by decide) ?_
      exact zw_reti zM_X7_look dX7_look_194 rfl h
  · replace h := h.2 q
    refine zw_go (pc1 := 67) (L1 := [some (.ref a0), none, none, some (.int x3), some (.int x4), none, none]) (st1 := [.ref a0]) (σ1 := σ) zM_X7_look dX7_look_66 rfl rfl rfl rfl ?_
    obtain ⟨b4, hr5, h⟩ := h
    refine zw_getR (a := b4) zM_X7_look dX7_look_67 zF_7_85 rfl hk1 hr5 ?_
    refine zw_go (pc1 := 72) (L1 := [some (.ref a0), none, none, some (.int x3), some (.int x4), none, none]) (st1 := [.int x4, .ref b4]) (σ1 := σ) zM_X7_look dX7_look_70 rfl rfl rfl rfl ?_
    obtain ⟨hk6, h⟩ := h
    obtain ⟨hi7, h⟩ := h
    refine zw_iald zM_X7_look dX7_look_72 ⟨Or.inl hk6, hi7⟩ ?_
    refine zw_go (pc1 := 74) (L1 := [some (.ref a0), none, none, some (.int x3), some (.int x4), none, none]) (st1 := [.int x3, .int (zI σ b4 (Int32.toNatClampNeg x4))]) (σ1 := σ) zM_X7_look dX7_look_73 rfl rfl rfl rfl ?_
    refine zw_icmp_ne (tgt := 81) zM_X7_look dX7_look_74 rfl rfl (fun q => ?_) (fun q => ?_)
    · replace h := h.1 q
      refine zw_iconst (v := 0) zM_X7_look dX7_look_81 (by decide) ?_
      exact zw_weak2 h ⟨rfl, rfl, rfl, trivial⟩
    · replace h := h.2 q
      refine zw_iconst (v := 1) zM_X7_look dX7_look_77 (by decide) ?_
      refine zw_goto (tgt := 82) zM_X7_look dX7_look_78 rfl ?_
      exact zw_weak2 h ⟨rfl, rfl, rfl, trivial⟩
set_option maxHeartbeats 4000000 in
set_option maxRecDepth 100000 in
theorem vc_X7_look_82 (a0 : Nat) (x3 : Int32) (x4 : Int32) (y0 : Int32) (σ : zx_S) (K : Int32 → zx_S → Prop) (h : zwI 179 87 [some (.ref a0), none, none, some (.int x3), some (.int x4), some (.int y0), some (.int 0)] [] σ K) : zwI 179 82 [some (.ref a0), none, none, some (.int x3), some (.int x4), none, none] [.int y0] σ K := by
  refine zw_go (pc1 := 84) (L1 := [some (.ref a0), none, none, some (.int x3), some (.int x4), some (.int y0), none]) (st1 := []) (σ1 := σ) zM_X7_look dX7_look_82 rfl rfl rfl rfl ?_
  refine zw_iconst (v := 0) zM_X7_look dX7_look_84 (by decide) ?_
  refine zw_go (pc1 := 87) (L1 := [some (.ref a0), none, none, some (.int x3), some (.int x4), some (.int y0), some (.int 0)]) (st1 := []) (σ1 := σ) zM_X7_look dX7_look_85 rfl rfl rfl rfl ?_
  exact zw_weak2 h ⟨rfl, rfl, rfl, rfl, rfl, trivial⟩
set_option maxHeartbeats 4000000 in
set_option maxRecDepth 100000 in
theorem vc_X7_look_87 (a0 : Nat) (x3 : Int32) (x4 : Int32) (x5 : Int32) (x6 : Int32) (σ : zx_S) (K : Int32 → zx_S → Prop) (h : ((x3 ≤ x6 → zwI 179 169 [some (.ref a0), none, none, some (.int x3), some (.int x4), some (.int x5), none] [] σ K) ∧ (¬ x3 ≤ x6 → ((x5 = (0 : Int32) → zwI 179 169 [some (.ref a0), none, none, some (.int x3), some (.int x4), some (.int x5), none] [] σ K) ∧ (¬ x5 = (0 : Int32) → zK σ a0 = 20 ∧ ∃ b2 : Nat, zR σ a0 39 = some b2 ∧ zK σ b2 = 1 ∧ zx_in ((3 * x4) + x6) (zN σ b2) = true ∧ zx_in ((3 * (zI σ a0 37)) + x6) (zN σ b2) = true ∧ ((¬ (zI σ b2 (Int32.toNatClampNeg ((3 * x4) + x6))) = (zI σ b2 (Int32.toNatClampNeg ((3 * (zI σ a0 37)) + x6))) → zwI 179 160 [some (.ref a0), none, none, some (.int x3), some (.int x4), none, some (.int x6)] [] σ K) ∧ ((zI σ b2 (Int32.toNatClampNeg ((3 * x4) + x6))) = (zI σ b2 (Int32.toNatClampNeg ((3 * (zI σ a0 37)) + x6))) → ∃ b7 : Nat, zR σ a0 40 = some b7 ∧ zK σ b7 = 1 ∧ zx_in ((3 * x4) + x6) (zN σ b7) = true ∧ zx_in ((3 * (zI σ a0 37)) + x6) (zN σ b7) = true ∧ ((¬ (zI σ b7 (Int32.toNatClampNeg ((3 * x4) + x6))) = (zI σ b7 (Int32.toNatClampNeg ((3 * (zI σ a0 37)) + x6))) → zwI 179 160 [some (.ref a0), none, none, some (.int x3), some (.int x4), none, some (.int x6)] [] σ K) ∧ ((zI σ b7 (Int32.toNatClampNeg ((3 * x4) + x6))) = (zI σ b7 (Int32.toNatClampNeg ((3 * (zI σ a0 37)) + x6))) → zwI 179 161 [some (.ref a0), none, none, some (.int x3), some (.int x4), none, some (.int x6)] [.int 1] σ K))))))))) : zwI 179 87 [some (.ref a0), none, none, some (.int x3), some (.int x4), some (.int x5), some (.int x6)] [] σ K := by
  refine zw_go (pc1 := 89) (L1 := [some (.ref a0), none, none, some (.int x3), some (.int x4), some (.int x5), some (.int x6)]) (st1 := [.int x6]) (σ1 := σ) zM_X7_look dX7_look_87 rfl rfl rfl rfl ?_
  refine zw_go (pc1 := 90) (L1 := [some (.ref a0), none, none, some (.int x3), some (.int x4), some (.int x5), some (.int x6)]) (st1 := [.int x3, .int x6]) (σ1 := σ) zM_X7_look dX7_look_89 rfl rfl rfl rfl ?_
  refine zw_icmp_ge (tgt := 169) zM_X7_look dX7_look_90 rfl rfl (fun q => ?_) (fun q => ?_)
  · replace h := h.1 q
    exact zw_weak2 h ⟨rfl, rfl, rfl, rfl, trivial⟩
  · replace h := h.2 q
    refine zw_go (pc1 := 95) (L1 := [some (.ref a0), none, none, some (.int x3), some (.int x4), some (.int x5), some (.int x6)]) (st1 := [.int x5]) (σ1 := σ) zM_X7_look dX7_look_93 rfl rfl rfl rfl ?_
    refine zw_if_eq (tgt := 169) zM_X7_look dX7_look_95 rfl rfl (fun q => ?_) (fun q => ?_)
    · replace h := h.1 q
      exact zw_weak2 h ⟨rfl, rfl, rfl, rfl, trivial⟩
    · replace h := h.2 q
      refine zw_go (pc1 := 99) (L1 := [some (.ref a0), none, none, some (.int x3), some (.int x4), some (.int x5), some (.int x6)]) (st1 := [.ref a0]) (σ1 := σ) zM_X7_look dX7_look_98 rfl rfl rfl rfl ?_
      obtain ⟨hk1, h⟩ := h
      obtain ⟨b2, hr3, h⟩ := h
      refine zw_getR (a := b2) zM_X7_look dX7_look_99 zF_7_88 rfl hk1 hr3 ?_
      refine zw_iconst (v := 3) zM_X7_look dX7_look_102 (by decide) ?_
      refine zw_go (pc1 := 105) (L1 := [some (.ref a0), none, none, some (.int x3), some (.int x4), some (.int x5), some (.int x6)]) (st1 := [.int x4, .int 3, .ref b2]) (σ1 := σ) zM_X7_look dX7_look_103 rfl rfl rfl rfl ?_
      refine zw_go (pc1 := 106) (L1 := [some (.ref a0), none, none, some (.int x3), some (.int x4), some (.int x5), some (.int x6)]) (st1 := [.int (3 * x4), .ref b2]) (σ1 := σ) zM_X7_look dX7_look_105 rfl rfl rfl rfl ?_
      refine zw_go (pc1 := 108) (L1 := [some (.ref a0), none, none, some (.int x3), some (.int x4), some (.int x5), some (.int x6)]) (st1 := [.int x6, .int (3 * x4), .ref b2]) (σ1 := σ) zM_X7_look dX7_look_106 rfl rfl rfl rfl ?_
      refine zw_go (pc1 := 109) (L1 := [some (.ref a0), none, none, some (.int x3), some (.int x4), some (.int x5), some (.int x6)]) (st1 := [.int ((3 * x4) + x6), .ref b2]) (σ1 := σ) zM_X7_look dX7_look_108 rfl rfl rfl rfl ?_
      obtain ⟨hk4, h⟩ := h
      obtain ⟨hi5, h⟩ := h
      refine zw_iald zM_X7_look dX7_look_109 ⟨Or.inl hk4, hi5⟩ ?_
      refine zw_go (pc1 := 111) (L1 := [some (.ref a0), none, none, some (.int x3), some (.int x4), some (.int x5), some (.int x6)]) (st1 := [.ref a0, .int (zI σ b2 (Int32.toNatClampNeg ((3 * x4) + x6)))]) (σ1 := σ) zM_X7_look dX7_look_110 rfl rfl rfl rfl ?_
      refine zw_getR (a := b2) zM_X7_look dX7_look_111 zF_7_88 rfl hk1 hr3 ?_
      refine zw_iconst (v := 3) zM_X7_look dX7_look_114 (by decide) ?_
      refine zw_go (pc1 := 116) (L1 := [some (.ref a0), none, none, some (.int x3), some (.int x4), some (.int x5), some (.int x6)]) (st1 := [.ref a0, .int 3, .ref b2, .int (zI σ b2 (Int32.toNatClampNeg ((3 * x4) + x6)))]) (σ1 := σ) zM_X7_look dX7_look_115 rfl rfl rfl rfl ?_
      refine zw_getI zM_X7_look dX7_look_116 zF_7_269 rfl hk1 ?_
      refine zw_go (pc1 := 120) (L1 := [some (.ref a0), none, none, some (.int x3), some (.int x4), some (.int x5), some (.int x6)]) (st1 := [.int (3 * (zI σ a0 37)), .ref b2, .int (zI σ b2 (Int32.toNatClampNeg ((3 * x4) + x6)))]) (σ1 := σ) zM_X7_look dX7_look_119 rfl rfl rfl rfl ?_
      refine zw_go (pc1 := 122) (L1 := [some (.ref a0), none, none, some (.int x3), some (.int x4), some (.int x5), some (.int x6)]) (st1 := [.int x6, .int (3 * (zI σ a0 37)), .ref b2, .int (zI σ b2 (Int32.toNatClampNeg ((3 * x4) + x6)))]) (σ1 := σ) zM_X7_look dX7_look_120 rfl rfl rfl rfl ?_
      refine zw_go (pc1 := 123) (L1 := [some (.ref a0), none, none, some (.int x3), some (.int x4), some (.int x5), some (.int x6)]) (st1 := [.int ((3 * (zI σ a0 37)) + x6), .ref b2, .int (zI σ b2 (Int32.toNatClampNeg ((3 * x4) + x6)))]) (σ1 := σ) zM_X7_look dX7_look_122 rfl rfl rfl rfl ?_
      obtain ⟨hi6, h⟩ := h
      refine zw_iald zM_X7_look dX7_look_123 ⟨Or.inl hk4, hi6⟩ ?_
      refine zw_icmp_ne (tgt := 160) zM_X7_look dX7_look_124 rfl rfl (fun q => ?_) (fun q => ?_)
      · replace h := h.1 q
        exact zw_weak2 h ⟨rfl, rfl, rfl, rfl, trivial⟩
      · replace h := h.2 q
        refine zw_go (pc1 := 128) (L1 := [some (.ref a0), none, none, some (.int x3), some (.int x4), some (.int x5), some (.int x6)]) (st1 := [.ref a0]) (σ1 := σ) zM_X7_look dX7_look_127 rfl rfl rfl rfl ?_
        obtain ⟨b7, hr8, h⟩ := h
        refine zw_getR (a := b7) zM_X7_look dX7_look_128 zF_7_91 rfl hk1 hr8 ?_
        refine zw_iconst (v := 3) zM_X7_look dX7_look_131 (by decide) ?_
        refine zw_go (pc1 := 134) (L1 := [some (.ref a0), none, none, some (.int x3), some (.int x4), some (.int x5), some (.int x6)]) (st1 := [.int x4, .int 3, .ref b7]) (σ1 := σ) zM_X7_look dX7_look_132 rfl rfl rfl rfl ?_
        refine zw_go (pc1 := 135) (L1 := [some (.ref a0), none, none, some (.int x3), some (.int x4), some (.int x5), some (.int x6)]) (st1 := [.int (3 * x4), .ref b7]) (σ1 := σ) zM_X7_look dX7_look_134 rfl rfl rfl rfl ?_
        refine zw_go (pc1 := 137) (L1 := [some (.ref a0), none, none, some (.int x3), some (.int x4), some (.int x5), some (.int x6)]) (st1 := [.int x6, .int (3 * x4), .ref b7]) (σ1 := σ) zM_X7_look dX7_look_135 rfl rfl rfl rfl ?_
        refine zw_go (pc1 := 138) (L1 := [some (.ref a0), none, none, some (.int x3), some (.int x4), some (.int x5), some (.int x6)]) (st1 := [.int ((3 * x4) + x6), .ref b7]) (σ1 := σ) zM_X7_look dX7_look_137 rfl rfl rfl rfl ?_
        obtain ⟨hk9, h⟩ := h
        obtain ⟨hi10, h⟩ := h
        refine zw_iald zM_X7_look dX7_look_138 ⟨Or.inl hk9, hi10⟩ ?_
        refine zw_go (pc1 := 140) (L1 := [some (.ref a0), none, none, some (.int x3), some (.int x4), some (.int x5), some (.int x6)]) (st1 := [.ref a0, .int (zI σ b7 (Int32.toNatClampNeg ((3 * x4) + x6)))]) (σ1 := σ) zM_X7_look dX7_look_139 rfl rfl rfl rfl ?_
        refine zw_getR (a := b7) zM_X7_look dX7_look_140 zF_7_91 rfl hk1 hr8 ?_
        refine zw_iconst (v := 3) zM_X7_look dX7_look_143 (by decide) ?_
        refine zw_go (pc1 := 145) (L1 := [some (.ref a0), none, none, some (.int x3), some (.int x4), some (.int x5), some (.int x6)]) (st1 := [.ref a0, .int 3, .ref b7, .int (zI σ b7 (Int32.toNatClampNeg ((3 * x4) + x6)))]) (σ1 := σ) zM_X7_look dX7_look_144 rfl rfl rfl rfl ?_
        refine zw_getI zM_X7_look dX7_look_145 zF_7_269 rfl hk1 ?_
        refine zw_go (pc1 := 149) (L1 := [some (.ref a0), none, none, some (.int x3), some (.int x4), some (.int x5), some (.int x6)]) (st1 := [.int (3 * (zI σ a0 37)), .ref b7, .int (zI σ b7 (Int32.toNatClampNeg ((3 * x4) + x6)))]) (σ1 := σ) zM_X7_look dX7_look_148 rfl rfl rfl rfl ?_
        refine zw_go (pc1 := 151) (L1 := [some (.ref a0), none, none, some (.int x3), some (.int x4), some (.int x5), some (.int x6)]) (st1 := [.int x6, .int (3 * (zI σ a0 37)), .ref b7, .int (zI σ b7 (Int32.toNatClampNeg ((3 * x4) + x6)))]) (σ1 := σ) zM_X7_look dX7_look_149 rfl rfl rfl rfl ?_
        refine zw_go (pc1 := 152) (L1 := [some (.ref a0), none, none, some (.int x3), some (.int x4), some (.int x5), some (.int x6)]) (st1 := [.int ((3 * (zI σ a0 37)) + x6), .ref b7, .int (zI σ b7 (Int32.toNatClampNeg ((3 * x4) + x6)))]) (σ1 := σ) zM_X7_look dX7_look_151 rfl rfl rfl rfl ?_
        obtain ⟨hi11, h⟩ := h
        refine zw_iald zM_X7_look dX7_look_152 ⟨Or.inl hk9, hi11⟩ ?_
        refine zw_icmp_ne (tgt := 160) zM_X7_look dX7_look_153 rfl rfl (fun q => ?_) (fun q => ?_)
        · replace h := h.1 q
          exact zw_weak2 h ⟨rfl, rfl, rfl, rfl, trivial⟩
        · replace h := h.2 q
          refine zw_iconst (v := 1) zM_X7_look dX7_look_156 (by decide) ?_
          refine zw_goto (tgt := 161) zM_X7_look dX7_look_157 rfl ?_
          exact zw_weak2 h ⟨rfl, rfl, rfl, rfl, trivial⟩
set_option maxHeartbeats 4000000 in
set_option maxRecDepth 100000 in
theorem vc_X7_look_160 (a0 : Nat) (x3 : Int32) (x4 : Int32) (x6 : Int32) (σ : zx_S) (K : Int32 → zx_S → Prop) (h : zwI 179 161 [some (.ref a0), none, none, some (.int x3), some (.int x4), none, some (.int x6)] [.int 0] σ K) : zwI 179 160 [some (.ref a0), none, none, some (.int x3), some (.int x4), none, some (.int x6)] [] σ K := by
  refine zw_iconst (v := 0) zM_X7_look dX7_look_160 (by decide) ?_
  exact zw_weak2 h ⟨rfl, rfl, rfl, rfl, trivial⟩
set_option maxHeartbeats 4000000 in
set_option maxRecDepth 100000 in
theorem vc_X7_look_161 (a0 : Nat) (x3 : Int32) (x4 : Int32) (x6 : Int32) (y0 : Int32) (σ : zx_S) (K : Int32 → zx_S → Prop) (h : zwI 179 87 [some (.ref a0), none, none, some (.int x3), some (.int x4), some (.int y0), some (.int (x6 + Int32.ofInt 1))] [] σ K) : zwI 179 161 [some (.ref a0), none, none, some (.int x3), some (.int x4), none, some (.int x6)] [.int y0] σ K := by
  refine zw_go (pc1 := 163) (L1 := [some (.ref a0), none, none, some (.int x3), some (.int x4), some (.int y0), some (.int x6)]) (st1 := []) (σ1 := σ) zM_X7_look dX7_look_161 rfl rfl rfl rfl ?_
  refine zw_go (pc1 := 166) (L1 := [some (.ref a0), none, none, some (.int x3), some (.int x4), some (.int y0), some (.int (x6 + Int32.ofInt 1))]) (st1 := []) (σ1 := σ) zM_X7_look dX7_look_163 rfl rfl rfl rfl ?_
  refine zw_goto (tgt := 87) zM_X7_look dX7_look_166 rfl ?_
  exact zw_weak2 h ⟨rfl, rfl, rfl, rfl, rfl, trivial⟩
set_option maxHeartbeats 4000000 in
set_option maxRecDepth 100000 in
theorem vc_X7_look_169 (a0 : Nat) (x3 : Int32) (x4 : Int32) (x5 : Int32) (σ : zx_S) (K : Int32 → zx_S → Prop) (h : ((x5 = (0 : Int32) → zwI 179 57 [some (.ref a0), none, none, some (.int x3), some (.int (x4 + Int32.ofInt 1)), none, none] [] σ K) ∧ (¬ x5 = (0 : Int32) → K x4 σ))) : zwI 179 169 [some (.ref a0), none, none, some (.int x3), some (.int x4), some (.int x5), none] [] σ K := by
  refine zw_go (pc1 := 171) (L1 := [some (.ref a0), none, none, some (.int x3), some (.int x4), some (.int x5), none]) (st1 := [.int x5]) (σ1 := σ) zM_X7_look dX7_look_169 rfl rfl rfl rfl ?_
  refine zw_if_eq (tgt := 177) zM_X7_look dX7_look_171 rfl rfl (fun q => ?_) (fun q => ?_)
  · replace h := h.1 q
    refine zw_go (pc1 := 180) (L1 := [some (.ref a0), none, none, some (.int x3), some (.int (x4 + Int32.ofInt 1)), some (.int x5), none]) (st1 := []) (σ1 := σ) zM_X7_look dX7_look_177 rfl rfl rfl rfl ?_
    refine zw_goto (tgt := 57) zM_X7_look dX7_look_180 rfl ?_
    exact zw_weak2 h ⟨rfl, rfl, rfl, trivial⟩
  · replace h := h.2 q
    refine zw_go (pc1 := 176) (L1 := [some (.ref a0), none, none, some (.int x3), some (.int x4), some (.int x5), none]) (st1 := [.int x4]) (σ1 := σ) zM_X7_look dX7_look_174 rfl rfl rfl rfl ?_
    exact zw_reti zM_X7_look dX7_look_176 rfl h
set_option maxHeartbeats 4000000 in
set_option maxRecDepth 100000 in
theorem vc_X7_manyOf_0 (a0 : Nat) (x1 : Int32) (x2 : Int32) (σ : zx_S) (K : Int32 → zx_S → Prop) (h : zK σ a0 = 20 ∧ zwI 162 0 [some (.ref a0), some (.int x1), some (.int x2)] [] σ (fun v3 σ2 => zK σ2 a0 = 20 ∧ zwI 210 0 [some (.ref a0), some (.int x1), some (.int (v3 + 8))] [] σ2 (fun v6 σ5 => K v6 σ5))) : zwI 180 0 [some (.ref a0), some (.int x1), some (.int x2)] [] σ K := by
  refine zw_go (pc1 := 1) (L1 := [some (.ref a0), some (.int x1), some (.int x2)]) (st1 := [.ref a0]) (σ1 := σ) zM_X7_manyOf dX7_manyOf_0 rfl rfl rfl rfl ?_
  refine zw_go (pc1 := 2) (L1 := [some (.ref a0), some (.int x1), some (.int x2)]) (st1 := [.int x1, .ref a0]) (σ1 := σ) zM_X7_manyOf dX7_manyOf_1 rfl rfl rfl rfl ?_
  refine zw_go (pc1 := 3) (L1 := [some (.ref a0), some (.int x1), some (.int x2)]) (st1 := [.ref a0, .int x1, .ref a0]) (σ1 := σ) zM_X7_manyOf dX7_manyOf_2 rfl rfl rfl rfl ?_
  refine zw_go (pc1 := 4) (L1 := [some (.ref a0), some (.int x1), some (.int x2)]) (st1 := [.int x1, .ref a0, .int x1, .ref a0]) (σ1 := σ) zM_X7_manyOf dX7_manyOf_3 rfl rfl rfl rfl ?_
  refine zw_go (pc1 := 5) (L1 := [some (.ref a0), some (.int x1), some (.int x2)]) (st1 := [.int x2, .int x1, .ref a0, .int x1, .ref a0]) (σ1 := σ) zM_X7_manyOf dX7_manyOf_4 rfl rfl rfl rfl ?_
  obtain ⟨hk1, h⟩ := h
  refine zw_callI (as := [.ref a0, .int x1, .int x2]) (rest := [.int x1, .ref a0]) zM_X7_manyOf dX7_manyOf_5 (zx_calV zC_7_226) zM_X7_inode rfl rfl rfl rfl rfl (zx_args0 hk1 rfl) rfl h (fun v3 σ2 h => ?_)
  refine zw_bipush (v := 8) zM_X7_manyOf dX7_manyOf_8 (by decide) ?_
  refine zw_go (pc1 := 11) (L1 := [some (.ref a0), some (.int x1), some (.int x2)]) (st1 := [.int (v3 + 8), .int x1, .ref a0]) (σ1 := σ2) zM_X7_manyOf dX7_manyOf_10 rfl rfl rfl rfl ?_
  obtain ⟨hk4, h⟩ := h
  refine zw_callI (as := [.ref a0, .int x1, .int (v3 + 8)]) (rest := []) zM_X7_manyOf dX7_manyOf_11 (zx_calV zC_7_201) zM_X7_word rfl rfl rfl rfl rfl (zx_args0 hk4 rfl) rfl h (fun v6 σ5 h => ?_)
  exact zw_reti zM_X7_manyOf dX7_manyOf_14 rfl h
set_option maxHeartbeats 4000000 in
set_option maxRecDepth 100000 in
theorem vc_X7_nameAt_0 (a0 : Nat) (x1 : Int32) (x2 : Int32) (σ : zx_S) (K : Int32 → zx_S → Prop) (h : zK σ a0 = 20 ∧ zwI 210 0 [some (.ref a0), some (.int x1), some (.int 8)] [] σ (fun v3 σ2 => zK σ2 a0 = 20 ∧ zwI 210 0 [some (.ref a0), some (.int x1), some (.int (v3 + (4 * x2)))] [] σ2 (fun v6 σ5 => K v6 σ5))) : zwI 181 0 [some (.ref a0), some (.int x1), some (.int x2)] [] σ K := by
  refine zw_go (pc1 := 1) (L1 := [some (.ref a0), some (.int x1), some (.int x2)]) (st1 := [.ref a0]) (σ1 := σ) zM_X7_nameAt dX7_nameAt_0 rfl rfl rfl rfl ?_
  refine zw_go (pc1 := 2) (L1 := [some (.ref a0), some (.int x1), some (.int x2)]) (st1 := [.int x1, .ref a0]) (σ1 := σ) zM_X7_nameAt dX7_nameAt_1 rfl rfl rfl rfl ?_
  refine zw_go (pc1 := 3) (L1 := [some (.ref a0), some (.int x1), some (.int x2)]) (st1 := [.ref a0, .int x1, .ref a0]) (σ1 := σ) zM_X7_nameAt dX7_nameAt_2 rfl rfl rfl rfl ?_
  refine zw_go (pc1 := 4) (L1 := [some (.ref a0), some (.int x1), some (.int x2)]) (st1 := [.int x1, .ref a0, .int x1, .ref a0]) (σ1 := σ) zM_X7_nameAt dX7_nameAt_3 rfl rfl rfl rfl ?_
  refine zw_bipush (v := 8) zM_X7_nameAt dX7_nameAt_4 (by decide) ?_
  obtain ⟨hk1, h⟩ := h
  refine zw_callI (as := [.ref a0, .int x1, .int 8]) (rest := [.int x1, .ref a0]) zM_X7_nameAt dX7_nameAt_6 (zx_calV zC_7_201) zM_X7_word rfl rfl rfl rfl rfl (zx_args0 hk1 rfl) rfl h (fun v3 σ2 h => ?_)
  refine zw_iconst (v := 4) zM_X7_nameAt dX7_nameAt_9 (by decide) ?_
  refine zw_go (pc1 := 11) (L1 := [some (.ref a0), some (.int x1), some (.int x2)]) (st1 := [.int x2, .int 4, .int v3, .int x1, .ref a0]) (σ1 := σ2) zM_X7_nameAt dX7_nameAt_10 rfl rfl rfl rfl ?_
  refine zw_go (pc1 := 12) (L1 := [some (.ref a0), some (.int x1), some (.int x2)]) (st1 := [.int (4 * x2), .int v3, .int x1, .ref a0]) (σ1 := σ2) zM_X7_nameAt dX7_nameAt_11 rfl rfl rfl rfl ?_
  refine zw_go (pc1 := 13) (L1 := [some (.ref a0), some (.int x1), some (.int x2)]) (st1 := [.int (v3 + (4 * x2)), .int x1, .ref a0]) (σ1 := σ2) zM_X7_nameAt dX7_nameAt_12 rfl rfl rfl rfl ?_
  obtain ⟨hk4, h⟩ := h
  refine zw_callI (as := [.ref a0, .int x1, .int (v3 + (4 * x2))]) (rest := []) zM_X7_nameAt dX7_nameAt_13 (zx_calV zC_7_201) zM_X7_word rfl rfl rfl rfl rfl (zx_args0 hk4 rfl) rfl h (fun v6 σ5 h => ?_)
  exact zw_reti zM_X7_nameAt dX7_nameAt_16 rfl h
set_option maxHeartbeats 4000000 in
set_option maxRecDepth 100000 in
theorem vc_X7_nameIt_0 (a0 : Nat) (x1 : Int32) (x2 : Int32) (x3 : Int32) (σ : zx_S) (K : zx_S → Prop) (h : zK σ a0 = 20 ∧ ∃ b2 : Nat, zR σ a0 8 = some b2 ∧ zK σ b2 = 1 ∧ zx_in (zI σ a0 7) (zN σ b2) = true ∧ ∀ σ6 : zx_S, σ6 = zx_pI σ b2 (Int32.toNatClampNeg (zI σ a0 7)) x1 → ∃ b8 : Nat, zR σ6 a0 9 = some b8 ∧ zK σ6 b8 = 1 ∧ zx_in (zI σ6 a0 7) (zN σ6 b8) = true ∧ ∀ σ12 : zx_S, σ12 = zx_pI σ6 b8 (Int32.toNatClampNeg (zI σ6 a0 7)) x2 → ∃ b14 : Nat, zR σ12 a0 10 = some b14 ∧ zK σ12 b14 = 1 ∧ zx_in (zI σ12 a0 7) (zN σ12 b14) = true ∧ ∀ σ18 : zx_S, σ18 = zx_pI σ12 b14 (Int32.toNatClampNeg (zI σ12 a0 7)) x3 → ∀ σ20 : zx_S, σ20 = zx_pI σ18 a0 7 ((zI σ18 a0 7) + 1) → K σ20) : zwV 182 0 [some (.ref a0), some (.int x1), some (.int x2), some (.int x3)] [] σ K := by
  refine zw_go (pc1 := 1) (L1 := [some (.ref a0), some (.int x1), some (.int x2), some (.int x3)]) (st1 := [.ref a0]) (σ1 := σ) zM_X7_nameIt dX7_nameIt_0 rfl rfl rfl rfl ?_
  obtain ⟨hk1, h⟩ := h
  obtain ⟨b2, hr3, h⟩ := h
  refine zw_getR (a := b2) zM_X7_nameIt dX7_nameIt_1 zF_7_25 rfl hk1 hr3 ?_
  refine zw_go (pc1 := 5) (L1 := [some (.ref a0), some (.int x1), some (.int x2), some (.int x3)]) (st1 := [.ref a0, .ref b2]) (σ1 := σ) zM_X7_nameIt dX7_nameIt_4 rfl rfl rfl rfl ?_
  refine zw_getI zM_X7_nameIt dX7_nameIt_5 zF_7_105 rfl hk1 ?_
  refine zw_go (pc1 := 9) (L1 := [some (.ref a0), some (.int x1), some (.int x2), some (.int x3)]) (st1 := [.int x1, .int (zI σ a0 7), .ref b2]) (σ1 := σ) zM_X7_nameIt dX7_nameIt_8 rfl rfl rfl rfl ?_
  obtain ⟨hk4, h⟩ := h
  obtain ⟨hi5, h⟩ := h
  obtain ⟨σ6, e7⟩ : ∃ z9 : zx_S, z9 = zx_pI σ b2 (Int32.toNatClampNeg (zI σ a0 7)) x1 := ⟨_, rfl⟩
  replace h := h σ6 e7
  refine zw_iast zM_X7_nameIt dX7_nameIt_9 ⟨hk4, hi5⟩ e7 ?_
  refine zw_go (pc1 := 11) (L1 := [some (.ref a0), some (.int x1), some (.int x2), some (.int x3)]) (st1 := [.ref a0]) (σ1 := σ6) zM_X7_nameIt dX7_nameIt_10 rfl rfl rfl rfl ?_
  obtain ⟨b8, hr9, h⟩ := h
  refine zw_getR (a := b8) zM_X7_nameIt dX7_nameIt_11 zF_7_28 rfl (by rw [e7]; exact hk1) hr9 ?_
  refine zw_go (pc1 := 15) (L1 := [some (.ref a0), some (.int x1), some (.int x2), some (.int x3)]) (st1 := [.ref a0, .ref b8]) (σ1 := σ6) zM_X7_nameIt dX7_nameIt_14 rfl rfl rfl rfl ?_
  refine zw_getI zM_X7_nameIt dX7_nameIt_15 zF_7_105 rfl (by rw [e7]; exact hk1) ?_
  refine zw_go (pc1 := 19) (L1 := [some (.ref a0), some (.int x1), some (.int x2), some (.int x3)]) (st1 := [.int x2, .int (zI σ6 a0 7), .ref b8]) (σ1 := σ6) zM_X7_nameIt dX7_nameIt_18 rfl rfl rfl rfl ?_
  obtain ⟨hk10, h⟩ := h
  obtain ⟨hi11, h⟩ := h
  obtain ⟨σ12, e13⟩ : ∃ z9 : zx_S, z9 = zx_pI σ6 b8 (Int32.toNatClampNeg (zI σ6 a0 7)) x2 := ⟨_, rfl⟩
  replace h := h σ12 e13
  refine zw_iast zM_X7_nameIt dX7_nameIt_19 ⟨hk10, hi11⟩ e13 ?_
  refine zw_go (pc1 := 21) (L1 := [some (.ref a0), some (.int x1), some (.int x2), some (.int x3)]) (st1 := [.ref a0]) (σ1 := σ12) zM_X7_nameIt dX7_nameIt_20 rfl rfl rfl rfl ?_
  obtain ⟨b14, hr15, h⟩ := h
  refine zw_getR (a := b14) zM_X7_nameIt dX7_nameIt_21 zF_7_31 rfl (by rw [e13, e7]; exact hk1) hr15 ?_
  refine zw_go (pc1 := 25) (L1 := [some (.ref a0), some (.int x1), some (.int x2), some (.int x3)]) (st1 := [.ref a0, .ref b14]) (σ1 := σ12) zM_X7_nameIt dX7_nameIt_24 rfl rfl rfl rfl ?_
  refine zw_getI zM_X7_nameIt dX7_nameIt_25 zF_7_105 rfl (by rw [e13, e7]; exact hk1) ?_
  refine zw_go (pc1 := 29) (L1 := [some (.ref a0), some (.int x1), some (.int x2), some (.int x3)]) (st1 := [.int x3, .int (zI σ12 a0 7), .ref b14]) (σ1 := σ12) zM_X7_nameIt dX7_nameIt_28 rfl rfl rfl rfl ?_
  obtain ⟨hk16, h⟩ := h
  obtain ⟨hi17, h⟩ := h
  obtain ⟨σ18, e19⟩ : ∃ z9 : zx_S, z9 = zx_pI σ12 b14 (Int32.toNatClampNeg (zI σ12 a0 7)) x3 := ⟨_, rfl⟩
  replace h := h σ18 e19
  refine zw_iast zM_X7_nameIt dX7_nameIt_29 ⟨hk16, hi17⟩ e19 ?_
  refine zw_go (pc1 := 31) (L1 := [some (.ref a0), some (.int x1), some (.int x2), some (.int x3)]) (st1 := [.ref a0]) (σ1 := σ18) zM_X7_nameIt dX7_nameIt_30 rfl rfl rfl rfl ?_
  refine zw_go (pc1 := 32) (L1 := [some (.ref a0), some (.int x1), some (.int x2), some (.int x3)]) (st1 := [.ref a0, .ref a0]) (σ1 := σ18) zM_X7_nameIt dX7_nameIt_31 rfl rfl rfl rfl ?_
  refine zw_getI zM_X7_nameIt dX7_nameIt_32 zF_7_105 rfl (by rw [e19, e13, e7]; exact hk1) ?_
  refine zw_iconst (v := 1) zM_X7_nameIt dX7_nameIt_35 (by decide) ?_
  refine zw_go (pc1 := 37) (L1 := [some (.ref a0), some (.int x1), some (.int x2), some (.int x3)]) (st1 := [.int ((zI σ18 a0 7) + 1), .ref a0]) (σ1 := σ18) zM_X7_nameIt dX7_nameIt_36 rfl rfl rfl rfl ?_
  obtain ⟨σ20, e21⟩ : ∃ z9 : zx_S, z9 = zx_pI σ18 a0 7 ((zI σ18 a0 7) + 1) := ⟨_, rfl⟩
  replace h := h σ20 e21
  refine zw_putI zM_X7_nameIt dX7_nameIt_37 zF_7_105 rfl rfl (by rw [e19, e13, e7]; exact hk1) e21 ?_
  exact zw_retv zM_X7_nameIt dX7_nameIt_40 rfl h
set_option maxHeartbeats 4000000 in
set_option maxRecDepth 100000 in
theorem vc_X7_named_0 (a0 : Nat) (x1 : Int32) (x2 : Int32) (x3 : Int32) (x4 : Int32) (σ : zx_S) (K : Int32 → zx_S → Prop) (h : zwI 183 6 [some (.ref a0), some (.int x1), some (.int x2), some (.int x3), some (.int x4), some (.int 0), some (.int 1), none, none] [] σ K) : zwI 183 0 [some (.ref a0), some (.int x1), some (.int x2), some (.int x3), some (.int x4), none, none, none, none] [] σ K := by
  refine zw_iconst (v := 0) zM_X7_named dX7_named_0 (by decide) ?_
  refine zw_go (pc1 := 3) (L1 := [some (.ref a0), some (.int x1), some (.int x2), some (.int x3), some (.int x4), some (.int 0), none, none, none]) (st1 := []) (σ1 := σ) zM_X7_named dX7_named_1 rfl rfl rfl rfl ?_
  refine zw_iconst (v := 1) zM_X7_named dX7_named_3 (by decide) ?_
  refine zw_go (pc1 := 6) (L1 := [some (.ref a0), some (.int x1), some (.int x2), some (.int x3), some (.int x4), some (.int 0), some (.int 1), none, none]) (st1 := []) (σ1 := σ) zM_X7_named dX7_named_4 rfl rfl rfl rfl ?_
  exact zw_weak2 h ⟨rfl, rfl, rfl, rfl, rfl, rfl, rfl, trivial⟩
set_option maxHeartbeats 4000000 in
set_option maxRecDepth 100000 in
theorem vc_X7_named_6 (a0 : Nat) (x1 : Int32) (x2 : Int32) (x3 : Int32) (x4 : Int32) (x5 : Int32) (x6 : Int32) (σ : zx_S) (K : Int32 → zx_S → Prop) (h : ((x2 < x6 → K x5 σ) ∧ (¬ x2 < x6 → zK σ a0 = 20 ∧ zwI 164 0 [some (.ref a0), some (.int x1), some (.int x6)] [] σ (fun v3 σ2 => ((v3 = (0 : Int32) → zwI 183 50 [some (.ref a0), some (.int x1), some (.int x2), some (.int x3), some (.int x4), some (.int x5), some (.int x6), none, none] [] σ2 K) ∧ (¬ v3 = (0 : Int32) → ((x4 = (0 : Int32) → zwI 183 46 [some (.ref a0), some (.int x1), some (.int x2), some (.int x3), some (.int x4), some (.int x5), some (.int x6), none, none] [] σ2 K) ∧ (¬ x4 = (0 : Int32) → zK σ2 a0 = 20 ∧ zwI 162 0 [some (.ref a0), some (.int x1), some (.int x3)] [] σ2 (fun v6 σ5 => zK σ5 a0 = 20 ∧ zwI 210 0 [some (.ref a0), some (.int x1), some (.int (v6 + 10))] [] σ5 (fun v9 σ8 => ((¬ v9 = x6 → zwI 183 50 [some (.ref a0), some (.int x1), some (.int x2), some (.int x3), some (.int x4), some (.int x5), some (.int x6), none, none] [] σ8 K) ∧ (v9 = x6 → zwI 183 46 [some (.ref a0), some (.int x1), some (.int x2), some (.int x3), some (.int x4), some (.int x5), some (.int x6), none, none] [] σ8 K)))))))))))) : zwI 183 6 [some (.ref a0), some (.int x1), some (.int x2), some (.int x3), some (.int x4), some (.int x5), some (.int x6), none, none] [] σ K := by
  refine zw_go (pc1 := 8) (L1 := [some (.ref a0), some (.int x1), some (.int x2), some (.int x3), some (.int x4), some (.int x5), some (.int x6), none, none]) (st1 := [.int x6]) (σ1 := σ) zM_X7_named dX7_named_6 rfl rfl rfl rfl ?_
  refine zw_go (pc1 := 9) (L1 := [some (.ref a0), some (.int x1), some (.int x2), some (.int x3), some (.int x4), some (.int x5), some (.int x6), none, none]) (st1 := [.int x2, .int x6]) (σ1 := σ) zM_X7_named dX7_named_8 rfl rfl rfl rfl ?_
  refine zw_icmp_gt (tgt := 114) zM_X7_named dX7_named_9 rfl rfl (fun q => ?_) (fun q => ?_)
  · replace h := h.1 q
    refine zw_go (pc1 := 116) (L1 := [some (.ref a0), some (.int x1), some (.int x2), some (.int x3), some (.int x4), some (.int x5), some (.int x6), none, none]) (st1 := [.int x5]) (σ1 := σ) zM_X7_named dX7_named_114 rfl rfl rfl rfl ?_
    exact zw_reti zM_X7_named dX7_named_116 rfl h
  · replace h := h.2 q
    refine zw_go (pc1 := 13) (L1 := [some (.ref a0), some (.int x1), some (.int x2), some (.int x3), some (.int x4), some (.int x5), some (.int x6), none, none]) (st1 := [.ref a0]) (σ1 := σ) zM_X7_named dX7_named_12 rfl rfl rfl rfl ?_
    refine zw_go (pc1 := 14) (L1 := [some (.ref a0), some (.int x1), some (.int x2), some (.int x3), some (.int x4), some (.int x5), some (.int x6), none, none]) (st1 := [.int x1, .ref a0]) (σ1 := σ) zM_X7_named dX7_named_13 rfl rfl rfl rfl ?_
    refine zw_go (pc1 := 16) (L1 := [some (.ref a0), some (.int x1), some (.int x2), some (.int x3), some (.int x4), some (.int x5), some (.int x6), none, none]) (st1 := [.int x6, .int x1, .ref a0]) (σ1 := σ) zM_X7_named dX7_named_14 rfl rfl rfl rfl ?_
    obtain ⟨hk1, h⟩ := h
    refine zw_callI (as := [.ref a0, .int x1, .int x6]) (rest := []) zM_X7_named dX7_named_16 (zx_calV zC_7_235) zM_X7_isFolder rfl rfl rfl rfl rfl (zx_args0 hk1 rfl) rfl h (fun v3 σ2 h => ?_)
    refine zw_if_eq (tgt := 50) zM_X7_named dX7_named_19 rfl rfl (fun q => ?_) (fun q => ?_)
    · replace h := h.1 q
      exact zw_weak2 h ⟨rfl, rfl, rfl, rfl, rfl, rfl, rfl, trivial⟩
    · replace h := h.2 q
      refine zw_go (pc1 := 24) (L1 := [some (.ref a0), some (.int x1), some (.int x2), some (.int x3), some (.int x4), some (.int x5), some (.int x6), none, none]) (st1 := [.int x4]) (σ1 := σ2) zM_X7_named dX7_named_22 rfl rfl rfl rfl ?_
      refine zw_if_eq (tgt := 46) zM_X7_named dX7_named_24 rfl rfl (fun q => ?_) (fun q => ?_)
      · replace h := h.1 q
        exact zw_weak2 h ⟨rfl, rfl, rfl, rfl, rfl, rfl, rfl, trivial⟩
      · replace h := h.2 q
        refine zw_go (pc1 := 28) (L1 := [some (.ref a0), some (.int x1), some (.int x2), some (.int x3), some (.int x4), some (.int x5), some (.int x6), none, none]) (st1 := [.ref a0]) (σ1 := σ2) zM_X7_named dX7_named_27 rfl rfl rfl rfl ?_
        refine zw_go (pc1 := 29) (L1 := [some (.ref a0), some (.int x1), some (.int x2), some (.int x3), some (.int x4), some (.int x5), some (.int x6), none, none]) (st1 := [.int x1, .ref a0]) (σ1 := σ2) zM_X7_named dX7_named_28 rfl rfl rfl rfl ?_
        refine zw_go (pc1 := 30) (L1 := [some (.ref a0), some (.int x1), some (.int x2), some (.int x3), some (.int x4), some (.int x5), some (.int x6), none, none]) (st1 := [.ref a0, .int x1, .ref a0]) (σ1 := σ2) zM_X7_named dX7_named_29 rfl rfl rfl rfl ?_
        refine zw_go (pc1 := 31) (L1 := [some (.ref a0), some (.int x1), some (.int x2), some (.int x3), some (.int x4), some (.int x5), some (.int x6), none, none]) (st1 := [.int x1, .ref a0, .int x1, .ref a0]) (σ1 := σ2) zM_X7_named dX7_named_30 rfl rfl rfl rfl ?_
        refine zw_go (pc1 := 32) (L1 := [some (.ref a0), some (.int x1), some (.int x2), some (.int x3), some (.int x4), some (.int x5), some (.int x6), none, none]) (st1 := [.int x3, .int x1, .ref a0, .int x1, .ref a0]) (σ1 := σ2) zM_X7_named dX7_named_31 rfl rfl rfl rfl ?_
        obtain ⟨hk4, h⟩ := h
        refine zw_callI (as := [.ref a0, .int x1, .int x3]) (rest := [.int x1, .ref a0]) zM_X7_named dX7_named_32 (zx_calV zC_7_226) zM_X7_inode rfl rfl rfl rfl rfl (zx_args0 hk4 rfl) rfl h (fun v6 σ5 h => ?_)
        refine zw_bipush (v := 10) zM_X7_named dX7_named_35 (by decide) ?_
        refine zw_go (pc1 := 38) (L1 := [some (.ref a0), some (.int x1), some (.int x2), some (.int x3), some (.int x4), some (.int x5), some (.int x6), none, none]) (st1 := [.int (v6 + 10), .int x1, .ref a0]) (σ1 := σ5) zM_X7_named dX7_named_37 rfl rfl rfl rfl ?_
        obtain ⟨hk7, h⟩ := h
        refine zw_callI (as := [.ref a0, .int x1, .int (v6 + 10)]) (rest := []) zM_X7_named dX7_named_38 (zx_calV zC_7_201) zM_X7_word rfl rfl rfl rfl rfl (zx_args0 hk7 rfl) rfl h (fun v9 σ8 h => ?_)
        refine zw_go (pc1 := 43) (L1 := [some (.ref a0), some (.int x1), some (.int x2), some (.int x3), some (.int x4), some (.int x5), some (.int x6), none, none]) (st1 := [.int x6, .int v9]) (σ1 := σ8) zM_X7_named dX7_named_41 rfl rfl rfl rfl ?_
        refine zw_icmp_ne (tgt := 50) zM_X7_named dX7_named_43 rfl rfl (fun q => ?_) (fun q => ?_)
        · replace h := h.1 q
          exact zw_weak2 h ⟨rfl, rfl, rfl, rfl, rfl, rfl, rfl, trivial⟩
        · replace h := h.2 q
          exact zw_weak2 h ⟨rfl, rfl, rfl, rfl, rfl, rfl, rfl, trivial⟩
set_option maxHeartbeats 4000000 in
set_option maxRecDepth 100000 in
theorem vc_X7_named_46 (a0 : Nat) (x1 : Int32) (x2 : Int32) (x3 : Int32) (x4 : Int32) (x5 : Int32) (x6 : Int32) (σ : zx_S) (K : Int32 → zx_S → Prop) (h : zwI 183 51 [some (.ref a0), some (.int x1), some (.int x2), some (.int x3), some (.int x4), some (.int x5), some (.int x6), none, none] [.int 1] σ K) : zwI 183 46 [some (.ref a0), some (.int x1), some (.int x2), some (.int x3), some (.int x4), some (.int x5), some (.int x6), none, none] [] σ K := by
  refine zw_iconst (v := 1) zM_X7_named dX7_named_46 (by decide) ?_
  refine zw_goto (tgt := 51) zM_X7_named dX7_named_47 rfl ?_
  exact zw_weak2 h ⟨rfl, rfl, rfl, rfl, rfl, rfl, rfl, trivial⟩
set_option maxHeartbeats 4000000 in
set_option maxRecDepth 100000 in
theorem vc_X7_named_50 (a0 : Nat) (x1 : Int32) (x2 : Int32) (x3 : Int32) (x4 : Int32) (x5 : Int32) (x6 : Int32) (σ : zx_S) (K : Int32 → zx_S → Prop) (h : zwI 183 51 [some (.ref a0), some (.int x1), some (.int x2), some (.int x3), some (.int x4), some (.int x5), some (.int x6), none, none] [.int 0] σ K) : zwI 183 50 [some (.ref a0), some (.int x1), some (.int x2), some (.int x3), some (.int x4), some (.int x5), some (.int x6), none, none] [] σ K := by
  refine zw_iconst (v := 0) zM_X7_named dX7_named_50 (by decide) ?_
  exact zw_weak2 h ⟨rfl, rfl, rfl, rfl, rfl, rfl, rfl, trivial⟩
set_option maxHeartbeats 4000000 in
set_option maxRecDepth 100000 in
theorem vc_X7_named_51 (a0 : Nat) (x1 : Int32) (x2 : Int32) (x3 : Int32) (x4 : Int32) (x5 : Int32) (x6 : Int32) (y0 : Int32) (σ : zx_S) (K : Int32 → zx_S → Prop) (h : zwI 183 56 [some (.ref a0), some (.int x1), some (.int x2), some (.int x3), some (.int x4), some (.int x5), some (.int x6), some (.int y0), some (.int 0)] [] σ K) : zwI 183 51 [some (.ref a0), some (.int x1), some (.int x2), some (.int x3), some (.int x4), some (.int x5), some (.int x6), none, none] [.int y0] σ K := by
  refine zw_go (pc1 := 53) (L1 := [some (.ref a0), some (.int x1), some (.int x2), some (.int x3), some (.int x4), some (.int x5), some (.int x6), some (.int y0), none]) (st1 := []) (σ1 := σ) zM_X7_named dX7_named_51 rfl rfl rfl rfl ?_
  refine zw_iconst (v := 0) zM_X7_named dX7_named_53 (by decide) ?_
  refine zw_go (pc1 := 56) (L1 := [some (.ref a0), some (.int x1), some (.int x2), some (.int x3), some (.int x4), some (.int x5), some (.int x6), some (.int y0), some (.int 0)]) (st1 := []) (σ1 := σ) zM_X7_named dX7_named_54 rfl rfl rfl rfl ?_
  exact zw_weak2 h ⟨rfl, rfl, rfl, rfl, rfl, rfl, rfl, rfl, rfl, trivial⟩
set_option maxHeartbeats 4000000 in
set_option maxRecDepth 100000 in
theorem vc_X7_named_56 (a0 : Nat) (x1 : Int32) (x2 : Int32) (x3 : Int32) (x4 : Int32) (x5 : Int32) (x6 : Int32) (x7 : Int32) (x8 : Int32) (σ : zx_S) (K : Int32 → zx_S → Prop) (h : ((x7 = (0 : Int32) → zwI 183 108 [some (.ref a0), some (.int x1), some (.int x2), some (.int x3), some (.int x4), some (.int x5), some (.int x6), none, none] [] σ K) ∧ (¬ x7 = (0 : Int32) → zK σ a0 = 20 ∧ zwI 180 0 [some (.ref a0), some (.int x1), some (.int x6)] [] σ (fun v3 σ2 => ((v3 ≤ x8 → zwI 183 108 [some (.ref a0), some (.int x1), some (.int x2), some (.int x3), some (.int x4), some (.int x5), some (.int x6), none, none] [] σ2 K) ∧ (¬ v3 ≤ x8 → zK σ2 a0 = 20 ∧ zwI 156 0 [some (.ref a0), some (.int x1), some (.int x6)] [] σ2 (fun v6 σ5 => zK σ5 a0 = 20 ∧ zwI 190 0 [some (.ref a0), some (.int x1), some (.int (v6 + x8))] [] σ5 (fun v9 σ8 => ((¬ v9 = x3 → zwI 183 99 [some (.ref a0), some (.int x1), some (.int x2), some (.int x3), some (.int x4), none, some (.int x6), some (.int x7), some (.int x8)] [.int 0, .int x5] σ8 K) ∧ (v9 = x3 → zwI 183 99 [some (.ref a0), some (.int x1), some (.int x2), some (.int x3), some (.int x4), none, some (.int x6), some (.int x7), some (.int x8)] [.int 1, .int x5] σ8 K)))))))))) : zwI 183 56 [some (.ref a0), some (.int x1), some (.int x2), some (.int x3), some (.int x4), some (.int x5), some (.int x6), some (.int x7), some (.int x8)] [] σ K := by
  refine zw_go (pc1 := 58) (L1 := [some (.ref a0), some (.int x1), some (.int x2), some (.int x3), some (.int x4), some (.int x5), some (.int x6), some (.int x7), some (.int x8)]) (st1 := [.int x7]) (σ1 := σ) zM_X7_named dX7_named_56 rfl rfl rfl rfl ?_
  refine zw_if_eq (tgt := 108) zM_X7_named dX7_named_58 rfl rfl (fun q => ?_) (fun q => ?_)
  · replace h := h.1 q
    exact zw_weak2 h ⟨rfl, rfl, rfl, rfl, rfl, rfl, rfl, trivial⟩
  · replace h := h.2 q
    refine zw_go (pc1 := 63) (L1 := [some (.ref a0), some (.int x1), some (.int x2), some (.int x3), some (.int x4), some (.int x5), some (.int x6), some (.int x7), some (.int x8)]) (st1 := [.int x8]) (σ1 := σ) zM_X7_named dX7_named_61 rfl rfl rfl rfl ?_
    refine zw_go (pc1 := 64) (L1 := [some (.ref a0), some (.int x1), some (.int x2), some (.int x3), some (.int x4), some (.int x5), some (.int x6), some (.int x7), some (.int x8)]) (st1 := [.ref a0, .int x8]) (σ1 := σ) zM_X7_named dX7_named_63 rfl rfl rfl rfl ?_
    refine zw_go (pc1 := 65) (L1 := [some (.ref a0), some (.int x1), some (.int x2), some (.int x3), some (.int x4), some (.int x5), some (.int x6), some (.int x7), some (.int x8)]) (st1 := [.int x1, .ref a0, .int x8]) (σ1 := σ) zM_X7_named dX7_named_64 rfl rfl rfl rfl ?_
    refine zw_go (pc1 := 67) (L1 := [some (.ref a0), some (.int x1), some (.int x2), some (.int x3), some (.int x4), some (.int x5), some (.int x6), some (.int x7), some (.int x8)]) (st1 := [.int x6, .int x1, .ref a0, .int x8]) (σ1 := σ) zM_X7_named dX7_named_65 rfl rfl rfl rfl ?_
    obtain ⟨hk1, h⟩ := h
    refine zw_callI (as := [.ref a0, .int x1, .int x6]) (rest := [.int x8]) zM_X7_named dX7_named_67 (zx_calV zC_7_238) zM_X7_manyOf rfl rfl rfl rfl rfl (zx_args0 hk1 rfl) rfl h (fun v3 σ2 h => ?_)
    refine zw_icmp_ge (tgt := 108) zM_X7_named dX7_named_70 rfl rfl (fun q => ?_) (fun q => ?_)
    · replace h := h.1 q
      exact zw_weak2 h ⟨rfl, rfl, rfl, rfl, rfl, rfl, rfl, trivial⟩
    · replace h := h.2 q
      refine zw_go (pc1 := 75) (L1 := [some (.ref a0), some (.int x1), some (.int x2), some (.int x3), some (.int x4), some (.int x5), some (.int x6), some (.int x7), some (.int x8)]) (st1 := [.int x5]) (σ1 := σ2) zM_X7_named dX7_named_73 rfl rfl rfl rfl ?_
      refine zw_go (pc1 := 76) (L1 := [some (.ref a0), some (.int x1), some (.int x2), some (.int x3), some (.int x4), some (.int x5), some (.int x6), some (.int x7), some (.int x8)]) (st1 := [.ref a0, .int x5]) (σ1 := σ2) zM_X7_named dX7_named_75 rfl rfl rfl rfl ?_
      refine zw_go (pc1 := 77) (L1 := [some (.ref a0), some (.int x1), some (.int x2), some (.int x3), some (.int x4), some (.int x5), some (.int x6), some (.int x7), some (.int x8)]) (st1 := [.int x1, .ref a0, .int x5]) (σ1 := σ2) zM_X7_named dX7_named_76 rfl rfl rfl rfl ?_
      refine zw_go (pc1 := 78) (L1 := [some (.ref a0), some (.int x1), some (.int x2), some (.int x3), some (.int x4), some (.int x5), some (.int x6), some (.int x7), some (.int x8)]) (st1 := [.ref a0, .int x1, .ref a0, .int x5]) (σ1 := σ2) zM_X7_named dX7_named_77 rfl rfl rfl rfl ?_
      refine zw_go (pc1 := 79) (L1 := [some (.ref a0), some (.int x1), some (.int x2), some (.int x3), some (.int x4), some (.int x5), some (.int x6), some (.int x7), some (.int x8)]) (st1 := [.int x1, .ref a0, .int x1, .ref a0, .int x5]) (σ1 := σ2) zM_X7_named dX7_named_78 rfl rfl rfl rfl ?_
      refine zw_go (pc1 := 81) (L1 := [some (.ref a0), some (.int x1), some (.int x2), some (.int x3), some (.int x4), some (.int x5), some (.int x6), some (.int x7), some (.int x8)]) (st1 := [.int x6, .int x1, .ref a0, .int x1, .ref a0, .int x5]) (σ1 := σ2) zM_X7_named dX7_named_79 rfl rfl rfl rfl ?_
      obtain ⟨hk4, h⟩ := h
      refine zw_callI (as := [.ref a0, .int x1, .int x6]) (rest := [.int x1, .ref a0, .int x5]) zM_X7_named dX7_named_81 (zx_calV zC_7_251) zM_X7_firstOf rfl rfl rfl rfl rfl (zx_args0 hk4 rfl) rfl h (fun v6 σ5 h => ?_)
      refine zw_go (pc1 := 86) (L1 := [some (.ref a0), some (.int x1), some (.int x2), some (.int x3), some (.int x4), some (.int x5), some (.int x6), some (.int x7), some (.int x8)]) (st1 := [.int x8, .int v6, .int x1, .ref a0, .int x5]) (σ1 := σ5) zM_X7_named dX7_named_84 rfl rfl rfl rfl ?_
      refine zw_go (pc1 := 87) (L1 := [some (.ref a0), some (.int x1), some (.int x2), some (.int x3), some (.int x4), some (.int x5), some (.int x6), some (.int x7), some (.int x8)]) (st1 := [.int (v6 + x8), .int x1, .ref a0, .int x5]) (σ1 := σ5) zM_X7_named dX7_named_86 rfl rfl rfl rfl ?_
      obtain ⟨hk7, h⟩ := h
      refine zw_callI (as := [.ref a0, .int x1, .int (v6 + x8)]) (rest := [.int x5]) zM_X7_named dX7_named_87 (zx_calV zC_7_244) zM_X7_numberAt rfl rfl rfl rfl rfl (zx_args0 hk7 rfl) rfl h (fun v9 σ8 h => ?_)
      refine zw_go (pc1 := 91) (L1 := [some (.ref a0), some (.int x1), some (.int x2), some (.int x3), some (.int x4), some (.int x5), some (.int x6), some (.int x7), some (.int x8)]) (st1 := [.int x3, .int v9, .int x5]) (σ1 := σ8) zM_X7_named dX7_named_90 rfl rfl rfl rfl ?_
      refine zw_icmp_ne (tgt := 98) zM_X7_named dX7_named_91 rfl rfl (fun q => ?_) (fun q => ?_)
      · replace h := h.1 q
        refine zw_iconst (v := 0) zM_X7_named dX7_named_98 (by decide) ?_
        exact zw_weak2 h ⟨rfl, rfl, rfl, rfl, rfl, rfl, rfl, rfl, trivial⟩
      · replace h := h.2 q
        refine zw_iconst (v := 1) zM_X7_named dX7_named_94 (by decide) ?_
        refine zw_goto (tgt := 99) zM_X7_named dX7_named_95 rfl ?_
        exact zw_weak2 h ⟨rfl, rfl, rfl, rfl, rfl, rfl, rfl, rfl, trivial⟩
set_option maxHeartbeats 4000000 in
set_option maxRecDepth 100000 in
theorem vc_X7_named_99 (a0 : Nat) (x1 : Int32) (x2 : Int32) (x3 : Int32) (x4 : Int32) (x6 : Int32) (x7 : Int32) (x8 : Int32) (y0 : Int32) (y1 : Int32) (σ : zx_S) (K : Int32 → zx_S → Prop) (h : zwI 183 56 [some (.ref a0), some (.int x1), some (.int x2), some (.int x3), some (.int x4), some (.int (y1 + y0)), some (.int x6), some (.int x7), some (.int (x8 + Int32.ofInt 1))] [] σ K) : zwI 183 99 [some (.ref a0), some (.int x1), some (.int x2), some (.int x3), some (.int x4), none, some (.int x6), some (.int x7), some (.int x8)] [.int y0, .int y1] σ K := by
  refine zw_go (pc1 := 100) (L1 := [some (.ref a0), some (.int x1), some (.int x2), some (.int x3), some (.int x4), none, some (.int x6), some (.int x7), some (.int x8)]) (st1 := [.int (y1 + y0)]) (σ1 := σ) zM_X7_named dX7_named_99 rfl rfl rfl rfl ?_
  refine zw_go (pc1 := 102) (L1 := [some (.ref a0), some (.int x1), some (.int x2), some (.int x3), some (.int x4), some (.int (y1 + y0)), some (.int x6), some (.int x7), some (.int x8)]) (st1 := []) (σ1 := σ) zM_X7_named dX7_named_100 rfl rfl rfl rfl ?_
  refine zw_go (pc1 := 105) (L1 := [some (.ref a0), some (.int x1), some (.int x2), some (.int x3), some (.int x4), some (.int (y1 + y0)), some (.int x6), some (.int x7), some (.int (x8 + Int32.ofInt 1))]) (st1 := []) (σ1 := σ) zM_X7_named dX7_named_102 rfl rfl rfl rfl ?_
  refine zw_goto (tgt := 56) zM_X7_named dX7_named_105 rfl ?_
  exact zw_weak2 h ⟨rfl, rfl, rfl, rfl, rfl, rfl, rfl, rfl, rfl, trivial⟩
set_option maxHeartbeats 4000000 in
set_option maxRecDepth 100000 in
theorem vc_X7_named_108 (a0 : Nat) (x1 : Int32) (x2 : Int32) (x3 : Int32) (x4 : Int32) (x5 : Int32) (x6 : Int32) (σ : zx_S) (K : Int32 → zx_S → Prop) (h : zwI 183 6 [some (.ref a0), some (.int x1), some (.int x2), some (.int x3), some (.int x4), some (.int x5), some (.int (x6 + Int32.ofInt 1)), none, none] [] σ K) : zwI 183 108 [some (.ref a0), some (.int x1), some (.int x2), some (.int x3), some (.int x4), some (.int x5), some (.int x6), none, none] [] σ K := by
  refine zw_go (pc1 := 111) (L1 := [some (.ref a0), some (.int x1), some (.int x2), some (.int x3), some (.int x4), some (.int x5), some (.int (x6 + Int32.ofInt 1)), none, none]) (st1 := []) (σ1 := σ) zM_X7_named dX7_named_108 rfl rfl rfl rfl ?_
  refine zw_goto (tgt := 6) zM_X7_named dX7_named_111 rfl ?_
  exact zw_weak2 h ⟨rfl, rfl, rfl, rfl, rfl, rfl, rfl, trivial⟩
set_option maxHeartbeats 4000000 in
set_option maxRecDepth 100000 in
theorem vc_X7_namesIn_0 (a0 : Nat) (x1 : Int32) (σ : zx_S) (K : Int32 → zx_S → Prop) (h : zK σ a0 = 20 ∧ zwI 186 0 [some (.ref a0), some (.int x1), some (.int 0), none] [] σ (fun v3 σ2 => zwI 184 9 [some (.ref a0), some (.int x1), some (.int 0), some (.int v3)] [] σ2 K)) : zwI 184 0 [some (.ref a0), some (.int x1), none, none] [] σ K := by
  refine zw_iconst (v := 0) zM_X7_namesIn dX7_namesIn_0 (by decide) ?_
  refine zw_go (pc1 := 2) (L1 := [some (.ref a0), some (.int x1), some (.int 0), none]) (st1 := []) (σ1 := σ) zM_X7_namesIn dX7_namesIn_1 rfl rfl rfl rfl ?_
  refine zw_go (pc1 := 3) (L1 := [some (.ref a0), some (.int x1), some (.int 0), none]) (st1 := [.ref a0]) (σ1 := σ) zM_X7_namesIn dX7_namesIn_2 rfl rfl rfl rfl ?_
  refine zw_go (pc1 := 4) (L1 := [some (.ref a0), some (.int x1), some (.int 0), none]) (st1 := [.int x1, .ref a0]) (σ1 := σ) zM_X7_namesIn dX7_namesIn_3 rfl rfl rfl rfl ?_
  refine zw_iconst (v := 0) zM_X7_namesIn dX7_namesIn_4 (by decide) ?_
  obtain ⟨hk1, h⟩ := h
  refine zw_callI (as := [.ref a0, .int x1, .int 0]) (rest := []) zM_X7_namesIn dX7_namesIn_5 (zx_calV zC_7_287) zM_X7_nextIn rfl rfl rfl rfl rfl (zx_args0 hk1 rfl) rfl h (fun v3 σ2 h => ?_)
  refine zw_go (pc1 := 9) (L1 := [some (.ref a0), some (.int x1), some (.int 0), some (.int v3)]) (st1 := []) (σ1 := σ2) zM_X7_namesIn dX7_namesIn_8 rfl rfl rfl rfl ?_
  exact zw_weak2 h ⟨rfl, rfl, rfl, rfl, trivial⟩
set_option maxHeartbeats 4000000 in
set_option maxRecDepth 100000 in
theorem vc_X7_namesIn_9 (a0 : Nat) (x1 : Int32) (x2 : Int32) (x3 : Int32) (σ : zx_S) (K : Int32 → zx_S → Prop) (h : (((1000 : Int32) ≤ x3 → K x2 σ) ∧ (¬ (1000 : Int32) ≤ x3 → zK σ a0 = 20 ∧ zwI 186 0 [some (.ref a0), some (.int x1), some (.int x3), none] [] σ (fun v3 σ2 => zwI 184 9 [some (.ref a0), some (.int x1), some (.int (x2 + Int32.ofInt 1)), some (.int v3)] [] σ2 K)))) : zwI 184 9 [some (.ref a0), some (.int x1), some (.int x2), some (.int x3)] [] σ K := by
  refine zw_go (pc1 := 10) (L1 := [some (.ref a0), some (.int x1), some (.int x2), some (.int x3)]) (st1 := [.int x3]) (σ1 := σ) zM_X7_namesIn dX7_namesIn_9 rfl rfl rfl rfl ?_
  refine zw_sipush (v := 1000) zM_X7_namesIn dX7_namesIn_10 (by decide) ?_
  refine zw_icmp_ge (tgt := 29) zM_X7_namesIn dX7_namesIn_13 rfl rfl (fun q => ?_) (fun q => ?_)
  · replace h := h.1 q
    refine zw_go (pc1 := 30) (L1 := [some (.ref a0), some (.int x1), some (.int x2), some (.int x3)]) (st1 := [.int x2]) (σ1 := σ) zM_X7_namesIn dX7_namesIn_29 rfl rfl rfl rfl ?_
    exact zw_reti zM_X7_namesIn dX7_namesIn_30 rfl h
  · replace h := h.2 q
    refine zw_go (pc1 := 19) (L1 := [some (.ref a0), some (.int x1), some (.int (x2 + Int32.ofInt 1)), some (.int x3)]) (st1 := []) (σ1 := σ) zM_X7_namesIn dX7_namesIn_16 rfl rfl rfl rfl ?_
    refine zw_go (pc1 := 20) (L1 := [some (.ref a0), some (.int x1), some (.int (x2 + Int32.ofInt 1)), some (.int x3)]) (st1 := [.ref a0]) (σ1 := σ) zM_X7_namesIn dX7_namesIn_19 rfl rfl rfl rfl ?_
    refine zw_go (pc1 := 21) (L1 := [some (.ref a0), some (.int x1), some (.int (x2 + Int32.ofInt 1)), some (.int x3)]) (st1 := [.int x1, .ref a0]) (σ1 := σ) zM_X7_namesIn dX7_namesIn_20 rfl rfl rfl rfl ?_
    refine zw_go (pc1 := 22) (L1 := [some (.ref a0), some (.int x1), some (.int (x2 + Int32.ofInt 1)), some (.int x3)]) (st1 := [.int x3, .int x1, .ref a0]) (σ1 := σ) zM_X7_namesIn dX7_namesIn_21 rfl rfl rfl rfl ?_
    obtain ⟨hk1, h⟩ := h
    refine zw_callI (as := [.ref a0, .int x1, .int x3]) (rest := []) zM_X7_namesIn dX7_namesIn_22 (zx_calV zC_7_287) zM_X7_nextIn rfl rfl rfl rfl rfl (zx_args0 hk1 rfl) rfl h (fun v3 σ2 h => ?_)
    refine zw_go (pc1 := 26) (L1 := [some (.ref a0), some (.int x1), some (.int (x2 + Int32.ofInt 1)), some (.int v3)]) (st1 := []) (σ1 := σ2) zM_X7_namesIn dX7_namesIn_25 rfl rfl rfl rfl ?_
    refine zw_goto (tgt := 9) zM_X7_namesIn dX7_namesIn_26 rfl ?_
    exact zw_weak2 h ⟨rfl, rfl, rfl, rfl, trivial⟩
set_option maxHeartbeats 4000000 in
set_option maxRecDepth 100000 in
theorem vc_X7_namesOf_0 (a0 : Nat) (x1 : Int32) (σ : zx_S) (K : Int32 → zx_S → Prop) (h : zwI 185 4 [some (.ref a0), some (.int x1), some (.int 0), some (.int 0)] [] σ K) : zwI 185 0 [some (.ref a0), some (.int x1), none, none] [] σ K := by
  refine zw_iconst (v := 0) zM_X7_namesOf dX7_namesOf_0 (by decide) ?_
  refine zw_go (pc1 := 2) (L1 := [some (.ref a0), some (.int x1), some (.int 0), none]) (st1 := []) (σ1 := σ) zM_X7_namesOf dX7_namesOf_1 rfl rfl rfl rfl ?_
  refine zw_iconst (v := 0) zM_X7_namesOf dX7_namesOf_2 (by decide) ?_
  refine zw_go (pc1 := 4) (L1 := [some (.ref a0), some (.int x1), some (.int 0), some (.int 0)]) (st1 := []) (σ1 := σ) zM_X7_namesOf dX7_namesOf_3 rfl rfl rfl rfl ?_
  exact zw_weak2 h ⟨rfl, rfl, rfl, rfl, trivial⟩
set_option maxHeartbeats 4000000 in
set_option maxRecDepth 100000 in
theorem vc_X7_namesOf_4 (a0 : Nat) (x1 : Int32) (x2 : Int32) (x3 : Int32) (σ : zx_S) (K : Int32 → zx_S → Prop) (h : zK σ a0 = 20 ∧ (((zI σ a0 7) ≤ x3 → K x2 σ) ∧ (¬ (zI σ a0 7) ≤ x3 → ∃ b2 : Nat, zR σ a0 10 = some b2 ∧ zK σ b2 = 1 ∧ zx_in x3 (zN σ b2) = true ∧ ((¬ (zI σ b2 (Int32.toNatClampNeg x3)) = x1 → zwI 185 28 [some (.ref a0), some (.int x1), none, some (.int x3)] [.int 0, .int x2] σ K) ∧ ((zI σ b2 (Int32.toNatClampNeg x3)) = x1 → zwI 185 28 [some (.ref a0), some (.int x1), none, some (.int x3)] [.int 1, .int x2] σ K))))) : zwI 185 4 [some (.ref a0), some (.int x1), some (.int x2), some (.int x3)] [] σ K := by
  refine zw_go (pc1 := 5) (L1 := [some (.ref a0), some (.int x1), some (.int x2), some (.int x3)]) (st1 := [.int x3]) (σ1 := σ) zM_X7_namesOf dX7_namesOf_4 rfl rfl rfl rfl ?_
  refine zw_go (pc1 := 6) (L1 := [some (.ref a0), some (.int x1), some (.int x2), some (.int x3)]) (st1 := [.ref a0, .int x3]) (σ1 := σ) zM_X7_namesOf dX7_namesOf_5 rfl rfl rfl rfl ?_
  obtain ⟨hk1, h⟩ := h
  refine zw_getI zM_X7_namesOf dX7_namesOf_6 zF_7_105 rfl hk1 ?_
  refine zw_icmp_ge (tgt := 36) zM_X7_namesOf dX7_namesOf_9 rfl rfl (fun q => ?_) (fun q => ?_)
  · replace h := h.1 q
    refine zw_go (pc1 := 37) (L1 := [some (.ref a0), some (.int x1), some (.int x2), some (.int x3)]) (st1 := [.int x2]) (σ1 := σ) zM_X7_namesOf dX7_namesOf_36 rfl rfl rfl rfl ?_
    exact zw_reti zM_X7_namesOf dX7_namesOf_37 rfl h
  · replace h := h.2 q
    refine zw_go (pc1 := 13) (L1 := [some (.ref a0), some (.int x1), some (.int x2), some (.int x3)]) (st1 := [.int x2]) (σ1 := σ) zM_X7_namesOf dX7_namesOf_12 rfl rfl rfl rfl ?_
    refine zw_go (pc1 := 14) (L1 := [some (.ref a0), some (.int x1), some (.int x2), some (.int x3)]) (st1 := [.ref a0, .int x2]) (σ1 := σ) zM_X7_namesOf dX7_namesOf_13 rfl rfl rfl rfl ?_
    obtain ⟨b2, hr3, h⟩ := h
    refine zw_getR (a := b2) zM_X7_namesOf dX7_namesOf_14 zF_7_31 rfl hk1 hr3 ?_
    refine zw_go (pc1 := 18) (L1 := [some (.ref a0), some (.int x1), some (.int x2), some (.int x3)]) (st1 := [.int x3, .ref b2, .int x2]) (σ1 := σ) zM_X7_namesOf dX7_namesOf_17 rfl rfl rfl rfl ?_
    obtain ⟨hk4, h⟩ := h
    obtain ⟨hi5, h⟩ := h
    refine zw_iald zM_X7_namesOf dX7_namesOf_18 ⟨Or.inl hk4, hi5⟩ ?_
    refine zw_go (pc1 := 20) (L1 := [some (.ref a0), some (.int x1), some (.int x2), some (.int x3)]) (st1 := [.int x1, .int (zI σ b2 (Int32.toNatClampNeg x3)), .int x2]) (σ1 := σ) zM_X7_namesOf dX7_namesOf_19 rfl rfl rfl rfl ?_
    refine zw_icmp_ne (tgt := 27) zM_X7_namesOf dX7_namesOf_20 rfl rfl (fun q => ?_) (fun q => ?_)
    · replace h := h.1 q
      refine zw_iconst (v := 0) zM_X7_namesOf dX7_namesOf_27 (by decide) ?_
      exact zw_weak2 h ⟨rfl, rfl, rfl, trivial⟩
    · replace h := h.2 q
      refine zw_iconst (v := 1) zM_X7_namesOf dX7_namesOf_23 (by decide) ?_
      refine zw_goto (tgt := 28) zM_X7_namesOf dX7_namesOf_24 rfl ?_
      exact zw_weak2 h ⟨rfl, rfl, rfl, trivial⟩
set_option maxHeartbeats 4000000 in
set_option maxRecDepth 100000 in
theorem vc_X7_namesOf_28 (a0 : Nat) (x1 : Int32) (x3 : Int32) (y0 : Int32) (y1 : Int32) (σ : zx_S) (K : Int32 → zx_S → Prop) (h : zwI 185 4 [some (.ref a0), some (.int x1), some (.int (y1 + y0)), some (.int (x3 + Int32.ofInt 1))] [] σ K) : zwI 185 28 [some (.ref a0), some (.int x1), none, some (.int x3)] [.int y0, .int y1] σ K := by
  refine zw_go (pc1 := 29) (L1 := [some (.ref a0), some (.int x1), none, some (.int x3)]) (st1 := [.int (y1 + y0)]) (σ1 := σ) zM_X7_namesOf dX7_namesOf_28 rfl rfl rfl rfl ?_
  refine zw_go (pc1 := 30) (L1 := [some (.ref a0), some (.int x1), some (.int (y1 + y0)), some (.int x3)]) (st1 := []) (σ1 := σ) zM_X7_namesOf dX7_namesOf_29 rfl rfl rfl rfl ?_
  refine zw_go (pc1 := 33) (L1 := [some (.ref a0), some (.int x1), some (.int (y1 + y0)), some (.int (x3 + Int32.ofInt 1))]) (st1 := []) (σ1 := σ) zM_X7_namesOf dX7_namesOf_30 rfl rfl rfl rfl ?_
  refine zw_goto (tgt := 4) zM_X7_namesOf dX7_namesOf_33 rfl ?_
  exact zw_weak2 h ⟨rfl, rfl, rfl, rfl, trivial⟩
set_option maxHeartbeats 4000000 in
set_option maxRecDepth 100000 in
theorem vc_X7_nextIn_0 (a0 : Nat) (x1 : Int32) (x2 : Int32) (σ : zx_S) (K : Int32 → zx_S → Prop) (h : zwI 186 4 [some (.ref a0), some (.int x1), none, some (.int (x2 + 1))] [] σ K) : zwI 186 0 [some (.ref a0), some (.int x1), some (.int x2), none] [] σ K := by
  refine zw_go (pc1 := 1) (L1 := [some (.ref a0), some (.int x1), some (.int x2), none]) (st1 := [.int x2]) (σ1 := σ) zM_X7_nextIn dX7_nextIn_0 rfl rfl rfl rfl ?_
  refine zw_iconst (v := 1) zM_X7_nextIn dX7_nextIn_1 (by decide) ?_
  refine zw_go (pc1 := 3) (L1 := [some (.ref a0), some (.int x1), some (.int x2), none]) (st1 := [.int (x2 + 1)]) (σ1 := σ) zM_X7_nextIn dX7_nextIn_2 rfl rfl rfl rfl ?_
  refine zw_go (pc1 := 4) (L1 := [some (.ref a0), some (.int x1), some (.int x2), some (.int (x2 + 1))]) (st1 := []) (σ1 := σ) zM_X7_nextIn dX7_nextIn_3 rfl rfl rfl rfl ?_
  exact zw_weak2 h ⟨rfl, rfl, rfl, trivial⟩
set_option maxHeartbeats 4000000 in
set_option maxRecDepth 100000 in
theorem vc_X7_nextIn_4 (a0 : Nat) (x1 : Int32) (x3 : Int32) (σ : zx_S) (K : Int32 → zx_S → Prop) (h : (((1000 : Int32) ≤ x3 → K 1000 σ) ∧ (¬ (1000 : Int32) ≤ x3 → zK σ a0 = 20 ∧ zwI 174 0 [some (.ref a0), some (.int x1), some (.int x3), none, none, none, none, none, none] [] σ (fun v3 σ2 => ((v3 ≤ (0 : Int32) → zwI 186 4 [some (.ref a0), some (.int x1), none, some (.int (x3 + Int32.ofInt 1))] [] σ2 K) ∧ (¬ v3 ≤ (0 : Int32) → K x3 σ2)))))) : zwI 186 4 [some (.ref a0), some (.int x1), none, some (.int x3)] [] σ K := by
  refine zw_go (pc1 := 5) (L1 := [some (.ref a0), some (.int x1), none, some (.int x3)]) (st1 := [.int x3]) (σ1 := σ) zM_X7_nextIn dX7_nextIn_4 rfl rfl rfl rfl ?_
  refine zw_sipush (v := 1000) zM_X7_nextIn dX7_nextIn_5 (by decide) ?_
  refine zw_icmp_ge (tgt := 28) zM_X7_nextIn dX7_nextIn_8 rfl rfl (fun q => ?_) (fun q => ?_)
  · replace h := h.1 q
    refine zw_sipush (v := 1000) zM_X7_nextIn dX7_nextIn_28 (by decide) ?_
    exact zw_reti zM_X7_nextIn dX7_nextIn_31 rfl h
  · replace h := h.2 q
    refine zw_go (pc1 := 12) (L1 := [some (.ref a0), some (.int x1), none, some (.int x3)]) (st1 := [.ref a0]) (σ1 := σ) zM_X7_nextIn dX7_nextIn_11 rfl rfl rfl rfl ?_
    refine zw_go (pc1 := 13) (L1 := [some (.ref a0), some (.int x1), none, some (.int x3)]) (st1 := [.int x1, .ref a0]) (σ1 := σ) zM_X7_nextIn dX7_nextIn_12 rfl rfl rfl rfl ?_
    refine zw_go (pc1 := 14) (L1 := [some (.ref a0), some (.int x1), none, some (.int x3)]) (st1 := [.int x3, .int x1, .ref a0]) (σ1 := σ) zM_X7_nextIn dX7_nextIn_13 rfl rfl rfl rfl ?_
    obtain ⟨hk1, h⟩ := h
    refine zw_callI (as := [.ref a0, .int x1, .int x3]) (rest := []) zM_X7_nextIn dX7_nextIn_14 (zx_calV zC_7_284) zM_X7_leads rfl rfl rfl rfl rfl (zx_args0 hk1 rfl) rfl h (fun v3 σ2 h => ?_)
    refine zw_if_le (tgt := 22) zM_X7_nextIn dX7_nextIn_17 rfl rfl (fun q => ?_) (fun q => ?_)
    · replace h := h.1 q
      refine zw_go (pc1 := 25) (L1 := [some (.ref a0), some (.int x1), none, some (.int (x3 + Int32.ofInt 1))]) (st1 := []) (σ1 := σ2) zM_X7_nextIn dX7_nextIn_22 rfl rfl rfl rfl ?_
      refine zw_goto (tgt := 4) zM_X7_nextIn dX7_nextIn_25 rfl ?_
      exact zw_weak2 h ⟨rfl, rfl, rfl, trivial⟩
    · replace h := h.2 q
      refine zw_go (pc1 := 21) (L1 := [some (.ref a0), some (.int x1), none, some (.int x3)]) (st1 := [.int x3]) (σ1 := σ2) zM_X7_nextIn dX7_nextIn_20 rfl rfl rfl rfl ?_
      exact zw_reti zM_X7_nextIn dX7_nextIn_21 rfl h
set_option maxHeartbeats 4000000 in
set_option maxRecDepth 100000 in
theorem vc_X7_nextName_0 (a0 : Nat) (x1 : Int32) (x2 : Int32) (σ : zx_S) (K : Int32 → zx_S → Prop) (h : zwI 187 7 [some (.ref a0), some (.int x1), some (.int x2), some (.int 1000), some (.int 0)] [] σ K) : zwI 187 0 [some (.ref a0), some (.int x1), some (.int x2), none, none] [] σ K := by
  refine zw_sipush (v := 1000) zM_X7_nextName dX7_nextName_0 (by decide) ?_
  refine zw_go (pc1 := 4) (L1 := [some (.ref a0), some (.int x1), some (.int x2), some (.int 1000), none]) (st1 := []) (σ1 := σ) zM_X7_nextName dX7_nextName_3 rfl rfl rfl rfl ?_
  refine zw_iconst (v := 0) zM_X7_nextName dX7_nextName_4 (by decide) ?_
  refine zw_go (pc1 := 7) (L1 := [some (.ref a0), some (.int x1), some (.int x2), some (.int 1000), some (.int 0)]) (st1 := []) (σ1 := σ) zM_X7_nextName dX7_nextName_5 rfl rfl rfl rfl ?_
  exact zw_weak2 h ⟨rfl, rfl, rfl, rfl, rfl, trivial⟩
set_option maxHeartbeats 4000000 in
set_option maxRecDepth 100000 in
theorem vc_X7_nextName_7 (a0 : Nat) (x1 : Int32) (x2 : Int32) (x3 : Int32) (x4 : Int32) (σ : zx_S) (K : Int32 → zx_S → Prop) (h : zK σ a0 = 20 ∧ (((zI σ a0 7) ≤ x4 → K x3 σ) ∧ (¬ (zI σ a0 7) ≤ x4 → ∃ b2 : Nat, zR σ a0 8 = some b2 ∧ zK σ b2 = 1 ∧ zx_in x4 (zN σ b2) = true ∧ ((¬ (zI σ b2 (Int32.toNatClampNeg x4)) = x1 → zwI 187 63 [some (.ref a0), some (.int x1), some (.int x2), some (.int x3), some (.int x4)] [] σ K) ∧ ((zI σ b2 (Int32.toNatClampNeg x4)) = x1 → ∃ b6 : Nat, zR σ a0 9 = some b6 ∧ zK σ b6 = 1 ∧ zx_in x4 (zN σ b6) = true ∧ (((zI σ b6 (Int32.toNatClampNeg x4)) ≤ x2 → zwI 187 63 [some (.ref a0), some (.int x1), some (.int x2), some (.int x3), some (.int x4)] [] σ K) ∧ (¬ (zI σ b6 (Int32.toNatClampNeg x4)) ≤ x2 → zx_in x4 (zN σ b6) = true ∧ ((x3 ≤ (zI σ b6 (Int32.toNatClampNeg x4)) → zwI 187 63 [some (.ref a0), some (.int x1), some (.int x2), some (.int x3), some (.int x4)] [] σ K) ∧ (¬ x3 ≤ (zI σ b6 (Int32.toNatClampNeg x4)) → zx_in x4 (zN σ b6) = true ∧ ∀ σ12 : zx_S, σ12 = zx_pI σ a0 19 x4 → zwI 187 63 [some (.ref a0), some (.int x1), some (.int x2), some (.int (zI σ b6 (Int32.toNatClampNeg x4))), some (.int x4)] [] σ12 K))))))))) : zwI 187 7 [some (.ref a0), some (.int x1), some (.int x2), some (.int x3), some (.int x4)] [] σ K := by
  refine zw_go (pc1 := 9) (L1 := [some (.ref a0), some (.int x1), some (.int x2), some (.int x3), some (.int x4)]) (st1 := [.int x4]) (σ1 := σ) zM_X7_nextName dX7_nextName_7 rfl rfl rfl rfl ?_
  refine zw_go (pc1 := 10) (L1 := [some (.ref a0), some (.int x1), some (.int x2), some (.int x3), some (.int x4)]) (st1 := [.ref a0, .int x4]) (σ1 := σ) zM_X7_nextName dX7_nextName_9 rfl rfl rfl rfl ?_
  obtain ⟨hk1, h⟩ := h
  refine zw_getI zM_X7_nextName dX7_nextName_10 zF_7_105 rfl hk1 ?_
  refine zw_icmp_ge (tgt := 69) zM_X7_nextName dX7_nextName_13 rfl rfl (fun q => ?_) (fun q => ?_)
  · replace h := h.1 q
    refine zw_go (pc1 := 70) (L1 := [some (.ref a0), some (.int x1), some (.int x2), some (.int x3), some (.int x4)]) (st1 := [.int x3]) (σ1 := σ) zM_X7_nextName dX7_nextName_69 rfl rfl rfl rfl ?_
    exact zw_reti zM_X7_nextName dX7_nextName_70 rfl h
  · replace h := h.2 q
    refine zw_go (pc1 := 17) (L1 := [some (.ref a0), some (.int x1), some (.int x2), some (.int x3), some (.int x4)]) (st1 := [.ref a0]) (σ1 := σ) zM_X7_nextName dX7_nextName_16 rfl rfl rfl rfl ?_
    obtain ⟨b2, hr3, h⟩ := h
    refine zw_getR (a := b2) zM_X7_nextName dX7_nextName_17 zF_7_25 rfl hk1 hr3 ?_
    refine zw_go (pc1 := 22) (L1 := [some (.ref a0), some (.int x1), some (.int x2), some (.int x3), some (.int x4)]) (st1 := [.int x4, .ref b2]) (σ1 := σ) zM_X7_nextName dX7_nextName_20 rfl rfl rfl rfl ?_
    obtain ⟨hk4, h⟩ := h
    obtain ⟨hi5, h⟩ := h
    refine zw_iald zM_X7_nextName dX7_nextName_22 ⟨Or.inl hk4, hi5⟩ ?_
    refine zw_go (pc1 := 24) (L1 := [some (.ref a0), some (.int x1), some (.int x2), some (.int x3), some (.int x4)]) (st1 := [.int x1, .int (zI σ b2 (Int32.toNatClampNeg x4))]) (σ1 := σ) zM_X7_nextName dX7_nextName_23 rfl rfl rfl rfl ?_
    refine zw_icmp_ne (tgt := 63) zM_X7_nextName dX7_nextName_24 rfl rfl (fun q => ?_) (fun q => ?_)
    · replace h := h.1 q
      exact zw_weak2 h ⟨rfl, rfl, rfl, rfl, rfl, trivial⟩
    · replace h := h.2 q
      refine zw_go (pc1 := 28) (L1 := [some (.ref a0), some (.int x1), some (.int x2), some (.int x3), some (.int x4)]) (st1 := [.ref a0]) (σ1 := σ) zM_X7_nextName dX7_nextName_27 rfl rfl rfl rfl ?_
      obtain ⟨b6, hr7, h⟩ := h
      refine zw_getR (a := b6) zM_X7_nextName dX7_nextName_28 zF_7_28 rfl hk1 hr7 ?_
      refine zw_go (pc1 := 33) (L1 := [some (.ref a0), some (.int x1), some (.int x2), some (.int x3), some (.int x4)]) (st1 := [.int x4, .ref b6]) (σ1 := σ) zM_X7_nextName dX7_nextName_31 rfl rfl rfl rfl ?_
      obtain ⟨hk8, h⟩ := h
      obtain ⟨hi9, h⟩ := h
      refine zw_iald zM_X7_nextName dX7_nextName_33 ⟨Or.inl hk8, hi9⟩ ?_
      refine zw_go (pc1 := 35) (L1 := [some (.ref a0), some (.int x1), some (.int x2), some (.int x3), some (.int x4)]) (st1 := [.int x2, .int (zI σ b6 (Int32.toNatClampNeg x4))]) (σ1 := σ) zM_X7_nextName dX7_nextName_34 rfl rfl rfl rfl ?_
      refine zw_icmp_le (tgt := 63) zM_X7_nextName dX7_nextName_35 rfl rfl (fun q => ?_) (fun q => ?_)
      · replace h := h.1 q
        exact zw_weak2 h ⟨rfl, rfl, rfl, rfl, rfl, trivial⟩
      · replace h := h.2 q
        refine zw_go (pc1 := 39) (L1 := [some (.ref a0), some (.int x1), some (.int x2), some (.int x3), some (.int x4)]) (st1 := [.ref a0]) (σ1 := σ) zM_X7_nextName dX7_nextName_38 rfl rfl rfl rfl ?_
        refine zw_getR (a := b6) zM_X7_nextName dX7_nextName_39 zF_7_28 rfl hk1 hr7 ?_
        refine zw_go (pc1 := 44) (L1 := [some (.ref a0), some (.int x1), some (.int x2), some (.int x3), some (.int x4)]) (st1 := [.int x4, .ref b6]) (σ1 := σ) zM_X7_nextName dX7_nextName_42 rfl rfl rfl rfl ?_
        obtain ⟨hi10, h⟩ := h
        refine zw_iald zM_X7_nextName dX7_nextName_44 ⟨Or.inl hk8, hi10⟩ ?_
        refine zw_go (pc1 := 46) (L1 := [some (.ref a0), some (.int x1), some (.int x2), some (.int x3), some (.int x4)]) (st1 := [.int x3, .int (zI σ b6 (Int32.toNatClampNeg x4))]) (σ1 := σ) zM_X7_nextName dX7_nextName_45 rfl rfl rfl rfl ?_
        refine zw_icmp_ge (tgt := 63) zM_X7_nextName dX7_nextName_46 rfl rfl (fun q => ?_) (fun q => ?_)
        · replace h := h.1 q
          exact zw_weak2 h ⟨rfl, rfl, rfl, rfl, rfl, trivial⟩
        · replace h := h.2 q
          refine zw_go (pc1 := 50) (L1 := [some (.ref a0), some (.int x1), some (.int x2), some (.int x3), some (.int x4)]) (st1 := [.ref a0]) (σ1 := σ) zM_X7_nextName dX7_nextName_49 rfl rfl rfl rfl ?_
          refine zw_getR (a := b6) zM_X7_nextName dX7_nextName_50 zF_7_28 rfl hk1 hr7 ?_
          refine zw_go (pc1 := 55) (L1 := [some (.ref a0), some (.int x1), some (.int x2), some (.int x3), some (.int x4)]) (st1 := [.int x4, .ref b6]) (σ1 := σ) zM_X7_nextName dX7_nextName_53 rfl rfl rfl rfl ?_
          obtain ⟨hi11, h⟩ := h
          refine zw_iald zM_X7_nextName dX7_nextName_55 ⟨Or.inl hk8, hi11⟩ ?_
          refine zw_go (pc1 := 57) (L1 := [some (.ref a0), some (.int x1), some (.int x2), some (.int (zI σ b6 (Int32.toNatClampNeg x4))), some (.int x4)]) (st1 := []) (σ1 := σ) zM_X7_nextName dX7_nextName_56 rfl rfl rfl rfl ?_
          refine zw_go (pc1 := 58) (L1 := [some (.ref a0), some (.int x1), some (.int x2), some (.int (zI σ b6 (Int32.toNatClampNeg x4))), some (.int x4)]) (st1 := [.ref a0]) (σ1 := σ) zM_X7_nextName dX7_nextName_57 rfl rfl rfl rfl ?_
          refine zw_go (pc1 := 60) (L1 := [some (.ref a0), some (.int x1), some (.int x2), some (.int (zI σ b6 (Int32.toNatClampNeg x4))), some (.int x4)]) (st1 := [.int x4, .ref a0]) (σ1 := σ) zM_X7_nextName dX7_nextName_58 rfl rfl rfl rfl ?_
          obtain ⟨σ12, e13⟩ : ∃ z9 : zx_S, z9 = zx_pI σ a0 19 x4 := ⟨_, rfl⟩
          replace h := h σ12 e13
          refine zw_putI zM_X7_nextName dX7_nextName_60 zF_7_139 rfl rfl hk1 e13 ?_
          exact zw_weak2 h ⟨rfl, rfl, rfl, rfl, rfl, trivial⟩
set_option maxHeartbeats 4000000 in
set_option maxRecDepth 100000 in
theorem vc_X7_nextName_63 (a0 : Nat) (x1 : Int32) (x2 : Int32) (x3 : Int32) (x4 : Int32) (σ : zx_S) (K : Int32 → zx_S → Prop) (h : zwI 187 7 [some (.ref a0), some (.int x1), some (.int x2), some (.int x3), some (.int (x4 + Int32.ofInt 1))] [] σ K) : zwI 187 63 [some (.ref a0), some (.int x1), some (.int x2), some (.int x3), some (.int x4)] [] σ K := by
  refine zw_go (pc1 := 66) (L1 := [some (.ref a0), some (.int x1), some (.int x2), some (.int x3), some (.int (x4 + Int32.ofInt 1))]) (st1 := []) (σ1 := σ) zM_X7_nextName dX7_nextName_63 rfl rfl rfl rfl ?_
  refine zw_goto (tgt := 7) zM_X7_nextName dX7_nextName_66 rfl ?_
  exact zw_weak2 h ⟨rfl, rfl, rfl, rfl, rfl, trivial⟩
set_option maxHeartbeats 4000000 in
set_option maxRecDepth 100000 in
theorem vc_X7_node_0 (a0 : Nat) (x1 : Int32) (x2 : Int32) (x3 : Int32) (σ : zx_S) (K : Int32 → zx_S → Prop) (h : zK σ a0 = 20 ∧ ∀ σ2 : zx_S, σ2 = zx_pI σ a0 0 0 → zwI 165 0 [some (.ref a0), some (.int x1)] [] σ2 (fun v5 σ4 => ((¬ v5 = (0 : Int32) → zK σ4 a0 = 20 ∧ zwI 191 0 [some (.ref a0), some (.int x1)] [] σ4 (fun v8 σ7 => zwI 160 0 [some (.int x2), some (.int 1), some (.int v8)] [] σ7 (fun v10 σ9 => ((v10 = (0 : Int32) → K (-2) σ9) ∧ (¬ v10 = (0 : Int32) → zwI 160 0 [some (.int x3), some (.int 0), some (.int 4)] [] σ9 (fun v12 σ11 => ((v12 = (0 : Int32) → K (-2) σ11) ∧ (¬ v12 = (0 : Int32) → zK σ11 a0 = 20 ∧ zwI 208 0 [some (.ref a0), some (.int x1), some (.int x2), some (.int x3), none, none] [] σ11 (fun v15 σ14 => K v15 σ14))))))))) ∧ (v5 = (0 : Int32) → K (-1) σ4)))) : zwI 188 0 [some (.ref a0), some (.int x1), some (.int x2), some (.int x3)] [] σ K := by
  refine zw_go (pc1 := 1) (L1 := [some (.ref a0), some (.int x1), some (.int x2), some (.int x3)]) (st1 := [.ref a0]) (σ1 := σ) zM_X7_node dX7_node_0 rfl rfl rfl rfl ?_
  refine zw_iconst (v := 0) zM_X7_node dX7_node_1 (by decide) ?_
  obtain ⟨hk1, h⟩ := h
  obtain ⟨σ2, e3⟩ : ∃ z9 : zx_S, z9 = zx_pI σ a0 0 0 := ⟨_, rfl⟩
  replace h := h σ2 e3
  refine zw_putI zM_X7_node dX7_node_2 zF_7_98 rfl rfl hk1 e3 ?_
  refine zw_go (pc1 := 6) (L1 := [some (.ref a0), some (.int x1), some (.int x2), some (.int x3)]) (st1 := [.ref a0]) (σ1 := σ2) zM_X7_node dX7_node_5 rfl rfl rfl rfl ?_
  refine zw_go (pc1 := 7) (L1 := [some (.ref a0), some (.int x1), some (.int x2), some (.int x3)]) (st1 := [.int x1, .ref a0]) (σ1 := σ2) zM_X7_node dX7_node_6 rfl rfl rfl rfl ?_
  refine zw_callI (as := [.ref a0, .int x1]) (rest := []) zM_X7_node dX7_node_7 (zx_calV zC_7_263) zM_X7_isImage rfl rfl rfl rfl rfl (zx_args0 (by rw [e3]; exact hk1) rfl) rfl h (fun v5 σ4 h => ?_)
  refine zw_if_ne (tgt := 15) zM_X7_node dX7_node_10 rfl rfl (fun q => ?_) (fun q => ?_)
  · replace h := h.1 q
    refine zw_go (pc1 := 16) (L1 := [some (.ref a0), some (.int x1), some (.int x2), some (.int x3)]) (st1 := [.int x2]) (σ1 := σ4) zM_X7_node dX7_node_15 rfl rfl rfl rfl ?_
    refine zw_iconst (v := 1) zM_X7_node dX7_node_16 (by decide) ?_
    refine zw_go (pc1 := 18) (L1 := [some (.ref a0), some (.int x1), some (.int x2), some (.int x3)]) (st1 := [.ref a0, .int 1, .int x2]) (σ1 := σ4) zM_X7_node dX7_node_17 rfl rfl rfl rfl ?_
    refine zw_go (pc1 := 19) (L1 := [some (.ref a0), some (.int x1), some (.int x2), some (.int x3)]) (st1 := [.int x1, .ref a0, .int 1, .int x2]) (σ1 := σ4) zM_X7_node dX7_node_18 rfl rfl rfl rfl ?_
    obtain ⟨hk6, h⟩ := h
    refine zw_callI (as := [.ref a0, .int x1]) (rest := [.int 1, .int x2]) zM_X7_node dX7_node_19 (zx_calV zC_7_207) zM_X7_numbersIn rfl rfl rfl rfl rfl (zx_args0 hk6 rfl) rfl h (fun v8 σ7 h => ?_)
    refine zw_callI (as := [.int x2, .int 1, .int v8]) (rest := []) zM_X7_node dX7_node_22 (zx_calS zC_7_101) zM_X7_in rfl rfl rfl rfl rfl rfl rfl h (fun v10 σ9 h => ?_)
    refine zw_if_eq (tgt := 47) zM_X7_node dX7_node_25 rfl rfl (fun q => ?_) (fun q => ?_)
    · replace h := h.1 q
      refine zw_bipush (v := (-2)) zM_X7_node dX7_node_47 (by decide) ?_
      exact zw_reti zM_X7_node dX7_node_49 rfl h
    · replace h := h.2 q
      refine zw_go (pc1 := 29) (L1 := [some (.ref a0), some (.int x1), some (.int x2), some (.int x3)]) (st1 := [.int x3]) (σ1 := σ9) zM_X7_node dX7_node_28 rfl rfl rfl rfl ?_
      refine zw_iconst (v := 0) zM_X7_node dX7_node_29 (by decide) ?_
      refine zw_iconst (v := 4) zM_X7_node dX7_node_30 (by decide) ?_
      refine zw_callI (as := [.int x3, .int 0, .int 4]) (rest := []) zM_X7_node dX7_node_31 (zx_calS zC_7_101) zM_X7_in rfl rfl rfl rfl rfl rfl rfl h (fun v12 σ11 h => ?_)
      refine zw_if_eq (tgt := 47) zM_X7_node dX7_node_34 rfl rfl (fun q => ?_) (fun q => ?_)
      · replace h := h.1 q
        refine zw_bipush (v := (-2)) zM_X7_node dX7_node_47 (by decide) ?_
        exact zw_reti zM_X7_node dX7_node_49 rfl h
      · replace h := h.2 q
        refine zw_go (pc1 := 38) (L1 := [some (.ref a0), some (.int x1), some (.int x2), some (.int x3)]) (st1 := [.ref a0]) (σ1 := σ11) zM_X7_node dX7_node_37 rfl rfl rfl rfl ?_
        refine zw_go (pc1 := 39) (L1 := [some (.ref a0), some (.int x1), some (.int x2), some (.int x3)]) (st1 := [.int x1, .ref a0]) (σ1 := σ11) zM_X7_node dX7_node_38 rfl rfl rfl rfl ?_
        refine zw_go (pc1 := 40) (L1 := [some (.ref a0), some (.int x1), some (.int x2), some (.int x3)]) (st1 := [.int x2, .int x1, .ref a0]) (σ1 := σ11) zM_X7_node dX7_node_39 rfl rfl rfl rfl ?_
        refine zw_go (pc1 := 41) (L1 := [some (.ref a0), some (.int x1), some (.int x2), some (.int x3)]) (st1 := [.int x3, .int x2, .int x1, .ref a0]) (σ1 := σ11) zM_X7_node dX7_node_40 rfl rfl rfl rfl ?_
        obtain ⟨hk13, h⟩ := h
        refine zw_callI (as := [.ref a0, .int x1, .int x2, .int x3]) (rest := []) zM_X7_node dX7_node_41 (zx_calV zC_7_266) zM_X7_told rfl rfl rfl rfl rfl (zx_args0 hk13 rfl) rfl h (fun v15 σ14 h => ?_)
        refine zw_goto (tgt := 49) zM_X7_node dX7_node_44 rfl ?_
        exact zw_reti zM_X7_node dX7_node_49 rfl h
  · replace h := h.2 q
    refine zw_iconst (v := (-1)) zM_X7_node dX7_node_13 (by decide) ?_
    exact zw_reti zM_X7_node dX7_node_14 rfl h
set_option maxHeartbeats 4000000 in
set_option maxRecDepth 100000 in
theorem vc_X7_number_0 (a0 : Nat) (σ : zx_S) (K : zx_S → Prop) (h : zwV 189 2 [some (.ref a0), some (.int 0), none, none, none] [] σ K) : zwV 189 0 [some (.ref a0), none, none, none, none] [] σ K := by
  refine zw_iconst (v := 0) zM_X7_number dX7_number_0 (by decide) ?_
  refine zw_go (pc1 := 2) (L1 := [some (.ref a0), some (.int 0), none, none, none]) (st1 := []) (σ1 := σ) zM_X7_number dX7_number_1 rfl rfl rfl rfl ?_
  exact zw_weak2 h ⟨rfl, rfl, trivial⟩
set_option maxHeartbeats 4000000 in
set_option maxRecDepth 100000 in
theorem vc_X7_number_2 (a0 : Nat) (x1 : Int32) (σ : zx_S) (K : zx_S → Prop) (h : (((32 : Int32) ≤ x1 → zK σ a0 = 20 ∧ ∃ b2 : Nat, zR σ a0 16 = some b2 ∧ zK σ b2 = 1 ∧ zx_in 0 (zN σ b2) = true ∧ ∀ σ6 : zx_S, σ6 = zx_pI σ b2 (Int32.toNatClampNeg 0) 1 → ∃ b8 : Nat, zR σ6 a0 17 = some b8 ∧ zK σ6 b8 = 1 ∧ zx_in 1 (zN σ6 b8) = true ∧ ∀ σ12 : zx_S, σ12 = zx_pI σ6 b8 (Int32.toNatClampNeg 1) 0 → ∀ σ14 : zx_S, σ14 = zx_pI σ12 a0 18 1 → zwV 189 42 [some (.ref a0), some (.int 1), none, none, none] [] σ14 K) ∧ (¬ (32 : Int32) ≤ x1 → zK σ a0 = 20 ∧ ∃ b17 : Nat, zR σ a0 16 = some b17 ∧ zK σ b17 = 1 ∧ zx_in x1 (zN σ b17) = true ∧ ∀ σ21 : zx_S, σ21 = zx_pI σ b17 (Int32.toNatClampNeg x1) 0 → zwV 189 2 [some (.ref a0), some (.int (x1 + Int32.ofInt 1)), none, none, none] [] σ21 K))) : zwV 189 2 [some (.ref a0), some (.int x1), none, none, none] [] σ K := by
  refine zw_go (pc1 := 3) (L1 := [some (.ref a0), some (.int x1), none, none, none]) (st1 := [.int x1]) (σ1 := σ) zM_X7_number dX7_number_2 rfl rfl rfl rfl ?_
  refine zw_bipush (v := 32) zM_X7_number dX7_number_3 (by decide) ?_
  refine zw_icmp_ge (tgt := 21) zM_X7_number dX7_number_5 rfl rfl (fun q => ?_) (fun q => ?_)
  · replace h := h.1 q
    refine zw_go (pc1 := 22) (L1 := [some (.ref a0), some (.int x1), none, none, none]) (st1 := [.ref a0]) (σ1 := σ) zM_X7_number dX7_number_21 rfl rfl rfl rfl ?_
    obtain ⟨hk1, h⟩ := h
    obtain ⟨b2, hr3, h⟩ := h
    refine zw_getR (a := b2) zM_X7_number dX7_number_22 zF_7_40 rfl hk1 hr3 ?_
    refine zw_iconst (v := 0) zM_X7_number dX7_number_25 (by decide) ?_
    refine zw_iconst (v := 1) zM_X7_number dX7_number_26 (by decide) ?_
    obtain ⟨hk4, h⟩ := h
    obtain ⟨hi5, h⟩ := h
    obtain ⟨σ6, e7⟩ : ∃ z9 : zx_S, z9 = zx_pI σ b2 (Int32.toNatClampNeg 0) 1 := ⟨_, rfl⟩
    replace h := h σ6 e7
    refine zw_iast zM_X7_number dX7_number_27 ⟨hk4, hi5⟩ e7 ?_
    refine zw_go (pc1 := 29) (L1 := [some (.ref a0), some (.int x1), none, none, none]) (st1 := [.ref a0]) (σ1 := σ6) zM_X7_number dX7_number_28 rfl rfl rfl rfl ?_
    obtain ⟨b8, hr9, h⟩ := h
    refine zw_getR (a := b8) zM_X7_number dX7_number_29 zF_7_43 rfl (by rw [e7]; exact hk1) hr9 ?_
    refine zw_iconst (v := 1) zM_X7_number dX7_number_32 (by decide) ?_
    refine zw_iconst (v := 0) zM_X7_number dX7_number_33 (by decide) ?_
    obtain ⟨hk10, h⟩ := h
    obtain ⟨hi11, h⟩ := h
    obtain ⟨σ12, e13⟩ : ∃ z9 : zx_S, z9 = zx_pI σ6 b8 (Int32.toNatClampNeg 1) 0 := ⟨_, rfl⟩
    replace h := h σ12 e13
    refine zw_iast zM_X7_number dX7_number_34 ⟨hk10, hi11⟩ e13 ?_
    refine zw_go (pc1 := 36) (L1 := [some (.ref a0), some (.int x1), none, none, none]) (st1 := [.ref a0]) (σ1 := σ12) zM_X7_number dX7_number_35 rfl rfl rfl rfl ?_
    refine zw_iconst (v := 1) zM_X7_number dX7_number_36 (by decide) ?_
    obtain ⟨σ14, e15⟩ : ∃ z9 : zx_S, z9 = zx_pI σ12 a0 18 1 := ⟨_, rfl⟩
    replace h := h σ14 e15
    refine zw_putI zM_X7_number dX7_number_37 zF_7_142 rfl rfl (by rw [e13, e7]; exact hk1) e15 ?_
    refine zw_iconst (v := 1) zM_X7_number dX7_number_40 (by decide) ?_
    refine zw_go (pc1 := 42) (L1 := [some (.ref a0), some (.int 1), none, none, none]) (st1 := []) (σ1 := σ14) zM_X7_number dX7_number_41 rfl rfl rfl rfl ?_
    exact zw_weak2 h ⟨rfl, rfl, trivial⟩
  · replace h := h.2 q
    refine zw_go (pc1 := 9) (L1 := [some (.ref a0), some (.int x1), none, none, none]) (st1 := [.ref a0]) (σ1 := σ) zM_X7_number dX7_number_8 rfl rfl rfl rfl ?_
    obtain ⟨hk16, h⟩ := h
    obtain ⟨b17, hr18, h⟩ := h
    refine zw_getR (a := b17) zM_X7_number dX7_number_9 zF_7_40 rfl hk16 hr18 ?_
    refine zw_go (pc1 := 13) (L1 := [some (.ref a0), some (.int x1), none, none, none]) (st1 := [.int x1, .ref b17]) (σ1 := σ) zM_X7_number dX7_number_12 rfl rfl rfl rfl ?_
    refine zw_iconst (v := 0) zM_X7_number dX7_number_13 (by decide) ?_
    obtain ⟨hk19, h⟩ := h
    obtain ⟨hi20, h⟩ := h
    obtain ⟨σ21, e22⟩ : ∃ z9 : zx_S, z9 = zx_pI σ b17 (Int32.toNatClampNeg x1) 0 := ⟨_, rfl⟩
    replace h := h σ21 e22
    refine zw_iast zM_X7_number dX7_number_14 ⟨hk19, hi20⟩ e22 ?_
    refine zw_go (pc1 := 18) (L1 := [some (.ref a0), some (.int (x1 + Int32.ofInt 1)), none, none, none]) (st1 := []) (σ1 := σ21) zM_X7_number dX7_number_15 rfl rfl rfl rfl ?_
    refine zw_goto (tgt := 2) zM_X7_number dX7_number_18 rfl ?_
    exact zw_weak2 h ⟨rfl, rfl, trivial⟩
set_option maxHeartbeats 4000000 in
set_option maxRecDepth 100000 in
theorem vc_X7_number_42 (a0 : Nat) (x1 : Int32) (σ : zx_S) (K : zx_S → Prop) (h : zK σ a0 = 20 ∧ (((zI σ a0 18) < x1 → K σ) ∧ (¬ (zI σ a0 18) < x1 → ∃ b2 : Nat, zR σ a0 17 = some b2 ∧ zK σ b2 = 1 ∧ zx_in x1 (zN σ b2) = true ∧ ∃ b6 : Nat, zR σ a0 2 = some b6 ∧ zK σ b6 = 1 ∧ zx_in (zI σ b2 (Int32.toNatClampNeg x1)) (zN σ b6) = true ∧ ((¬ (zI σ b6 (Int32.toNatClampNeg (zI σ b2 (Int32.toNatClampNeg x1)))) = (1 : Int32) → zwV 189 144 [some (.ref a0), some (.int x1), none, none, none] [] σ K) ∧ ((zI σ b6 (Int32.toNatClampNeg (zI σ b2 (Int32.toNatClampNeg x1)))) = (1 : Int32) → zwI 187 0 [some (.ref a0), some (.int (zI σ b2 (Int32.toNatClampNeg x1))), some (.int 0), none, none] [] σ (fun v11 σ10 => zwV 189 74 [some (.ref a0), some (.int x1), some (.int (zI σ b2 (Int32.toNatClampNeg x1))), some (.int v11), none] [] σ10 K)))))) : zwV 189 42 [some (.ref a0), some (.int x1), none, none, none] [] σ K := by
  refine zw_go (pc1 := 43) (L1 := [some (.ref a0), some (.int x1), none, none, none]) (st1 := [.int x1]) (σ1 := σ) zM_X7_number dX7_number_42 rfl rfl rfl rfl ?_
  refine zw_go (pc1 := 44) (L1 := [some (.ref a0), some (.int x1), none, none, none]) (st1 := [.ref a0, .int x1]) (σ1 := σ) zM_X7_number dX7_number_43 rfl rfl rfl rfl ?_
  obtain ⟨hk1, h⟩ := h
  refine zw_getI zM_X7_number dX7_number_44 zF_7_142 rfl hk1 ?_
  refine zw_icmp_gt (tgt := 150) zM_X7_number dX7_number_47 rfl rfl (fun q => ?_) (fun q => ?_)
  · replace h := h.1 q
    exact zw_retv zM_X7_number dX7_number_150 rfl h
  · replace h := h.2 q
    refine zw_go (pc1 := 51) (L1 := [some (.ref a0), some (.int x1), none, none, none]) (st1 := [.ref a0]) (σ1 := σ) zM_X7_number dX7_number_50 rfl rfl rfl rfl ?_
    obtain ⟨b2, hr3, h⟩ := h
    refine zw_getR (a := b2) zM_X7_number dX7_number_51 zF_7_43 rfl hk1 hr3 ?_
    refine zw_go (pc1 := 55) (L1 := [some (.ref a0), some (.int x1), none, none, none]) (st1 := [.int x1, .ref b2]) (σ1 := σ) zM_X7_number dX7_number_54 rfl rfl rfl rfl ?_
    obtain ⟨hk4, h⟩ := h
    obtain ⟨hi5, h⟩ := h
    refine zw_iald zM_X7_number dX7_number_55 ⟨Or.inl hk4, hi5⟩ ?_
    refine zw_go (pc1 := 57) (L1 := [some (.ref a0), some (.int x1), some (.int (zI σ b2 (Int32.toNatClampNeg x1))), none, none]) (st1 := []) (σ1 := σ) zM_X7_number dX7_number_56 rfl rfl rfl rfl ?_
    refine zw_go (pc1 := 58) (L1 := [some (.ref a0), some (.int x1), some (.int (zI σ b2 (Int32.toNatClampNeg x1))), none, none]) (st1 := [.ref a0]) (σ1 := σ) zM_X7_number dX7_number_57 rfl rfl rfl rfl ?_
    obtain ⟨b6, hr7, h⟩ := h
    refine zw_getR (a := b6) zM_X7_number dX7_number_58 zF_7_7 rfl hk1 hr7 ?_
    refine zw_go (pc1 := 62) (L1 := [some (.ref a0), some (.int x1), some (.int (zI σ b2 (Int32.toNatClampNeg x1))), none, none]) (st1 := [.int (zI σ b2 (Int32.toNatClampNeg x1)), .ref b6]) (σ1 := σ) zM_X7_number dX7_number_61 rfl rfl rfl rfl ?_
    obtain ⟨hk8, h⟩ := h
    obtain ⟨hi9, h⟩ := h
    refine zw_iald zM_X7_number dX7_number_62 ⟨Or.inl hk8, hi9⟩ ?_
    refine zw_iconst (v := 1) zM_X7_number dX7_number_63 (by decide) ?_
    refine zw_icmp_ne (tgt := 144) zM_X7_number dX7_number_64 rfl rfl (fun q => ?_) (fun q => ?_)
    · replace h := h.1 q
      exact zw_weak2 h ⟨rfl, rfl, trivial⟩
    · replace h := h.2 q
      refine zw_go (pc1 := 68) (L1 := [some (.ref a0), some (.int x1), some (.int (zI σ b2 (Int32.toNatClampNeg x1))), none, none]) (st1 := [.ref a0]) (σ1 := σ) zM_X7_number dX7_number_67 rfl rfl rfl rfl ?_
      refine zw_go (pc1 := 69) (L1 := [some (.ref a0), some (.int x1), some (.int (zI σ b2 (Int32.toNatClampNeg x1))), none, none]) (st1 := [.int (zI σ b2 (Int32.toNatClampNeg x1)), .ref a0]) (σ1 := σ) zM_X7_number dX7_number_68 rfl rfl rfl rfl ?_
      refine zw_iconst (v := 0) zM_X7_number dX7_number_69 (by decide) ?_
      refine zw_callI (as := [.ref a0, .int (zI σ b2 (Int32.toNatClampNeg x1)), .int 0]) (rest := []) zM_X7_number dX7_number_70 (zx_calV zC_7_145) zM_X7_nextName rfl rfl rfl rfl rfl (zx_args0 hk1 rfl) rfl h (fun v11 σ10 h => ?_)
      refine zw_go (pc1 := 74) (L1 := [some (.ref a0), some (.int x1), some (.int (zI σ b2 (Int32.toNatClampNeg x1))), some (.int v11), none]) (st1 := []) (σ1 := σ10) zM_X7_number dX7_number_73 rfl rfl rfl rfl ?_
      exact zw_weak2 h ⟨rfl, rfl, rfl, rfl, trivial⟩
set_option maxHeartbeats 4000000 in
set_option maxRecDepth 100000 in
theorem vc_X7_number_74 (a0 : Nat) (x1 : Int32) (x2 : Int32) (x3 : Int32) (σ : zx_S) (K : zx_S → Prop) (h : (((1000 : Int32) ≤ x3 → zwV 189 144 [some (.ref a0), some (.int x1), none, none, none] [] σ K) ∧ (¬ (1000 : Int32) ≤ x3 → zK σ a0 = 20 ∧ ∃ b2 : Nat, zR σ a0 10 = some b2 ∧ zK σ b2 = 1 ∧ zx_in (zI σ a0 19) (zN σ b2) = true ∧ ∃ b6 : Nat, zR σ a0 16 = some b6 ∧ zK σ b6 = 1 ∧ zx_in (zI σ b2 (Int32.toNatClampNeg (zI σ a0 19))) (zN σ b6) = true ∧ ((¬ (zI σ b6 (Int32.toNatClampNeg (zI σ b2 (Int32.toNatClampNeg (zI σ a0 19))))) = (0 : Int32) → zwV 189 134 [some (.ref a0), some (.int x1), some (.int x2), some (.int x3), none] [] σ K) ∧ ((zI σ b6 (Int32.toNatClampNeg (zI σ b2 (Int32.toNatClampNeg (zI σ a0 19))))) = (0 : Int32) → ∀ σ10 : zx_S, σ10 = zx_pI σ a0 18 ((zI σ a0 18) + 1) → zx_in (zI σ b2 (Int32.toNatClampNeg (zI σ a0 19))) (zN σ10 b6) = true ∧ ∀ σ13 : zx_S, σ13 = zx_pI σ10 b6 (Int32.toNatClampNeg (zI σ b2 (Int32.toNatClampNeg (zI σ a0 19)))) (zI σ10 a0 18) → ∃ b15 : Nat, zR σ13 a0 17 = some b15 ∧ zK σ13 b15 = 1 ∧ zx_in (zI σ13 a0 18) (zN σ13 b15) = true ∧ ∀ σ19 : zx_S, σ19 = zx_pI σ13 b15 (Int32.toNatClampNeg (zI σ13 a0 18)) (zI σ b2 (Int32.toNatClampNeg (zI σ a0 19))) → zwV 189 134 [some (.ref a0), some (.int x1), some (.int x2), some (.int x3), none] [] σ19 K))))) : zwV 189 74 [some (.ref a0), some (.int x1), some (.int x2), some (.int x3), none] [] σ K := by
  refine zw_go (pc1 := 75) (L1 := [some (.ref a0), some (.int x1), some (.int x2), some (.int x3), none]) (st1 := [.int x3]) (σ1 := σ) zM_X7_number dX7_number_74 rfl rfl rfl rfl ?_
  refine zw_sipush (v := 1000) zM_X7_number dX7_number_75 (by decide) ?_
  refine zw_icmp_ge (tgt := 144) zM_X7_number dX7_number_78 rfl rfl (fun q => ?_) (fun q => ?_)
  · replace h := h.1 q
    exact zw_weak2 h ⟨rfl, rfl, trivial⟩
  · replace h := h.2 q
    refine zw_go (pc1 := 82) (L1 := [some (.ref a0), some (.int x1), some (.int x2), some (.int x3), none]) (st1 := [.ref a0]) (σ1 := σ) zM_X7_number dX7_number_81 rfl rfl rfl rfl ?_
    obtain ⟨hk1, h⟩ := h
    obtain ⟨b2, hr3, h⟩ := h
    refine zw_getR (a := b2) zM_X7_number dX7_number_82 zF_7_31 rfl hk1 hr3 ?_
    refine zw_go (pc1 := 86) (L1 := [some (.ref a0), some (.int x1), some (.int x2), some (.int x3), none]) (st1 := [.ref a0, .ref b2]) (σ1 := σ) zM_X7_number dX7_number_85 rfl rfl rfl rfl ?_
    refine zw_getI zM_X7_number dX7_number_86 zF_7_139 rfl hk1 ?_
    obtain ⟨hk4, h⟩ := h
    obtain ⟨hi5, h⟩ := h
    refine zw_iald zM_X7_number dX7_number_89 ⟨Or.inl hk4, hi5⟩ ?_
    refine zw_go (pc1 := 92) (L1 := [some (.ref a0), some (.int x1), some (.int x2), some (.int x3), some (.int (zI σ b2 (Int32.toNatClampNeg (zI σ a0 19))))]) (st1 := []) (σ1 := σ) zM_X7_number dX7_number_90 rfl rfl rfl rfl ?_
    refine zw_go (pc1 := 93) (L1 := [some (.ref a0), some (.int x1), some (.int x2), some (.int x3), some (.int (zI σ b2 (Int32.toNatClampNeg (zI σ a0 19))))]) (st1 := [.ref a0]) (σ1 := σ) zM_X7_number dX7_number_92 rfl rfl rfl rfl ?_
    obtain ⟨b6, hr7, h⟩ := h
    refine zw_getR (a := b6) zM_X7_number dX7_number_93 zF_7_40 rfl hk1 hr7 ?_
    refine zw_go (pc1 := 98) (L1 := [some (.ref a0), some (.int x1), some (.int x2), some (.int x3), some (.int (zI σ b2 (Int32.toNatClampNeg (zI σ a0 19))))]) (st1 := [.int (zI σ b2 (Int32.toNatClampNeg (zI σ a0 19))), .ref b6]) (σ1 := σ) zM_X7_number dX7_number_96 rfl rfl rfl rfl ?_
    obtain ⟨hk8, h⟩ := h
    obtain ⟨hi9, h⟩ := h
    refine zw_iald zM_X7_number dX7_number_98 ⟨Or.inl hk8, hi9⟩ ?_
    refine zw_if_ne (tgt := 134) zM_X7_number dX7_number_99 rfl rfl (fun q => ?_) (fun q => ?_)
    · replace h := h.1 q
      exact zw_weak2 h ⟨rfl, rfl, rfl, rfl, trivial⟩
    · replace h := h.2 q
      refine zw_go (pc1 := 103) (L1 := [some (.ref a0), some (.int x1), some (.int x2), some (.int x3), some (.int (zI σ b2 (Int32.toNatClampNeg (zI σ a0 19))))]) (st1 := [.ref a0]) (σ1 := σ) zM_X7_number dX7_number_102 rfl rfl rfl rfl ?_
      refine zw_go (pc1 := 104) (L1 := [some (.ref a0), some (.int x1), some (.int x2), some (.int x3), some (.int (zI σ b2 (Int32.toNatClampNeg (zI σ a0 19))))]) (st1 := [.ref a0, .ref a0]) (σ1 := σ) zM_X7_number dX7_number_103 rfl rfl rfl rfl ?_
      refine zw_getI zM_X7_number dX7_number_104 zF_7_142 rfl hk1 ?_
      refine zw_iconst (v := 1) zM_X7_number dX7_number_107 (by decide) ?_
      refine zw_go (pc1 := 109) (L1 := [some (.ref a0), some (.int x1), some (.int x2), some (.int x3), some (.int (zI σ b2 (Int32.toNatClampNeg (zI σ a0 19))))]) (st1 := [.int ((zI σ a0 18) + 1), .ref a0]) (σ1 := σ) zM_X7_number dX7_number_108 rfl rfl rfl rfl ?_
      obtain ⟨σ10, e11⟩ : ∃ z9 : zx_S, z9 = zx_pI σ a0 18 ((zI σ a0 18) + 1) := ⟨_, rfl⟩
      replace h := h σ10 e11
      refine zw_putI zM_X7_number dX7_number_109 zF_7_142 rfl rfl hk1 e11 ?_
      refine zw_go (pc1 := 113) (L1 := [some (.ref a0), some (.int x1), some (.int x2), some (.int x3), some (.int (zI σ b2 (Int32.toNatClampNeg (zI σ a0 19))))]) (st1 := [.ref a0]) (σ1 := σ10) zM_X7_number dX7_number_112 rfl rfl rfl rfl ?_
      refine zw_getR (a := b6) zM_X7_number dX7_number_113 zF_7_40 rfl (by rw [e11]; exact hk1) (by rw [e11]; exact hr7) ?_
      refine zw_go (pc1 := 118) (L1 := [some (.ref a0), some (.int x1), some (.int x2), some (.int x3), some (.int (zI σ b2 (Int32.toNatClampNeg (zI σ a0 19))))]) (st1 := [.int (zI σ b2 (Int32.toNatClampNeg (zI σ a0 19))), .ref b6]) (σ1 := σ10) zM_X7_number dX7_number_116 rfl rfl rfl rfl ?_
      refine zw_go (pc1 := 119) (L1 := [some (.ref a0), some (.int x1), some (.int x2), some (.int x3), some (.int (zI σ b2 (Int32.toNatClampNeg (zI σ a0 19))))]) (st1 := [.ref a0, .int (zI σ b2 (Int32.toNatClampNeg (zI σ a0 19))), .ref b6]) (σ1 := σ10) zM_X7_number dX7_number_118 rfl rfl rfl rfl ?_
      refine zw_getI zM_X7_number dX7_number_119 zF_7_142 rfl (by rw [e11]; exact hk1) ?_
      obtain ⟨hi12, h⟩ := h
      obtain ⟨σ13, e14⟩ : ∃ z9 : zx_S, z9 = zx_pI σ10 b6 (Int32.toNatClampNeg (zI σ b2 (Int32.toNatClampNeg (zI σ a0 19)))) (zI σ10 a0 18) := ⟨_, rfl⟩
      replace h := h σ13 e14
      refine zw_iast zM_X7_number dX7_number_122 ⟨(by rw [e11]; exact hk8), hi12⟩ e14 ?_
      refine zw_go (pc1 := 124) (L1 := [some (.ref a0), some (.int x1), some (.int x2), some (.int x3), some (.int (zI σ b2 (Int32.toNatClampNeg (zI σ a0 19))))]) (st1 := [.ref a0]) (σ1 := σ13) zM_X7_number dX7_number_123 rfl rfl rfl rfl ?_
      obtain ⟨b15, hr16, h⟩ := h
      refine zw_getR (a := b15) zM_X7_number dX7_number_124 zF_7_43 rfl (by rw [e14, e11]; exact hk1) hr16 ?_
      refine zw_go (pc1 := 128) (L1 := [some (.ref a0), some (.int x1), some (.int x2), some (.int x3), some (.int (zI σ b2 (Int32.toNatClampNeg (zI σ a0 19))))]) (st1 := [.ref a0, .ref b15]) (σ1 := σ13) zM_X7_number dX7_number_127 rfl rfl rfl rfl ?_
      refine zw_getI zM_X7_number dX7_number_128 zF_7_142 rfl (by rw [e14, e11]; exact hk1) ?_
      refine zw_go (pc1 := 133) (L1 := [some (.ref a0), some (.int x1), some (.int x2), some (.int x3), some (.int (zI σ b2 (Int32.toNatClampNeg (zI σ a0 19))))]) (st1 := [.int (zI σ b2 (Int32.toNatClampNeg (zI σ a0 19))), .int (zI σ13 a0 18), .ref b15]) (σ1 := σ13) zM_X7_number dX7_number_131 rfl rfl rfl rfl ?_
      obtain ⟨hk17, h⟩ := h
      obtain ⟨hi18, h⟩ := h
      obtain ⟨σ19, e20⟩ : ∃ z9 : zx_S, z9 = zx_pI σ13 b15 (Int32.toNatClampNeg (zI σ13 a0 18)) (zI σ b2 (Int32.toNatClampNeg (zI σ a0 19))) := ⟨_, rfl⟩
      replace h := h σ19 e20
      refine zw_iast zM_X7_number dX7_number_133 ⟨hk17, hi18⟩ e20 ?_
      exact zw_weak2 h ⟨rfl, rfl, rfl, rfl, trivial⟩
set_option maxHeartbeats 4000000 in
set_option maxRecDepth 100000 in
theorem vc_X7_number_134 (a0 : Nat) (x1 : Int32) (x2 : Int32) (x3 : Int32) (σ : zx_S) (K : zx_S → Prop) (h : zK σ a0 = 20 ∧ zwI 187 0 [some (.ref a0), some (.int x2), some (.int x3), none, none] [] σ (fun v3 σ2 => zwV 189 74 [some (.ref a0), some (.int x1), some (.int x2), some (.int v3), none] [] σ2 K)) : zwV 189 134 [some (.ref a0), some (.int x1), some (.int x2), some (.int x3), none] [] σ K := by
  refine zw_go (pc1 := 135) (L1 := [some (.ref a0), some (.int x1), some (.int x2), some (.int x3), none]) (st1 := [.ref a0]) (σ1 := σ) zM_X7_number dX7_number_134 rfl rfl rfl rfl ?_
  refine zw_go (pc1 := 136) (L1 := [some (.ref a0), some (.int x1), some (.int x2), some (.int x3), none]) (st1 := [.int x2, .ref a0]) (σ1 := σ) zM_X7_number dX7_number_135 rfl rfl rfl rfl ?_
  refine zw_go (pc1 := 137) (L1 := [some (.ref a0), some (.int x1), some (.int x2), some (.int x3), none]) (st1 := [.int x3, .int x2, .ref a0]) (σ1 := σ) zM_X7_number dX7_number_136 rfl rfl rfl rfl ?_
  obtain ⟨hk1, h⟩ := h
  refine zw_callI (as := [.ref a0, .int x2, .int x3]) (rest := []) zM_X7_number dX7_number_137 (zx_calV zC_7_145) zM_X7_nextName rfl rfl rfl rfl rfl (zx_args0 hk1 rfl) rfl h (fun v3 σ2 h => ?_)
  refine zw_go (pc1 := 141) (L1 := [some (.ref a0), some (.int x1), some (.int x2), some (.int v3), none]) (st1 := []) (σ1 := σ2) zM_X7_number dX7_number_140 rfl rfl rfl rfl ?_
  refine zw_goto (tgt := 74) zM_X7_number dX7_number_141 rfl ?_
  exact zw_weak2 h ⟨rfl, rfl, rfl, rfl, trivial⟩
set_option maxHeartbeats 4000000 in
set_option maxRecDepth 100000 in
theorem vc_X7_number_144 (a0 : Nat) (x1 : Int32) (σ : zx_S) (K : zx_S → Prop) (h : zwV 189 42 [some (.ref a0), some (.int (x1 + Int32.ofInt 1)), none, none, none] [] σ K) : zwV 189 144 [some (.ref a0), some (.int x1), none, none, none] [] σ K := by
  refine zw_go (pc1 := 147) (L1 := [some (.ref a0), some (.int (x1 + Int32.ofInt 1)), none, none, none]) (st1 := []) (σ1 := σ) zM_X7_number dX7_number_144 rfl rfl rfl rfl ?_
  refine zw_goto (tgt := 42) zM_X7_number dX7_number_147 rfl ?_
  exact zw_weak2 h ⟨rfl, rfl, trivial⟩
set_option maxHeartbeats 4000000 in
set_option maxRecDepth 100000 in
theorem vc_X7_numberAt_0 (a0 : Nat) (x1 : Int32) (x2 : Int32) (σ : zx_S) (K : Int32 → zx_S → Prop) (h : zK σ a0 = 20 ∧ zwI 210 0 [some (.ref a0), some (.int x1), some (.int 8)] [] σ (fun v3 σ2 => zK σ2 a0 = 20 ∧ zwI 210 0 [some (.ref a0), some (.int x1), some (.int ((v3 + (4 * x2)) + 2))] [] σ2 (fun v6 σ5 => K v6 σ5))) : zwI 190 0 [some (.ref a0), some (.int x1), some (.int x2)] [] σ K := by
  refine zw_go (pc1 := 1) (L1 := [some (.ref a0), some (.int x1), some (.int x2)]) (st1 := [.ref a0]) (σ1 := σ) zM_X7_numberAt dX7_numberAt_0 rfl rfl rfl rfl ?_
  refine zw_go (pc1 := 2) (L1 := [some (.ref a0), some (.int x1), some (.int x2)]) (st1 := [.int x1, .ref a0]) (σ1 := σ) zM_X7_numberAt dX7_numberAt_1 rfl rfl rfl rfl ?_
  refine zw_go (pc1 := 3) (L1 := [some (.ref a0), some (.int x1), some (.int x2)]) (st1 := [.ref a0, .int x1, .ref a0]) (σ1 := σ) zM_X7_numberAt dX7_numberAt_2 rfl rfl rfl rfl ?_
  refine zw_go (pc1 := 4) (L1 := [some (.ref a0), some (.int x1), some (.int x2)]) (st1 := [.int x1, .ref a0, .int x1, .ref a0]) (σ1 := σ) zM_X7_numberAt dX7_numberAt_3 rfl rfl rfl rfl ?_
  refine zw_bipush (v := 8) zM_X7_numberAt dX7_numberAt_4 (by decide) ?_
  obtain ⟨hk1, h⟩ := h
  refine zw_callI (as := [.ref a0, .int x1, .int 8]) (rest := [.int x1, .ref a0]) zM_X7_numberAt dX7_numberAt_6 (zx_calV zC_7_201) zM_X7_word rfl rfl rfl rfl rfl (zx_args0 hk1 rfl) rfl h (fun v3 σ2 h => ?_)
  refine zw_iconst (v := 4) zM_X7_numberAt dX7_numberAt_9 (by decide) ?_
  refine zw_go (pc1 := 11) (L1 := [some (.ref a0), some (.int x1), some (.int x2)]) (st1 := [.int x2, .int 4, .int v3, .int x1, .ref a0]) (σ1 := σ2) zM_X7_numberAt dX7_numberAt_10 rfl rfl rfl rfl ?_
  refine zw_go (pc1 := 12) (L1 := [some (.ref a0), some (.int x1), some (.int x2)]) (st1 := [.int (4 * x2), .int v3, .int x1, .ref a0]) (σ1 := σ2) zM_X7_numberAt dX7_numberAt_11 rfl rfl rfl rfl ?_
  refine zw_go (pc1 := 13) (L1 := [some (.ref a0), some (.int x1), some (.int x2)]) (st1 := [.int (v3 + (4 * x2)), .int x1, .ref a0]) (σ1 := σ2) zM_X7_numberAt dX7_numberAt_12 rfl rfl rfl rfl ?_
  refine zw_iconst (v := 2) zM_X7_numberAt dX7_numberAt_13 (by decide) ?_
  refine zw_go (pc1 := 15) (L1 := [some (.ref a0), some (.int x1), some (.int x2)]) (st1 := [.int ((v3 + (4 * x2)) + 2), .int x1, .ref a0]) (σ1 := σ2) zM_X7_numberAt dX7_numberAt_14 rfl rfl rfl rfl ?_
  obtain ⟨hk4, h⟩ := h
  refine zw_callI (as := [.ref a0, .int x1, .int ((v3 + (4 * x2)) + 2)]) (rest := []) zM_X7_numberAt dX7_numberAt_15 (zx_calV zC_7_201) zM_X7_word rfl rfl rfl rfl rfl (zx_args0 hk4 rfl) rfl h (fun v6 σ5 h => ?_)
  exact zw_reti zM_X7_numberAt dX7_numberAt_18 rfl h
set_option maxHeartbeats 4000000 in
set_option maxRecDepth 100000 in
theorem vc_X7_numbersIn_0 (a0 : Nat) (x1 : Int32) (σ : zx_S) (K : Int32 → zx_S → Prop) (h : zK σ a0 = 20 ∧ zwI 210 0 [some (.ref a0), some (.int x1), some (.int 4)] [] σ (fun v3 σ2 => K v3 σ2)) : zwI 191 0 [some (.ref a0), some (.int x1)] [] σ K := by
  refine zw_go (pc1 := 1) (L1 := [some (.ref a0), some (.int x1)]) (st1 := [.ref a0]) (σ1 := σ) zM_X7_numbersIn dX7_numbersIn_0 rfl rfl rfl rfl ?_
  refine zw_go (pc1 := 2) (L1 := [some (.ref a0), some (.int x1)]) (st1 := [.int x1, .ref a0]) (σ1 := σ) zM_X7_numbersIn dX7_numbersIn_1 rfl rfl rfl rfl ?_
  refine zw_iconst (v := 4) zM_X7_numbersIn dX7_numbersIn_2 (by decide) ?_
  obtain ⟨hk1, h⟩ := h
  refine zw_callI (as := [.ref a0, .int x1, .int 4]) (rest := []) zM_X7_numbersIn dX7_numbersIn_3 (zx_calV zC_7_201) zM_X7_word rfl rfl rfl rfl rfl (zx_args0 hk1 rfl) rfl h (fun v3 σ2 h => ?_)
  exact zw_reti zM_X7_numbersIn dX7_numbersIn_6 rfl h
set_option maxHeartbeats 4000000 in
set_option maxRecDepth 100000 in
theorem vc_X7_opened_0 (a0 : Nat) (x1 : Int32) (x2 : Int32) (x3 : Int32) (x4 : Int32) (σ : zx_S) (K : Int32 → zx_S → Prop) (h : ((¬ x3 = (0 : Int32) → ((x3 < (32768 : Int32) → zwI 192 28 [some (.ref a0), some (.int x1), none, none, some (.int x4), some (.int x2), some (.int 0), none] [] σ K) ∧ (¬ x3 < (32768 : Int32) → zK σ a0 = 20 ∧ zwI 143 0 [some (.ref a0), some (.int x1), some (.int (x2 + x4))] [] σ (fun v3 σ2 => K v3 σ2)))) ∧ (x3 = (0 : Int32) → K 0 σ))) : zwI 192 0 [some (.ref a0), some (.int x1), some (.int x2), some (.int x3), some (.int x4), none, none, none] [] σ K := by
  refine zw_go (pc1 := 1) (L1 := [some (.ref a0), some (.int x1), some (.int x2), some (.int x3), some (.int x4), none, none, none]) (st1 := [.int x3]) (σ1 := σ) zM_X7_opened dX7_opened_0 rfl rfl rfl rfl ?_
  refine zw_if_ne (tgt := 6) zM_X7_opened dX7_opened_1 rfl rfl (fun q => ?_) (fun q => ?_)
  · replace h := h.1 q
    refine zw_go (pc1 := 7) (L1 := [some (.ref a0), some (.int x1), some (.int x2), some (.int x3), some (.int x4), none, none, none]) (st1 := [.int x3]) (σ1 := σ) zM_X7_opened dX7_opened_6 rfl rfl rfl rfl ?_
    refine zw_ldc (v := 32768) zM_X7_opened dX7_opened_7 zK_7_158 ?_
    refine zw_icmp_lt (tgt := 22) zM_X7_opened dX7_opened_9 rfl rfl (fun q => ?_) (fun q => ?_)
    · replace h := h.1 q
      refine zw_go (pc1 := 23) (L1 := [some (.ref a0), some (.int x1), some (.int x2), some (.int x3), some (.int x4), none, none, none]) (st1 := [.int x2]) (σ1 := σ) zM_X7_opened dX7_opened_22 rfl rfl rfl rfl ?_
      refine zw_go (pc1 := 25) (L1 := [some (.ref a0), some (.int x1), some (.int x2), some (.int x3), some (.int x4), some (.int x2), none, none]) (st1 := []) (σ1 := σ) zM_X7_opened dX7_opened_23 rfl rfl rfl rfl ?_
      refine zw_iconst (v := 0) zM_X7_opened dX7_opened_25 (by decide) ?_
      refine zw_go (pc1 := 28) (L1 := [some (.ref a0), some (.int x1), some (.int x2), some (.int x3), some (.int x4), some (.int x2), some (.int 0), none]) (st1 := []) (σ1 := σ) zM_X7_opened dX7_opened_26 rfl rfl rfl rfl ?_
      exact zw_weak2 h ⟨rfl, rfl, rfl, rfl, rfl, trivial⟩
    · replace h := h.2 q
      refine zw_go (pc1 := 13) (L1 := [some (.ref a0), some (.int x1), some (.int x2), some (.int x3), some (.int x4), none, none, none]) (st1 := [.ref a0]) (σ1 := σ) zM_X7_opened dX7_opened_12 rfl rfl rfl rfl ?_
      refine zw_go (pc1 := 14) (L1 := [some (.ref a0), some (.int x1), some (.int x2), some (.int x3), some (.int x4), none, none, none]) (st1 := [.int x1, .ref a0]) (σ1 := σ) zM_X7_opened dX7_opened_13 rfl rfl rfl rfl ?_
      refine zw_go (pc1 := 15) (L1 := [some (.ref a0), some (.int x1), some (.int x2), some (.int x3), some (.int x4), none, none, none]) (st1 := [.int x2, .int x1, .ref a0]) (σ1 := σ) zM_X7_opened dX7_opened_14 rfl rfl rfl rfl ?_
      refine zw_go (pc1 := 17) (L1 := [some (.ref a0), some (.int x1), some (.int x2), some (.int x3), some (.int x4), none, none, none]) (st1 := [.int x4, .int x2, .int x1, .ref a0]) (σ1 := σ) zM_X7_opened dX7_opened_15 rfl rfl rfl rfl ?_
      refine zw_go (pc1 := 18) (L1 := [some (.ref a0), some (.int x1), some (.int x2), some (.int x3), some (.int x4), none, none, none]) (st1 := [.int (x2 + x4), .int x1, .ref a0]) (σ1 := σ) zM_X7_opened dX7_opened_17 rfl rfl rfl rfl ?_
      obtain ⟨hk1, h⟩ := h
      refine zw_callI (as := [.ref a0, .int x1, .int (x2 + x4)]) (rest := []) zM_X7_opened dX7_opened_18 (zx_calV zC_7_198) zM_X7_byteAt rfl rfl rfl rfl rfl (zx_args0 hk1 rfl) rfl h (fun v3 σ2 h => ?_)
      exact zw_reti zM_X7_opened dX7_opened_21 rfl h
  · replace h := h.2 q
    refine zw_iconst (v := 0) zM_X7_opened dX7_opened_4 (by decide) ?_
    exact zw_reti zM_X7_opened dX7_opened_5 rfl h
set_option maxHeartbeats 4000000 in
set_option maxRecDepth 100000 in
theorem vc_X7_opened_28 (a0 : Nat) (x1 : Int32) (x4 : Int32) (x5 : Int32) (x6 : Int32) (σ : zx_S) (K : Int32 → zx_S → Prop) (h : zK σ a0 = 20 ∧ zwI 143 0 [some (.ref a0), some (.int x1), some (.int x5)] [] σ (fun v3 σ2 => (((128 : Int32) ≤ v3 → ((v3 ≤ (128 : Int32) → zwI 192 146 [some (.ref a0), some (.int x1), none, none, some (.int x4), some (.int (x5 + Int32.ofInt 1)), some (.int x6), none] [] σ2 K) ∧ (¬ v3 ≤ (128 : Int32) → ((((x6 + 257) - v3) ≤ x4 → zwI 192 146 [some (.ref a0), some (.int x1), none, none, some (.int x4), some (.int (x5 + Int32.ofInt 2)), some (.int (x6 + (257 - v3))), none] [] σ2 K) ∧ (¬ ((x6 + 257) - v3) ≤ x4 → zK σ2 a0 = 20 ∧ zwI 143 0 [some (.ref a0), some (.int x1), some (.int (x5 + 1))] [] σ2 (fun v6 σ5 => K v6 σ5)))))) ∧ (¬ (128 : Int32) ≤ v3 → ((((x6 + v3) + 1) ≤ x4 → zwI 192 146 [some (.ref a0), some (.int x1), none, none, some (.int x4), some (.int (x5 + (v3 + 2))), some (.int (x6 + (v3 + 1))), none] [] σ2 K) ∧ (¬ ((x6 + v3) + 1) ≤ x4 → zK σ2 a0 = 20 ∧ zwI 143 0 [some (.ref a0), some (.int x1), some (.int (((x5 + 1) + x4) - x6))] [] σ2 (fun v9 σ8 => K v9 σ8))))))) : zwI 192 28 [some (.ref a0), some (.int x1), none, none, some (.int x4), some (.int x5), some (.int x6), none] [] σ K := by
  refine zw_go (pc1 := 29) (L1 := [some (.ref a0), some (.int x1), none, none, some (.int x4), some (.int x5), some (.int x6), none]) (st1 := [.ref a0]) (σ1 := σ) zM_X7_opened dX7_opened_28 rfl rfl rfl rfl ?_
  refine zw_go (pc1 := 30) (L1 := [some (.ref a0), some (.int x1), none, none, some (.int x4), some (.int x5), some (.int x6), none]) (st1 := [.int x1, .ref a0]) (σ1 := σ) zM_X7_opened dX7_opened_29 rfl rfl rfl rfl ?_
  refine zw_go (pc1 := 32) (L1 := [some (.ref a0), some (.int x1), none, none, some (.int x4), some (.int x5), some (.int x6), none]) (st1 := [.int x5, .int x1, .ref a0]) (σ1 := σ) zM_X7_opened dX7_opened_30 rfl rfl rfl rfl ?_
  obtain ⟨hk1, h⟩ := h
  refine zw_callI (as := [.ref a0, .int x1, .int x5]) (rest := []) zM_X7_opened dX7_opened_32 (zx_calV zC_7_198) zM_X7_byteAt rfl rfl rfl rfl rfl (zx_args0 hk1 rfl) rfl h (fun v3 σ2 h => ?_)
  refine zw_go (pc1 := 37) (L1 := [some (.ref a0), some (.int x1), none, none, some (.int x4), some (.int x5), some (.int x6), some (.int v3)]) (st1 := []) (σ1 := σ2) zM_X7_opened dX7_opened_35 rfl rfl rfl rfl ?_
  refine zw_go (pc1 := 39) (L1 := [some (.ref a0), some (.int x1), none, none, some (.int x4), some (.int x5), some (.int x6), some (.int v3)]) (st1 := [.int v3]) (σ1 := σ2) zM_X7_opened dX7_opened_37 rfl rfl rfl rfl ?_
  refine zw_sipush (v := 128) zM_X7_opened dX7_opened_39 (by decide) ?_
  refine zw_icmp_ge (tgt := 94) zM_X7_opened dX7_opened_42 rfl rfl (fun q => ?_) (fun q => ?_)
  · replace h := h.1 q
    refine zw_go (pc1 := 96) (L1 := [some (.ref a0), some (.int x1), none, none, some (.int x4), some (.int x5), some (.int x6), some (.int v3)]) (st1 := [.int v3]) (σ1 := σ2) zM_X7_opened dX7_opened_94 rfl rfl rfl rfl ?_
    refine zw_sipush (v := 128) zM_X7_opened dX7_opened_96 (by decide) ?_
    refine zw_icmp_le (tgt := 143) zM_X7_opened dX7_opened_99 rfl rfl (fun q => ?_) (fun q => ?_)
    · replace h := h.1 q
      refine zw_go (pc1 := 146) (L1 := [some (.ref a0), some (.int x1), none, none, some (.int x4), some (.int (x5 + Int32.ofInt 1)), some (.int x6), some (.int v3)]) (st1 := []) (σ1 := σ2) zM_X7_opened dX7_opened_143 rfl rfl rfl rfl ?_
      exact zw_weak2 h ⟨rfl, rfl, rfl, rfl, rfl, trivial⟩
    · replace h := h.2 q
      refine zw_go (pc1 := 104) (L1 := [some (.ref a0), some (.int x1), none, none, some (.int x4), some (.int x5), some (.int x6), some (.int v3)]) (st1 := [.int x4]) (σ1 := σ2) zM_X7_opened dX7_opened_102 rfl rfl rfl rfl ?_
      refine zw_go (pc1 := 106) (L1 := [some (.ref a0), some (.int x1), none, none, some (.int x4), some (.int x5), some (.int x6), some (.int v3)]) (st1 := [.int x6, .int x4]) (σ1 := σ2) zM_X7_opened dX7_opened_104 rfl rfl rfl rfl ?_
      refine zw_sipush (v := 257) zM_X7_opened dX7_opened_106 (by decide) ?_
      refine zw_go (pc1 := 110) (L1 := [some (.ref a0), some (.int x1), none, none, some (.int x4), some (.int x5), some (.int x6), some (.int v3)]) (st1 := [.int (x6 + 257), .int x4]) (σ1 := σ2) zM_X7_opened dX7_opened_109 rfl rfl rfl rfl ?_
      refine zw_go (pc1 := 112) (L1 := [some (.ref a0), some (.int x1), none, none, some (.int x4), some (.int x5), some (.int x6), some (.int v3)]) (st1 := [.int v3, .int (x6 + 257), .int x4]) (σ1 := σ2) zM_X7_opened dX7_opened_110 rfl rfl rfl rfl ?_
      refine zw_go (pc1 := 113) (L1 := [some (.ref a0), some (.int x1), none, none, some (.int x4), some (.int x5), some (.int x6), some (.int v3)]) (st1 := [.int ((x6 + 257) - v3), .int x4]) (σ1 := σ2) zM_X7_opened dX7_opened_112 rfl rfl rfl rfl ?_
      refine zw_icmp_ge (tgt := 126) zM_X7_opened dX7_opened_113 rfl rfl (fun q => ?_) (fun q => ?_)
      · replace h := h.1 q
        refine zw_go (pc1 := 128) (L1 := [some (.ref a0), some (.int x1), none, none, some (.int x4), some (.int x5), some (.int x6), some (.int v3)]) (st1 := [.int x6]) (σ1 := σ2) zM_X7_opened dX7_opened_126 rfl rfl rfl rfl ?_
        refine zw_sipush (v := 257) zM_X7_opened dX7_opened_128 (by decide) ?_
        refine zw_go (pc1 := 133) (L1 := [some (.ref a0), some (.int x1), none, none, some (.int x4), some (.int x5), some (.int x6), some (.int v3)]) (st1 := [.int v3, .int 257, .int x6]) (σ1 := σ2) zM_X7_opened dX7_opened_131 rfl rfl rfl rfl ?_
        refine zw_go (pc1 := 134) (L1 := [some (.ref a0), some (.int x1), none, none, some (.int x4), some (.int x5), some (.int x6), some (.int v3)]) (st1 := [.int (257 - v3), .int x6]) (σ1 := σ2) zM_X7_opened dX7_opened_133 rfl rfl rfl rfl ?_
        refine zw_go (pc1 := 135) (L1 := [some (.ref a0), some (.int x1), none, none, some (.int x4), some (.int x5), some (.int x6), some (.int v3)]) (st1 := [.int (x6 + (257 - v3))]) (σ1 := σ2) zM_X7_opened dX7_opened_134 rfl rfl rfl rfl ?_
        refine zw_go (pc1 := 137) (L1 := [some (.ref a0), some (.int x1), none, none, some (.int x4), some (.int x5), some (.int (x6 + (257 - v3))), some (.int v3)]) (st1 := []) (σ1 := σ2) zM_X7_opened dX7_opened_135 rfl rfl rfl rfl ?_
        refine zw_go (pc1 := 140) (L1 := [some (.ref a0), some (.int x1), none, none, some (.int x4), some (.int (x5 + Int32.ofInt 2)), some (.int (x6 + (257 - v3))), some (.int v3)]) (st1 := []) (σ1 := σ2) zM_X7_opened dX7_opened_137 rfl rfl rfl rfl ?_
        refine zw_goto (tgt := 146) zM_X7_opened dX7_opened_140 rfl ?_
        exact zw_weak2 h ⟨rfl, rfl, rfl, rfl, rfl, trivial⟩
      · replace h := h.2 q
        refine zw_go (pc1 := 117) (L1 := [some (.ref a0), some (.int x1), none, none, some (.int x4), some (.int x5), some (.int x6), some (.int v3)]) (st1 := [.ref a0]) (σ1 := σ2) zM_X7_opened dX7_opened_116 rfl rfl rfl rfl ?_
        refine zw_go (pc1 := 118) (L1 := [some (.ref a0), some (.int x1), none, none, some (.int x4), some (.int x5), some (.int x6), some (.int v3)]) (st1 := [.int x1, .ref a0]) (σ1 := σ2) zM_X7_opened dX7_opened_117 rfl rfl rfl rfl ?_
        refine zw_go (pc1 := 120) (L1 := [some (.ref a0), some (.int x1), none, none, some (.int x4), some (.int x5), some (.int x6), some (.int v3)]) (st1 := [.int x5, .int x1, .ref a0]) (σ1 := σ2) zM_X7_opened dX7_opened_118 rfl rfl rfl rfl ?_
        refine zw_iconst (v := 1) zM_X7_opened dX7_opened_120 (by decide) ?_
        refine zw_go (pc1 := 122) (L1 := [some (.ref a0), some (.int x1), none, none, some (.int x4), some (.int x5), some (.int x6), some (.int v3)]) (st1 := [.int (x5 + 1), .int x1, .ref a0]) (σ1 := σ2) zM_X7_opened dX7_opened_121 rfl rfl rfl rfl ?_
        obtain ⟨hk4, h⟩ := h
        refine zw_callI (as := [.ref a0, .int x1, .int (x5 + 1)]) (rest := []) zM_X7_opened dX7_opened_122 (zx_calV zC_7_198) zM_X7_byteAt rfl rfl rfl rfl rfl (zx_args0 hk4 rfl) rfl h (fun v6 σ5 h => ?_)
        exact zw_reti zM_X7_opened dX7_opened_125 rfl h
  · replace h := h.2 q
    refine zw_go (pc1 := 47) (L1 := [some (.ref a0), some (.int x1), none, none, some (.int x4), some (.int x5), some (.int x6), some (.int v3)]) (st1 := [.int x4]) (σ1 := σ2) zM_X7_opened dX7_opened_45 rfl rfl rfl rfl ?_
    refine zw_go (pc1 := 49) (L1 := [some (.ref a0), some (.int x1), none, none, some (.int x4), some (.int x5), some (.int x6), some (.int v3)]) (st1 := [.int x6, .int x4]) (σ1 := σ2) zM_X7_opened dX7_opened_47 rfl rfl rfl rfl ?_
    refine zw_go (pc1 := 51) (L1 := [some (.ref a0), some (.int x1), none, none, some (.int x4), some (.int x5), some (.int x6), some (.int v3)]) (st1 := [.int v3, .int x6, .int x4]) (σ1 := σ2) zM_X7_opened dX7_opened_49 rfl rfl rfl rfl ?_
    refine zw_go (pc1 := 52) (L1 := [some (.ref a0), some (.int x1), none, none, some (.int x4), some (.int x5), some (.int x6), some (.int v3)]) (st1 := [.int (x6 + v3), .int x4]) (σ1 := σ2) zM_X7_opened dX7_opened_51 rfl rfl rfl rfl ?_
    refine zw_iconst (v := 1) zM_X7_opened dX7_opened_52 (by decide) ?_
    refine zw_go (pc1 := 54) (L1 := [some (.ref a0), some (.int x1), none, none, some (.int x4), some (.int x5), some (.int x6), some (.int v3)]) (st1 := [.int ((x6 + v3) + 1), .int x4]) (σ1 := σ2) zM_X7_opened dX7_opened_53 rfl rfl rfl rfl ?_
    refine zw_icmp_ge (tgt := 73) zM_X7_opened dX7_opened_54 rfl rfl (fun q => ?_) (fun q => ?_)
    · replace h := h.1 q
      refine zw_go (pc1 := 75) (L1 := [some (.ref a0), some (.int x1), none, none, some (.int x4), some (.int x5), some (.int x6), some (.int v3)]) (st1 := [.int x6]) (σ1 := σ2) zM_X7_opened dX7_opened_73 rfl rfl rfl rfl ?_
      refine zw_go (pc1 := 77) (L1 := [some (.ref a0), some (.int x1), none, none, some (.int x4), some (.int x5), some (.int x6), some (.int v3)]) (st1 := [.int v3, .int x6]) (σ1 := σ2) zM_X7_opened dX7_opened_75 rfl rfl rfl rfl ?_
      refine zw_iconst (v := 1) zM_X7_opened dX7_opened_77 (by decide) ?_
      refine zw_go (pc1 := 79) (L1 := [some (.ref a0), some (.int x1), none, none, some (.int x4), some (.int x5), some (.int x6), some (.int v3)]) (st1 := [.int (v3 + 1), .int x6]) (σ1 := σ2) zM_X7_opened dX7_opened_78 rfl rfl rfl rfl ?_
      refine zw_go (pc1 := 80) (L1 := [some (.ref a0), some (.int x1), none, none, some (.int x4), some (.int x5), some (.int x6), some (.int v3)]) (st1 := [.int (x6 + (v3 + 1))]) (σ1 := σ2) zM_X7_opened dX7_opened_79 rfl rfl rfl rfl ?_
      refine zw_go (pc1 := 82) (L1 := [some (.ref a0), some (.int x1), none, none, some (.int x4), some (.int x5), some (.int (x6 + (v3 + 1))), some (.int v3)]) (st1 := []) (σ1 := σ2) zM_X7_opened dX7_opened_80 rfl rfl rfl rfl ?_
      refine zw_go (pc1 := 84) (L1 := [some (.ref a0), some (.int x1), none, none, some (.int x4), some (.int x5), some (.int (x6 + (v3 + 1))), some (.int v3)]) (st1 := [.int x5]) (σ1 := σ2) zM_X7_opened dX7_opened_82 rfl rfl rfl rfl ?_
      refine zw_go (pc1 := 86) (L1 := [some (.ref a0), some (.int x1), none, none, some (.int x4), some (.int x5), some (.int (x6 + (v3 + 1))), some (.int v3)]) (st1 := [.int v3, .int x5]) (σ1 := σ2) zM_X7_opened dX7_opened_84 rfl rfl rfl rfl ?_
      refine zw_iconst (v := 2) zM_X7_opened dX7_opened_86 (by decide) ?_
      refine zw_go (pc1 := 88) (L1 := [some (.ref a0), some (.int x1), none, none, some (.int x4), some (.int x5), some (.int (x6 + (v3 + 1))), some (.int v3)]) (st1 := [.int (v3 + 2), .int x5]) (σ1 := σ2) zM_X7_opened dX7_opened_87 rfl rfl rfl rfl ?_
      refine zw_go (pc1 := 89) (L1 := [some (.ref a0), some (.int x1), none, none, some (.int x4), some (.int x5), some (.int (x6 + (v3 + 1))), some (.int v3)]) (st1 := [.int (x5 + (v3 + 2))]) (σ1 := σ2) zM_X7_opened dX7_opened_88 rfl rfl rfl rfl ?_
      refine zw_go (pc1 := 91) (L1 := [some (.ref a0), some (.int x1), none, none, some (.int x4), some (.int (x5 + (v3 + 2))), some (.int (x6 + (v3 + 1))), some (.int v3)]) (st1 := []) (σ1 := σ2) zM_X7_opened dX7_opened_89 rfl rfl rfl rfl ?_
      refine zw_goto (tgt := 146) zM_X7_opened dX7_opened_91 rfl ?_
      exact zw_weak2 h ⟨rfl, rfl, rfl, rfl, rfl, trivial⟩
    · replace h := h.2 q
      refine zw_go (pc1 := 58) (L1 := [some (.ref a0), some (.int x1), none, none, some (.int x4), some (.int x5), some (.int x6), some (.int v3)]) (st1 := [.ref a0]) (σ1 := σ2) zM_X7_opened dX7_opened_57 rfl rfl rfl rfl ?_
      refine zw_go (pc1 := 59) (L1 := [some (.ref a0), some (.int x1), none, none, some (.int x4), some (.int x5), some (.int x6), some (.int v3)]) (st1 := [.int x1, .ref a0]) (σ1 := σ2) zM_X7_opened dX7_opened_58 rfl rfl rfl rfl ?_
      refine zw_go (pc1 := 61) (L1 := [some (.ref a0), some (.int x1), none, none, some (.int x4), some (.int x5), some (.int x6), some (.int v3)]) (st1 := [.int x5, .int x1, .ref a0]) (σ1 := σ2) zM_X7_opened dX7_opened_59 rfl rfl rfl rfl ?_
      refine zw_iconst (v := 1) zM_X7_opened dX7_opened_61 (by decide) ?_
      refine zw_go (pc1 := 63) (L1 := [some (.ref a0), some (.int x1), none, none, some (.int x4), some (.int x5), some (.int x6), some (.int v3)]) (st1 := [.int (x5 + 1), .int x1, .ref a0]) (σ1 := σ2) zM_X7_opened dX7_opened_62 rfl rfl rfl rfl ?_
      refine zw_go (pc1 := 65) (L1 := [some (.ref a0), some (.int x1), none, none, some (.int x4), some (.int x5), some (.int x6), some (.int v3)]) (st1 := [.int x4, .int (x5 + 1), .int x1, .ref a0]) (σ1 := σ2) zM_X7_opened dX7_opened_63 rfl rfl rfl rfl ?_
      refine zw_go (pc1 := 66) (L1 := [some (.ref a0), some (.int x1), none, none, some (.int x4), some (.int x5), some (.int x6), some (.int v3)]) (st1 := [.int ((x5 + 1) + x4), .int x1, .ref a0]) (σ1 := σ2) zM_X7_opened dX7_opened_65 rfl rfl rfl rfl ?_
      refine zw_go (pc1 := 68) (L1 := [some (.ref a0), some (.int x1), none, none, some (.int x4), some (.int x5), some (.int x6), some (.int v3)]) (st1 := [.int x6, .int ((x5 + 1) + x4), .int x1, .ref a0]) (σ1 := σ2) zM_X7_opened dX7_opened_66 rfl rfl rfl rfl ?_
      refine zw_go (pc1 := 69) (L1 := [some (.ref a0), some (.int x1), none, none, some (.int x4), some (.int x5), some (.int x6), some (.int v3)]) (st1 := [.int (((x5 + 1) + x4) - x6), .int x1, .ref a0]) (σ1 := σ2) zM_X7_opened dX7_opened_68 rfl rfl rfl rfl ?_
      obtain ⟨hk7, h⟩ := h
      refine zw_callI (as := [.ref a0, .int x1, .int (((x5 + 1) + x4) - x6)]) (rest := []) zM_X7_opened dX7_opened_69 (zx_calV zC_7_198) zM_X7_byteAt rfl rfl rfl rfl rfl (zx_args0 hk7 rfl) rfl h (fun v9 σ8 h => ?_)
      exact zw_reti zM_X7_opened dX7_opened_72 rfl h
set_option maxHeartbeats 4000000 in
set_option maxRecDepth 100000 in
theorem vc_X7_opened_146 (a0 : Nat) (x1 : Int32) (x4 : Int32) (x5 : Int32) (x6 : Int32) (σ : zx_S) (K : Int32 → zx_S → Prop) (h : zwI 192 28 [some (.ref a0), some (.int x1), none, none, some (.int x4), some (.int x5), some (.int x6), none] [] σ K) : zwI 192 146 [some (.ref a0), some (.int x1), none, none, some (.int x4), some (.int x5), some (.int x6), none] [] σ K := by
  refine zw_goto (tgt := 28) zM_X7_opened dX7_opened_146 rfl ?_
  exact zw_weak2 h ⟨rfl, rfl, rfl, rfl, rfl, trivial⟩
set_option maxHeartbeats 4000000 in
set_option maxRecDepth 100000 in
theorem vc_X7_out_0 (a0 : Nat) (x1 : Int32) (x2 : Int32) (σ : zx_S) (K : Int32 → zx_S → Prop) (h : zK σ a0 = 20 ∧ ∀ σ2 : zx_S, σ2 = zx_pI σ a0 0 0 → zwI 165 0 [some (.ref a0), some (.int x1)] [] σ2 (fun v5 σ4 => ((¬ v5 = (0 : Int32) → zK σ4 a0 = 20 ∧ ∃ b7 : Nat, zR σ4 a0 13 = some b7 ∧ zK σ4 b7 = 1 ∧ zx_in x1 (zN σ4 b7) = true ∧ zwI 160 0 [some (.int x2), some (.int 0), some (.int ((zI σ4 b7 (Int32.toNatClampNeg x1)) - 1))] [] σ4 (fun v12 σ11 => ((¬ v12 = (0 : Int32) → zK σ11 a0 = 20 ∧ zwI 143 0 [some (.ref a0), some (.int x1), some (.int x2)] [] σ11 (fun v15 σ14 => K v15 σ14)) ∧ (v12 = (0 : Int32) → zK σ11 a0 = 20 ∧ ∀ σ17 : zx_S, σ17 = zx_pI σ11 a0 0 1 → K 0 σ17)))) ∧ (v5 = (0 : Int32) → K (-1) σ4)))) : zwI 193 0 [some (.ref a0), some (.int x1), some (.int x2)] [] σ K := by
  refine zw_go (pc1 := 1) (L1 := [some (.ref a0), some (.int x1), some (.int x2)]) (st1 := [.ref a0]) (σ1 := σ) zM_X7_out dX7_out_0 rfl rfl rfl rfl ?_
  refine zw_iconst (v := 0) zM_X7_out dX7_out_1 (by decide) ?_
  obtain ⟨hk1, h⟩ := h
  obtain ⟨σ2, e3⟩ : ∃ z9 : zx_S, z9 = zx_pI σ a0 0 0 := ⟨_, rfl⟩
  replace h := h σ2 e3
  refine zw_putI zM_X7_out dX7_out_2 zF_7_98 rfl rfl hk1 e3 ?_
  refine zw_go (pc1 := 6) (L1 := [some (.ref a0), some (.int x1), some (.int x2)]) (st1 := [.ref a0]) (σ1 := σ2) zM_X7_out dX7_out_5 rfl rfl rfl rfl ?_
  refine zw_go (pc1 := 7) (L1 := [some (.ref a0), some (.int x1), some (.int x2)]) (st1 := [.int x1, .ref a0]) (σ1 := σ2) zM_X7_out dX7_out_6 rfl rfl rfl rfl ?_
  refine zw_callI (as := [.ref a0, .int x1]) (rest := []) zM_X7_out dX7_out_7 (zx_calV zC_7_263) zM_X7_isImage rfl rfl rfl rfl rfl (zx_args0 (by rw [e3]; exact hk1) rfl) rfl h (fun v5 σ4 h => ?_)
  refine zw_if_ne (tgt := 15) zM_X7_out dX7_out_10 rfl rfl (fun q => ?_) (fun q => ?_)
  · replace h := h.1 q
    refine zw_go (pc1 := 16) (L1 := [some (.ref a0), some (.int x1), some (.int x2)]) (st1 := [.int x2]) (σ1 := σ4) zM_X7_out dX7_out_15 rfl rfl rfl rfl ?_
    refine zw_iconst (v := 0) zM_X7_out dX7_out_16 (by decide) ?_
    refine zw_go (pc1 := 18) (L1 := [some (.ref a0), some (.int x1), some (.int x2)]) (st1 := [.ref a0, .int 0, .int x2]) (σ1 := σ4) zM_X7_out dX7_out_17 rfl rfl rfl rfl ?_
    obtain ⟨hk6, h⟩ := h
    obtain ⟨b7, hr8, h⟩ := h
    refine zw_getR (a := b7) zM_X7_out dX7_out_18 zF_7_37 rfl hk6 hr8 ?_
    refine zw_go (pc1 := 22) (L1 := [some (.ref a0), some (.int x1), some (.int x2)]) (st1 := [.int x1, .ref b7, .int 0, .int x2]) (σ1 := σ4) zM_X7_out dX7_out_21 rfl rfl rfl rfl ?_
    obtain ⟨hk9, h⟩ := h
    obtain ⟨hi10, h⟩ := h
    refine zw_iald zM_X7_out dX7_out_22 ⟨Or.inl hk9, hi10⟩ ?_
    refine zw_iconst (v := 1) zM_X7_out dX7_out_23 (by decide) ?_
    refine zw_go (pc1 := 25) (L1 := [some (.ref a0), some (.int x1), some (.int x2)]) (st1 := [.int ((zI σ4 b7 (Int32.toNatClampNeg x1)) - 1), .int 0, .int x2]) (σ1 := σ4) zM_X7_out dX7_out_24 rfl rfl rfl rfl ?_
    refine zw_callI (as := [.int x2, .int 0, .int ((zI σ4 b7 (Int32.toNatClampNeg x1)) - 1)]) (rest := []) zM_X7_out dX7_out_25 (zx_calS zC_7_101) zM_X7_in rfl rfl rfl rfl rfl rfl rfl h (fun v12 σ11 h => ?_)
    refine zw_if_ne (tgt := 38) zM_X7_out dX7_out_28 rfl rfl (fun q => ?_) (fun q => ?_)
    · replace h := h.1 q
      refine zw_go (pc1 := 39) (L1 := [some (.ref a0), some (.int x1), some (.int x2)]) (st1 := [.ref a0]) (σ1 := σ11) zM_X7_out dX7_out_38 rfl rfl rfl rfl ?_
      refine zw_go (pc1 := 40) (L1 := [some (.ref a0), some (.int x1), some (.int x2)]) (st1 := [.int x1, .ref a0]) (σ1 := σ11) zM_X7_out dX7_out_39 rfl rfl rfl rfl ?_
      refine zw_go (pc1 := 41) (L1 := [some (.ref a0), some (.int x1), some (.int x2)]) (st1 := [.int x2, .int x1, .ref a0]) (σ1 := σ11) zM_X7_out dX7_out_40 rfl rfl rfl rfl ?_
      obtain ⟨hk13, h⟩ := h
      refine zw_callI (as := [.ref a0, .int x1, .int x2]) (rest := []) zM_X7_out dX7_out_41 (zx_calV zC_7_198) zM_X7_byteAt rfl rfl rfl rfl rfl (zx_args0 hk13 rfl) rfl h (fun v15 σ14 h => ?_)
      exact zw_reti zM_X7_out dX7_out_44 rfl h
    · replace h := h.2 q
      refine zw_go (pc1 := 32) (L1 := [some (.ref a0), some (.int x1), some (.int x2)]) (st1 := [.ref a0]) (σ1 := σ11) zM_X7_out dX7_out_31 rfl rfl rfl rfl ?_
      refine zw_iconst (v := 1) zM_X7_out dX7_out_32 (by decide) ?_
      obtain ⟨hk16, h⟩ := h
      obtain ⟨σ17, e18⟩ : ∃ z9 : zx_S, z9 = zx_pI σ11 a0 0 1 := ⟨_, rfl⟩
      replace h := h σ17 e18
      refine zw_putI zM_X7_out dX7_out_33 zF_7_98 rfl rfl hk16 e18 ?_
      refine zw_iconst (v := 0) zM_X7_out dX7_out_36 (by decide) ?_
      exact zw_reti zM_X7_out dX7_out_37 rfl h
  · replace h := h.2 q
    refine zw_iconst (v := (-1)) zM_X7_out dX7_out_13 (by decide) ?_
    exact zw_reti zM_X7_out dX7_out_14 rfl h
set_option maxHeartbeats 4000000 in
set_option maxRecDepth 100000 in
theorem vc_X7_over_0 (a0 : Nat) (x1 : Int32) (σ : zx_S) (K : Int32 → zx_S → Prop) (h : zK σ a0 = 20 ∧ ∀ σ2 : zx_S, σ2 = zx_pI σ a0 0 0 → zwI 165 0 [some (.ref a0), some (.int x1)] [] σ2 (fun v5 σ4 => ((¬ v5 = (0 : Int32) → zK σ4 a0 = 20 ∧ zwI 166 0 [some (.ref a0), some (.int x1), none, none] [] σ4 (fun v8 σ7 => ((v8 = (0 : Int32) → zK σ7 a0 = 20 ∧ ∃ b10 : Nat, zR σ7 a0 36 = some b10 ∧ zK σ7 b10 = 1 ∧ zx_in (zI σ7 a0 35) (zN σ7 b10) = true ∧ ∀ σ14 : zx_S, σ14 = zx_pI σ7 b10 (Int32.toNatClampNeg (zI σ7 a0 35)) x1 → ∀ σ16 : zx_S, σ16 = zx_pI σ14 a0 35 ((zI σ14 a0 35) + 1) → zwV 154 0 [some (.ref a0), none] [] σ16 (fun σ18 => zK σ18 a0 = 20 ∧ K (zI σ18 a0 35) σ18)) ∧ (¬ v8 = (0 : Int32) → K (-3) σ7)))) ∧ (v5 = (0 : Int32) → K (-1) σ4)))) : zwI 194 0 [some (.ref a0), some (.int x1)] [] σ K := by
  refine zw_go (pc1 := 1) (L1 := [some (.ref a0), some (.int x1)]) (st1 := [.ref a0]) (σ1 := σ) zM_X7_over dX7_over_0 rfl rfl rfl rfl ?_
  refine zw_iconst (v := 0) zM_X7_over dX7_over_1 (by decide) ?_
  obtain ⟨hk1, h⟩ := h
  obtain ⟨σ2, e3⟩ : ∃ z9 : zx_S, z9 = zx_pI σ a0 0 0 := ⟨_, rfl⟩
  replace h := h σ2 e3
  refine zw_putI zM_X7_over dX7_over_2 zF_7_98 rfl rfl hk1 e3 ?_
  refine zw_go (pc1 := 6) (L1 := [some (.ref a0), some (.int x1)]) (st1 := [.ref a0]) (σ1 := σ2) zM_X7_over dX7_over_5 rfl rfl rfl rfl ?_
  refine zw_go (pc1 := 7) (L1 := [some (.ref a0), some (.int x1)]) (st1 := [.int x1, .ref a0]) (σ1 := σ2) zM_X7_over dX7_over_6 rfl rfl rfl rfl ?_
  refine zw_callI (as := [.ref a0, .int x1]) (rest := []) zM_X7_over dX7_over_7 (zx_calV zC_7_263) zM_X7_isImage rfl rfl rfl rfl rfl (zx_args0 (by rw [e3]; exact hk1) rfl) rfl h (fun v5 σ4 h => ?_)
  refine zw_if_ne (tgt := 15) zM_X7_over dX7_over_10 rfl rfl (fun q => ?_) (fun q => ?_)
  · replace h := h.1 q
    refine zw_go (pc1 := 16) (L1 := [some (.ref a0), some (.int x1)]) (st1 := [.ref a0]) (σ1 := σ4) zM_X7_over dX7_over_15 rfl rfl rfl rfl ?_
    refine zw_go (pc1 := 17) (L1 := [some (.ref a0), some (.int x1)]) (st1 := [.int x1, .ref a0]) (σ1 := σ4) zM_X7_over dX7_over_16 rfl rfl rfl rfl ?_
    obtain ⟨hk6, h⟩ := h
    refine zw_callI (as := [.ref a0, .int x1]) (rest := []) zM_X7_over dX7_over_17 (zx_calV zC_7_260) zM_X7_isLaid rfl rfl rfl rfl rfl (zx_args0 hk6 rfl) rfl h (fun v8 σ7 h => ?_)
    refine zw_if_eq (tgt := 26) zM_X7_over dX7_over_20 rfl rfl (fun q => ?_) (fun q => ?_)
    · replace h := h.1 q
      refine zw_go (pc1 := 27) (L1 := [some (.ref a0), some (.int x1)]) (st1 := [.ref a0]) (σ1 := σ7) zM_X7_over dX7_over_26 rfl rfl rfl rfl ?_
      obtain ⟨hk9, h⟩ := h
      obtain ⟨b10, hr11, h⟩ := h
      refine zw_getR (a := b10) zM_X7_over dX7_over_27 zF_7_82 rfl hk9 hr11 ?_
      refine zw_go (pc1 := 31) (L1 := [some (.ref a0), some (.int x1)]) (st1 := [.ref a0, .ref b10]) (σ1 := σ7) zM_X7_over dX7_over_30 rfl rfl rfl rfl ?_
      refine zw_getI zM_X7_over dX7_over_31 zF_7_257 rfl hk9 ?_
      refine zw_go (pc1 := 35) (L1 := [some (.ref a0), some (.int x1)]) (st1 := [.int x1, .int (zI σ7 a0 35), .ref b10]) (σ1 := σ7) zM_X7_over dX7_over_34 rfl rfl rfl rfl ?_
      obtain ⟨hk12, h⟩ := h
      obtain ⟨hi13, h⟩ := h
      obtain ⟨σ14, e15⟩ : ∃ z9 : zx_S, z9 = zx_pI σ7 b10 (Int32.toNatClampNeg (zI σ7 a0 35)) x1 := ⟨_, rfl⟩
      replace h := h σ14 e15
      refine zw_iast zM_X7_over dX7_over_35 ⟨hk12, hi13⟩ e15 ?_
      refine zw_go (pc1 := 37) (L1 := [some (.ref a0), some (.int x1)]) (st1 := [.ref a0]) (σ1 := σ14) zM_X7_over dX7_over_36 rfl rfl rfl rfl ?_
      refine zw_go (pc1 := 38) (L1 := [some (.ref a0), some (.int x1)]) (st1 := [.ref a0, .ref a0]) (σ1 := σ14) zM_X7_over dX7_over_37 rfl rfl rfl rfl ?_
      refine zw_getI zM_X7_over dX7_over_38 zF_7_257 rfl (by rw [e15]; exact hk9) ?_
      refine zw_iconst (v := 1) zM_X7_over dX7_over_41 (by decide) ?_
      refine zw_go (pc1 := 43) (L1 := [some (.ref a0), some (.int x1)]) (st1 := [.int ((zI σ14 a0 35) + 1), .ref a0]) (σ1 := σ14) zM_X7_over dX7_over_42 rfl rfl rfl rfl ?_
      obtain ⟨σ16, e17⟩ : ∃ z9 : zx_S, z9 = zx_pI σ14 a0 35 ((zI σ14 a0 35) + 1) := ⟨_, rfl⟩
      replace h := h σ16 e17
      refine zw_putI zM_X7_over dX7_over_43 zF_7_257 rfl rfl (by rw [e15]; exact hk9) e17 ?_
      refine zw_go (pc1 := 47) (L1 := [some (.ref a0), some (.int x1)]) (st1 := [.ref a0]) (σ1 := σ16) zM_X7_over dX7_over_46 rfl rfl rfl rfl ?_
      refine zw_callV (as := [.ref a0]) (rest := []) zM_X7_over dX7_over_47 (zx_calV zC_7_272) zM_X7_first rfl rfl rfl rfl rfl (zx_args0 (by rw [e17, e15]; exact hk9) rfl) rfl h (fun σ18 h => ?_)
      refine zw_go (pc1 := 51) (L1 := [some (.ref a0), some (.int x1)]) (st1 := [.ref a0]) (σ1 := σ18) zM_X7_over dX7_over_50 rfl rfl rfl rfl ?_
      obtain ⟨hk19, h⟩ := h
      refine zw_getI zM_X7_over dX7_over_51 zF_7_257 rfl hk19 ?_
      exact zw_reti zM_X7_over dX7_over_54 rfl h
    · replace h := h.2 q
      refine zw_bipush (v := (-3)) zM_X7_over dX7_over_23 (by decide) ?_
      exact zw_reti zM_X7_over dX7_over_25 rfl h
  · replace h := h.2 q
    refine zw_iconst (v := (-1)) zM_X7_over dX7_over_13 (by decide) ?_
    exact zw_reti zM_X7_over dX7_over_14 rfl h
