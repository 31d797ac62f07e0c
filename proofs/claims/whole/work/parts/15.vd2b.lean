set_option maxHeartbeats 4000000 in
set_option maxRecDepth 100000 in
theorem vd_X2_isTailRight_0 (x1 : Int) (r_x1 : jW x1) (x2 : Int) (r_x2 : jW x2) (E : jE) (A : jA) (K : Int → jA → Prop) (h : jrI 21 0 [some (.ref 19), some (.int (jI (x1 + 10)))] [] E A (fun v3 A1 => jrI 21 0 [some (.ref 19), some (.int (jI (x1 + 11)))] [] E A1 (fun v7 A5 => ((¬ x2 = (0 : Int) → ((v3 < (1 : Int) → K 0 A5) ∧ ((1 : Int) ≤ v3 → jrI 47 0 [some (.ref 19)] [] E A5 (fun v11 A9 => ((v11 < v3 → K 0 A9) ∧ (v3 ≤ v11 → jrI 48 0 [some (.ref 19), some (.int (jI (v3 - 1)))] [] E A9 (fun v15 A13 => jrI 21 0 [some (.ref 19), some (.int (jI (v15 + 4)))] [] E A13 (fun v19 A17 => jW (v7 + x2) ∧ ((v19 < (v7 + x2) → K 0 A17) ∧ ((v7 + x2) ≤ v19 → K 1 A17)))))))))) ∧ (x2 = (0 : Int) → ((¬ v3 = (0 : Int) → K 0 A5) ∧ (v3 = (0 : Int) → ((¬ v7 = (0 : Int) → K 0 A5) ∧ (v7 = (0 : Int) → K 1 A5))))))))) : jrI 63 0 [some (.ref 19), some (.int (jI x1)), some (.int (jI x2)), none, none] [] E A K := by
  intro hA
  refine zw_go (pc1 := 1) (L1 := [some (.ref 19), some (.int (jI x1)), some (.int (jI x2)), none, none]) (st1 := [.ref 19]) (σ1 := js E A) zM_X2_isTailRight dX2_isTailRight_0 rfl rfl rfl rfl ?_
  refine zw_go (pc1 := 2) (L1 := [some (.ref 19), some (.int (jI x1)), some (.int (jI x2)), none, none]) (st1 := [.int (jI x1), .ref 19]) (σ1 := js E A) zM_X2_isTailRight dX2_isTailRight_1 rfl rfl rfl rfl ?_
  refine jw_bipush (v := 10) zM_X2_isTailRight dX2_isTailRight_2 (by decide) ?_
  refine jw_add zM_X2_isTailRight dX2_isTailRight_4 ?_
  refine jw_callI (as := [.ref 19, .int (jI (x1 + 10))]) (rest := []) zM_X2_isTailRight dX2_isTailRight_5 (zx_calV zC_2_51) zM_X1_byteAt rfl rfl rfl rfl rfl (j_args0 rfl rfl) rfl hA h (fun v3 A1 rv4 hA2 h => ?_)
  refine zw_go (pc1 := 9) (L1 := [some (.ref 19), some (.int (jI x1)), some (.int (jI x2)), some (.int (jI v3)), none]) (st1 := []) (σ1 := js E A1) zM_X2_isTailRight dX2_isTailRight_8 rfl rfl rfl rfl ?_
  refine zw_go (pc1 := 10) (L1 := [some (.ref 19), some (.int (jI x1)), some (.int (jI x2)), some (.int (jI v3)), none]) (st1 := [.ref 19]) (σ1 := js E A1) zM_X2_isTailRight dX2_isTailRight_9 rfl rfl rfl rfl ?_
  refine zw_go (pc1 := 11) (L1 := [some (.ref 19), some (.int (jI x1)), some (.int (jI x2)), some (.int (jI v3)), none]) (st1 := [.int (jI x1), .ref 19]) (σ1 := js E A1) zM_X2_isTailRight dX2_isTailRight_10 rfl rfl rfl rfl ?_
  refine jw_bipush (v := 11) zM_X2_isTailRight dX2_isTailRight_11 (by decide) ?_
  refine jw_add zM_X2_isTailRight dX2_isTailRight_13 ?_
  refine jw_callI (as := [.ref 19, .int (jI (x1 + 11))]) (rest := []) zM_X2_isTailRight dX2_isTailRight_14 (zx_calV zC_2_51) zM_X1_byteAt rfl rfl rfl rfl rfl (j_args0 rfl rfl) rfl hA2 h (fun v7 A5 rv8 hA6 h => ?_)
  refine zw_go (pc1 := 19) (L1 := [some (.ref 19), some (.int (jI x1)), some (.int (jI x2)), some (.int (jI v3)), some (.int (jI v7))]) (st1 := []) (σ1 := js E A5) zM_X2_isTailRight dX2_isTailRight_17 rfl rfl rfl rfl ?_
  refine zw_go (pc1 := 20) (L1 := [some (.ref 19), some (.int (jI x1)), some (.int (jI x2)), some (.int (jI v3)), some (.int (jI v7))]) (st1 := [.int (jI x2)]) (σ1 := js E A5) zM_X2_isTailRight dX2_isTailRight_19 rfl rfl rfl rfl ?_
  refine jw_if_ne (tgt := 38) zM_X2_isTailRight dX2_isTailRight_20 rfl r_x2 (fun q => ?_) (fun q => ?_)
  · replace h := h.1 q
    refine zw_go (pc1 := 39) (L1 := [some (.ref 19), some (.int (jI x1)), some (.int (jI x2)), some (.int (jI v3)), some (.int (jI v7))]) (st1 := [.int (jI v3)]) (σ1 := js E A5) zM_X2_isTailRight dX2_isTailRight_38 rfl rfl rfl rfl ?_
    refine jw_iconst (v := 1) zM_X2_isTailRight dX2_isTailRight_39 rfl ?_
    refine jw_icmp_lt (tgt := 75) zM_X2_isTailRight dX2_isTailRight_40 rfl rv4 (show jW 1 from ⟨by decide, by decide⟩) (fun q => ?_) (fun q => ?_)
    · replace h := h.1 q
      refine jw_iconst (v := 0) zM_X2_isTailRight dX2_isTailRight_75 rfl ?_
      exact jw_retz zM_X2_isTailRight dX2_isTailRight_76 rfl (Or.inl rfl) hA6 h
    · replace h := h.2 q
      refine zw_go (pc1 := 44) (L1 := [some (.ref 19), some (.int (jI x1)), some (.int (jI x2)), some (.int (jI v3)), some (.int (jI v7))]) (st1 := [.int (jI v3)]) (σ1 := js E A5) zM_X2_isTailRight dX2_isTailRight_43 rfl rfl rfl rfl ?_
      refine zw_go (pc1 := 45) (L1 := [some (.ref 19), some (.int (jI x1)), some (.int (jI x2)), some (.int (jI v3)), some (.int (jI v7))]) (st1 := [.ref 19, .int (jI v3)]) (σ1 := js E A5) zM_X2_isTailRight dX2_isTailRight_44 rfl rfl rfl rfl ?_
      refine jw_callI (as := [.ref 19]) (rest := [.int (jI v3)]) zM_X2_isTailRight dX2_isTailRight_45 (zx_calV zC_2_76) zM_X1_tailBlocks rfl rfl rfl rfl rfl (j_args0 rfl rfl) rfl hA6 h (fun v11 A9 rv12 hA10 h => ?_)
      refine jw_icmp_gt (tgt := 75) zM_X2_isTailRight dX2_isTailRight_48 rfl rv4 rv12 (fun q => ?_) (fun q => ?_)
      · replace h := h.1 q
        refine jw_iconst (v := 0) zM_X2_isTailRight dX2_isTailRight_75 rfl ?_
        exact jw_retz zM_X2_isTailRight dX2_isTailRight_76 rfl (Or.inl rfl) hA10 h
      · replace h := h.2 q
        refine zw_go (pc1 := 53) (L1 := [some (.ref 19), some (.int (jI x1)), some (.int (jI x2)), some (.int (jI v3)), some (.int (jI v7))]) (st1 := [.int (jI v7)]) (σ1 := js E A9) zM_X2_isTailRight dX2_isTailRight_51 rfl rfl rfl rfl ?_
        refine zw_go (pc1 := 54) (L1 := [some (.ref 19), some (.int (jI x1)), some (.int (jI x2)), some (.int (jI v3)), some (.int (jI v7))]) (st1 := [.int (jI x2), .int (jI v7)]) (σ1 := js E A9) zM_X2_isTailRight dX2_isTailRight_53 rfl rfl rfl rfl ?_
        refine jw_add zM_X2_isTailRight dX2_isTailRight_54 ?_
        refine zw_go (pc1 := 56) (L1 := [some (.ref 19), some (.int (jI x1)), some (.int (jI x2)), some (.int (jI v3)), some (.int (jI v7))]) (st1 := [.ref 19, .int (jI (v7 + x2))]) (σ1 := js E A9) zM_X2_isTailRight dX2_isTailRight_55 rfl rfl rfl rfl ?_
        refine zw_go (pc1 := 57) (L1 := [some (.ref 19), some (.int (jI x1)), some (.int (jI x2)), some (.int (jI v3)), some (.int (jI v7))]) (st1 := [.ref 19, .ref 19, .int (jI (v7 + x2))]) (σ1 := js E A9) zM_X2_isTailRight dX2_isTailRight_56 rfl rfl rfl rfl ?_
        refine zw_go (pc1 := 58) (L1 := [some (.ref 19), some (.int (jI x1)), some (.int (jI x2)), some (.int (jI v3)), some (.int (jI v7))]) (st1 := [.int (jI v3), .ref 19, .ref 19, .int (jI (v7 + x2))]) (σ1 := js E A9) zM_X2_isTailRight dX2_isTailRight_57 rfl rfl rfl rfl ?_
        refine jw_iconst (v := 1) zM_X2_isTailRight dX2_isTailRight_58 rfl ?_
        refine jw_sub zM_X2_isTailRight dX2_isTailRight_59 ?_
        refine jw_callI (as := [.ref 19, .int (jI (v3 - 1))]) (rest := [.ref 19, .int (jI (v7 + x2))]) zM_X2_isTailRight dX2_isTailRight_60 (zx_calV zC_2_79) zM_X1_tailRow rfl rfl rfl rfl rfl (j_args0 rfl rfl) rfl hA10 h (fun v15 A13 rv16 hA14 h => ?_)
        refine jw_iconst (v := 4) zM_X2_isTailRight dX2_isTailRight_63 rfl ?_
        refine jw_add zM_X2_isTailRight dX2_isTailRight_64 ?_
        refine jw_callI (as := [.ref 19, .int (jI (v15 + 4))]) (rest := [.int (jI (v7 + x2))]) zM_X2_isTailRight dX2_isTailRight_65 (zx_calV zC_2_51) zM_X1_byteAt rfl rfl rfl rfl rfl (j_args0 rfl rfl) rfl hA14 h (fun v19 A17 rv20 hA18 h => ?_)
        obtain ⟨hw21, h⟩ := h
        refine jw_icmp_gt (tgt := 75) zM_X2_isTailRight dX2_isTailRight_68 rfl hw21 rv20 (fun q => ?_) (fun q => ?_)
        · replace h := h.1 q
          refine jw_iconst (v := 0) zM_X2_isTailRight dX2_isTailRight_75 rfl ?_
          exact jw_retz zM_X2_isTailRight dX2_isTailRight_76 rfl (Or.inl rfl) hA18 h
        · replace h := h.2 q
          refine jw_iconst (v := 1) zM_X2_isTailRight dX2_isTailRight_71 rfl ?_
          refine zw_goto (tgt := 76) zM_X2_isTailRight dX2_isTailRight_72 rfl ?_
          exact jw_retz zM_X2_isTailRight dX2_isTailRight_76 rfl (Or.inr rfl) hA18 h
  · replace h := h.2 q
    refine zw_go (pc1 := 24) (L1 := [some (.ref 19), some (.int (jI x1)), some (.int (jI x2)), some (.int (jI v3)), some (.int (jI v7))]) (st1 := [.int (jI v3)]) (σ1 := js E A5) zM_X2_isTailRight dX2_isTailRight_23 rfl rfl rfl rfl ?_
    refine jw_if_ne (tgt := 36) zM_X2_isTailRight dX2_isTailRight_24 rfl rv4 (fun q => ?_) (fun q => ?_)
    · replace h := h.1 q
      refine jw_iconst (v := 0) zM_X2_isTailRight dX2_isTailRight_36 rfl ?_
      exact jw_retz zM_X2_isTailRight dX2_isTailRight_37 rfl (Or.inl rfl) hA6 h
    · replace h := h.2 q
      refine zw_go (pc1 := 29) (L1 := [some (.ref 19), some (.int (jI x1)), some (.int (jI x2)), some (.int (jI v3)), some (.int (jI v7))]) (st1 := [.int (jI v7)]) (σ1 := js E A5) zM_X2_isTailRight dX2_isTailRight_27 rfl rfl rfl rfl ?_
      refine jw_if_ne (tgt := 36) zM_X2_isTailRight dX2_isTailRight_29 rfl rv8 (fun q => ?_) (fun q => ?_)
      · replace h := h.1 q
        refine jw_iconst (v := 0) zM_X2_isTailRight dX2_isTailRight_36 rfl ?_
        exact jw_retz zM_X2_isTailRight dX2_isTailRight_37 rfl (Or.inl rfl) hA6 h
      · replace h := h.2 q
        refine jw_iconst (v := 1) zM_X2_isTailRight dX2_isTailRight_32 rfl ?_
        refine zw_goto (tgt := 37) zM_X2_isTailRight dX2_isTailRight_33 rfl ?_
        exact jw_retz zM_X2_isTailRight dX2_isTailRight_37 rfl (Or.inr rfl) hA6 h
set_option maxHeartbeats 4000000 in
set_option maxRecDepth 100000 in
theorem vd_X2_isTreeRight_0  (E : jE) (A : jA) (K : Int → jA → Prop) (h : jrI 30 0 [some (.ref 19), some (.int (jI 1))] [] E A (fun v3 A1 => ((¬ v3 = (1 : Int) → K 0 A1) ∧ (v3 = (1 : Int) → jrI 32 0 [some (.ref 19), some (.int (jI 1))] [] E A1 (fun v7 A5 => ((¬ v7 = (1 : Int) → K 0 A5) ∧ (v7 = (1 : Int) → jrI 28 0 [some (.ref 19), some (.int (jI 1))] [] E A5 (fun v11 A9 => ((v11 = (1 : Int) → (((497 : Int) < (A9 19 3) → K 0 A9) ∧ ((A9 19 3) ≤ (497 : Int) → jrI 52 0 [some (.ref 36), some (.ref 19), none, none, none, none, none] [] E A9 (fun v15 A13 => ((v15 = (0 : Int) → K 0 A13) ∧ (¬ v15 = (0 : Int) → (((A13 37 1) = (0 : Int) → jrI 64 60 [some (.ref 36), some (.ref 19), some (.int (jI 2)), none] [] E A13 K) ∧ (¬ (A13 37 1) = (0 : Int) → K 0 A13)))))))) ∧ (¬ v11 = (1 : Int) → K 0 A9)))))))))) : jrI 64 0 [some (.ref 36), some (.ref 19), none, none] [] E A K := by
  intro hA
  refine zw_go (pc1 := 1) (L1 := [some (.ref 36), some (.ref 19), none, none]) (st1 := [.ref 19]) (σ1 := js E A) zM_X2_isTreeRight dX2_isTreeRight_0 rfl rfl rfl rfl ?_
  refine jw_iconst (v := 1) zM_X2_isTreeRight dX2_isTreeRight_1 rfl ?_
  refine jw_callI (as := [.ref 19, .int (jI 1)]) (rest := []) zM_X2_isTreeRight dX2_isTreeRight_2 (zx_calV zC_2_107) zM_X1_kindOf rfl rfl rfl rfl rfl (j_args0 rfl rfl) rfl hA h (fun v3 A1 rv4 hA2 h => ?_)
  refine jw_iconst (v := 1) zM_X2_isTreeRight dX2_isTreeRight_5 rfl ?_
  refine jw_icmp_ne (tgt := 27) zM_X2_isTreeRight dX2_isTreeRight_6 rfl rv4 (show jW 1 from ⟨by decide, by decide⟩) (fun q => ?_) (fun q => ?_)
  · replace h := h.1 q
    refine jw_iconst (v := 0) zM_X2_isTreeRight dX2_isTreeRight_27 rfl ?_
    exact jw_retz zM_X2_isTreeRight dX2_isTreeRight_28 rfl (Or.inl rfl) hA2 h
  · replace h := h.2 q
    refine zw_go (pc1 := 10) (L1 := [some (.ref 36), some (.ref 19), none, none]) (st1 := [.ref 19]) (σ1 := js E A1) zM_X2_isTreeRight dX2_isTreeRight_9 rfl rfl rfl rfl ?_
    refine jw_iconst (v := 1) zM_X2_isTreeRight dX2_isTreeRight_10 rfl ?_
    refine jw_callI (as := [.ref 19, .int (jI 1)]) (rest := []) zM_X2_isTreeRight dX2_isTreeRight_11 (zx_calV zC_2_122) zM_X1_namesOf rfl rfl rfl rfl rfl (j_args0 rfl rfl) rfl hA2 h (fun v7 A5 rv8 hA6 h => ?_)
    refine jw_iconst (v := 1) zM_X2_isTreeRight dX2_isTreeRight_14 rfl ?_
    refine jw_icmp_ne (tgt := 27) zM_X2_isTreeRight dX2_isTreeRight_15 rfl rv8 (show jW 1 from ⟨by decide, by decide⟩) (fun q => ?_) (fun q => ?_)
    · replace h := h.1 q
      refine jw_iconst (v := 0) zM_X2_isTreeRight dX2_isTreeRight_27 rfl ?_
      exact jw_retz zM_X2_isTreeRight dX2_isTreeRight_28 rfl (Or.inl rfl) hA6 h
    · replace h := h.2 q
      refine zw_go (pc1 := 19) (L1 := [some (.ref 36), some (.ref 19), none, none]) (st1 := [.ref 19]) (σ1 := js E A5) zM_X2_isTreeRight dX2_isTreeRight_18 rfl rfl rfl rfl ?_
      refine jw_iconst (v := 1) zM_X2_isTreeRight dX2_isTreeRight_19 rfl ?_
      refine jw_callI (as := [.ref 19, .int (jI 1)]) (rest := []) zM_X2_isTreeRight dX2_isTreeRight_20 (zx_calV zC_2_125) zM_X1_homeOf rfl rfl rfl rfl rfl (j_args0 rfl rfl) rfl hA6 h (fun v11 A9 rv12 hA10 h => ?_)
      refine jw_iconst (v := 1) zM_X2_isTreeRight dX2_isTreeRight_23 rfl ?_
      refine jw_icmp_eq (tgt := 29) zM_X2_isTreeRight dX2_isTreeRight_24 rfl rv12 (show jW 1 from ⟨by decide, by decide⟩) (fun q => ?_) (fun q => ?_)
      · replace h := h.1 q
        refine zw_go (pc1 := 30) (L1 := [some (.ref 36), some (.ref 19), none, none]) (st1 := [.ref 19]) (σ1 := js E A9) zM_X2_isTreeRight dX2_isTreeRight_29 rfl rfl rfl rfl ?_
        refine jw_getI zM_X2_isTreeRight dX2_isTreeRight_30 zF_2_73 rfl rfl rfl ?_
        refine jw_sipush (v := 497) zM_X2_isTreeRight dX2_isTreeRight_33 (by decide) ?_
        refine jw_icmp_gt (tgt := 56) zM_X2_isTreeRight dX2_isTreeRight_36 rfl (hA10 19 3) (show jW 497 from ⟨by decide, by decide⟩) (fun q => ?_) (fun q => ?_)
        · replace h := h.1 q
          refine jw_iconst (v := 0) zM_X2_isTreeRight dX2_isTreeRight_56 rfl ?_
          exact jw_retz zM_X2_isTreeRight dX2_isTreeRight_57 rfl (Or.inl rfl) hA10 h
        · replace h := h.2 q
          refine zw_go (pc1 := 40) (L1 := [some (.ref 36), some (.ref 19), none, none]) (st1 := [.ref 36]) (σ1 := js E A9) zM_X2_isTreeRight dX2_isTreeRight_39 rfl rfl rfl rfl ?_
          refine zw_go (pc1 := 41) (L1 := [some (.ref 36), some (.ref 19), none, none]) (st1 := [.ref 19, .ref 36]) (σ1 := js E A9) zM_X2_isTreeRight dX2_isTreeRight_40 rfl rfl rfl rfl ?_
          refine jw_callI (as := [.ref 36, .ref 19]) (rest := []) zM_X2_isTreeRight dX2_isTreeRight_41 (zx_calV zC_2_128) zM_X2_areFoldersNamedAtHome rfl rfl rfl rfl rfl (j_args0 rfl rfl) rfl hA10 h (fun v15 A13 rv16 hA14 h => ?_)
          refine jw_if_eq (tgt := 56) zM_X2_isTreeRight dX2_isTreeRight_44 rfl rv16 (fun q => ?_) (fun q => ?_)
          · replace h := h.1 q
            refine jw_iconst (v := 0) zM_X2_isTreeRight dX2_isTreeRight_56 rfl ?_
            exact jw_retz zM_X2_isTreeRight dX2_isTreeRight_57 rfl (Or.inl rfl) hA14 h
          · replace h := h.2 q
            refine zw_go (pc1 := 48) (L1 := [some (.ref 36), some (.ref 19), none, none]) (st1 := [.ref 36]) (σ1 := js E A13) zM_X2_isTreeRight dX2_isTreeRight_47 rfl rfl rfl rfl ?_
            refine jw_getR (a := 37) zM_X2_isTreeRight dX2_isTreeRight_48 zF_2_9 rfl rfl rfl ?_
            refine jw_iconst (v := 1) zM_X2_isTreeRight dX2_isTreeRight_51 rfl ?_
            refine jw_iald zM_X2_isTreeRight dX2_isTreeRight_52 rfl rfl ⟨by decide, by decide⟩ ?_
            refine jw_if_eq (tgt := 58) zM_X2_isTreeRight dX2_isTreeRight_53 rfl (hA14 37 1) (fun q => ?_) (fun q => ?_)
            · replace h := h.1 q
              refine jw_iconst (v := 2) zM_X2_isTreeRight dX2_isTreeRight_58 rfl ?_
              refine zw_go (pc1 := 60) (L1 := [some (.ref 36), some (.ref 19), some (.int (jI 2)), none]) (st1 := []) (σ1 := js E A13) zM_X2_isTreeRight dX2_isTreeRight_59 rfl rfl rfl rfl ?_
              exact zw_weak2 (h hA14) ⟨rfl, rfl, rfl, trivial⟩
            · replace h := h.2 q
              refine jw_iconst (v := 0) zM_X2_isTreeRight dX2_isTreeRight_56 rfl ?_
              exact jw_retz zM_X2_isTreeRight dX2_isTreeRight_57 rfl (Or.inl rfl) hA14 h
      · replace h := h.2 q
        refine jw_iconst (v := 0) zM_X2_isTreeRight dX2_isTreeRight_27 rfl ?_
        exact jw_retz zM_X2_isTreeRight dX2_isTreeRight_28 rfl (Or.inl rfl) hA10 h
set_option maxHeartbeats 4000000 in
set_option maxRecDepth 100000 in
theorem vd_X2_isTreeRight_60 (x2 : Int) (r_x2 : jW x2) (E : jE) (A : jA) (K : Int → jA → Prop) (h : (((A 19 3) < x2 → K 1 A) ∧ (x2 ≤ (A 19 3) → jrI 30 0 [some (.ref 19), some (.int (jI x2))] [] E A (fun v3 A1 => (0 ≤ x2 ∧ x2 < 498) ∧ (((A1 37 x2) = (0 : Int) → K 0 A1) ∧ (¬ (A1 37 x2) = (0 : Int) → (0 ≤ x2 ∧ x2 < 498) ∧ jrI 32 0 [some (.ref 19), some (.int (jI x2))] [] E A1 (fun v9 A7 => ((¬ (A1 37 x2) = v9 → K 0 A7) ∧ ((A1 37 x2) = v9 → ((v3 = (2 : Int) → jrI 64 112 [some (.ref 36), some (.ref 19), some (.int (jI x2)), some (.int (jI v3))] [] E A7 K) ∧ (¬ v3 = (2 : Int) → (0 ≤ x2 ∧ x2 < 498) ∧ (((1 : Int) < (A7 37 x2) → K 0 A7) ∧ ((A7 37 x2) ≤ (1 : Int) → jrI 64 112 [some (.ref 36), some (.ref 19), some (.int (jI x2)), some (.int (jI v3))] [] E A7 K))))))))))))) : jrI 64 60 [some (.ref 36), some (.ref 19), some (.int (jI x2)), none] [] E A K := by
  intro hA
  refine zw_go (pc1 := 61) (L1 := [some (.ref 36), some (.ref 19), some (.int (jI x2)), none]) (st1 := [.int (jI x2)]) (σ1 := js E A) zM_X2_isTreeRight dX2_isTreeRight_60 rfl rfl rfl rfl ?_
  refine zw_go (pc1 := 62) (L1 := [some (.ref 36), some (.ref 19), some (.int (jI x2)), none]) (st1 := [.ref 19, .int (jI x2)]) (σ1 := js E A) zM_X2_isTreeRight dX2_isTreeRight_61 rfl rfl rfl rfl ?_
  refine jw_getI zM_X2_isTreeRight dX2_isTreeRight_62 zF_2_73 rfl rfl rfl ?_
  refine jw_icmp_gt (tgt := 133) zM_X2_isTreeRight dX2_isTreeRight_65 rfl r_x2 (hA 19 3) (fun q => ?_) (fun q => ?_)
  · replace h := h.1 q
    refine jw_iconst (v := 1) zM_X2_isTreeRight dX2_isTreeRight_133 rfl ?_
    exact jw_retz zM_X2_isTreeRight dX2_isTreeRight_134 rfl (Or.inr rfl) hA h
  · replace h := h.2 q
    refine zw_go (pc1 := 69) (L1 := [some (.ref 36), some (.ref 19), some (.int (jI x2)), none]) (st1 := [.ref 19]) (σ1 := js E A) zM_X2_isTreeRight dX2_isTreeRight_68 rfl rfl rfl rfl ?_
    refine zw_go (pc1 := 70) (L1 := [some (.ref 36), some (.ref 19), some (.int (jI x2)), none]) (st1 := [.int (jI x2), .ref 19]) (σ1 := js E A) zM_X2_isTreeRight dX2_isTreeRight_69 rfl rfl rfl rfl ?_
    refine jw_callI (as := [.ref 19, .int (jI x2)]) (rest := []) zM_X2_isTreeRight dX2_isTreeRight_70 (zx_calV zC_2_107) zM_X1_kindOf rfl rfl rfl rfl rfl (j_args0 rfl rfl) rfl hA h (fun v3 A1 rv4 hA2 h => ?_)
    refine zw_go (pc1 := 74) (L1 := [some (.ref 36), some (.ref 19), some (.int (jI x2)), some (.int (jI v3))]) (st1 := []) (σ1 := js E A1) zM_X2_isTreeRight dX2_isTreeRight_73 rfl rfl rfl rfl ?_
    refine zw_go (pc1 := 75) (L1 := [some (.ref 36), some (.ref 19), some (.int (jI x2)), some (.int (jI v3))]) (st1 := [.ref 36]) (σ1 := js E A1) zM_X2_isTreeRight dX2_isTreeRight_74 rfl rfl rfl rfl ?_
    refine jw_getR (a := 37) zM_X2_isTreeRight dX2_isTreeRight_75 zF_2_9 rfl rfl rfl ?_
    refine zw_go (pc1 := 79) (L1 := [some (.ref 36), some (.ref 19), some (.int (jI x2)), some (.int (jI v3))]) (st1 := [.int (jI x2), .ref 37]) (σ1 := js E A1) zM_X2_isTreeRight dX2_isTreeRight_78 rfl rfl rfl rfl ?_
    obtain ⟨hi5, h⟩ := h
    refine jw_iald zM_X2_isTreeRight dX2_isTreeRight_79 rfl rfl hi5 ?_
    refine jw_if_eq (tgt := 125) zM_X2_isTreeRight dX2_isTreeRight_80 rfl (hA2 37 x2) (fun q => ?_) (fun q => ?_)
    · replace h := h.1 q
      refine jw_iconst (v := 0) zM_X2_isTreeRight dX2_isTreeRight_125 rfl ?_
      exact jw_retz zM_X2_isTreeRight dX2_isTreeRight_126 rfl (Or.inl rfl) hA2 h
    · replace h := h.2 q
      refine zw_go (pc1 := 84) (L1 := [some (.ref 36), some (.ref 19), some (.int (jI x2)), some (.int (jI v3))]) (st1 := [.ref 36]) (σ1 := js E A1) zM_X2_isTreeRight dX2_isTreeRight_83 rfl rfl rfl rfl ?_
      refine jw_getR (a := 37) zM_X2_isTreeRight dX2_isTreeRight_84 zF_2_9 rfl rfl rfl ?_
      refine zw_go (pc1 := 88) (L1 := [some (.ref 36), some (.ref 19), some (.int (jI x2)), some (.int (jI v3))]) (st1 := [.int (jI x2), .ref 37]) (σ1 := js E A1) zM_X2_isTreeRight dX2_isTreeRight_87 rfl rfl rfl rfl ?_
      obtain ⟨hi6, h⟩ := h
      refine jw_iald zM_X2_isTreeRight dX2_isTreeRight_88 rfl rfl hi6 ?_
      refine zw_go (pc1 := 90) (L1 := [some (.ref 36), some (.ref 19), some (.int (jI x2)), some (.int (jI v3))]) (st1 := [.ref 19, .int (jI (A1 37 x2))]) (σ1 := js E A1) zM_X2_isTreeRight dX2_isTreeRight_89 rfl rfl rfl rfl ?_
      refine zw_go (pc1 := 91) (L1 := [some (.ref 36), some (.ref 19), some (.int (jI x2)), some (.int (jI v3))]) (st1 := [.int (jI x2), .ref 19, .int (jI (A1 37 x2))]) (σ1 := js E A1) zM_X2_isTreeRight dX2_isTreeRight_90 rfl rfl rfl rfl ?_
      refine jw_callI (as := [.ref 19, .int (jI x2)]) (rest := [.int (jI (A1 37 x2))]) zM_X2_isTreeRight dX2_isTreeRight_91 (zx_calV zC_2_122) zM_X1_namesOf rfl rfl rfl rfl rfl (j_args0 rfl rfl) rfl hA2 h (fun v9 A7 rv10 hA8 h => ?_)
      refine jw_icmp_ne (tgt := 125) zM_X2_isTreeRight dX2_isTreeRight_94 rfl (hA2 37 x2) rv10 (fun q => ?_) (fun q => ?_)
      · replace h := h.1 q
        refine jw_iconst (v := 0) zM_X2_isTreeRight dX2_isTreeRight_125 rfl ?_
        exact jw_retz zM_X2_isTreeRight dX2_isTreeRight_126 rfl (Or.inl rfl) hA8 h
      · replace h := h.2 q
        refine zw_go (pc1 := 98) (L1 := [some (.ref 36), some (.ref 19), some (.int (jI x2)), some (.int (jI v3))]) (st1 := [.int (jI v3)]) (σ1 := js E A7) zM_X2_isTreeRight dX2_isTreeRight_97 rfl rfl rfl rfl ?_
        refine jw_iconst (v := 2) zM_X2_isTreeRight dX2_isTreeRight_98 rfl ?_
        refine jw_icmp_eq (tgt := 112) zM_X2_isTreeRight dX2_isTreeRight_99 rfl rv4 (show jW 2 from ⟨by decide, by decide⟩) (fun q => ?_) (fun q => ?_)
        · replace h := h.1 q
          exact zw_weak2 (h hA8) ⟨rfl, rfl, rfl, rfl, trivial⟩
        · replace h := h.2 q
          refine zw_go (pc1 := 103) (L1 := [some (.ref 36), some (.ref 19), some (.int (jI x2)), some (.int (jI v3))]) (st1 := [.ref 36]) (σ1 := js E A7) zM_X2_isTreeRight dX2_isTreeRight_102 rfl rfl rfl rfl ?_
          refine jw_getR (a := 37) zM_X2_isTreeRight dX2_isTreeRight_103 zF_2_9 rfl rfl rfl ?_
          refine zw_go (pc1 := 107) (L1 := [some (.ref 36), some (.ref 19), some (.int (jI x2)), some (.int (jI v3))]) (st1 := [.int (jI x2), .ref 37]) (σ1 := js E A7) zM_X2_isTreeRight dX2_isTreeRight_106 rfl rfl rfl rfl ?_
          obtain ⟨hi11, h⟩ := h
          refine jw_iald zM_X2_isTreeRight dX2_isTreeRight_107 rfl rfl hi11 ?_
          refine jw_iconst (v := 1) zM_X2_isTreeRight dX2_isTreeRight_108 rfl ?_
          refine jw_icmp_gt (tgt := 125) zM_X2_isTreeRight dX2_isTreeRight_109 rfl (hA8 37 x2) (show jW 1 from ⟨by decide, by decide⟩) (fun q => ?_) (fun q => ?_)
          · replace h := h.1 q
            refine jw_iconst (v := 0) zM_X2_isTreeRight dX2_isTreeRight_125 rfl ?_
            exact jw_retz zM_X2_isTreeRight dX2_isTreeRight_126 rfl (Or.inl rfl) hA8 h
          · replace h := h.2 q
            exact zw_weak2 (h hA8) ⟨rfl, rfl, rfl, rfl, trivial⟩
set_option maxHeartbeats 4000000 in
set_option maxRecDepth 100000 in
theorem vd_X2_isTreeRight_112 (x2 : Int) (r_x2 : jW x2) (x3 : Int) (r_x3 : jW x3) (E : jE) (A : jA) (K : Int → jA → Prop) (h : ((¬ x3 = (1 : Int) → jrI 64 127 [some (.ref 36), some (.ref 19), some (.int (jI x2)), none] [] E A K) ∧ (x3 = (1 : Int) → jrI 58 0 [some (.ref 19), some (.int (jI x2)), none, none] [] E A (fun v3 A1 => ((¬ v3 = (0 : Int) → jrI 64 127 [some (.ref 36), some (.ref 19), some (.int (jI x2)), none] [] E A1 K) ∧ (v3 = (0 : Int) → K 0 A1)))))) : jrI 64 112 [some (.ref 36), some (.ref 19), some (.int (jI x2)), some (.int (jI x3))] [] E A K := by
  intro hA
  refine zw_go (pc1 := 113) (L1 := [some (.ref 36), some (.ref 19), some (.int (jI x2)), some (.int (jI x3))]) (st1 := [.int (jI x3)]) (σ1 := js E A) zM_X2_isTreeRight dX2_isTreeRight_112 rfl rfl rfl rfl ?_
  refine jw_iconst (v := 1) zM_X2_isTreeRight dX2_isTreeRight_113 rfl ?_
  refine jw_icmp_ne (tgt := 127) zM_X2_isTreeRight dX2_isTreeRight_114 rfl r_x3 (show jW 1 from ⟨by decide, by decide⟩) (fun q => ?_) (fun q => ?_)
  · replace h := h.1 q
    exact zw_weak2 (h hA) ⟨rfl, rfl, rfl, trivial⟩
  · replace h := h.2 q
    refine zw_go (pc1 := 118) (L1 := [some (.ref 36), some (.ref 19), some (.int (jI x2)), some (.int (jI x3))]) (st1 := [.ref 19]) (σ1 := js E A) zM_X2_isTreeRight dX2_isTreeRight_117 rfl rfl rfl rfl ?_
    refine zw_go (pc1 := 119) (L1 := [some (.ref 36), some (.ref 19), some (.int (jI x2)), some (.int (jI x3))]) (st1 := [.int (jI x2), .ref 19]) (σ1 := js E A) zM_X2_isTreeRight dX2_isTreeRight_118 rfl rfl rfl rfl ?_
    refine jw_callI (as := [.ref 19, .int (jI x2)]) (rest := []) zM_X2_isTreeRight dX2_isTreeRight_119 (zx_calS zC_2_131) zM_X2_comesToFirst rfl rfl rfl rfl rfl rfl rfl hA h (fun v3 A1 rv4 hA2 h => ?_)
    refine jw_if_ne (tgt := 127) zM_X2_isTreeRight dX2_isTreeRight_122 rfl rv4 (fun q => ?_) (fun q => ?_)
    · replace h := h.1 q
      exact zw_weak2 (h hA2) ⟨rfl, rfl, rfl, trivial⟩
    · replace h := h.2 q
      refine jw_iconst (v := 0) zM_X2_isTreeRight dX2_isTreeRight_125 rfl ?_
      exact jw_retz zM_X2_isTreeRight dX2_isTreeRight_126 rfl (Or.inl rfl) hA2 h
set_option maxHeartbeats 4000000 in
set_option maxRecDepth 100000 in
theorem vd_X2_isTreeRight_127 (x2 : Int) (r_x2 : jW x2) (E : jE) (A : jA) (K : Int → jA → Prop) (h : jrI 64 60 [some (.ref 36), some (.ref 19), some (.int (jI (x2 + 1))), none] [] E A K) : jrI 64 127 [some (.ref 36), some (.ref 19), some (.int (jI x2)), none] [] E A K := by
  intro hA
  refine jw_iinc (x := x2) (L1 := [some (.ref 36), some (.ref 19), some (.int (jI (x2 + 1))), none]) zM_X2_isTreeRight dX2_isTreeRight_127 rfl (show 2 < 4 by decide) rfl ?_
  refine zw_goto (tgt := 60) zM_X2_isTreeRight dX2_isTreeRight_130 rfl ?_
  exact zw_weak2 (h hA) ⟨rfl, rfl, rfl, trivial⟩
set_option maxHeartbeats 4000000 in
set_option maxRecDepth 100000 in
theorem vd_X2_rowBytes_0 (x1 : Int) (r_x1 : jW x1) (E : jE) (A : jA) (K : Int → jA → Prop) (h : jrI 21 0 [some (.ref 19), some (.int (jI x1))] [] E A (fun v3 A1 => ((v3 = 1 → K 12 A1) ∧ (¬ v3 = 1 → ((v3 = 2 → jrI 51 0 [some (.ref 19), some (.int (jI (x1 + 6)))] [] E A1 (fun v8 A6 => jrI 50 0 [some (.ref 19), some (.int (jI v8))] [] E A6 (fun v12 A10 => jW (12 + (2 * v12)) ∧ K (12 + (2 * v12)) A10))) ∧ (¬ v3 = 2 → ((v3 = 3 → K 6 A1) ∧ (¬ v3 = 3 → K 0 A1)))))))) : jrI 65 0 [some (.ref 19), some (.int (jI x1))] [] E A K := by
  intro hA
  refine zw_go (pc1 := 1) (L1 := [some (.ref 19), some (.int (jI x1))]) (st1 := [.ref 19]) (σ1 := js E A) zM_X2_rowBytes dX2_rowBytes_0 rfl rfl rfl rfl ?_
  refine zw_go (pc1 := 2) (L1 := [some (.ref 19), some (.int (jI x1))]) (st1 := [.int (jI x1), .ref 19]) (σ1 := js E A) zM_X2_rowBytes dX2_rowBytes_1 rfl rfl rfl rfl ?_
  refine jw_callI (as := [.ref 19, .int (jI x1)]) (rest := []) zM_X2_rowBytes dX2_rowBytes_2 (zx_calV zC_2_51) zM_X1_byteAt rfl rfl rfl rfl rfl (j_args0 rfl rfl) rfl hA h (fun v3 A1 rv4 hA2 h => ?_)
  by_cases hs5 : v3 = 1
  · replace h := h.1 hs5
    refine zw_sw (tgt := 32) zM_X2_rowBytes dX2_rowBytes_5 (j_sw_in hs5 rfl) rfl ?_
    refine jw_bipush (v := 12) zM_X2_rowBytes dX2_rowBytes_32 (by decide) ?_
    exact jw_reti zM_X2_rowBytes dX2_rowBytes_34 rfl (show jW 12 from ⟨by decide, by decide⟩) hA2 h
  · replace h := h.2 hs5
    by_cases hs15 : v3 = 2
    · replace h := h.1 hs15
      refine zw_sw (tgt := 35) zM_X2_rowBytes dX2_rowBytes_5 (j_sw_in hs15 rfl) rfl ?_
      refine jw_bipush (v := 12) zM_X2_rowBytes dX2_rowBytes_35 (by decide) ?_
      refine jw_iconst (v := 2) zM_X2_rowBytes dX2_rowBytes_37 rfl ?_
      refine zw_go (pc1 := 39) (L1 := [some (.ref 19), some (.int (jI x1))]) (st1 := [.ref 19, .int (jI 2), .int (jI 12)]) (σ1 := js E A1) zM_X2_rowBytes dX2_rowBytes_38 rfl rfl rfl rfl ?_
      refine zw_go (pc1 := 40) (L1 := [some (.ref 19), some (.int (jI x1))]) (st1 := [.ref 19, .ref 19, .int (jI 2), .int (jI 12)]) (σ1 := js E A1) zM_X2_rowBytes dX2_rowBytes_39 rfl rfl rfl rfl ?_
      refine zw_go (pc1 := 41) (L1 := [some (.ref 19), some (.int (jI x1))]) (st1 := [.int (jI x1), .ref 19, .ref 19, .int (jI 2), .int (jI 12)]) (σ1 := js E A1) zM_X2_rowBytes dX2_rowBytes_40 rfl rfl rfl rfl ?_
      refine jw_bipush (v := 6) zM_X2_rowBytes dX2_rowBytes_41 (by decide) ?_
      refine jw_add zM_X2_rowBytes dX2_rowBytes_43 ?_
      refine jw_callI (as := [.ref 19, .int (jI (x1 + 6))]) (rest := [.ref 19, .int (jI 2), .int (jI 12)]) zM_X2_rowBytes dX2_rowBytes_44 (zx_calV zC_2_27) zM_X1_wordAt rfl rfl rfl rfl rfl (j_args0 rfl rfl) rfl hA2 h (fun v8 A6 rv9 hA7 h => ?_)
      refine jw_callI (as := [.ref 19, .int (jI v8)]) (rest := [.int (jI 2), .int (jI 12)]) zM_X2_rowBytes dX2_rowBytes_47 (zx_calV zC_2_97) zM_X1_wholeBlocks rfl rfl rfl rfl rfl (j_args0 rfl rfl) rfl hA7 h (fun v12 A10 rv13 hA11 h => ?_)
      refine jw_mul zM_X2_rowBytes dX2_rowBytes_50 ?_
      refine jw_add zM_X2_rowBytes dX2_rowBytes_51 ?_
      obtain ⟨hw14, h⟩ := h
      exact jw_reti zM_X2_rowBytes dX2_rowBytes_52 rfl hw14 hA11 h
    · replace h := h.2 hs15
      by_cases hs16 : v3 = 3
      · replace h := h.1 hs16
        refine zw_sw (tgt := 53) zM_X2_rowBytes dX2_rowBytes_5 (j_sw_in hs16 rfl) rfl ?_
        refine jw_bipush (v := 6) zM_X2_rowBytes dX2_rowBytes_53 (by decide) ?_
        exact jw_reti zM_X2_rowBytes dX2_rowBytes_55 rfl (show jW 6 from ⟨by decide, by decide⟩) hA2 h
      · replace h := h.2 hs16
        refine zw_sw (tgt := 56) zM_X2_rowBytes dX2_rowBytes_5 (j_sw_out rv4 (by omega)) rfl ?_
        refine jw_iconst (v := 0) zM_X2_rowBytes dX2_rowBytes_56 rfl ?_
        exact jw_reti zM_X2_rowBytes dX2_rowBytes_57 rfl (show jW 0 from ⟨by decide, by decide⟩) hA2 h
