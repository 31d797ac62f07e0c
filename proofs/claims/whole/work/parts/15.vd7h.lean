set_option maxHeartbeats 4000000 in
set_option maxRecDepth 100000 in
theorem vd_X7_store_0 (x1 : Int) (r_x1 : jW x1) (E : jE) (A : jA) (K : Int → jA → Prop) (h : jrI 200 4 [some (.ref 49), some (.int (jI x1)), some (.int (jI 1)), some (.int (jI 0))] [] E A K) : jrI 200 0 [some (.ref 49), some (.int (jI x1)), none, none] [] E A K := by
  intro hA
  refine jw_iconst (v := 1) zM_X7_store dX7_store_0 rfl ?_
  refine zw_go (pc1 := 2) (L1 := [some (.ref 49), some (.int (jI x1)), some (.int (jI 1)), none]) (st1 := []) (σ1 := js E A) zM_X7_store dX7_store_1 rfl rfl rfl rfl ?_
  refine jw_iconst (v := 0) zM_X7_store dX7_store_2 rfl ?_
  refine zw_go (pc1 := 4) (L1 := [some (.ref 49), some (.int (jI x1)), some (.int (jI 1)), some (.int (jI 0))]) (st1 := []) (σ1 := js E A) zM_X7_store dX7_store_3 rfl rfl rfl rfl ?_
  exact zw_weak2 (h hA) ⟨rfl, rfl, rfl, rfl, trivial⟩
set_option maxHeartbeats 4000000 in
set_option maxRecDepth 100000 in
theorem vd_X7_store_4 (x1 : Int) (r_x1 : jW x1) (x2 : Int) (r_x2 : jW x2) (x3 : Int) (r_x3 : jW x3) (E : jE) (A : jA) (K : Int → jA → Prop) (h : ((x1 ≤ x3 → ((x2 = (0 : Int) → jrV 196 0 [some (.ref 49), some (.int (jI x1)), none, none, none, none] [] E A (fun A1 => ((x1 ≤ (A1 49 22) → jrI 200 86 [some (.ref 49), some (.int (jI x1)), none, some (.int (jI 0))] [] E A1 K) ∧ ((A1 49 22) < x1 → jrI 200 55 [some (.ref 49), none, none, some (.int (jI 0))] [] E A1 K)))) ∧ (¬ x2 = (0 : Int) → K 0 A))) ∧ (x3 < x1 → ((x2 = (0 : Int) → jrI 200 26 [some (.ref 49), some (.int (jI x1)), none, some (.int (jI x3))] [] E A K) ∧ (¬ x2 = (0 : Int) → (0 ≤ x3 ∧ x3 < 32) ∧ ((¬ (A 62 x3) = (0 : Int) → jrI 200 26 [some (.ref 49), some (.int (jI x1)), none, some (.int (jI x3))] [] E A K) ∧ ((A 62 x3) = (0 : Int) → jrI 200 27 [some (.ref 49), some (.int (jI x1)), none, some (.int (jI x3))] [.int (jI 1)] E A K))))))) : jrI 200 4 [some (.ref 49), some (.int (jI x1)), some (.int (jI x2)), some (.int (jI x3))] [] E A K := by
  intro hA
  refine zw_go (pc1 := 5) (L1 := [some (.ref 49), some (.int (jI x1)), some (.int (jI x2)), some (.int (jI x3))]) (st1 := [.int (jI x3)]) (σ1 := js E A) zM_X7_store dX7_store_4 rfl rfl rfl rfl ?_
  refine zw_go (pc1 := 6) (L1 := [some (.ref 49), some (.int (jI x1)), some (.int (jI x2)), some (.int (jI x3))]) (st1 := [.int (jI x1), .int (jI x3)]) (σ1 := js E A) zM_X7_store dX7_store_5 rfl rfl rfl rfl ?_
  refine jw_icmp_ge (tgt := 34) zM_X7_store dX7_store_6 rfl r_x3 r_x1 (fun q => ?_) (fun q => ?_)
  · replace h := h.1 q
    refine zw_go (pc1 := 35) (L1 := [some (.ref 49), some (.int (jI x1)), some (.int (jI x2)), some (.int (jI x3))]) (st1 := [.int (jI x2)]) (σ1 := js E A) zM_X7_store dX7_store_34 rfl rfl rfl rfl ?_
    refine jw_if_eq (tgt := 40) zM_X7_store dX7_store_35 rfl r_x2 (fun q => ?_) (fun q => ?_)
    · replace h := h.1 q
      refine zw_go (pc1 := 41) (L1 := [some (.ref 49), some (.int (jI x1)), some (.int (jI x2)), some (.int (jI x3))]) (st1 := [.ref 49]) (σ1 := js E A) zM_X7_store dX7_store_40 rfl rfl rfl rfl ?_
      refine zw_go (pc1 := 42) (L1 := [some (.ref 49), some (.int (jI x1)), some (.int (jI x2)), some (.int (jI x3))]) (st1 := [.int (jI x1), .ref 49]) (σ1 := js E A) zM_X7_store dX7_store_41 rfl rfl rfl rfl ?_
      refine jw_callV (as := [.ref 49, .int (jI x1)]) (rest := []) zM_X7_store dX7_store_42 (zx_calV zC_7_155) zM_X7_pack rfl rfl rfl rfl rfl (j_args0 rfl rfl) rfl hA h (fun A1 hA2 h => ?_)
      refine zw_go (pc1 := 46) (L1 := [some (.ref 49), some (.int (jI x1)), some (.int (jI x2)), some (.int (jI x3))]) (st1 := [.ref 49]) (σ1 := js E A1) zM_X7_store dX7_store_45 rfl rfl rfl rfl ?_
      refine jw_getI zM_X7_store dX7_store_46 zF_7_149 rfl rfl rfl ?_
      refine zw_go (pc1 := 50) (L1 := [some (.ref 49), some (.int (jI x1)), some (.int (jI x2)), some (.int (jI x3))]) (st1 := [.int (jI x1), .int (jI (A1 49 22))]) (σ1 := js E A1) zM_X7_store dX7_store_49 rfl rfl rfl rfl ?_
      refine jw_icmp_ge (tgt := 84) zM_X7_store dX7_store_50 rfl (hA2 49 22) r_x1 (fun q => ?_) (fun q => ?_)
      · replace h := h.1 q
        refine jw_iconst (v := 0) zM_X7_store dX7_store_84 rfl ?_
        refine zw_go (pc1 := 86) (L1 := [some (.ref 49), some (.int (jI x1)), some (.int (jI x2)), some (.int (jI 0))]) (st1 := []) (σ1 := js E A1) zM_X7_store dX7_store_85 rfl rfl rfl rfl ?_
        exact zw_weak2 (h hA2) ⟨rfl, rfl, rfl, trivial⟩
      · replace h := h.2 q
        refine jw_iconst (v := 0) zM_X7_store dX7_store_53 rfl ?_
        refine zw_go (pc1 := 55) (L1 := [some (.ref 49), some (.int (jI x1)), some (.int (jI x2)), some (.int (jI 0))]) (st1 := []) (σ1 := js E A1) zM_X7_store dX7_store_54 rfl rfl rfl rfl ?_
        exact zw_weak2 (h hA2) ⟨rfl, rfl, trivial⟩
    · replace h := h.2 q
      refine jw_iconst (v := 0) zM_X7_store dX7_store_38 rfl ?_
      exact jw_reti zM_X7_store dX7_store_39 rfl (show jW 0 from ⟨by decide, by decide⟩) hA h
  · replace h := h.2 q
    refine zw_go (pc1 := 10) (L1 := [some (.ref 49), some (.int (jI x1)), some (.int (jI x2)), some (.int (jI x3))]) (st1 := [.int (jI x2)]) (σ1 := js E A) zM_X7_store dX7_store_9 rfl rfl rfl rfl ?_
    refine jw_if_eq (tgt := 26) zM_X7_store dX7_store_10 rfl r_x2 (fun q => ?_) (fun q => ?_)
    · replace h := h.1 q
      exact zw_weak2 (h hA) ⟨rfl, rfl, rfl, trivial⟩
    · replace h := h.2 q
      refine zw_go (pc1 := 14) (L1 := [some (.ref 49), some (.int (jI x1)), some (.int (jI x2)), some (.int (jI x3))]) (st1 := [.ref 49]) (σ1 := js E A) zM_X7_store dX7_store_13 rfl rfl rfl rfl ?_
      refine jw_getR (a := 62) zM_X7_store dX7_store_14 zF_7_46 rfl rfl rfl ?_
      refine zw_go (pc1 := 18) (L1 := [some (.ref 49), some (.int (jI x1)), some (.int (jI x2)), some (.int (jI x3))]) (st1 := [.int (jI x3), .ref 62]) (σ1 := js E A) zM_X7_store dX7_store_17 rfl rfl rfl rfl ?_
      obtain ⟨hi3, h⟩ := h
      refine jw_iald zM_X7_store dX7_store_18 rfl rfl hi3 ?_
      refine jw_if_ne (tgt := 26) zM_X7_store dX7_store_19 rfl (hA 62 x3) (fun q => ?_) (fun q => ?_)
      · replace h := h.1 q
        exact zw_weak2 (h hA) ⟨rfl, rfl, rfl, trivial⟩
      · replace h := h.2 q
        refine jw_iconst (v := 1) zM_X7_store dX7_store_22 rfl ?_
        refine zw_goto (tgt := 27) zM_X7_store dX7_store_23 rfl ?_
        exact zw_weak2 (h hA) ⟨rfl, rfl, rfl, trivial⟩
set_option maxHeartbeats 4000000 in
set_option maxRecDepth 100000 in
theorem vd_X7_store_26 (x1 : Int) (r_x1 : jW x1) (x3 : Int) (r_x3 : jW x3) (E : jE) (A : jA) (K : Int → jA → Prop) (h : jrI 200 27 [some (.ref 49), some (.int (jI x1)), none, some (.int (jI x3))] [.int (jI 0)] E A K) : jrI 200 26 [some (.ref 49), some (.int (jI x1)), none, some (.int (jI x3))] [] E A K := by
  intro hA
  refine jw_iconst (v := 0) zM_X7_store dX7_store_26 rfl ?_
  exact zw_weak2 (h hA) ⟨rfl, rfl, rfl, trivial⟩
set_option maxHeartbeats 4000000 in
set_option maxRecDepth 100000 in
theorem vd_X7_store_27 (x1 : Int) (r_x1 : jW x1) (x3 : Int) (r_x3 : jW x3) (y0 : Int) (r_y0 : jW y0) (E : jE) (A : jA) (K : Int → jA → Prop) (h : jrI 200 4 [some (.ref 49), some (.int (jI x1)), some (.int (jI y0)), some (.int (jI (x3 + 1)))] [] E A K) : jrI 200 27 [some (.ref 49), some (.int (jI x1)), none, some (.int (jI x3))] [.int (jI y0)] E A K := by
  intro hA
  refine zw_go (pc1 := 28) (L1 := [some (.ref 49), some (.int (jI x1)), some (.int (jI y0)), some (.int (jI x3))]) (st1 := []) (σ1 := js E A) zM_X7_store dX7_store_27 rfl rfl rfl rfl ?_
  refine jw_iinc (x := x3) (L1 := [some (.ref 49), some (.int (jI x1)), some (.int (jI y0)), some (.int (jI (x3 + 1)))]) zM_X7_store dX7_store_28 rfl (show 3 < 4 by decide) rfl ?_
  refine zw_goto (tgt := 4) zM_X7_store dX7_store_31 rfl ?_
  exact zw_weak2 (h hA) ⟨rfl, rfl, rfl, rfl, trivial⟩
set_option maxHeartbeats 4000000 in
set_option maxRecDepth 100000 in
theorem vd_X7_store_55 (x3 : Int) (r_x3 : jW x3) (E : jE) (A : jA) (K : Int → jA → Prop) (h : (((A 49 22) ≤ x3 → K (A 49 22) A) ∧ (x3 < (A 49 22) → (0 ≤ x3 ∧ x3 < 80) ∧ jrV 203 0 [some (.ref 49), some (.int (jI (A 63 x3)))] [] E A (fun A2 => jrI 200 55 [some (.ref 49), none, none, some (.int (jI (x3 + 1)))] [] E A2 K)))) : jrI 200 55 [some (.ref 49), none, none, some (.int (jI x3))] [] E A K := by
  intro hA
  refine zw_go (pc1 := 56) (L1 := [some (.ref 49), none, none, some (.int (jI x3))]) (st1 := [.int (jI x3)]) (σ1 := js E A) zM_X7_store dX7_store_55 rfl rfl rfl rfl ?_
  refine zw_go (pc1 := 57) (L1 := [some (.ref 49), none, none, some (.int (jI x3))]) (st1 := [.ref 49, .int (jI x3)]) (σ1 := js E A) zM_X7_store dX7_store_56 rfl rfl rfl rfl ?_
  refine jw_getI zM_X7_store dX7_store_57 zF_7_149 rfl rfl rfl ?_
  refine jw_icmp_ge (tgt := 79) zM_X7_store dX7_store_60 rfl r_x3 (hA 49 22) (fun q => ?_) (fun q => ?_)
  · replace h := h.1 q
    refine zw_go (pc1 := 80) (L1 := [some (.ref 49), none, none, some (.int (jI x3))]) (st1 := [.ref 49]) (σ1 := js E A) zM_X7_store dX7_store_79 rfl rfl rfl rfl ?_
    refine jw_getI zM_X7_store dX7_store_80 zF_7_149 rfl rfl rfl ?_
    exact jw_reti zM_X7_store dX7_store_83 rfl (hA 49 22) hA h
  · replace h := h.2 q
    refine zw_go (pc1 := 64) (L1 := [some (.ref 49), none, none, some (.int (jI x3))]) (st1 := [.ref 49]) (σ1 := js E A) zM_X7_store dX7_store_63 rfl rfl rfl rfl ?_
    refine zw_go (pc1 := 65) (L1 := [some (.ref 49), none, none, some (.int (jI x3))]) (st1 := [.ref 49, .ref 49]) (σ1 := js E A) zM_X7_store dX7_store_64 rfl rfl rfl rfl ?_
    refine jw_getR (a := 63) zM_X7_store dX7_store_65 zF_7_49 rfl rfl rfl ?_
    refine zw_go (pc1 := 69) (L1 := [some (.ref 49), none, none, some (.int (jI x3))]) (st1 := [.int (jI x3), .ref 63, .ref 49]) (σ1 := js E A) zM_X7_store dX7_store_68 rfl rfl rfl rfl ?_
    obtain ⟨hi1, h⟩ := h
    refine jw_iald zM_X7_store dX7_store_69 rfl rfl hi1 ?_
    refine jw_callV (as := [.ref 49, .int (jI (A 63 x3))]) (rest := []) zM_X7_store dX7_store_70 (zx_calV zC_7_135) zM_X7_tell rfl rfl rfl rfl rfl (j_args0 rfl rfl) rfl hA h (fun A2 hA3 h => ?_)
    refine jw_iinc (x := x3) (L1 := [some (.ref 49), none, none, some (.int (jI (x3 + 1)))]) zM_X7_store dX7_store_73 rfl (show 3 < 4 by decide) rfl ?_
    refine zw_goto (tgt := 55) zM_X7_store dX7_store_76 rfl ?_
    exact zw_weak2 (h hA3) ⟨rfl, rfl, trivial⟩
set_option maxHeartbeats 4000000 in
set_option maxRecDepth 100000 in
theorem vd_X7_store_86 (x1 : Int) (r_x1 : jW x1) (x3 : Int) (r_x3 : jW x3) (E : jE) (A : jA) (K : Int → jA → Prop) (h : ((x1 ≤ x3 → jW (32768 + x1) ∧ K (32768 + x1) A) ∧ (x3 < x1 → (0 ≤ x3 ∧ x3 < 32) ∧ jrV 203 0 [some (.ref 49), some (.int (jI (A 62 x3)))] [] E A (fun A3 => jrI 200 86 [some (.ref 49), some (.int (jI x1)), none, some (.int (jI (x3 + 1)))] [] E A3 K)))) : jrI 200 86 [some (.ref 49), some (.int (jI x1)), none, some (.int (jI x3))] [] E A K := by
  intro hA
  refine zw_go (pc1 := 87) (L1 := [some (.ref 49), some (.int (jI x1)), none, some (.int (jI x3))]) (st1 := [.int (jI x3)]) (σ1 := js E A) zM_X7_store dX7_store_86 rfl rfl rfl rfl ?_
  refine zw_go (pc1 := 88) (L1 := [some (.ref 49), some (.int (jI x1)), none, some (.int (jI x3))]) (st1 := [.int (jI x1), .int (jI x3)]) (σ1 := js E A) zM_X7_store dX7_store_87 rfl rfl rfl rfl ?_
  refine jw_icmp_ge (tgt := 107) zM_X7_store dX7_store_88 rfl r_x3 r_x1 (fun q => ?_) (fun q => ?_)
  · replace h := h.1 q
    refine jw_ldc (w := 32768) zM_X7_store dX7_store_107 zK_7_158 (by decide) ?_
    refine zw_go (pc1 := 110) (L1 := [some (.ref 49), some (.int (jI x1)), none, some (.int (jI x3))]) (st1 := [.int (jI x1), .int (jI 32768)]) (σ1 := js E A) zM_X7_store dX7_store_109 rfl rfl rfl rfl ?_
    refine jw_add zM_X7_store dX7_store_110 ?_
    obtain ⟨hw1, h⟩ := h
    exact jw_reti zM_X7_store dX7_store_111 rfl hw1 hA h
  · replace h := h.2 q
    refine zw_go (pc1 := 92) (L1 := [some (.ref 49), some (.int (jI x1)), none, some (.int (jI x3))]) (st1 := [.ref 49]) (σ1 := js E A) zM_X7_store dX7_store_91 rfl rfl rfl rfl ?_
    refine zw_go (pc1 := 93) (L1 := [some (.ref 49), some (.int (jI x1)), none, some (.int (jI x3))]) (st1 := [.ref 49, .ref 49]) (σ1 := js E A) zM_X7_store dX7_store_92 rfl rfl rfl rfl ?_
    refine jw_getR (a := 62) zM_X7_store dX7_store_93 zF_7_46 rfl rfl rfl ?_
    refine zw_go (pc1 := 97) (L1 := [some (.ref 49), some (.int (jI x1)), none, some (.int (jI x3))]) (st1 := [.int (jI x3), .ref 62, .ref 49]) (σ1 := js E A) zM_X7_store dX7_store_96 rfl rfl rfl rfl ?_
    obtain ⟨hi2, h⟩ := h
    refine jw_iald zM_X7_store dX7_store_97 rfl rfl hi2 ?_
    refine jw_callV (as := [.ref 49, .int (jI (A 62 x3))]) (rest := []) zM_X7_store dX7_store_98 (zx_calV zC_7_135) zM_X7_tell rfl rfl rfl rfl rfl (j_args0 rfl rfl) rfl hA h (fun A3 hA4 h => ?_)
    refine jw_iinc (x := x3) (L1 := [some (.ref 49), some (.int (jI x1)), none, some (.int (jI (x3 + 1)))]) zM_X7_store dX7_store_101 rfl (show 3 < 4 by decide) rfl ?_
    refine zw_goto (tgt := 86) zM_X7_store dX7_store_104 rfl ?_
    exact zw_weak2 (h hA4) ⟨rfl, rfl, rfl, trivial⟩
set_option maxHeartbeats 4000000 in
set_option maxRecDepth 100000 in
theorem vd_X7_sumOf_0 (x1 : Int) (r_x1 : jW x1) (E : jE) (A : jA) (K : Int → jA → Prop) (h : jrI 201 5 [some (.ref 49), some (.int (jI x1)), some (.long (jJ 0)), none, some (.int (jI 0))] [] E A K) : jrI 201 0 [some (.ref 49), some (.int (jI x1)), none, none, none] [] E A K := by
  intro hA
  refine jw_lconst (w := 0) zM_X7_sumOf dX7_sumOf_0 (by decide) ?_
  refine zw_go (pc1 := 2) (L1 := [some (.ref 49), some (.int (jI x1)), some (.long (jJ 0)), none, none]) (st1 := []) (σ1 := js E A) zM_X7_sumOf dX7_sumOf_1 rfl rfl rfl rfl ?_
  refine jw_iconst (v := 0) zM_X7_sumOf dX7_sumOf_2 rfl ?_
  refine zw_go (pc1 := 5) (L1 := [some (.ref 49), some (.int (jI x1)), some (.long (jJ 0)), none, some (.int (jI 0))]) (st1 := []) (σ1 := js E A) zM_X7_sumOf dX7_sumOf_3 rfl rfl rfl rfl ?_
  exact zw_weak2 (h hA) ⟨rfl, rfl, rfl, rfl, trivial⟩
set_option maxHeartbeats 4000000 in
set_option maxRecDepth 100000 in
theorem vd_X7_sumOf_5 (x1 : Int) (r_x1 : jW x1) (w2 : Int) (x4 : Int) (r_x4 : jW x4) (E : jE) (A : jA) (K : Int → jA → Prop) (h : (0 ≤ x1 ∧ x1 < 3) ∧ (((A 59 x1) ≤ x4 → 0 ≤ w2 ∧ w2 < 9223372036854775807 ∧ K (w2 % 65521) A) ∧ (x4 < (A 59 x1) → ((x4 = (16 : Int) → jrI 201 31 [some (.ref 49), some (.int (jI x1)), none, none, some (.int (jI x4))] [.long (jJ w2)] E A K) ∧ (¬ x4 = (16 : Int) → ((¬ x4 = (17 : Int) → (0 ≤ ((6000 * x1) + x4) ∧ ((6000 * x1) + x4) < 18000) ∧ jW (x4 + 1) ∧ jrI 201 55 [some (.ref 49), some (.int (jI x1)), none, none, some (.int (jI x4))] [.long (jJ ((A 58 ((6000 * x1) + x4)) * (x4 + 1))), .long (jJ w2)] E A K) ∧ (x4 = (17 : Int) → jrI 201 31 [some (.ref 49), some (.int (jI x1)), none, none, some (.int (jI x4))] [.long (jJ w2)] E A K))))))) : jrI 201 5 [some (.ref 49), some (.int (jI x1)), some (.long (jJ w2)), none, some (.int (jI x4))] [] E A K := by
  intro hA
  refine zw_go (pc1 := 7) (L1 := [some (.ref 49), some (.int (jI x1)), some (.long (jJ w2)), none, some (.int (jI x4))]) (st1 := [.int (jI x4)]) (σ1 := js E A) zM_X7_sumOf dX7_sumOf_5 rfl rfl rfl rfl ?_
  refine zw_go (pc1 := 8) (L1 := [some (.ref 49), some (.int (jI x1)), some (.long (jJ w2)), none, some (.int (jI x4))]) (st1 := [.ref 49, .int (jI x4)]) (σ1 := js E A) zM_X7_sumOf dX7_sumOf_7 rfl rfl rfl rfl ?_
  refine jw_getR (a := 59) zM_X7_sumOf dX7_sumOf_8 zF_7_37 rfl rfl rfl ?_
  refine zw_go (pc1 := 12) (L1 := [some (.ref 49), some (.int (jI x1)), some (.long (jJ w2)), none, some (.int (jI x4))]) (st1 := [.int (jI x1), .ref 59, .int (jI x4)]) (σ1 := js E A) zM_X7_sumOf dX7_sumOf_11 rfl rfl rfl rfl ?_
  obtain ⟨hi1, h⟩ := h
  refine jw_iald zM_X7_sumOf dX7_sumOf_12 rfl rfl hi1 ?_
  refine jw_icmp_ge (tgt := 63) zM_X7_sumOf dX7_sumOf_13 rfl r_x4 (hA 59 x1) (fun q => ?_) (fun q => ?_)
  · replace h := h.1 q
    refine zw_go (pc1 := 64) (L1 := [some (.ref 49), some (.int (jI x1)), some (.long (jJ w2)), none, some (.int (jI x4))]) (st1 := [.long (jJ w2)]) (σ1 := js E A) zM_X7_sumOf dX7_sumOf_63 rfl rfl rfl rfl ?_
    refine jw_ldc2 (w := 65521) zM_X7_sumOf dX7_sumOf_64 zJ_7_193 (by decide) ?_
    obtain ⟨hz2, h⟩ := h
    obtain ⟨hz3, h⟩ := h
    refine jw_lrem zM_X7_sumOf dX7_sumOf_67 hz3 (by decide) hz2 (by decide) ?_
    refine jw_l2i zM_X7_sumOf dX7_sumOf_68 ?_
    exact jw_reti zM_X7_sumOf dX7_sumOf_69 rfl (show jW (w2 % 65521) from ⟨by omega, by omega⟩) hA h
  · replace h := h.2 q
    refine zw_go (pc1 := 17) (L1 := [some (.ref 49), some (.int (jI x1)), some (.long (jJ w2)), none, some (.int (jI x4))]) (st1 := [.long (jJ w2)]) (σ1 := js E A) zM_X7_sumOf dX7_sumOf_16 rfl rfl rfl rfl ?_
    refine zw_go (pc1 := 19) (L1 := [some (.ref 49), some (.int (jI x1)), some (.long (jJ w2)), none, some (.int (jI x4))]) (st1 := [.int (jI x4), .long (jJ w2)]) (σ1 := js E A) zM_X7_sumOf dX7_sumOf_17 rfl rfl rfl rfl ?_
    refine jw_bipush (v := 16) zM_X7_sumOf dX7_sumOf_19 (by decide) ?_
    refine jw_icmp_eq (tgt := 31) zM_X7_sumOf dX7_sumOf_21 rfl r_x4 (show jW 16 from ⟨by decide, by decide⟩) (fun q => ?_) (fun q => ?_)
    · replace h := h.1 q
      exact zw_weak2 (h hA) ⟨rfl, rfl, rfl, trivial⟩
    · replace h := h.2 q
      refine zw_go (pc1 := 26) (L1 := [some (.ref 49), some (.int (jI x1)), some (.long (jJ w2)), none, some (.int (jI x4))]) (st1 := [.int (jI x4), .long (jJ w2)]) (σ1 := js E A) zM_X7_sumOf dX7_sumOf_24 rfl rfl rfl rfl ?_
      refine jw_bipush (v := 17) zM_X7_sumOf dX7_sumOf_26 (by decide) ?_
      refine jw_icmp_ne (tgt := 35) zM_X7_sumOf dX7_sumOf_28 rfl r_x4 (show jW 17 from ⟨by decide, by decide⟩) (fun q => ?_) (fun q => ?_)
      · replace h := h.1 q
        refine zw_go (pc1 := 36) (L1 := [some (.ref 49), some (.int (jI x1)), some (.long (jJ w2)), none, some (.int (jI x4))]) (st1 := [.ref 49, .long (jJ w2)]) (σ1 := js E A) zM_X7_sumOf dX7_sumOf_35 rfl rfl rfl rfl ?_
        refine jw_getR (a := 58) zM_X7_sumOf dX7_sumOf_36 zF_7_34 rfl rfl rfl ?_
        refine jw_sipush (v := 6000) zM_X7_sumOf dX7_sumOf_39 (by decide) ?_
        refine zw_go (pc1 := 43) (L1 := [some (.ref 49), some (.int (jI x1)), some (.long (jJ w2)), none, some (.int (jI x4))]) (st1 := [.int (jI x1), .int (jI 6000), .ref 58, .long (jJ w2)]) (σ1 := js E A) zM_X7_sumOf dX7_sumOf_42 rfl rfl rfl rfl ?_
        refine jw_mul zM_X7_sumOf dX7_sumOf_43 ?_
        refine zw_go (pc1 := 46) (L1 := [some (.ref 49), some (.int (jI x1)), some (.long (jJ w2)), none, some (.int (jI x4))]) (st1 := [.int (jI x4), .int (jI (6000 * x1)), .ref 58, .long (jJ w2)]) (σ1 := js E A) zM_X7_sumOf dX7_sumOf_44 rfl rfl rfl rfl ?_
        refine jw_add zM_X7_sumOf dX7_sumOf_46 ?_
        obtain ⟨hi4, h⟩ := h
        refine jw_iald zM_X7_sumOf dX7_sumOf_47 rfl rfl hi4 ?_
        refine jw_i2l zM_X7_sumOf (hA 58 ((6000 * x1) + x4)) dX7_sumOf_48 ?_
        refine zw_go (pc1 := 51) (L1 := [some (.ref 49), some (.int (jI x1)), some (.long (jJ w2)), none, some (.int (jI x4))]) (st1 := [.int (jI x4), .long (jJ (A 58 ((6000 * x1) + x4))), .long (jJ w2)]) (σ1 := js E A) zM_X7_sumOf dX7_sumOf_49 rfl rfl rfl rfl ?_
        refine jw_iconst (v := 1) zM_X7_sumOf dX7_sumOf_51 rfl ?_
        refine jw_add zM_X7_sumOf dX7_sumOf_52 ?_
        obtain ⟨hw5, h⟩ := h
        refine jw_i2l zM_X7_sumOf hw5 dX7_sumOf_53 ?_
        refine jw_lmul zM_X7_sumOf dX7_sumOf_54 ?_
        exact zw_weak2 (h hA) ⟨rfl, rfl, rfl, trivial⟩
      · replace h := h.2 q
        exact zw_weak2 (h hA) ⟨rfl, rfl, rfl, trivial⟩
set_option maxHeartbeats 4000000 in
set_option maxRecDepth 100000 in
theorem vd_X7_sumOf_31 (x1 : Int) (r_x1 : jW x1) (x4 : Int) (r_x4 : jW x4) (z0 : Int) (E : jE) (A : jA) (K : Int → jA → Prop) (h : jrI 201 55 [some (.ref 49), some (.int (jI x1)), none, none, some (.int (jI x4))] [.long (jJ 0), .long (jJ z0)] E A K) : jrI 201 31 [some (.ref 49), some (.int (jI x1)), none, none, some (.int (jI x4))] [.long (jJ z0)] E A K := by
  intro hA
  refine jw_lconst (w := 0) zM_X7_sumOf dX7_sumOf_31 (by decide) ?_
  refine zw_goto (tgt := 55) zM_X7_sumOf dX7_sumOf_32 rfl ?_
  exact zw_weak2 (h hA) ⟨rfl, rfl, rfl, trivial⟩
set_option maxHeartbeats 4000000 in
set_option maxRecDepth 100000 in
theorem vd_X7_sumOf_55 (x1 : Int) (r_x1 : jW x1) (x4 : Int) (r_x4 : jW x4) (z0 : Int) (z1 : Int) (E : jE) (A : jA) (K : Int → jA → Prop) (h : jrI 201 5 [some (.ref 49), some (.int (jI x1)), some (.long (jJ (z1 + z0))), none, some (.int (jI (x4 + 1)))] [] E A K) : jrI 201 55 [some (.ref 49), some (.int (jI x1)), none, none, some (.int (jI x4))] [.long (jJ z0), .long (jJ z1)] E A K := by
  intro hA
  refine jw_ladd zM_X7_sumOf dX7_sumOf_55 ?_
  refine zw_go (pc1 := 57) (L1 := [some (.ref 49), some (.int (jI x1)), some (.long (jJ (z1 + z0))), none, some (.int (jI x4))]) (st1 := []) (σ1 := js E A) zM_X7_sumOf dX7_sumOf_56 rfl rfl rfl rfl ?_
  refine jw_iinc (x := x4) (L1 := [some (.ref 49), some (.int (jI x1)), some (.long (jJ (z1 + z0))), none, some (.int (jI (x4 + 1)))]) zM_X7_sumOf dX7_sumOf_57 rfl (show 4 < 5 by decide) rfl ?_
  refine zw_goto (tgt := 5) zM_X7_sumOf dX7_sumOf_60 rfl ?_
  exact zw_weak2 (h hA) ⟨rfl, rfl, rfl, rfl, trivial⟩
set_option maxHeartbeats 4000000 in
set_option maxRecDepth 100000 in
theorem vd_X7_tailsIn_0 (x1 : Int) (r_x1 : jW x1) (E : jE) (A : jA) (K : Int → jA → Prop) (h : jrI 210 0 [some (.ref 49), some (.int (jI x1)), some (.int (jI 12))] [] E A (fun v3 A1 => jrI 210 0 [some (.ref 49), some (.int (jI x1)), some (.int (jI 10))] [] E A1 (fun v7 A5 => jW (v3 - v7) ∧ 0 ≤ (v3 - v7) ∧ jW ((v3 - v7) / 5) ∧ K ((v3 - v7) / 5) A5))) : jrI 202 0 [some (.ref 49), some (.int (jI x1))] [] E A K := by
  intro hA
  refine zw_go (pc1 := 1) (L1 := [some (.ref 49), some (.int (jI x1))]) (st1 := [.ref 49]) (σ1 := js E A) zM_X7_tailsIn dX7_tailsIn_0 rfl rfl rfl rfl ?_
  refine zw_go (pc1 := 2) (L1 := [some (.ref 49), some (.int (jI x1))]) (st1 := [.int (jI x1), .ref 49]) (σ1 := js E A) zM_X7_tailsIn dX7_tailsIn_1 rfl rfl rfl rfl ?_
  refine jw_bipush (v := 12) zM_X7_tailsIn dX7_tailsIn_2 (by decide) ?_
  refine jw_callI (as := [.ref 49, .int (jI x1), .int (jI 12)]) (rest := []) zM_X7_tailsIn dX7_tailsIn_4 (zx_calV zC_7_201) zM_X7_word rfl rfl rfl rfl rfl (j_args0 rfl rfl) rfl hA h (fun v3 A1 rv4 hA2 h => ?_)
  refine zw_go (pc1 := 8) (L1 := [some (.ref 49), some (.int (jI x1))]) (st1 := [.ref 49, .int (jI v3)]) (σ1 := js E A1) zM_X7_tailsIn dX7_tailsIn_7 rfl rfl rfl rfl ?_
  refine zw_go (pc1 := 9) (L1 := [some (.ref 49), some (.int (jI x1))]) (st1 := [.int (jI x1), .ref 49, .int (jI v3)]) (σ1 := js E A1) zM_X7_tailsIn dX7_tailsIn_8 rfl rfl rfl rfl ?_
  refine jw_bipush (v := 10) zM_X7_tailsIn dX7_tailsIn_9 (by decide) ?_
  refine jw_callI (as := [.ref 49, .int (jI x1), .int (jI 10)]) (rest := [.int (jI v3)]) zM_X7_tailsIn dX7_tailsIn_11 (zx_calV zC_7_201) zM_X7_word rfl rfl rfl rfl rfl (j_args0 rfl rfl) rfl hA2 h (fun v7 A5 rv8 hA6 h => ?_)
  refine jw_sub zM_X7_tailsIn dX7_tailsIn_14 ?_
  refine jw_iconst (v := 5) zM_X7_tailsIn dX7_tailsIn_15 rfl ?_
  obtain ⟨hw9, h⟩ := h
  obtain ⟨hz10, h⟩ := h
  refine jw_div zM_X7_tailsIn dX7_tailsIn_16 hw9 (show jW 5 from ⟨by decide, by decide⟩) hz10 (by decide) ?_
  obtain ⟨hw11, h⟩ := h
  exact jw_reti zM_X7_tailsIn dX7_tailsIn_17 rfl hw11 hA6 h
set_option maxHeartbeats 4000000 in
set_option maxRecDepth 100000 in
theorem vd_X7_tell_0 (x1 : Int) (r_x1 : jW x1) (E : jE) (A : jA) (K : jA → Prop) (h : (0 ≤ ((6000 * (A 49 14)) + (A 49 15)) ∧ ((6000 * (A 49 14)) + (A 49 15)) < 18000) ∧ ∀ A2 : jA, A2 = jup A 58 ((6000 * (A 49 14)) + (A 49 15)) x1 → jW ((A2 49 15) + 1) ∧ ∀ A6 : jA, A6 = jup A2 49 15 ((A2 49 15) + 1) → K A6) : jrV 203 0 [some (.ref 49), some (.int (jI x1))] [] E A K := by
  intro hA
  refine zw_go (pc1 := 1) (L1 := [some (.ref 49), some (.int (jI x1))]) (st1 := [.ref 49]) (σ1 := js E A) zM_X7_tell dX7_tell_0 rfl rfl rfl rfl ?_
  refine jw_getR (a := 58) zM_X7_tell dX7_tell_1 zF_7_34 rfl rfl rfl ?_
  refine jw_sipush (v := 6000) zM_X7_tell dX7_tell_4 (by decide) ?_
  refine zw_go (pc1 := 8) (L1 := [some (.ref 49), some (.int (jI x1))]) (st1 := [.ref 49, .int (jI 6000), .ref 58]) (σ1 := js E A) zM_X7_tell dX7_tell_7 rfl rfl rfl rfl ?_
  refine jw_getI zM_X7_tell dX7_tell_8 zF_7_129 rfl rfl rfl ?_
  refine jw_mul zM_X7_tell dX7_tell_11 ?_
  refine zw_go (pc1 := 13) (L1 := [some (.ref 49), some (.int (jI x1))]) (st1 := [.ref 49, .int (jI (6000 * (A 49 14))), .ref 58]) (σ1 := js E A) zM_X7_tell dX7_tell_12 rfl rfl rfl rfl ?_
  refine jw_getI zM_X7_tell dX7_tell_13 zF_7_132 rfl rfl rfl ?_
  refine jw_add zM_X7_tell dX7_tell_16 ?_
  refine zw_go (pc1 := 18) (L1 := [some (.ref 49), some (.int (jI x1))]) (st1 := [.int (jI x1), .int (jI ((6000 * (A 49 14)) + (A 49 15))), .ref 58]) (σ1 := js E A) zM_X7_tell dX7_tell_17 rfl rfl rfl rfl ?_
  obtain ⟨hi1, h⟩ := h
  obtain ⟨A2, e3⟩ : ∃ z9 : jA, z9 = jup A 58 ((6000 * (A 49 14)) + (A 49 15)) x1 := ⟨_, rfl⟩
  replace h := h A2 e3
  have hA4 : jOK A2 := jOK.up hA r_x1 e3
  refine jw_iast zM_X7_tell dX7_tell_18 rfl rfl hi1 e3 ?_
  refine zw_go (pc1 := 20) (L1 := [some (.ref 49), some (.int (jI x1))]) (st1 := [.ref 49]) (σ1 := js E A2) zM_X7_tell dX7_tell_19 rfl rfl rfl rfl ?_
  refine zw_go (pc1 := 21) (L1 := [some (.ref 49), some (.int (jI x1))]) (st1 := [.ref 49, .ref 49]) (σ1 := js E A2) zM_X7_tell dX7_tell_20 rfl rfl rfl rfl ?_
  refine jw_getI zM_X7_tell dX7_tell_21 zF_7_132 rfl rfl rfl ?_
  refine jw_iconst (v := 1) zM_X7_tell dX7_tell_24 rfl ?_
  refine jw_add zM_X7_tell dX7_tell_25 ?_
  obtain ⟨hw5, h⟩ := h
  obtain ⟨A6, e7⟩ : ∃ z9 : jA, z9 = jup A2 49 15 ((A2 49 15) + 1) := ⟨_, rfl⟩
  replace h := h A6 e7
  have hA8 : jOK A6 := jOK.up hA4 hw5 e7
  refine jw_putI zM_X7_tell dX7_tell_26 zF_7_132 rfl rfl rfl rfl e7 ?_
  exact jw_retv zM_X7_tell dX7_tell_29 rfl hA8 h
set_option maxHeartbeats 4000000 in
set_option maxRecDepth 100000 in
theorem vd_X7_tellFile_0 (x1 : Int) (r_x1 : jW x1) (x2 : Int) (r_x2 : jW x2) (E : jE) (A : jA) (K : jA → Prop) (h : (0 ≤ x1 ∧ x1 < 33) ∧ (0 ≤ (A 61 x1) ∧ (A 61 x1) < 32) ∧ 0 ≤ (A 53 (A 61 x1)) ∧ 0 < x2 ∧ jW ((A 53 (A 61 x1)) / x2) ∧ ((¬ ((A 53 (A 61 x1)) / x2) = (0 : Int) → jrV 204 35 [some (.ref 49), some (.int (jI x1)), some (.int (jI x2)), some (.int (jI (A 61 x1))), some (.int (jI ((A 53 (A 61 x1)) / x2))), none, none, none] [.int (jI (A 49 15)), .int (jI x1), .ref 64] E A K) ∧ (((A 53 (A 61 x1)) / x2) = (0 : Int) → jrV 204 35 [some (.ref 49), some (.int (jI x1)), some (.int (jI x2)), some (.int (jI (A 61 x1))), some (.int (jI ((A 53 (A 61 x1)) / x2))), none, none, none] [.int (jI 0), .int (jI x1), .ref 64] E A K))) : jrV 204 0 [some (.ref 49), some (.int (jI x1)), some (.int (jI x2)), none, none, none, none, none] [] E A K := by
  intro hA
  refine zw_go (pc1 := 1) (L1 := [some (.ref 49), some (.int (jI x1)), some (.int (jI x2)), none, none, none, none, none]) (st1 := [.ref 49]) (σ1 := js E A) zM_X7_tellFile dX7_tellFile_0 rfl rfl rfl rfl ?_
  refine jw_getR (a := 61) zM_X7_tellFile dX7_tellFile_1 zF_7_43 rfl rfl rfl ?_
  refine zw_go (pc1 := 5) (L1 := [some (.ref 49), some (.int (jI x1)), some (.int (jI x2)), none, none, none, none, none]) (st1 := [.int (jI x1), .ref 61]) (σ1 := js E A) zM_X7_tellFile dX7_tellFile_4 rfl rfl rfl rfl ?_
  obtain ⟨hi1, h⟩ := h
  refine jw_iald zM_X7_tellFile dX7_tellFile_5 rfl rfl hi1 ?_
  refine zw_go (pc1 := 7) (L1 := [some (.ref 49), some (.int (jI x1)), some (.int (jI x2)), some (.int (jI (A 61 x1))), none, none, none, none]) (st1 := []) (σ1 := js E A) zM_X7_tellFile dX7_tellFile_6 rfl rfl rfl rfl ?_
  refine zw_go (pc1 := 8) (L1 := [some (.ref 49), some (.int (jI x1)), some (.int (jI x2)), some (.int (jI (A 61 x1))), none, none, none, none]) (st1 := [.ref 49]) (σ1 := js E A) zM_X7_tellFile dX7_tellFile_7 rfl rfl rfl rfl ?_
  refine jw_getR (a := 53) zM_X7_tellFile dX7_tellFile_8 zF_7_19 rfl rfl rfl ?_
  refine zw_go (pc1 := 12) (L1 := [some (.ref 49), some (.int (jI x1)), some (.int (jI x2)), some (.int (jI (A 61 x1))), none, none, none, none]) (st1 := [.int (jI (A 61 x1)), .ref 53]) (σ1 := js E A) zM_X7_tellFile dX7_tellFile_11 rfl rfl rfl rfl ?_
  obtain ⟨hi2, h⟩ := h
  refine jw_iald zM_X7_tellFile dX7_tellFile_12 rfl rfl hi2 ?_
  refine zw_go (pc1 := 14) (L1 := [some (.ref 49), some (.int (jI x1)), some (.int (jI x2)), some (.int (jI (A 61 x1))), none, none, none, none]) (st1 := [.int (jI x2), .int (jI (A 53 (A 61 x1)))]) (σ1 := js E A) zM_X7_tellFile dX7_tellFile_13 rfl rfl rfl rfl ?_
  obtain ⟨hz3, h⟩ := h
  obtain ⟨hz4, h⟩ := h
  refine jw_div zM_X7_tellFile dX7_tellFile_14 (hA 53 (A 61 x1)) r_x2 hz3 hz4 ?_
  refine zw_go (pc1 := 17) (L1 := [some (.ref 49), some (.int (jI x1)), some (.int (jI x2)), some (.int (jI (A 61 x1))), some (.int (jI ((A 53 (A 61 x1)) / x2))), none, none, none]) (st1 := []) (σ1 := js E A) zM_X7_tellFile dX7_tellFile_15 rfl rfl rfl rfl ?_
  refine zw_go (pc1 := 18) (L1 := [some (.ref 49), some (.int (jI x1)), some (.int (jI x2)), some (.int (jI (A 61 x1))), some (.int (jI ((A 53 (A 61 x1)) / x2))), none, none, none]) (st1 := [.ref 49]) (σ1 := js E A) zM_X7_tellFile dX7_tellFile_17 rfl rfl rfl rfl ?_
  refine jw_getR (a := 64) zM_X7_tellFile dX7_tellFile_18 zF_7_52 rfl rfl rfl ?_
  refine zw_go (pc1 := 22) (L1 := [some (.ref 49), some (.int (jI x1)), some (.int (jI x2)), some (.int (jI (A 61 x1))), some (.int (jI ((A 53 (A 61 x1)) / x2))), none, none, none]) (st1 := [.int (jI x1), .ref 64]) (σ1 := js E A) zM_X7_tellFile dX7_tellFile_21 rfl rfl rfl rfl ?_
  refine zw_go (pc1 := 24) (L1 := [some (.ref 49), some (.int (jI x1)), some (.int (jI x2)), some (.int (jI (A 61 x1))), some (.int (jI ((A 53 (A 61 x1)) / x2))), none, none, none]) (st1 := [.int (jI ((A 53 (A 61 x1)) / x2)), .int (jI x1), .ref 64]) (σ1 := js E A) zM_X7_tellFile dX7_tellFile_22 rfl rfl rfl rfl ?_
  obtain ⟨hw5, h⟩ := h
  refine jw_if_ne (tgt := 31) zM_X7_tellFile dX7_tellFile_24 rfl hw5 (fun q => ?_) (fun q => ?_)
  · replace h := h.1 q
    refine zw_go (pc1 := 32) (L1 := [some (.ref 49), some (.int (jI x1)), some (.int (jI x2)), some (.int (jI (A 61 x1))), some (.int (jI ((A 53 (A 61 x1)) / x2))), none, none, none]) (st1 := [.ref 49, .int (jI x1), .ref 64]) (σ1 := js E A) zM_X7_tellFile dX7_tellFile_31 rfl rfl rfl rfl ?_
    refine jw_getI zM_X7_tellFile dX7_tellFile_32 zF_7_132 rfl rfl rfl ?_
    exact zw_weak2 (h hA) ⟨rfl, rfl, rfl, rfl, rfl, trivial⟩
  · replace h := h.2 q
    refine jw_iconst (v := 0) zM_X7_tellFile dX7_tellFile_27 rfl ?_
    refine zw_goto (tgt := 35) zM_X7_tellFile dX7_tellFile_28 rfl ?_
    exact zw_weak2 (h hA) ⟨rfl, rfl, rfl, rfl, rfl, trivial⟩
set_option maxHeartbeats 4000000 in
set_option maxRecDepth 100000 in
theorem vd_X7_tellFile_35 (x1 : Int) (r_x1 : jW x1) (x2 : Int) (r_x2 : jW x2) (x3 : Int) (r_x3 : jW x3) (x4 : Int) (r_x4 : jW x4) (y0 : Int) (r_y0 : jW y0) (y1 : Int) (r_y1 : jW y1) (E : jE) (A : jA) (K : jA → Prop) (h : (0 ≤ y1 ∧ y1 < 33) ∧ ∀ A2 : jA, A2 = jup A 64 y1 y0 → jrV 204 39 [some (.ref 49), some (.int (jI x1)), some (.int (jI x2)), some (.int (jI x3)), some (.int (jI x4)), some (.int (jI 0)), none, none] [] E A2 K) : jrV 204 35 [some (.ref 49), some (.int (jI x1)), some (.int (jI x2)), some (.int (jI x3)), some (.int (jI x4)), none, none, none] [.int (jI y0), .int (jI y1), .ref 64] E A K := by
  intro hA
  obtain ⟨hi1, h⟩ := h
  obtain ⟨A2, e3⟩ : ∃ z9 : jA, z9 = jup A 64 y1 y0 := ⟨_, rfl⟩
  replace h := h A2 e3
  have hA4 : jOK A2 := jOK.up hA r_y0 e3
  refine jw_iast zM_X7_tellFile dX7_tellFile_35 rfl rfl hi1 e3 ?_
  refine jw_iconst (v := 0) zM_X7_tellFile dX7_tellFile_36 rfl ?_
  refine zw_go (pc1 := 39) (L1 := [some (.ref 49), some (.int (jI x1)), some (.int (jI x2)), some (.int (jI x3)), some (.int (jI x4)), some (.int (jI 0)), none, none]) (st1 := []) (σ1 := js E A2) zM_X7_tellFile dX7_tellFile_37 rfl rfl rfl rfl ?_
  exact zw_weak2 (h hA4) ⟨rfl, rfl, rfl, rfl, rfl, rfl, trivial⟩
set_option maxHeartbeats 4000000 in
set_option maxRecDepth 100000 in
theorem vd_X7_tellFile_39 (x1 : Int) (r_x1 : jW x1) (x2 : Int) (r_x2 : jW x2) (x3 : Int) (r_x3 : jW x3) (x4 : Int) (r_x4 : jW x4) (x5 : Int) (r_x5 : jW x5) (E : jE) (A : jA) (K : jA → Prop) (h : ((x4 ≤ x5 → (0 ≤ x3 ∧ x3 < 32) ∧ (0 ≤ x1 ∧ x1 < 33) ∧ ∀ A3 : jA, A3 = jup A 66 x1 0 → (0 ≤ x1 ∧ x1 < 33) ∧ ∀ A7 : jA, A7 = jup A3 67 x1 0 → jW ((A 53 x3) - (x4 * x2)) ∧ ((((A 53 x3) - (x4 * x2)) ≤ (0 : Int) → K A7) ∧ ((0 : Int) < ((A 53 x3) - (x4 * x2)) → (((A7 49 27) = (0 : Int) → jrV 204 165 [some (.ref 49), some (.int (jI x1)), some (.int (jI x2)), some (.int (jI x3)), some (.int (jI x4)), some (.int (jI ((A 53 x3) - (x4 * x2)))), none, none] [] E A7 K) ∧ (¬ (A7 49 27) = (0 : Int) → (0 ≤ ((A7 49 27) - 1) ∧ ((A7 49 27) - 1) < 32) ∧ jW ((A7 68 ((A7 49 27) - 1)) + ((A 53 x3) - (x4 * x2))) ∧ ((((A7 68 ((A7 49 27) - 1)) + ((A 53 x3) - (x4 * x2))) ≤ x2 → jrV 204 185 [some (.ref 49), some (.int (jI x1)), some (.int (jI x2)), some (.int (jI x3)), some (.int (jI x4)), some (.int (jI ((A 53 x3) - (x4 * x2)))), none, none] [] E A7 K) ∧ (x2 < ((A7 68 ((A7 49 27) - 1)) + ((A 53 x3) - (x4 * x2))) → jrV 204 165 [some (.ref 49), some (.int (jI x1)), some (.int (jI x2)), some (.int (jI x3)), some (.int (jI x4)), some (.int (jI ((A 53 x3) - (x4 * x2)))), none, none] [] E A7 K))))))) ∧ (x5 < x4 → jrV 204 49 [some (.ref 49), some (.int (jI x1)), some (.int (jI x2)), some (.int (jI x3)), some (.int (jI x4)), some (.int (jI x5)), some (.int (jI 0)), none] [] E A K))) : jrV 204 39 [some (.ref 49), some (.int (jI x1)), some (.int (jI x2)), some (.int (jI x3)), some (.int (jI x4)), some (.int (jI x5)), none, none] [] E A K := by
  intro hA
  refine zw_go (pc1 := 41) (L1 := [some (.ref 49), some (.int (jI x1)), some (.int (jI x2)), some (.int (jI x3)), some (.int (jI x4)), some (.int (jI x5)), none, none]) (st1 := [.int (jI x5)]) (σ1 := js E A) zM_X7_tellFile dX7_tellFile_39 rfl rfl rfl rfl ?_
  refine zw_go (pc1 := 43) (L1 := [some (.ref 49), some (.int (jI x1)), some (.int (jI x2)), some (.int (jI x3)), some (.int (jI x4)), some (.int (jI x5)), none, none]) (st1 := [.int (jI x4), .int (jI x5)]) (σ1 := js E A) zM_X7_tellFile dX7_tellFile_41 rfl rfl rfl rfl ?_
  refine jw_icmp_ge (tgt := 108) zM_X7_tellFile dX7_tellFile_43 rfl r_x5 r_x4 (fun q => ?_) (fun q => ?_)
  · replace h := h.1 q
    refine zw_go (pc1 := 109) (L1 := [some (.ref 49), some (.int (jI x1)), some (.int (jI x2)), some (.int (jI x3)), some (.int (jI x4)), some (.int (jI x5)), none, none]) (st1 := [.ref 49]) (σ1 := js E A) zM_X7_tellFile dX7_tellFile_108 rfl rfl rfl rfl ?_
    refine jw_getR (a := 53) zM_X7_tellFile dX7_tellFile_109 zF_7_19 rfl rfl rfl ?_
    refine zw_go (pc1 := 113) (L1 := [some (.ref 49), some (.int (jI x1)), some (.int (jI x2)), some (.int (jI x3)), some (.int (jI x4)), some (.int (jI x5)), none, none]) (st1 := [.int (jI x3), .ref 53]) (σ1 := js E A) zM_X7_tellFile dX7_tellFile_112 rfl rfl rfl rfl ?_
    obtain ⟨hi1, h⟩ := h
    refine jw_iald zM_X7_tellFile dX7_tellFile_113 rfl rfl hi1 ?_
    refine zw_go (pc1 := 116) (L1 := [some (.ref 49), some (.int (jI x1)), some (.int (jI x2)), some (.int (jI x3)), some (.int (jI x4)), some (.int (jI x5)), none, none]) (st1 := [.int (jI x4), .int (jI (A 53 x3))]) (σ1 := js E A) zM_X7_tellFile dX7_tellFile_114 rfl rfl rfl rfl ?_
    refine zw_go (pc1 := 117) (L1 := [some (.ref 49), some (.int (jI x1)), some (.int (jI x2)), some (.int (jI x3)), some (.int (jI x4)), some (.int (jI x5)), none, none]) (st1 := [.int (jI x2), .int (jI x4), .int (jI (A 53 x3))]) (σ1 := js E A) zM_X7_tellFile dX7_tellFile_116 rfl rfl rfl rfl ?_
    refine jw_mul zM_X7_tellFile dX7_tellFile_117 ?_
    refine jw_sub zM_X7_tellFile dX7_tellFile_118 ?_
    refine zw_go (pc1 := 121) (L1 := [some (.ref 49), some (.int (jI x1)), some (.int (jI x2)), some (.int (jI x3)), some (.int (jI x4)), some (.int (jI ((A 53 x3) - (x4 * x2)))), none, none]) (st1 := []) (σ1 := js E A) zM_X7_tellFile dX7_tellFile_119 rfl rfl rfl rfl ?_
    refine zw_go (pc1 := 122) (L1 := [some (.ref 49), some (.int (jI x1)), some (.int (jI x2)), some (.int (jI x3)), some (.int (jI x4)), some (.int (jI ((A 53 x3) - (x4 * x2)))), none, none]) (st1 := [.ref 49]) (σ1 := js E A) zM_X7_tellFile dX7_tellFile_121 rfl rfl rfl rfl ?_
    refine jw_getR (a := 66) zM_X7_tellFile dX7_tellFile_122 zF_7_58 rfl rfl rfl ?_
    refine zw_go (pc1 := 126) (L1 := [some (.ref 49), some (.int (jI x1)), some (.int (jI x2)), some (.int (jI x3)), some (.int (jI x4)), some (.int (jI ((A 53 x3) - (x4 * x2)))), none, none]) (st1 := [.int (jI x1), .ref 66]) (σ1 := js E A) zM_X7_tellFile dX7_tellFile_125 rfl rfl rfl rfl ?_
    refine jw_iconst (v := 0) zM_X7_tellFile dX7_tellFile_126 rfl ?_
    obtain ⟨hi2, h⟩ := h
    obtain ⟨A3, e4⟩ : ∃ z9 : jA, z9 = jup A 66 x1 0 := ⟨_, rfl⟩
    replace h := h A3 e4
    have hA5 : jOK A3 := jOK.up hA (show jW 0 from ⟨by decide, by decide⟩) e4
    refine jw_iast zM_X7_tellFile dX7_tellFile_127 rfl rfl hi2 e4 ?_
    refine zw_go (pc1 := 129) (L1 := [some (.ref 49), some (.int (jI x1)), some (.int (jI x2)), some (.int (jI x3)), some (.int (jI x4)), some (.int (jI ((A 53 x3) - (x4 * x2)))), none, none]) (st1 := [.ref 49]) (σ1 := js E A3) zM_X7_tellFile dX7_tellFile_128 rfl rfl rfl rfl ?_
    refine jw_getR (a := 67) zM_X7_tellFile dX7_tellFile_129 zF_7_61 rfl rfl rfl ?_
    refine zw_go (pc1 := 133) (L1 := [some (.ref 49), some (.int (jI x1)), some (.int (jI x2)), some (.int (jI x3)), some (.int (jI x4)), some (.int (jI ((A 53 x3) - (x4 * x2)))), none, none]) (st1 := [.int (jI x1), .ref 67]) (σ1 := js E A3) zM_X7_tellFile dX7_tellFile_132 rfl rfl rfl rfl ?_
    refine jw_iconst (v := 0) zM_X7_tellFile dX7_tellFile_133 rfl ?_
    obtain ⟨hi6, h⟩ := h
    obtain ⟨A7, e8⟩ : ∃ z9 : jA, z9 = jup A3 67 x1 0 := ⟨_, rfl⟩
    replace h := h A7 e8
    have hA9 : jOK A7 := jOK.up hA5 (show jW 0 from ⟨by decide, by decide⟩) e8
    refine jw_iast zM_X7_tellFile dX7_tellFile_134 rfl rfl hi6 e8 ?_
    refine zw_go (pc1 := 137) (L1 := [some (.ref 49), some (.int (jI x1)), some (.int (jI x2)), some (.int (jI x3)), some (.int (jI x4)), some (.int (jI ((A 53 x3) - (x4 * x2)))), none, none]) (st1 := [.int (jI ((A 53 x3) - (x4 * x2)))]) (σ1 := js E A7) zM_X7_tellFile dX7_tellFile_135 rfl rfl rfl rfl ?_
    obtain ⟨hw10, h⟩ := h
    refine jw_if_le (tgt := 278) zM_X7_tellFile dX7_tellFile_137 rfl hw10 (fun q => ?_) (fun q => ?_)
    · replace h := h.1 q
      exact jw_retv zM_X7_tellFile dX7_tellFile_278 rfl hA9 h
    · replace h := h.2 q
      refine zw_go (pc1 := 141) (L1 := [some (.ref 49), some (.int (jI x1)), some (.int (jI x2)), some (.int (jI x3)), some (.int (jI x4)), some (.int (jI ((A 53 x3) - (x4 * x2)))), none, none]) (st1 := [.ref 49]) (σ1 := js E A7) zM_X7_tellFile dX7_tellFile_140 rfl rfl rfl rfl ?_
      refine jw_getI zM_X7_tellFile dX7_tellFile_141 zF_7_165 rfl rfl rfl ?_
      refine jw_if_eq (tgt := 165) zM_X7_tellFile dX7_tellFile_144 rfl (hA9 49 27) (fun q => ?_) (fun q => ?_)
      · replace h := h.1 q
        exact zw_weak2 (h hA9) ⟨rfl, rfl, rfl, rfl, rfl, rfl, trivial⟩
      · replace h := h.2 q
        refine zw_go (pc1 := 148) (L1 := [some (.ref 49), some (.int (jI x1)), some (.int (jI x2)), some (.int (jI x3)), some (.int (jI x4)), some (.int (jI ((A 53 x3) - (x4 * x2)))), none, none]) (st1 := [.ref 49]) (σ1 := js E A7) zM_X7_tellFile dX7_tellFile_147 rfl rfl rfl rfl ?_
        refine jw_getR (a := 68) zM_X7_tellFile dX7_tellFile_148 zF_7_64 rfl rfl rfl ?_
        refine zw_go (pc1 := 152) (L1 := [some (.ref 49), some (.int (jI x1)), some (.int (jI x2)), some (.int (jI x3)), some (.int (jI x4)), some (.int (jI ((A 53 x3) - (x4 * x2)))), none, none]) (st1 := [.ref 49, .ref 68]) (σ1 := js E A7) zM_X7_tellFile dX7_tellFile_151 rfl rfl rfl rfl ?_
        refine jw_getI zM_X7_tellFile dX7_tellFile_152 zF_7_165 rfl rfl rfl ?_
        refine jw_iconst (v := 1) zM_X7_tellFile dX7_tellFile_155 rfl ?_
        refine jw_sub zM_X7_tellFile dX7_tellFile_156 ?_
        obtain ⟨hi11, h⟩ := h
        refine jw_iald zM_X7_tellFile dX7_tellFile_157 rfl rfl hi11 ?_
        refine zw_go (pc1 := 160) (L1 := [some (.ref 49), some (.int (jI x1)), some (.int (jI x2)), some (.int (jI x3)), some (.int (jI x4)), some (.int (jI ((A 53 x3) - (x4 * x2)))), none, none]) (st1 := [.int (jI ((A 53 x3) - (x4 * x2))), .int (jI (A7 68 ((A7 49 27) - 1)))]) (σ1 := js E A7) zM_X7_tellFile dX7_tellFile_158 rfl rfl rfl rfl ?_
        refine jw_add zM_X7_tellFile dX7_tellFile_160 ?_
        refine zw_go (pc1 := 162) (L1 := [some (.ref 49), some (.int (jI x1)), some (.int (jI x2)), some (.int (jI x3)), some (.int (jI x4)), some (.int (jI ((A 53 x3) - (x4 * x2)))), none, none]) (st1 := [.int (jI x2), .int (jI ((A7 68 ((A7 49 27) - 1)) + ((A 53 x3) - (x4 * x2))))]) (σ1 := js E A7) zM_X7_tellFile dX7_tellFile_161 rfl rfl rfl rfl ?_
        obtain ⟨hw12, h⟩ := h
        refine jw_icmp_le (tgt := 185) zM_X7_tellFile dX7_tellFile_162 rfl hw12 r_x2 (fun q => ?_) (fun q => ?_)
        · replace h := h.1 q
          exact zw_weak2 (h hA9) ⟨rfl, rfl, rfl, rfl, rfl, rfl, trivial⟩
        · replace h := h.2 q
          exact zw_weak2 (h hA9) ⟨rfl, rfl, rfl, rfl, rfl, rfl, trivial⟩
  · replace h := h.2 q
    refine jw_iconst (v := 0) zM_X7_tellFile dX7_tellFile_46 rfl ?_
    refine zw_go (pc1 := 49) (L1 := [some (.ref 49), some (.int (jI x1)), some (.int (jI x2)), some (.int (jI x3)), some (.int (jI x4)), some (.int (jI x5)), some (.int (jI 0)), none]) (st1 := []) (σ1 := js E A) zM_X7_tellFile dX7_tellFile_47 rfl rfl rfl rfl ?_
    exact zw_weak2 (h hA) ⟨rfl, rfl, rfl, rfl, rfl, rfl, rfl, trivial⟩
set_option maxHeartbeats 4000000 in
set_option maxRecDepth 100000 in
theorem vd_X7_tellFile_49 (x1 : Int) (r_x1 : jW x1) (x2 : Int) (r_x2 : jW x2) (x3 : Int) (r_x3 : jW x3) (x4 : Int) (r_x4 : jW x4) (x5 : Int) (r_x5 : jW x5) (x6 : Int) (r_x6 : jW x6) (E : jE) (A : jA) (K : jA → Prop) (h : ((x2 ≤ x6 → jrI 200 0 [some (.ref 49), some (.int (jI x2)), none, none] [] E A (fun v3 A1 => (0 ≤ ((13 * x1) + x5) ∧ ((13 * x1) + x5) < 429) ∧ ∀ A6 : jA, A6 = jup A1 65 ((13 * x1) + x5) v3 → jrV 204 39 [some (.ref 49), some (.int (jI x1)), some (.int (jI x2)), some (.int (jI x3)), some (.int (jI x4)), some (.int (jI (x5 + 1))), none, none] [] E A6 K)) ∧ (x6 < x2 → (0 ≤ (((100 * x3) + (x2 * x5)) + x6) ∧ (((100 * x3) + (x2 * x5)) + x6) < 3200) ∧ (0 ≤ x6 ∧ x6 < 32) ∧ ∀ A11 : jA, A11 = jup A 62 x6 (A 54 (((100 * x3) + (x2 * x5)) + x6)) → jrV 204 49 [some (.ref 49), some (.int (jI x1)), some (.int (jI x2)), some (.int (jI x3)), some (.int (jI x4)), some (.int (jI x5)), some (.int (jI (x6 + 1))), none] [] E A11 K))) : jrV 204 49 [some (.ref 49), some (.int (jI x1)), some (.int (jI x2)), some (.int (jI x3)), some (.int (jI x4)), some (.int (jI x5)), some (.int (jI x6)), none] [] E A K := by
  intro hA
  refine zw_go (pc1 := 51) (L1 := [some (.ref 49), some (.int (jI x1)), some (.int (jI x2)), some (.int (jI x3)), some (.int (jI x4)), some (.int (jI x5)), some (.int (jI x6)), none]) (st1 := [.int (jI x6)]) (σ1 := js E A) zM_X7_tellFile dX7_tellFile_49 rfl rfl rfl rfl ?_
  refine zw_go (pc1 := 52) (L1 := [some (.ref 49), some (.int (jI x1)), some (.int (jI x2)), some (.int (jI x3)), some (.int (jI x4)), some (.int (jI x5)), some (.int (jI x6)), none]) (st1 := [.int (jI x2), .int (jI x6)]) (σ1 := js E A) zM_X7_tellFile dX7_tellFile_51 rfl rfl rfl rfl ?_
  refine jw_icmp_ge (tgt := 85) zM_X7_tellFile dX7_tellFile_52 rfl r_x6 r_x2 (fun q => ?_) (fun q => ?_)
  · replace h := h.1 q
    refine zw_go (pc1 := 86) (L1 := [some (.ref 49), some (.int (jI x1)), some (.int (jI x2)), some (.int (jI x3)), some (.int (jI x4)), some (.int (jI x5)), some (.int (jI x6)), none]) (st1 := [.ref 49]) (σ1 := js E A) zM_X7_tellFile dX7_tellFile_85 rfl rfl rfl rfl ?_
    refine jw_getR (a := 65) zM_X7_tellFile dX7_tellFile_86 zF_7_55 rfl rfl rfl ?_
    refine jw_bipush (v := 13) zM_X7_tellFile dX7_tellFile_89 (by decide) ?_
    refine zw_go (pc1 := 92) (L1 := [some (.ref 49), some (.int (jI x1)), some (.int (jI x2)), some (.int (jI x3)), some (.int (jI x4)), some (.int (jI x5)), some (.int (jI x6)), none]) (st1 := [.int (jI x1), .int (jI 13), .ref 65]) (σ1 := js E A) zM_X7_tellFile dX7_tellFile_91 rfl rfl rfl rfl ?_
    refine jw_mul zM_X7_tellFile dX7_tellFile_92 ?_
    refine zw_go (pc1 := 95) (L1 := [some (.ref 49), some (.int (jI x1)), some (.int (jI x2)), some (.int (jI x3)), some (.int (jI x4)), some (.int (jI x5)), some (.int (jI x6)), none]) (st1 := [.int (jI x5), .int (jI (13 * x1)), .ref 65]) (σ1 := js E A) zM_X7_tellFile dX7_tellFile_93 rfl rfl rfl rfl ?_
    refine jw_add zM_X7_tellFile dX7_tellFile_95 ?_
    refine zw_go (pc1 := 97) (L1 := [some (.ref 49), some (.int (jI x1)), some (.int (jI x2)), some (.int (jI x3)), some (.int (jI x4)), some (.int (jI x5)), some (.int (jI x6)), none]) (st1 := [.ref 49, .int (jI ((13 * x1) + x5)), .ref 65]) (σ1 := js E A) zM_X7_tellFile dX7_tellFile_96 rfl rfl rfl rfl ?_
    refine zw_go (pc1 := 98) (L1 := [some (.ref 49), some (.int (jI x1)), some (.int (jI x2)), some (.int (jI x3)), some (.int (jI x4)), some (.int (jI x5)), some (.int (jI x6)), none]) (st1 := [.int (jI x2), .ref 49, .int (jI ((13 * x1) + x5)), .ref 65]) (σ1 := js E A) zM_X7_tellFile dX7_tellFile_97 rfl rfl rfl rfl ?_
    refine jw_callI (as := [.ref 49, .int (jI x2)]) (rest := [.int (jI ((13 * x1) + x5)), .ref 65]) zM_X7_tellFile dX7_tellFile_98 (zx_calV zC_7_162) zM_X7_store rfl rfl rfl rfl rfl (j_args0 rfl rfl) rfl hA h (fun v3 A1 rv4 hA2 h => ?_)
    obtain ⟨hi5, h⟩ := h
    obtain ⟨A6, e7⟩ : ∃ z9 : jA, z9 = jup A1 65 ((13 * x1) + x5) v3 := ⟨_, rfl⟩
    replace h := h A6 e7
    have hA8 : jOK A6 := jOK.up hA2 rv4 e7
    refine jw_iast zM_X7_tellFile dX7_tellFile_101 rfl rfl hi5 e7 ?_
    refine jw_iinc (x := x5) (L1 := [some (.ref 49), some (.int (jI x1)), some (.int (jI x2)), some (.int (jI x3)), some (.int (jI x4)), some (.int (jI (x5 + 1))), some (.int (jI x6)), none]) zM_X7_tellFile dX7_tellFile_102 rfl (show 5 < 8 by decide) rfl ?_
    refine zw_goto (tgt := 39) zM_X7_tellFile dX7_tellFile_105 rfl ?_
    exact zw_weak2 (h hA8) ⟨rfl, rfl, rfl, rfl, rfl, rfl, trivial⟩
  · replace h := h.2 q
    refine zw_go (pc1 := 56) (L1 := [some (.ref 49), some (.int (jI x1)), some (.int (jI x2)), some (.int (jI x3)), some (.int (jI x4)), some (.int (jI x5)), some (.int (jI x6)), none]) (st1 := [.ref 49]) (σ1 := js E A) zM_X7_tellFile dX7_tellFile_55 rfl rfl rfl rfl ?_
    refine jw_getR (a := 62) zM_X7_tellFile dX7_tellFile_56 zF_7_46 rfl rfl rfl ?_
    refine zw_go (pc1 := 61) (L1 := [some (.ref 49), some (.int (jI x1)), some (.int (jI x2)), some (.int (jI x3)), some (.int (jI x4)), some (.int (jI x5)), some (.int (jI x6)), none]) (st1 := [.int (jI x6), .ref 62]) (σ1 := js E A) zM_X7_tellFile dX7_tellFile_59 rfl rfl rfl rfl ?_
    refine zw_go (pc1 := 62) (L1 := [some (.ref 49), some (.int (jI x1)), some (.int (jI x2)), some (.int (jI x3)), some (.int (jI x4)), some (.int (jI x5)), some (.int (jI x6)), none]) (st1 := [.ref 49, .int (jI x6), .ref 62]) (σ1 := js E A) zM_X7_tellFile dX7_tellFile_61 rfl rfl rfl rfl ?_
    refine jw_getR (a := 54) zM_X7_tellFile dX7_tellFile_62 zF_7_22 rfl rfl rfl ?_
    refine jw_bipush (v := 100) zM_X7_tellFile dX7_tellFile_65 (by decide) ?_
    refine zw_go (pc1 := 68) (L1 := [some (.ref 49), some (.int (jI x1)), some (.int (jI x2)), some (.int (jI x3)), some (.int (jI x4)), some (.int (jI x5)), some (.int (jI x6)), none]) (st1 := [.int (jI x3), .int (jI 100), .ref 54, .int (jI x6), .ref 62]) (σ1 := js E A) zM_X7_tellFile dX7_tellFile_67 rfl rfl rfl rfl ?_
    refine jw_mul zM_X7_tellFile dX7_tellFile_68 ?_
    refine zw_go (pc1 := 70) (L1 := [some (.ref 49), some (.int (jI x1)), some (.int (jI x2)), some (.int (jI x3)), some (.int (jI x4)), some (.int (jI x5)), some (.int (jI x6)), none]) (st1 := [.int (jI x2), .int (jI (100 * x3)), .ref 54, .int (jI x6), .ref 62]) (σ1 := js E A) zM_X7_tellFile dX7_tellFile_69 rfl rfl rfl rfl ?_
    refine zw_go (pc1 := 72) (L1 := [some (.ref 49), some (.int (jI x1)), some (.int (jI x2)), some (.int (jI x3)), some (.int (jI x4)), some (.int (jI x5)), some (.int (jI x6)), none]) (st1 := [.int (jI x5), .int (jI x2), .int (jI (100 * x3)), .ref 54, .int (jI x6), .ref 62]) (σ1 := js E A) zM_X7_tellFile dX7_tellFile_70 rfl rfl rfl rfl ?_
    refine jw_mul zM_X7_tellFile dX7_tellFile_72 ?_
    refine jw_add zM_X7_tellFile dX7_tellFile_73 ?_
    refine zw_go (pc1 := 76) (L1 := [some (.ref 49), some (.int (jI x1)), some (.int (jI x2)), some (.int (jI x3)), some (.int (jI x4)), some (.int (jI x5)), some (.int (jI x6)), none]) (st1 := [.int (jI x6), .int (jI ((100 * x3) + (x2 * x5))), .ref 54, .int (jI x6), .ref 62]) (σ1 := js E A) zM_X7_tellFile dX7_tellFile_74 rfl rfl rfl rfl ?_
    refine jw_add zM_X7_tellFile dX7_tellFile_76 ?_
    obtain ⟨hi9, h⟩ := h
    refine jw_iald zM_X7_tellFile dX7_tellFile_77 rfl rfl hi9 ?_
    obtain ⟨hi10, h⟩ := h
    obtain ⟨A11, e12⟩ : ∃ z9 : jA, z9 = jup A 62 x6 (A 54 (((100 * x3) + (x2 * x5)) + x6)) := ⟨_, rfl⟩
    replace h := h A11 e12
    have hA13 : jOK A11 := jOK.up hA (hA 54 (((100 * x3) + (x2 * x5)) + x6)) e12
    refine jw_iast zM_X7_tellFile dX7_tellFile_78 rfl rfl hi10 e12 ?_
    refine jw_iinc (x := x6) (L1 := [some (.ref 49), some (.int (jI x1)), some (.int (jI x2)), some (.int (jI x3)), some (.int (jI x4)), some (.int (jI x5)), some (.int (jI (x6 + 1))), none]) zM_X7_tellFile dX7_tellFile_79 rfl (show 6 < 8 by decide) rfl ?_
    refine zw_goto (tgt := 49) zM_X7_tellFile dX7_tellFile_82 rfl ?_
    exact zw_weak2 (h hA13) ⟨rfl, rfl, rfl, rfl, rfl, rfl, rfl, trivial⟩
set_option maxHeartbeats 4000000 in
set_option maxRecDepth 100000 in
theorem vd_X7_tellFile_165 (x1 : Int) (r_x1 : jW x1) (x2 : Int) (r_x2 : jW x2) (x3 : Int) (r_x3 : jW x3) (x4 : Int) (r_x4 : jW x4) (x5 : Int) (r_x5 : jW x5) (E : jE) (A : jA) (K : jA → Prop) (h : (0 ≤ (A 49 27) ∧ (A 49 27) < 32) ∧ ∀ A2 : jA, A2 = jup A 68 (A 49 27) 0 → jW ((A2 49 27) + 1) ∧ ∀ A6 : jA, A6 = jup A2 49 27 ((A2 49 27) + 1) → jrV 204 185 [some (.ref 49), some (.int (jI x1)), some (.int (jI x2)), some (.int (jI x3)), some (.int (jI x4)), some (.int (jI x5)), none, none] [] E A6 K) : jrV 204 165 [some (.ref 49), some (.int (jI x1)), some (.int (jI x2)), some (.int (jI x3)), some (.int (jI x4)), some (.int (jI x5)), none, none] [] E A K := by
  intro hA
  refine zw_go (pc1 := 166) (L1 := [some (.ref 49), some (.int (jI x1)), some (.int (jI x2)), some (.int (jI x3)), some (.int (jI x4)), some (.int (jI x5)), none, none]) (st1 := [.ref 49]) (σ1 := js E A) zM_X7_tellFile dX7_tellFile_165 rfl rfl rfl rfl ?_
  refine jw_getR (a := 68) zM_X7_tellFile dX7_tellFile_166 zF_7_64 rfl rfl rfl ?_
  refine zw_go (pc1 := 170) (L1 := [some (.ref 49), some (.int (jI x1)), some (.int (jI x2)), some (.int (jI x3)), some (.int (jI x4)), some (.int (jI x5)), none, none]) (st1 := [.ref 49, .ref 68]) (σ1 := js E A) zM_X7_tellFile dX7_tellFile_169 rfl rfl rfl rfl ?_
  refine jw_getI zM_X7_tellFile dX7_tellFile_170 zF_7_165 rfl rfl rfl ?_
  refine jw_iconst (v := 0) zM_X7_tellFile dX7_tellFile_173 rfl ?_
  obtain ⟨hi1, h⟩ := h
  obtain ⟨A2, e3⟩ : ∃ z9 : jA, z9 = jup A 68 (A 49 27) 0 := ⟨_, rfl⟩
  replace h := h A2 e3
  have hA4 : jOK A2 := jOK.up hA (show jW 0 from ⟨by decide, by decide⟩) e3
  refine jw_iast zM_X7_tellFile dX7_tellFile_174 rfl rfl hi1 e3 ?_
  refine zw_go (pc1 := 176) (L1 := [some (.ref 49), some (.int (jI x1)), some (.int (jI x2)), some (.int (jI x3)), some (.int (jI x4)), some (.int (jI x5)), none, none]) (st1 := [.ref 49]) (σ1 := js E A2) zM_X7_tellFile dX7_tellFile_175 rfl rfl rfl rfl ?_
  refine zw_go (pc1 := 177) (L1 := [some (.ref 49), some (.int (jI x1)), some (.int (jI x2)), some (.int (jI x3)), some (.int (jI x4)), some (.int (jI x5)), none, none]) (st1 := [.ref 49, .ref 49]) (σ1 := js E A2) zM_X7_tellFile dX7_tellFile_176 rfl rfl rfl rfl ?_
  refine jw_getI zM_X7_tellFile dX7_tellFile_177 zF_7_165 rfl rfl rfl ?_
  refine jw_iconst (v := 1) zM_X7_tellFile dX7_tellFile_180 rfl ?_
  refine jw_add zM_X7_tellFile dX7_tellFile_181 ?_
  obtain ⟨hw5, h⟩ := h
  obtain ⟨A6, e7⟩ : ∃ z9 : jA, z9 = jup A2 49 27 ((A2 49 27) + 1) := ⟨_, rfl⟩
  replace h := h A6 e7
  have hA8 : jOK A6 := jOK.up hA4 hw5 e7
  refine jw_putI zM_X7_tellFile dX7_tellFile_182 zF_7_165 rfl rfl rfl rfl e7 ?_
  exact zw_weak2 (h hA8) ⟨rfl, rfl, rfl, rfl, rfl, rfl, trivial⟩
set_option maxHeartbeats 4000000 in
set_option maxRecDepth 100000 in
theorem vd_X7_tellFile_185 (x1 : Int) (r_x1 : jW x1) (x2 : Int) (r_x2 : jW x2) (x3 : Int) (r_x3 : jW x3) (x4 : Int) (r_x4 : jW x4) (x5 : Int) (r_x5 : jW x5) (E : jE) (A : jA) (K : jA → Prop) (h : (0 ≤ x1 ∧ x1 < 33) ∧ ∀ A2 : jA, A2 = jup A 66 x1 (A 49 27) → (0 ≤ ((A 49 27) - 1) ∧ ((A 49 27) - 1) < 32) ∧ (0 ≤ x1 ∧ x1 < 33) ∧ ∀ A7 : jA, A7 = jup A2 67 x1 (A2 68 ((A 49 27) - 1)) → jrV 204 219 [some (.ref 49), none, some (.int (jI x2)), some (.int (jI x3)), some (.int (jI x4)), some (.int (jI x5)), some (.int (jI ((A 49 27) - 1))), some (.int (jI 0))] [] E A7 K) : jrV 204 185 [some (.ref 49), some (.int (jI x1)), some (.int (jI x2)), some (.int (jI x3)), some (.int (jI x4)), some (.int (jI x5)), none, none] [] E A K := by
  intro hA
  refine zw_go (pc1 := 186) (L1 := [some (.ref 49), some (.int (jI x1)), some (.int (jI x2)), some (.int (jI x3)), some (.int (jI x4)), some (.int (jI x5)), none, none]) (st1 := [.ref 49]) (σ1 := js E A) zM_X7_tellFile dX7_tellFile_185 rfl rfl rfl rfl ?_
  refine jw_getI zM_X7_tellFile dX7_tellFile_186 zF_7_165 rfl rfl rfl ?_
  refine jw_iconst (v := 1) zM_X7_tellFile dX7_tellFile_189 rfl ?_
  refine jw_sub zM_X7_tellFile dX7_tellFile_190 ?_
  refine zw_go (pc1 := 193) (L1 := [some (.ref 49), some (.int (jI x1)), some (.int (jI x2)), some (.int (jI x3)), some (.int (jI x4)), some (.int (jI x5)), some (.int (jI ((A 49 27) - 1))), none]) (st1 := []) (σ1 := js E A) zM_X7_tellFile dX7_tellFile_191 rfl rfl rfl rfl ?_
  refine zw_go (pc1 := 194) (L1 := [some (.ref 49), some (.int (jI x1)), some (.int (jI x2)), some (.int (jI x3)), some (.int (jI x4)), some (.int (jI x5)), some (.int (jI ((A 49 27) - 1))), none]) (st1 := [.ref 49]) (σ1 := js E A) zM_X7_tellFile dX7_tellFile_193 rfl rfl rfl rfl ?_
  refine jw_getR (a := 66) zM_X7_tellFile dX7_tellFile_194 zF_7_58 rfl rfl rfl ?_
  refine zw_go (pc1 := 198) (L1 := [some (.ref 49), some (.int (jI x1)), some (.int (jI x2)), some (.int (jI x3)), some (.int (jI x4)), some (.int (jI x5)), some (.int (jI ((A 49 27) - 1))), none]) (st1 := [.int (jI x1), .ref 66]) (σ1 := js E A) zM_X7_tellFile dX7_tellFile_197 rfl rfl rfl rfl ?_
  refine zw_go (pc1 := 199) (L1 := [some (.ref 49), some (.int (jI x1)), some (.int (jI x2)), some (.int (jI x3)), some (.int (jI x4)), some (.int (jI x5)), some (.int (jI ((A 49 27) - 1))), none]) (st1 := [.ref 49, .int (jI x1), .ref 66]) (σ1 := js E A) zM_X7_tellFile dX7_tellFile_198 rfl rfl rfl rfl ?_
  refine jw_getI zM_X7_tellFile dX7_tellFile_199 zF_7_165 rfl rfl rfl ?_
  obtain ⟨hi1, h⟩ := h
  obtain ⟨A2, e3⟩ : ∃ z9 : jA, z9 = jup A 66 x1 (A 49 27) := ⟨_, rfl⟩
  replace h := h A2 e3
  have hA4 : jOK A2 := jOK.up hA (hA 49 27) e3
  refine jw_iast zM_X7_tellFile dX7_tellFile_202 rfl rfl hi1 e3 ?_
  refine zw_go (pc1 := 204) (L1 := [some (.ref 49), some (.int (jI x1)), some (.int (jI x2)), some (.int (jI x3)), some (.int (jI x4)), some (.int (jI x5)), some (.int (jI ((A 49 27) - 1))), none]) (st1 := [.ref 49]) (σ1 := js E A2) zM_X7_tellFile dX7_tellFile_203 rfl rfl rfl rfl ?_
  refine jw_getR (a := 67) zM_X7_tellFile dX7_tellFile_204 zF_7_61 rfl rfl rfl ?_
  refine zw_go (pc1 := 208) (L1 := [some (.ref 49), some (.int (jI x1)), some (.int (jI x2)), some (.int (jI x3)), some (.int (jI x4)), some (.int (jI x5)), some (.int (jI ((A 49 27) - 1))), none]) (st1 := [.int (jI x1), .ref 67]) (σ1 := js E A2) zM_X7_tellFile dX7_tellFile_207 rfl rfl rfl rfl ?_
  refine zw_go (pc1 := 209) (L1 := [some (.ref 49), some (.int (jI x1)), some (.int (jI x2)), some (.int (jI x3)), some (.int (jI x4)), some (.int (jI x5)), some (.int (jI ((A 49 27) - 1))), none]) (st1 := [.ref 49, .int (jI x1), .ref 67]) (σ1 := js E A2) zM_X7_tellFile dX7_tellFile_208 rfl rfl rfl rfl ?_
  refine jw_getR (a := 68) zM_X7_tellFile dX7_tellFile_209 zF_7_64 rfl rfl rfl ?_
  refine zw_go (pc1 := 214) (L1 := [some (.ref 49), some (.int (jI x1)), some (.int (jI x2)), some (.int (jI x3)), some (.int (jI x4)), some (.int (jI x5)), some (.int (jI ((A 49 27) - 1))), none]) (st1 := [.int (jI ((A 49 27) - 1)), .ref 68, .int (jI x1), .ref 67]) (σ1 := js E A2) zM_X7_tellFile dX7_tellFile_212 rfl rfl rfl rfl ?_
  obtain ⟨hi5, h⟩ := h
  refine jw_iald zM_X7_tellFile dX7_tellFile_214 rfl rfl hi5 ?_
  obtain ⟨hi6, h⟩ := h
  obtain ⟨A7, e8⟩ : ∃ z9 : jA, z9 = jup A2 67 x1 (A2 68 ((A 49 27) - 1)) := ⟨_, rfl⟩
  replace h := h A7 e8
  have hA9 : jOK A7 := jOK.up hA4 (hA4 68 ((A 49 27) - 1)) e8
  refine jw_iast zM_X7_tellFile dX7_tellFile_215 rfl rfl hi6 e8 ?_
  refine jw_iconst (v := 0) zM_X7_tellFile dX7_tellFile_216 rfl ?_
  refine zw_go (pc1 := 219) (L1 := [some (.ref 49), some (.int (jI x1)), some (.int (jI x2)), some (.int (jI x3)), some (.int (jI x4)), some (.int (jI x5)), some (.int (jI ((A 49 27) - 1))), some (.int (jI 0))]) (st1 := []) (σ1 := js E A7) zM_X7_tellFile dX7_tellFile_217 rfl rfl rfl rfl ?_
  exact zw_weak2 (h hA9) ⟨rfl, rfl, rfl, rfl, rfl, rfl, rfl, trivial⟩
set_option maxHeartbeats 4000000 in
set_option maxRecDepth 100000 in
theorem vd_X7_tellFile_219 (x2 : Int) (r_x2 : jW x2) (x3 : Int) (r_x3 : jW x3) (x4 : Int) (r_x4 : jW x4) (x5 : Int) (r_x5 : jW x5) (x6 : Int) (r_x6 : jW x6) (x7 : Int) (r_x7 : jW x7) (E : jE) (A : jA) (K : jA → Prop) (h : ((x5 ≤ x7 → K A) ∧ (x7 < x5 → (0 ≤ x6 ∧ x6 < 32) ∧ (0 ≤ (((100 * x3) + (x2 * x4)) + x7) ∧ (((100 * x3) + (x2 * x4)) + x7) < 3200) ∧ (0 ≤ ((32 * x6) + (A 68 x6)) ∧ ((32 * x6) + (A 68 x6)) < 1024) ∧ ∀ A4 : jA, A4 = jup A 69 ((32 * x6) + (A 68 x6)) (A 54 (((100 * x3) + (x2 * x4)) + x7)) → (0 ≤ x6 ∧ x6 < 32) ∧ jW ((A4 68 x6) + 1) ∧ (0 ≤ x6 ∧ x6 < 32) ∧ ∀ A10 : jA, A10 = jup A4 68 x6 ((A4 68 x6) + 1) → jrV 204 219 [some (.ref 49), none, some (.int (jI x2)), some (.int (jI x3)), some (.int (jI x4)), some (.int (jI x5)), some (.int (jI x6)), some (.int (jI (x7 + 1)))] [] E A10 K))) : jrV 204 219 [some (.ref 49), none, some (.int (jI x2)), some (.int (jI x3)), some (.int (jI x4)), some (.int (jI x5)), some (.int (jI x6)), some (.int (jI x7))] [] E A K := by
  intro hA
  refine zw_go (pc1 := 221) (L1 := [some (.ref 49), none, some (.int (jI x2)), some (.int (jI x3)), some (.int (jI x4)), some (.int (jI x5)), some (.int (jI x6)), some (.int (jI x7))]) (st1 := [.int (jI x7)]) (σ1 := js E A) zM_X7_tellFile dX7_tellFile_219 rfl rfl rfl rfl ?_
  refine zw_go (pc1 := 223) (L1 := [some (.ref 49), none, some (.int (jI x2)), some (.int (jI x3)), some (.int (jI x4)), some (.int (jI x5)), some (.int (jI x6)), some (.int (jI x7))]) (st1 := [.int (jI x5), .int (jI x7)]) (σ1 := js E A) zM_X7_tellFile dX7_tellFile_221 rfl rfl rfl rfl ?_
  refine jw_icmp_ge (tgt := 278) zM_X7_tellFile dX7_tellFile_223 rfl r_x7 r_x5 (fun q => ?_) (fun q => ?_)
  · replace h := h.1 q
    exact jw_retv zM_X7_tellFile dX7_tellFile_278 rfl hA h
  · replace h := h.2 q
    refine zw_go (pc1 := 227) (L1 := [some (.ref 49), none, some (.int (jI x2)), some (.int (jI x3)), some (.int (jI x4)), some (.int (jI x5)), some (.int (jI x6)), some (.int (jI x7))]) (st1 := [.ref 49]) (σ1 := js E A) zM_X7_tellFile dX7_tellFile_226 rfl rfl rfl rfl ?_
    refine jw_getR (a := 69) zM_X7_tellFile dX7_tellFile_227 zF_7_67 rfl rfl rfl ?_
    refine jw_bipush (v := 32) zM_X7_tellFile dX7_tellFile_230 (by decide) ?_
    refine zw_go (pc1 := 234) (L1 := [some (.ref 49), none, some (.int (jI x2)), some (.int (jI x3)), some (.int (jI x4)), some (.int (jI x5)), some (.int (jI x6)), some (.int (jI x7))]) (st1 := [.int (jI x6), .int (jI 32), .ref 69]) (σ1 := js E A) zM_X7_tellFile dX7_tellFile_232 rfl rfl rfl rfl ?_
    refine jw_mul zM_X7_tellFile dX7_tellFile_234 ?_
    refine zw_go (pc1 := 236) (L1 := [some (.ref 49), none, some (.int (jI x2)), some (.int (jI x3)), some (.int (jI x4)), some (.int (jI x5)), some (.int (jI x6)), some (.int (jI x7))]) (st1 := [.ref 49, .int (jI (32 * x6)), .ref 69]) (σ1 := js E A) zM_X7_tellFile dX7_tellFile_235 rfl rfl rfl rfl ?_
    refine jw_getR (a := 68) zM_X7_tellFile dX7_tellFile_236 zF_7_64 rfl rfl rfl ?_
    refine zw_go (pc1 := 241) (L1 := [some (.ref 49), none, some (.int (jI x2)), some (.int (jI x3)), some (.int (jI x4)), some (.int (jI x5)), some (.int (jI x6)), some (.int (jI x7))]) (st1 := [.int (jI x6), .ref 68, .int (jI (32 * x6)), .ref 69]) (σ1 := js E A) zM_X7_tellFile dX7_tellFile_239 rfl rfl rfl rfl ?_
    obtain ⟨hi1, h⟩ := h
    refine jw_iald zM_X7_tellFile dX7_tellFile_241 rfl rfl hi1 ?_
    refine jw_add zM_X7_tellFile dX7_tellFile_242 ?_
    refine zw_go (pc1 := 244) (L1 := [some (.ref 49), none, some (.int (jI x2)), some (.int (jI x3)), some (.int (jI x4)), some (.int (jI x5)), some (.int (jI x6)), some (.int (jI x7))]) (st1 := [.ref 49, .int (jI ((32 * x6) + (A 68 x6))), .ref 69]) (σ1 := js E A) zM_X7_tellFile dX7_tellFile_243 rfl rfl rfl rfl ?_
    refine jw_getR (a := 54) zM_X7_tellFile dX7_tellFile_244 zF_7_22 rfl rfl rfl ?_
    refine jw_bipush (v := 100) zM_X7_tellFile dX7_tellFile_247 (by decide) ?_
    refine zw_go (pc1 := 250) (L1 := [some (.ref 49), none, some (.int (jI x2)), some (.int (jI x3)), some (.int (jI x4)), some (.int (jI x5)), some (.int (jI x6)), some (.int (jI x7))]) (st1 := [.int (jI x3), .int (jI 100), .ref 54, .int (jI ((32 * x6) + (A 68 x6))), .ref 69]) (σ1 := js E A) zM_X7_tellFile dX7_tellFile_249 rfl rfl rfl rfl ?_
    refine jw_mul zM_X7_tellFile dX7_tellFile_250 ?_
    refine zw_go (pc1 := 252) (L1 := [some (.ref 49), none, some (.int (jI x2)), some (.int (jI x3)), some (.int (jI x4)), some (.int (jI x5)), some (.int (jI x6)), some (.int (jI x7))]) (st1 := [.int (jI x2), .int (jI (100 * x3)), .ref 54, .int (jI ((32 * x6) + (A 68 x6))), .ref 69]) (σ1 := js E A) zM_X7_tellFile dX7_tellFile_251 rfl rfl rfl rfl ?_
    refine zw_go (pc1 := 254) (L1 := [some (.ref 49), none, some (.int (jI x2)), some (.int (jI x3)), some (.int (jI x4)), some (.int (jI x5)), some (.int (jI x6)), some (.int (jI x7))]) (st1 := [.int (jI x4), .int (jI x2), .int (jI (100 * x3)), .ref 54, .int (jI ((32 * x6) + (A 68 x6))), .ref 69]) (σ1 := js E A) zM_X7_tellFile dX7_tellFile_252 rfl rfl rfl rfl ?_
    refine jw_mul zM_X7_tellFile dX7_tellFile_254 ?_
    refine jw_add zM_X7_tellFile dX7_tellFile_255 ?_
    refine zw_go (pc1 := 258) (L1 := [some (.ref 49), none, some (.int (jI x2)), some (.int (jI x3)), some (.int (jI x4)), some (.int (jI x5)), some (.int (jI x6)), some (.int (jI x7))]) (st1 := [.int (jI x7), .int (jI ((100 * x3) + (x2 * x4))), .ref 54, .int (jI ((32 * x6) + (A 68 x6))), .ref 69]) (σ1 := js E A) zM_X7_tellFile dX7_tellFile_256 rfl rfl rfl rfl ?_
    refine jw_add zM_X7_tellFile dX7_tellFile_258 ?_
    obtain ⟨hi2, h⟩ := h
    refine jw_iald zM_X7_tellFile dX7_tellFile_259 rfl rfl hi2 ?_
    obtain ⟨hi3, h⟩ := h
    obtain ⟨A4, e5⟩ : ∃ z9 : jA, z9 = jup A 69 ((32 * x6) + (A 68 x6)) (A 54 (((100 * x3) + (x2 * x4)) + x7)) := ⟨_, rfl⟩
    replace h := h A4 e5
    have hA6 : jOK A4 := jOK.up hA (hA 54 (((100 * x3) + (x2 * x4)) + x7)) e5
    refine jw_iast zM_X7_tellFile dX7_tellFile_260 rfl rfl hi3 e5 ?_
    refine zw_go (pc1 := 262) (L1 := [some (.ref 49), none, some (.int (jI x2)), some (.int (jI x3)), some (.int (jI x4)), some (.int (jI x5)), some (.int (jI x6)), some (.int (jI x7))]) (st1 := [.ref 49]) (σ1 := js E A4) zM_X7_tellFile dX7_tellFile_261 rfl rfl rfl rfl ?_
    refine jw_getR (a := 68) zM_X7_tellFile dX7_tellFile_262 zF_7_64 rfl rfl rfl ?_
    refine zw_go (pc1 := 267) (L1 := [some (.ref 49), none, some (.int (jI x2)), some (.int (jI x3)), some (.int (jI x4)), some (.int (jI x5)), some (.int (jI x6)), some (.int (jI x7))]) (st1 := [.int (jI x6), .ref 68]) (σ1 := js E A4) zM_X7_tellFile dX7_tellFile_265 rfl rfl rfl rfl ?_
    refine zw_go (pc1 := 268) (L1 := [some (.ref 49), none, some (.int (jI x2)), some (.int (jI x3)), some (.int (jI x4)), some (.int (jI x5)), some (.int (jI x6)), some (.int (jI x7))]) (st1 := [.int (jI x6), .ref 68, .int (jI x6), .ref 68]) (σ1 := js E A4) zM_X7_tellFile dX7_tellFile_267 rfl rfl rfl rfl ?_
    obtain ⟨hi7, h⟩ := h
    refine jw_iald zM_X7_tellFile dX7_tellFile_268 rfl rfl hi7 ?_
    refine jw_iconst (v := 1) zM_X7_tellFile dX7_tellFile_269 rfl ?_
    refine jw_add zM_X7_tellFile dX7_tellFile_270 ?_
    obtain ⟨hw8, h⟩ := h
    obtain ⟨hi9, h⟩ := h
    obtain ⟨A10, e11⟩ : ∃ z9 : jA, z9 = jup A4 68 x6 ((A4 68 x6) + 1) := ⟨_, rfl⟩
    replace h := h A10 e11
    have hA12 : jOK A10 := jOK.up hA6 hw8 e11
    refine jw_iast zM_X7_tellFile dX7_tellFile_271 rfl rfl hi9 e11 ?_
    refine jw_iinc (x := x7) (L1 := [some (.ref 49), none, some (.int (jI x2)), some (.int (jI x3)), some (.int (jI x4)), some (.int (jI x5)), some (.int (jI x6)), some (.int (jI (x7 + 1)))]) zM_X7_tellFile dX7_tellFile_272 rfl (show 7 < 8 by decide) rfl ?_
    refine zw_goto (tgt := 219) zM_X7_tellFile dX7_tellFile_275 rfl ?_
    exact zw_weak2 (h hA12) ⟨rfl, rfl, rfl, rfl, rfl, rfl, rfl, trivial⟩
set_option maxHeartbeats 4000000 in
set_option maxRecDepth 100000 in
theorem vd_X7_tellInodes_0 (x1 : Int) (r_x1 : jW x1) (E : jE) (A : jA) (K : jA → Prop) (h : jrV 205 10 [some (.ref 49), some (.int (jI x1)), some (.int (jI (A 49 15))), some (.int (jI 0)), some (.int (jI 1)), none, none, none, none] [] E A K) : jrV 205 0 [some (.ref 49), some (.int (jI x1)), none, none, none, none, none, none, none] [] E A K := by
  intro hA
  refine zw_go (pc1 := 1) (L1 := [some (.ref 49), some (.int (jI x1)), none, none, none, none, none, none, none]) (st1 := [.ref 49]) (σ1 := js E A) zM_X7_tellInodes dX7_tellInodes_0 rfl rfl rfl rfl ?_
  refine jw_getI zM_X7_tellInodes dX7_tellInodes_1 zF_7_132 rfl rfl rfl ?_
  refine zw_go (pc1 := 5) (L1 := [some (.ref 49), some (.int (jI x1)), some (.int (jI (A 49 15))), none, none, none, none, none, none]) (st1 := []) (σ1 := js E A) zM_X7_tellInodes dX7_tellInodes_4 rfl rfl rfl rfl ?_
  refine jw_iconst (v := 0) zM_X7_tellInodes dX7_tellInodes_5 rfl ?_
  refine zw_go (pc1 := 7) (L1 := [some (.ref 49), some (.int (jI x1)), some (.int (jI (A 49 15))), some (.int (jI 0)), none, none, none, none, none]) (st1 := []) (σ1 := js E A) zM_X7_tellInodes dX7_tellInodes_6 rfl rfl rfl rfl ?_
  refine jw_iconst (v := 1) zM_X7_tellInodes dX7_tellInodes_7 rfl ?_
  refine zw_go (pc1 := 10) (L1 := [some (.ref 49), some (.int (jI x1)), some (.int (jI (A 49 15))), some (.int (jI 0)), some (.int (jI 1)), none, none, none, none]) (st1 := []) (σ1 := js E A) zM_X7_tellInodes dX7_tellInodes_8 rfl rfl rfl rfl ?_
  exact zw_weak2 (h hA) ⟨rfl, rfl, rfl, rfl, rfl, trivial⟩
set_option maxHeartbeats 4000000 in
set_option maxRecDepth 100000 in
theorem vd_X7_tellInodes_10 (x1 : Int) (r_x1 : jW x1) (x2 : Int) (r_x2 : jW x2) (x3 : Int) (r_x3 : jW x3) (x4 : Int) (r_x4 : jW x4) (E : jE) (A : jA) (K : jA → Prop) (h : (((A 49 18) < x4 → K A) ∧ (x4 ≤ (A 49 18) → (0 ≤ x4 ∧ x4 < 33) ∧ jW ((A 49 15) - x2) ∧ (0 ≤ x4 ∧ x4 < 33) ∧ ∀ A4 : jA, A4 = jup A 72 x4 ((A 49 15) - x2) → (0 ≤ (A 61 x4) ∧ (A 61 x4) < 32) ∧ jrV 203 0 [some (.ref 49), some (.int (jI (A4 50 (A 61 x4))))] [] E A4 (fun A8 => (0 ≤ (A 61 x4) ∧ (A 61 x4) < 32) ∧ jrV 206 0 [some (.ref 49), some (.int (jI (A8 51 (A 61 x4))))] [] E A8 (fun A11 => (0 ≤ (A 61 x4) ∧ (A 61 x4) < 32) ∧ jrV 206 0 [some (.ref 49), some (.int (jI (A11 52 (A 61 x4))))] [] E A11 (fun A14 => ((¬ x4 = (1 : Int) → jrI 185 0 [some (.ref 49), some (.int (jI (A 61 x4))), none, none] [] E A14 (fun v18 A16 => jrV 205 91 [some (.ref 49), some (.int (jI x1)), some (.int (jI x2)), some (.int (jI x3)), some (.int (jI x4)), some (.int (jI (A 61 x4))), none, none, none] [.int (jI v18), .ref 49] E A16 K)) ∧ (x4 = (1 : Int) → jrV 205 91 [some (.ref 49), some (.int (jI x1)), some (.int (jI x2)), some (.int (jI x3)), some (.int (jI x4)), some (.int (jI (A 61 x4))), none, none, none] [.int (jI 1), .ref 49] E A14 K)))))))) : jrV 205 10 [some (.ref 49), some (.int (jI x1)), some (.int (jI x2)), some (.int (jI x3)), some (.int (jI x4)), none, none, none, none] [] E A K := by
  intro hA
  refine zw_go (pc1 := 12) (L1 := [some (.ref 49), some (.int (jI x1)), some (.int (jI x2)), some (.int (jI x3)), some (.int (jI x4)), none, none, none, none]) (st1 := [.int (jI x4)]) (σ1 := js E A) zM_X7_tellInodes dX7_tellInodes_10 rfl rfl rfl rfl ?_
  refine zw_go (pc1 := 13) (L1 := [some (.ref 49), some (.int (jI x1)), some (.int (jI x2)), some (.int (jI x3)), some (.int (jI x4)), none, none, none, none]) (st1 := [.ref 49, .int (jI x4)]) (σ1 := js E A) zM_X7_tellInodes dX7_tellInodes_12 rfl rfl rfl rfl ?_
  refine jw_getI zM_X7_tellInodes dX7_tellInodes_13 zF_7_142 rfl rfl rfl ?_
  refine jw_icmp_gt (tgt := 310) zM_X7_tellInodes dX7_tellInodes_16 rfl r_x4 (hA 49 18) (fun q => ?_) (fun q => ?_)
  · replace h := h.1 q
    exact jw_retv zM_X7_tellInodes dX7_tellInodes_310 rfl hA h
  · replace h := h.2 q
    refine zw_go (pc1 := 20) (L1 := [some (.ref 49), some (.int (jI x1)), some (.int (jI x2)), some (.int (jI x3)), some (.int (jI x4)), none, none, none, none]) (st1 := [.ref 49]) (σ1 := js E A) zM_X7_tellInodes dX7_tellInodes_19 rfl rfl rfl rfl ?_
    refine jw_getR (a := 61) zM_X7_tellInodes dX7_tellInodes_20 zF_7_43 rfl rfl rfl ?_
    refine zw_go (pc1 := 25) (L1 := [some (.ref 49), some (.int (jI x1)), some (.int (jI x2)), some (.int (jI x3)), some (.int (jI x4)), none, none, none, none]) (st1 := [.int (jI x4), .ref 61]) (σ1 := js E A) zM_X7_tellInodes dX7_tellInodes_23 rfl rfl rfl rfl ?_
    obtain ⟨hi1, h⟩ := h
    refine jw_iald zM_X7_tellInodes dX7_tellInodes_25 rfl rfl hi1 ?_
    refine zw_go (pc1 := 28) (L1 := [some (.ref 49), some (.int (jI x1)), some (.int (jI x2)), some (.int (jI x3)), some (.int (jI x4)), some (.int (jI (A 61 x4))), none, none, none]) (st1 := []) (σ1 := js E A) zM_X7_tellInodes dX7_tellInodes_26 rfl rfl rfl rfl ?_
    refine zw_go (pc1 := 29) (L1 := [some (.ref 49), some (.int (jI x1)), some (.int (jI x2)), some (.int (jI x3)), some (.int (jI x4)), some (.int (jI (A 61 x4))), none, none, none]) (st1 := [.ref 49]) (σ1 := js E A) zM_X7_tellInodes dX7_tellInodes_28 rfl rfl rfl rfl ?_
    refine jw_getR (a := 72) zM_X7_tellInodes dX7_tellInodes_29 zF_7_76 rfl rfl rfl ?_
    refine zw_go (pc1 := 34) (L1 := [some (.ref 49), some (.int (jI x1)), some (.int (jI x2)), some (.int (jI x3)), some (.int (jI x4)), some (.int (jI (A 61 x4))), none, none, none]) (st1 := [.int (jI x4), .ref 72]) (σ1 := js E A) zM_X7_tellInodes dX7_tellInodes_32 rfl rfl rfl rfl ?_
    refine zw_go (pc1 := 35) (L1 := [some (.ref 49), some (.int (jI x1)), some (.int (jI x2)), some (.int (jI x3)), some (.int (jI x4)), some (.int (jI (A 61 x4))), none, none, none]) (st1 := [.ref 49, .int (jI x4), .ref 72]) (σ1 := js E A) zM_X7_tellInodes dX7_tellInodes_34 rfl rfl rfl rfl ?_
    refine jw_getI zM_X7_tellInodes dX7_tellInodes_35 zF_7_132 rfl rfl rfl ?_
    refine zw_go (pc1 := 39) (L1 := [some (.ref 49), some (.int (jI x1)), some (.int (jI x2)), some (.int (jI x3)), some (.int (jI x4)), some (.int (jI (A 61 x4))), none, none, none]) (st1 := [.int (jI x2), .int (jI (A 49 15)), .int (jI x4), .ref 72]) (σ1 := js E A) zM_X7_tellInodes dX7_tellInodes_38 rfl rfl rfl rfl ?_
    refine jw_sub zM_X7_tellInodes dX7_tellInodes_39 ?_
    obtain ⟨hw2, h⟩ := h
    obtain ⟨hi3, h⟩ := h
    obtain ⟨A4, e5⟩ : ∃ z9 : jA, z9 = jup A 72 x4 ((A 49 15) - x2) := ⟨_, rfl⟩
    replace h := h A4 e5
    have hA6 : jOK A4 := jOK.up hA hw2 e5
    refine jw_iast zM_X7_tellInodes dX7_tellInodes_40 rfl rfl hi3 e5 ?_
    refine zw_go (pc1 := 42) (L1 := [some (.ref 49), some (.int (jI x1)), some (.int (jI x2)), some (.int (jI x3)), some (.int (jI x4)), some (.int (jI (A 61 x4))), none, none, none]) (st1 := [.ref 49]) (σ1 := js E A4) zM_X7_tellInodes dX7_tellInodes_41 rfl rfl rfl rfl ?_
    refine zw_go (pc1 := 43) (L1 := [some (.ref 49), some (.int (jI x1)), some (.int (jI x2)), some (.int (jI x3)), some (.int (jI x4)), some (.int (jI (A 61 x4))), none, none, none]) (st1 := [.ref 49, .ref 49]) (σ1 := js E A4) zM_X7_tellInodes dX7_tellInodes_42 rfl rfl rfl rfl ?_
    refine jw_getR (a := 50) zM_X7_tellInodes dX7_tellInodes_43 zF_7_7 rfl rfl rfl ?_
    refine zw_go (pc1 := 48) (L1 := [some (.ref 49), some (.int (jI x1)), some (.int (jI x2)), some (.int (jI x3)), some (.int (jI x4)), some (.int (jI (A 61 x4))), none, none, none]) (st1 := [.int (jI (A 61 x4)), .ref 50, .ref 49]) (σ1 := js E A4) zM_X7_tellInodes dX7_tellInodes_46 rfl rfl rfl rfl ?_
    obtain ⟨hi7, h⟩ := h
    refine jw_iald zM_X7_tellInodes dX7_tellInodes_48 rfl rfl hi7 ?_
    refine jw_callV (as := [.ref 49, .int (jI (A4 50 (A 61 x4)))]) (rest := []) zM_X7_tellInodes dX7_tellInodes_49 (zx_calV zC_7_135) zM_X7_tell rfl rfl rfl rfl rfl (j_args0 rfl rfl) rfl hA6 h (fun A8 hA9 h => ?_)
    refine zw_go (pc1 := 53) (L1 := [some (.ref 49), some (.int (jI x1)), some (.int (jI x2)), some (.int (jI x3)), some (.int (jI x4)), some (.int (jI (A 61 x4))), none, none, none]) (st1 := [.ref 49]) (σ1 := js E A8) zM_X7_tellInodes dX7_tellInodes_52 rfl rfl rfl rfl ?_
    refine zw_go (pc1 := 54) (L1 := [some (.ref 49), some (.int (jI x1)), some (.int (jI x2)), some (.int (jI x3)), some (.int (jI x4)), some (.int (jI (A 61 x4))), none, none, none]) (st1 := [.ref 49, .ref 49]) (σ1 := js E A8) zM_X7_tellInodes dX7_tellInodes_53 rfl rfl rfl rfl ?_
    refine jw_getR (a := 51) zM_X7_tellInodes dX7_tellInodes_54 zF_7_13 rfl rfl rfl ?_
    refine zw_go (pc1 := 59) (L1 := [some (.ref 49), some (.int (jI x1)), some (.int (jI x2)), some (.int (jI x3)), some (.int (jI x4)), some (.int (jI (A 61 x4))), none, none, none]) (st1 := [.int (jI (A 61 x4)), .ref 51, .ref 49]) (σ1 := js E A8) zM_X7_tellInodes dX7_tellInodes_57 rfl rfl rfl rfl ?_
    obtain ⟨hi10, h⟩ := h
    refine jw_iald zM_X7_tellInodes dX7_tellInodes_59 rfl rfl hi10 ?_
    refine jw_callV (as := [.ref 49, .int (jI (A8 51 (A 61 x4)))]) (rest := []) zM_X7_tellInodes dX7_tellInodes_60 (zx_calV zC_7_184) zM_X7_tellWord rfl rfl rfl rfl rfl (j_args0 rfl rfl) rfl hA9 h (fun A11 hA12 h => ?_)
    refine zw_go (pc1 := 64) (L1 := [some (.ref 49), some (.int (jI x1)), some (.int (jI x2)), some (.int (jI x3)), some (.int (jI x4)), some (.int (jI (A 61 x4))), none, none, none]) (st1 := [.ref 49]) (σ1 := js E A11) zM_X7_tellInodes dX7_tellInodes_63 rfl rfl rfl rfl ?_
    refine zw_go (pc1 := 65) (L1 := [some (.ref 49), some (.int (jI x1)), some (.int (jI x2)), some (.int (jI x3)), some (.int (jI x4)), some (.int (jI (A 61 x4))), none, none, none]) (st1 := [.ref 49, .ref 49]) (σ1 := js E A11) zM_X7_tellInodes dX7_tellInodes_64 rfl rfl rfl rfl ?_
    refine jw_getR (a := 52) zM_X7_tellInodes dX7_tellInodes_65 zF_7_16 rfl rfl rfl ?_
    refine zw_go (pc1 := 70) (L1 := [some (.ref 49), some (.int (jI x1)), some (.int (jI x2)), some (.int (jI x3)), some (.int (jI x4)), some (.int (jI (A 61 x4))), none, none, none]) (st1 := [.int (jI (A 61 x4)), .ref 52, .ref 49]) (σ1 := js E A11) zM_X7_tellInodes dX7_tellInodes_68 rfl rfl rfl rfl ?_
    obtain ⟨hi13, h⟩ := h
    refine jw_iald zM_X7_tellInodes dX7_tellInodes_70 rfl rfl hi13 ?_
    refine jw_callV (as := [.ref 49, .int (jI (A11 52 (A 61 x4)))]) (rest := []) zM_X7_tellInodes dX7_tellInodes_71 (zx_calV zC_7_184) zM_X7_tellWord rfl rfl rfl rfl rfl (j_args0 rfl rfl) rfl hA12 h (fun A14 hA15 h => ?_)
    refine zw_go (pc1 := 75) (L1 := [some (.ref 49), some (.int (jI x1)), some (.int (jI x2)), some (.int (jI x3)), some (.int (jI x4)), some (.int (jI (A 61 x4))), none, none, none]) (st1 := [.ref 49]) (σ1 := js E A14) zM_X7_tellInodes dX7_tellInodes_74 rfl rfl rfl rfl ?_
    refine zw_go (pc1 := 77) (L1 := [some (.ref 49), some (.int (jI x1)), some (.int (jI x2)), some (.int (jI x3)), some (.int (jI x4)), some (.int (jI (A 61 x4))), none, none, none]) (st1 := [.int (jI x4), .ref 49]) (σ1 := js E A14) zM_X7_tellInodes dX7_tellInodes_75 rfl rfl rfl rfl ?_
    refine jw_iconst (v := 1) zM_X7_tellInodes dX7_tellInodes_77 rfl ?_
    refine jw_icmp_ne (tgt := 85) zM_X7_tellInodes dX7_tellInodes_78 rfl r_x4 (show jW 1 from ⟨by decide, by decide⟩) (fun q => ?_) (fun q => ?_)
    · replace h := h.1 q
      refine zw_go (pc1 := 86) (L1 := [some (.ref 49), some (.int (jI x1)), some (.int (jI x2)), some (.int (jI x3)), some (.int (jI x4)), some (.int (jI (A 61 x4))), none, none, none]) (st1 := [.ref 49, .ref 49]) (σ1 := js E A14) zM_X7_tellInodes dX7_tellInodes_85 rfl rfl rfl rfl ?_
      refine zw_go (pc1 := 88) (L1 := [some (.ref 49), some (.int (jI x1)), some (.int (jI x2)), some (.int (jI x3)), some (.int (jI x4)), some (.int (jI (A 61 x4))), none, none, none]) (st1 := [.int (jI (A 61 x4)), .ref 49, .ref 49]) (σ1 := js E A14) zM_X7_tellInodes dX7_tellInodes_86 rfl rfl rfl rfl ?_
      refine jw_callI (as := [.ref 49, .int (jI (A 61 x4))]) (rest := [.ref 49]) zM_X7_tellInodes dX7_tellInodes_88 (zx_calV zC_7_124) zM_X7_namesOf rfl rfl rfl rfl rfl (j_args0 rfl rfl) rfl hA15 h (fun v18 A16 rv19 hA17 h => ?_)
      exact zw_weak2 (h hA17) ⟨rfl, rfl, rfl, rfl, rfl, rfl, trivial⟩
    · replace h := h.2 q
      refine jw_iconst (v := 1) zM_X7_tellInodes dX7_tellInodes_81 rfl ?_
      refine zw_goto (tgt := 91) zM_X7_tellInodes dX7_tellInodes_82 rfl ?_
      exact zw_weak2 (h hA15) ⟨rfl, rfl, rfl, rfl, rfl, rfl, trivial⟩
set_option maxHeartbeats 4000000 in
set_option maxRecDepth 100000 in
theorem vd_X7_tellInodes_91 (x1 : Int) (r_x1 : jW x1) (x2 : Int) (r_x2 : jW x2) (x3 : Int) (r_x3 : jW x3) (x4 : Int) (r_x4 : jW x4) (x5 : Int) (r_x5 : jW x5) (y0 : Int) (r_y0 : jW y0) (E : jE) (A : jA) (K : jA → Prop) (h : jrV 203 0 [some (.ref 49), some (.int (jI y0))] [] E A (fun A1 => (0 ≤ x5 ∧ x5 < 32) ∧ ((¬ (A1 50 x5) = (1 : Int) → (0 ≤ x5 ∧ x5 < 32) ∧ ((¬ (A1 50 x5) = (2 : Int) → jrV 205 304 [some (.ref 49), some (.int (jI x1)), some (.int (jI x2)), some (.int (jI x3)), some (.int (jI x4)), none, none, none, none] [] E A1 K) ∧ ((A1 50 x5) = (2 : Int) → (0 ≤ x5 ∧ x5 < 32) ∧ jrV 206 0 [some (.ref 49), some (.int (jI (A1 53 x5)))] [] E A1 (fun A6 => (0 ≤ x4 ∧ x4 < 33) ∧ jrV 206 0 [some (.ref 49), some (.int (jI (A6 64 x4)))] [] E A6 (fun A9 => (0 ≤ x4 ∧ x4 < 33) ∧ jrV 203 0 [some (.ref 49), some (.int (jI (A9 66 x4)))] [] E A9 (fun A12 => (0 ≤ x4 ∧ x4 < 33) ∧ jrV 203 0 [some (.ref 49), some (.int (jI (A12 67 x4)))] [] E A12 (fun A15 => jrV 205 267 [some (.ref 49), some (.int (jI x1)), some (.int (jI x2)), some (.int (jI x3)), some (.int (jI x4)), some (.int (jI x5)), some (.int (jI 0)), none, none] [] E A15 K))))))) ∧ ((A1 50 x5) = (1 : Int) → jrV 205 114 [some (.ref 49), some (.int (jI x1)), some (.int (jI x2)), some (.int (jI x3)), some (.int (jI x4)), some (.int (jI x5)), some (.int (jI 0)), some (.int (jI 1)), some (.int (jI 0))] [] E A1 K)))) : jrV 205 91 [some (.ref 49), some (.int (jI x1)), some (.int (jI x2)), some (.int (jI x3)), some (.int (jI x4)), some (.int (jI x5)), none, none, none] [.int (jI y0), .ref 49] E A K := by
  intro hA
  refine jw_callV (as := [.ref 49, .int (jI y0)]) (rest := []) zM_X7_tellInodes dX7_tellInodes_91 (zx_calV zC_7_135) zM_X7_tell rfl rfl rfl rfl rfl (j_args0 rfl rfl) rfl hA h (fun A1 hA2 h => ?_)
  refine zw_go (pc1 := 95) (L1 := [some (.ref 49), some (.int (jI x1)), some (.int (jI x2)), some (.int (jI x3)), some (.int (jI x4)), some (.int (jI x5)), none, none, none]) (st1 := [.ref 49]) (σ1 := js E A1) zM_X7_tellInodes dX7_tellInodes_94 rfl rfl rfl rfl ?_
  refine jw_getR (a := 50) zM_X7_tellInodes dX7_tellInodes_95 zF_7_7 rfl rfl rfl ?_
  refine zw_go (pc1 := 100) (L1 := [some (.ref 49), some (.int (jI x1)), some (.int (jI x2)), some (.int (jI x3)), some (.int (jI x4)), some (.int (jI x5)), none, none, none]) (st1 := [.int (jI x5), .ref 50]) (σ1 := js E A1) zM_X7_tellInodes dX7_tellInodes_98 rfl rfl rfl rfl ?_
  obtain ⟨hi3, h⟩ := h
  refine jw_iald zM_X7_tellInodes dX7_tellInodes_100 rfl rfl hi3 ?_
  refine jw_iconst (v := 1) zM_X7_tellInodes dX7_tellInodes_101 rfl ?_
  refine jw_icmp_ne (tgt := 209) zM_X7_tellInodes dX7_tellInodes_102 rfl (hA2 50 x5) (show jW 1 from ⟨by decide, by decide⟩) (fun q => ?_) (fun q => ?_)
  · replace h := h.1 q
    refine zw_go (pc1 := 210) (L1 := [some (.ref 49), some (.int (jI x1)), some (.int (jI x2)), some (.int (jI x3)), some (.int (jI x4)), some (.int (jI x5)), none, none, none]) (st1 := [.ref 49]) (σ1 := js E A1) zM_X7_tellInodes dX7_tellInodes_209 rfl rfl rfl rfl ?_
    refine jw_getR (a := 50) zM_X7_tellInodes dX7_tellInodes_210 zF_7_7 rfl rfl rfl ?_
    refine zw_go (pc1 := 215) (L1 := [some (.ref 49), some (.int (jI x1)), some (.int (jI x2)), some (.int (jI x3)), some (.int (jI x4)), some (.int (jI x5)), none, none, none]) (st1 := [.int (jI x5), .ref 50]) (σ1 := js E A1) zM_X7_tellInodes dX7_tellInodes_213 rfl rfl rfl rfl ?_
    obtain ⟨hi4, h⟩ := h
    refine jw_iald zM_X7_tellInodes dX7_tellInodes_215 rfl rfl hi4 ?_
    refine jw_iconst (v := 2) zM_X7_tellInodes dX7_tellInodes_216 rfl ?_
    refine jw_icmp_ne (tgt := 304) zM_X7_tellInodes dX7_tellInodes_217 rfl (hA2 50 x5) (show jW 2 from ⟨by decide, by decide⟩) (fun q => ?_) (fun q => ?_)
    · replace h := h.1 q
      exact zw_weak2 (h hA2) ⟨rfl, rfl, rfl, rfl, rfl, trivial⟩
    · replace h := h.2 q
      refine zw_go (pc1 := 221) (L1 := [some (.ref 49), some (.int (jI x1)), some (.int (jI x2)), some (.int (jI x3)), some (.int (jI x4)), some (.int (jI x5)), none, none, none]) (st1 := [.ref 49]) (σ1 := js E A1) zM_X7_tellInodes dX7_tellInodes_220 rfl rfl rfl rfl ?_
      refine zw_go (pc1 := 222) (L1 := [some (.ref 49), some (.int (jI x1)), some (.int (jI x2)), some (.int (jI x3)), some (.int (jI x4)), some (.int (jI x5)), none, none, none]) (st1 := [.ref 49, .ref 49]) (σ1 := js E A1) zM_X7_tellInodes dX7_tellInodes_221 rfl rfl rfl rfl ?_
      refine jw_getR (a := 53) zM_X7_tellInodes dX7_tellInodes_222 zF_7_19 rfl rfl rfl ?_
      refine zw_go (pc1 := 227) (L1 := [some (.ref 49), some (.int (jI x1)), some (.int (jI x2)), some (.int (jI x3)), some (.int (jI x4)), some (.int (jI x5)), none, none, none]) (st1 := [.int (jI x5), .ref 53, .ref 49]) (σ1 := js E A1) zM_X7_tellInodes dX7_tellInodes_225 rfl rfl rfl rfl ?_
      obtain ⟨hi5, h⟩ := h
      refine jw_iald zM_X7_tellInodes dX7_tellInodes_227 rfl rfl hi5 ?_
      refine jw_callV (as := [.ref 49, .int (jI (A1 53 x5))]) (rest := []) zM_X7_tellInodes dX7_tellInodes_228 (zx_calV zC_7_184) zM_X7_tellWord rfl rfl rfl rfl rfl (j_args0 rfl rfl) rfl hA2 h (fun A6 hA7 h => ?_)
      refine zw_go (pc1 := 232) (L1 := [some (.ref 49), some (.int (jI x1)), some (.int (jI x2)), some (.int (jI x3)), some (.int (jI x4)), some (.int (jI x5)), none, none, none]) (st1 := [.ref 49]) (σ1 := js E A6) zM_X7_tellInodes dX7_tellInodes_231 rfl rfl rfl rfl ?_
      refine zw_go (pc1 := 233) (L1 := [some (.ref 49), some (.int (jI x1)), some (.int (jI x2)), some (.int (jI x3)), some (.int (jI x4)), some (.int (jI x5)), none, none, none]) (st1 := [.ref 49, .ref 49]) (σ1 := js E A6) zM_X7_tellInodes dX7_tellInodes_232 rfl rfl rfl rfl ?_
      refine jw_getR (a := 64) zM_X7_tellInodes dX7_tellInodes_233 zF_7_52 rfl rfl rfl ?_
      refine zw_go (pc1 := 238) (L1 := [some (.ref 49), some (.int (jI x1)), some (.int (jI x2)), some (.int (jI x3)), some (.int (jI x4)), some (.int (jI x5)), none, none, none]) (st1 := [.int (jI x4), .ref 64, .ref 49]) (σ1 := js E A6) zM_X7_tellInodes dX7_tellInodes_236 rfl rfl rfl rfl ?_
      obtain ⟨hi8, h⟩ := h
      refine jw_iald zM_X7_tellInodes dX7_tellInodes_238 rfl rfl hi8 ?_
      refine jw_callV (as := [.ref 49, .int (jI (A6 64 x4))]) (rest := []) zM_X7_tellInodes dX7_tellInodes_239 (zx_calV zC_7_184) zM_X7_tellWord rfl rfl rfl rfl rfl (j_args0 rfl rfl) rfl hA7 h (fun A9 hA10 h => ?_)
      refine zw_go (pc1 := 243) (L1 := [some (.ref 49), some (.int (jI x1)), some (.int (jI x2)), some (.int (jI x3)), some (.int (jI x4)), some (.int (jI x5)), none, none, none]) (st1 := [.ref 49]) (σ1 := js E A9) zM_X7_tellInodes dX7_tellInodes_242 rfl rfl rfl rfl ?_
      refine zw_go (pc1 := 244) (L1 := [some (.ref 49), some (.int (jI x1)), some (.int (jI x2)), some (.int (jI x3)), some (.int (jI x4)), some (.int (jI x5)), none, none, none]) (st1 := [.ref 49, .ref 49]) (σ1 := js E A9) zM_X7_tellInodes dX7_tellInodes_243 rfl rfl rfl rfl ?_
      refine jw_getR (a := 66) zM_X7_tellInodes dX7_tellInodes_244 zF_7_58 rfl rfl rfl ?_
      refine zw_go (pc1 := 249) (L1 := [some (.ref 49), some (.int (jI x1)), some (.int (jI x2)), some (.int (jI x3)), some (.int (jI x4)), some (.int (jI x5)), none, none, none]) (st1 := [.int (jI x4), .ref 66, .ref 49]) (σ1 := js E A9) zM_X7_tellInodes dX7_tellInodes_247 rfl rfl rfl rfl ?_
      obtain ⟨hi11, h⟩ := h
      refine jw_iald zM_X7_tellInodes dX7_tellInodes_249 rfl rfl hi11 ?_
      refine jw_callV (as := [.ref 49, .int (jI (A9 66 x4))]) (rest := []) zM_X7_tellInodes dX7_tellInodes_250 (zx_calV zC_7_135) zM_X7_tell rfl rfl rfl rfl rfl (j_args0 rfl rfl) rfl hA10 h (fun A12 hA13 h => ?_)
      refine zw_go (pc1 := 254) (L1 := [some (.ref 49), some (.int (jI x1)), some (.int (jI x2)), some (.int (jI x3)), some (.int (jI x4)), some (.int (jI x5)), none, none, none]) (st1 := [.ref 49]) (σ1 := js E A12) zM_X7_tellInodes dX7_tellInodes_253 rfl rfl rfl rfl ?_
      refine zw_go (pc1 := 255) (L1 := [some (.ref 49), some (.int (jI x1)), some (.int (jI x2)), some (.int (jI x3)), some (.int (jI x4)), some (.int (jI x5)), none, none, none]) (st1 := [.ref 49, .ref 49]) (σ1 := js E A12) zM_X7_tellInodes dX7_tellInodes_254 rfl rfl rfl rfl ?_
      refine jw_getR (a := 67) zM_X7_tellInodes dX7_tellInodes_255 zF_7_61 rfl rfl rfl ?_
      refine zw_go (pc1 := 260) (L1 := [some (.ref 49), some (.int (jI x1)), some (.int (jI x2)), some (.int (jI x3)), some (.int (jI x4)), some (.int (jI x5)), none, none, none]) (st1 := [.int (jI x4), .ref 67, .ref 49]) (σ1 := js E A12) zM_X7_tellInodes dX7_tellInodes_258 rfl rfl rfl rfl ?_
      obtain ⟨hi14, h⟩ := h
      refine jw_iald zM_X7_tellInodes dX7_tellInodes_260 rfl rfl hi14 ?_
      refine jw_callV (as := [.ref 49, .int (jI (A12 67 x4))]) (rest := []) zM_X7_tellInodes dX7_tellInodes_261 (zx_calV zC_7_135) zM_X7_tell rfl rfl rfl rfl rfl (j_args0 rfl rfl) rfl hA13 h (fun A15 hA16 h => ?_)
      refine jw_iconst (v := 0) zM_X7_tellInodes dX7_tellInodes_264 rfl ?_
      refine zw_go (pc1 := 267) (L1 := [some (.ref 49), some (.int (jI x1)), some (.int (jI x2)), some (.int (jI x3)), some (.int (jI x4)), some (.int (jI x5)), some (.int (jI 0)), none, none]) (st1 := []) (σ1 := js E A15) zM_X7_tellInodes dX7_tellInodes_265 rfl rfl rfl rfl ?_
      exact zw_weak2 (h hA16) ⟨rfl, rfl, rfl, rfl, rfl, rfl, rfl, trivial⟩
  · replace h := h.2 q
    refine jw_iconst (v := 0) zM_X7_tellInodes dX7_tellInodes_105 rfl ?_
    refine zw_go (pc1 := 108) (L1 := [some (.ref 49), some (.int (jI x1)), some (.int (jI x2)), some (.int (jI x3)), some (.int (jI x4)), some (.int (jI x5)), some (.int (jI 0)), none, none]) (st1 := []) (σ1 := js E A1) zM_X7_tellInodes dX7_tellInodes_106 rfl rfl rfl rfl ?_
    refine jw_iconst (v := 1) zM_X7_tellInodes dX7_tellInodes_108 rfl ?_
    refine zw_go (pc1 := 111) (L1 := [some (.ref 49), some (.int (jI x1)), some (.int (jI x2)), some (.int (jI x3)), some (.int (jI x4)), some (.int (jI x5)), some (.int (jI 0)), some (.int (jI 1)), none]) (st1 := []) (σ1 := js E A1) zM_X7_tellInodes dX7_tellInodes_109 rfl rfl rfl rfl ?_
    refine jw_iconst (v := 0) zM_X7_tellInodes dX7_tellInodes_111 rfl ?_
    refine zw_go (pc1 := 114) (L1 := [some (.ref 49), some (.int (jI x1)), some (.int (jI x2)), some (.int (jI x3)), some (.int (jI x4)), some (.int (jI x5)), some (.int (jI 0)), some (.int (jI 1)), some (.int (jI 0))]) (st1 := []) (σ1 := js E A1) zM_X7_tellInodes dX7_tellInodes_112 rfl rfl rfl rfl ?_
    exact zw_weak2 (h hA2) ⟨rfl, rfl, rfl, rfl, rfl, rfl, rfl, rfl, rfl, trivial⟩
set_option maxHeartbeats 4000000 in
set_option maxRecDepth 100000 in
theorem vd_X7_tellInodes_114 (x1 : Int) (r_x1 : jW x1) (x2 : Int) (r_x2 : jW x2) (x3 : Int) (r_x3 : jW x3) (x4 : Int) (r_x4 : jW x4) (x5 : Int) (r_x5 : jW x5) (x6 : Int) (r_x6 : jW x6) (x7 : Int) (r_x7 : jW x7) (x8 : Int) (r_x8 : jW x8) (E : jE) (A : jA) (K : jA → Prop) (h : (((A 49 7) ≤ x8 → jrV 206 0 [some (.ref 49), some (.int (jI (4 * x3)))] [] E A (fun A1 => jrV 206 0 [some (.ref 49), some (.int (jI x6))] [] E A1 (fun A3 => jrV 206 0 [some (.ref 49), some (.int (jI x7))] [] E A3 (fun A5 => jrV 205 304 [some (.ref 49), some (.int (jI x1)), some (.int (jI x2)), some (.int (jI (x3 + x6))), some (.int (jI x4)), none, none, none, none] [] E A5 K)))) ∧ (x8 < (A 49 7) → (0 ≤ x8 ∧ x8 < 300) ∧ ((¬ (A 55 x8) = x5 → jrV 205 142 [some (.ref 49), some (.int (jI x1)), some (.int (jI x2)), some (.int (jI x3)), some (.int (jI x4)), some (.int (jI x5)), none, some (.int (jI x7)), some (.int (jI x8))] [.int (jI 0), .int (jI x6)] E A K) ∧ ((A 55 x8) = x5 → jrV 205 142 [some (.ref 49), some (.int (jI x1)), some (.int (jI x2)), some (.int (jI x3)), some (.int (jI x4)), some (.int (jI x5)), none, some (.int (jI x7)), some (.int (jI x8))] [.int (jI 1), .int (jI x6)] E A K))))) : jrV 205 114 [some (.ref 49), some (.int (jI x1)), some (.int (jI x2)), some (.int (jI x3)), some (.int (jI x4)), some (.int (jI x5)), some (.int (jI x6)), some (.int (jI x7)), some (.int (jI x8))] [] E A K := by
  intro hA
  refine zw_go (pc1 := 116) (L1 := [some (.ref 49), some (.int (jI x1)), some (.int (jI x2)), some (.int (jI x3)), some (.int (jI x4)), some (.int (jI x5)), some (.int (jI x6)), some (.int (jI x7)), some (.int (jI x8))]) (st1 := [.int (jI x8)]) (σ1 := js E A) zM_X7_tellInodes dX7_tellInodes_114 rfl rfl rfl rfl ?_
  refine zw_go (pc1 := 117) (L1 := [some (.ref 49), some (.int (jI x1)), some (.int (jI x2)), some (.int (jI x3)), some (.int (jI x4)), some (.int (jI x5)), some (.int (jI x6)), some (.int (jI x7)), some (.int (jI x8))]) (st1 := [.ref 49, .int (jI x8)]) (σ1 := js E A) zM_X7_tellInodes dX7_tellInodes_116 rfl rfl rfl rfl ?_
  refine jw_getI zM_X7_tellInodes dX7_tellInodes_117 zF_7_105 rfl rfl rfl ?_
  refine jw_icmp_ge (tgt := 182) zM_X7_tellInodes dX7_tellInodes_120 rfl r_x8 (hA 49 7) (fun q => ?_) (fun q => ?_)
  · replace h := h.1 q
    refine zw_go (pc1 := 183) (L1 := [some (.ref 49), some (.int (jI x1)), some (.int (jI x2)), some (.int (jI x3)), some (.int (jI x4)), some (.int (jI x5)), some (.int (jI x6)), some (.int (jI x7)), some (.int (jI x8))]) (st1 := [.ref 49]) (σ1 := js E A) zM_X7_tellInodes dX7_tellInodes_182 rfl rfl rfl rfl ?_
    refine jw_iconst (v := 4) zM_X7_tellInodes dX7_tellInodes_183 rfl ?_
    refine zw_go (pc1 := 185) (L1 := [some (.ref 49), some (.int (jI x1)), some (.int (jI x2)), some (.int (jI x3)), some (.int (jI x4)), some (.int (jI x5)), some (.int (jI x6)), some (.int (jI x7)), some (.int (jI x8))]) (st1 := [.int (jI x3), .int (jI 4), .ref 49]) (σ1 := js E A) zM_X7_tellInodes dX7_tellInodes_184 rfl rfl rfl rfl ?_
    refine jw_mul zM_X7_tellInodes dX7_tellInodes_185 ?_
    refine jw_callV (as := [.ref 49, .int (jI (4 * x3))]) (rest := []) zM_X7_tellInodes dX7_tellInodes_186 (zx_calV zC_7_184) zM_X7_tellWord rfl rfl rfl rfl rfl (j_args0 rfl rfl) rfl hA h (fun A1 hA2 h => ?_)
    refine zw_go (pc1 := 190) (L1 := [some (.ref 49), some (.int (jI x1)), some (.int (jI x2)), some (.int (jI x3)), some (.int (jI x4)), some (.int (jI x5)), some (.int (jI x6)), some (.int (jI x7)), some (.int (jI x8))]) (st1 := [.ref 49]) (σ1 := js E A1) zM_X7_tellInodes dX7_tellInodes_189 rfl rfl rfl rfl ?_
    refine zw_go (pc1 := 192) (L1 := [some (.ref 49), some (.int (jI x1)), some (.int (jI x2)), some (.int (jI x3)), some (.int (jI x4)), some (.int (jI x5)), some (.int (jI x6)), some (.int (jI x7)), some (.int (jI x8))]) (st1 := [.int (jI x6), .ref 49]) (σ1 := js E A1) zM_X7_tellInodes dX7_tellInodes_190 rfl rfl rfl rfl ?_
    refine jw_callV (as := [.ref 49, .int (jI x6)]) (rest := []) zM_X7_tellInodes dX7_tellInodes_192 (zx_calV zC_7_184) zM_X7_tellWord rfl rfl rfl rfl rfl (j_args0 rfl rfl) rfl hA2 h (fun A3 hA4 h => ?_)
    refine zw_go (pc1 := 196) (L1 := [some (.ref 49), some (.int (jI x1)), some (.int (jI x2)), some (.int (jI x3)), some (.int (jI x4)), some (.int (jI x5)), some (.int (jI x6)), some (.int (jI x7)), some (.int (jI x8))]) (st1 := [.ref 49]) (σ1 := js E A3) zM_X7_tellInodes dX7_tellInodes_195 rfl rfl rfl rfl ?_
    refine zw_go (pc1 := 198) (L1 := [some (.ref 49), some (.int (jI x1)), some (.int (jI x2)), some (.int (jI x3)), some (.int (jI x4)), some (.int (jI x5)), some (.int (jI x6)), some (.int (jI x7)), some (.int (jI x8))]) (st1 := [.int (jI x7), .ref 49]) (σ1 := js E A3) zM_X7_tellInodes dX7_tellInodes_196 rfl rfl rfl rfl ?_
    refine jw_callV (as := [.ref 49, .int (jI x7)]) (rest := []) zM_X7_tellInodes dX7_tellInodes_198 (zx_calV zC_7_184) zM_X7_tellWord rfl rfl rfl rfl rfl (j_args0 rfl rfl) rfl hA4 h (fun A5 hA6 h => ?_)
    refine zw_go (pc1 := 202) (L1 := [some (.ref 49), some (.int (jI x1)), some (.int (jI x2)), some (.int (jI x3)), some (.int (jI x4)), some (.int (jI x5)), some (.int (jI x6)), some (.int (jI x7)), some (.int (jI x8))]) (st1 := [.int (jI x3)]) (σ1 := js E A5) zM_X7_tellInodes dX7_tellInodes_201 rfl rfl rfl rfl ?_
    refine zw_go (pc1 := 204) (L1 := [some (.ref 49), some (.int (jI x1)), some (.int (jI x2)), some (.int (jI x3)), some (.int (jI x4)), some (.int (jI x5)), some (.int (jI x6)), some (.int (jI x7)), some (.int (jI x8))]) (st1 := [.int (jI x6), .int (jI x3)]) (σ1 := js E A5) zM_X7_tellInodes dX7_tellInodes_202 rfl rfl rfl rfl ?_
    refine jw_add zM_X7_tellInodes dX7_tellInodes_204 ?_
    refine zw_go (pc1 := 206) (L1 := [some (.ref 49), some (.int (jI x1)), some (.int (jI x2)), some (.int (jI (x3 + x6))), some (.int (jI x4)), some (.int (jI x5)), some (.int (jI x6)), some (.int (jI x7)), some (.int (jI x8))]) (st1 := []) (σ1 := js E A5) zM_X7_tellInodes dX7_tellInodes_205 rfl rfl rfl rfl ?_
    refine zw_goto (tgt := 304) zM_X7_tellInodes dX7_tellInodes_206 rfl ?_
    exact zw_weak2 (h hA6) ⟨rfl, rfl, rfl, rfl, rfl, trivial⟩
  · replace h := h.2 q
    refine zw_go (pc1 := 125) (L1 := [some (.ref 49), some (.int (jI x1)), some (.int (jI x2)), some (.int (jI x3)), some (.int (jI x4)), some (.int (jI x5)), some (.int (jI x6)), some (.int (jI x7)), some (.int (jI x8))]) (st1 := [.int (jI x6)]) (σ1 := js E A) zM_X7_tellInodes dX7_tellInodes_123 rfl rfl rfl rfl ?_
    refine zw_go (pc1 := 126) (L1 := [some (.ref 49), some (.int (jI x1)), some (.int (jI x2)), some (.int (jI x3)), some (.int (jI x4)), some (.int (jI x5)), some (.int (jI x6)), some (.int (jI x7)), some (.int (jI x8))]) (st1 := [.ref 49, .int (jI x6)]) (σ1 := js E A) zM_X7_tellInodes dX7_tellInodes_125 rfl rfl rfl rfl ?_
    refine jw_getR (a := 55) zM_X7_tellInodes dX7_tellInodes_126 zF_7_25 rfl rfl rfl ?_
    refine zw_go (pc1 := 131) (L1 := [some (.ref 49), some (.int (jI x1)), some (.int (jI x2)), some (.int (jI x3)), some (.int (jI x4)), some (.int (jI x5)), some (.int (jI x6)), some (.int (jI x7)), some (.int (jI x8))]) (st1 := [.int (jI x8), .ref 55, .int (jI x6)]) (σ1 := js E A) zM_X7_tellInodes dX7_tellInodes_129 rfl rfl rfl rfl ?_
    obtain ⟨hi7, h⟩ := h
    refine jw_iald zM_X7_tellInodes dX7_tellInodes_131 rfl rfl hi7 ?_
    refine zw_go (pc1 := 134) (L1 := [some (.ref 49), some (.int (jI x1)), some (.int (jI x2)), some (.int (jI x3)), some (.int (jI x4)), some (.int (jI x5)), some (.int (jI x6)), some (.int (jI x7)), some (.int (jI x8))]) (st1 := [.int (jI x5), .int (jI (A 55 x8)), .int (jI x6)]) (σ1 := js E A) zM_X7_tellInodes dX7_tellInodes_132 rfl rfl rfl rfl ?_
    refine jw_icmp_ne (tgt := 141) zM_X7_tellInodes dX7_tellInodes_134 rfl (hA 55 x8) r_x5 (fun q => ?_) (fun q => ?_)
    · replace h := h.1 q
      refine jw_iconst (v := 0) zM_X7_tellInodes dX7_tellInodes_141 rfl ?_
      exact zw_weak2 (h hA) ⟨rfl, rfl, rfl, rfl, rfl, rfl, rfl, rfl, trivial⟩
    · replace h := h.2 q
      refine jw_iconst (v := 1) zM_X7_tellInodes dX7_tellInodes_137 rfl ?_
      refine zw_goto (tgt := 142) zM_X7_tellInodes dX7_tellInodes_138 rfl ?_
      exact zw_weak2 (h hA) ⟨rfl, rfl, rfl, rfl, rfl, rfl, rfl, rfl, trivial⟩
set_option maxHeartbeats 4000000 in
set_option maxRecDepth 100000 in
theorem vd_X7_tellInodes_142 (x1 : Int) (r_x1 : jW x1) (x2 : Int) (r_x2 : jW x2) (x3 : Int) (r_x3 : jW x3) (x4 : Int) (r_x4 : jW x4) (x5 : Int) (r_x5 : jW x5) (x7 : Int) (r_x7 : jW x7) (x8 : Int) (r_x8 : jW x8) (y0 : Int) (r_y0 : jW y0) (y1 : Int) (r_y1 : jW y1) (E : jE) (A : jA) (K : jA → Prop) (h : (0 ≤ x8 ∧ x8 < 300) ∧ ((¬ (A 57 x8) = x5 → jrV 205 174 [some (.ref 49), some (.int (jI x1)), some (.int (jI x2)), some (.int (jI x3)), some (.int (jI x4)), some (.int (jI x5)), some (.int (jI (y1 + y0))), none, some (.int (jI x8))] [.int (jI x7)] E A K) ∧ ((A 57 x8) = x5 → (0 ≤ x8 ∧ x8 < 300) ∧ (0 ≤ (A 55 x8) ∧ (A 55 x8) < 32) ∧ jrV 205 174 [some (.ref 49), some (.int (jI x1)), some (.int (jI x2)), some (.int (jI x3)), some (.int (jI x4)), some (.int (jI x5)), some (.int (jI (y1 + y0))), none, some (.int (jI x8))] [.int (jI (A 60 (A 55 x8)))] E A K))) : jrV 205 142 [some (.ref 49), some (.int (jI x1)), some (.int (jI x2)), some (.int (jI x3)), some (.int (jI x4)), some (.int (jI x5)), none, some (.int (jI x7)), some (.int (jI x8))] [.int (jI y0), .int (jI y1)] E A K := by
  intro hA
  refine jw_add zM_X7_tellInodes dX7_tellInodes_142 ?_
  refine zw_go (pc1 := 145) (L1 := [some (.ref 49), some (.int (jI x1)), some (.int (jI x2)), some (.int (jI x3)), some (.int (jI x4)), some (.int (jI x5)), some (.int (jI (y1 + y0))), some (.int (jI x7)), some (.int (jI x8))]) (st1 := []) (σ1 := js E A) zM_X7_tellInodes dX7_tellInodes_143 rfl rfl rfl rfl ?_
  refine zw_go (pc1 := 146) (L1 := [some (.ref 49), some (.int (jI x1)), some (.int (jI x2)), some (.int (jI x3)), some (.int (jI x4)), some (.int (jI x5)), some (.int (jI (y1 + y0))), some (.int (jI x7)), some (.int (jI x8))]) (st1 := [.ref 49]) (σ1 := js E A) zM_X7_tellInodes dX7_tellInodes_145 rfl rfl rfl rfl ?_
  refine jw_getR (a := 57) zM_X7_tellInodes dX7_tellInodes_146 zF_7_31 rfl rfl rfl ?_
  refine zw_go (pc1 := 151) (L1 := [some (.ref 49), some (.int (jI x1)), some (.int (jI x2)), some (.int (jI x3)), some (.int (jI x4)), some (.int (jI x5)), some (.int (jI (y1 + y0))), some (.int (jI x7)), some (.int (jI x8))]) (st1 := [.int (jI x8), .ref 57]) (σ1 := js E A) zM_X7_tellInodes dX7_tellInodes_149 rfl rfl rfl rfl ?_
  obtain ⟨hi1, h⟩ := h
  refine jw_iald zM_X7_tellInodes dX7_tellInodes_151 rfl rfl hi1 ?_
  refine zw_go (pc1 := 154) (L1 := [some (.ref 49), some (.int (jI x1)), some (.int (jI x2)), some (.int (jI x3)), some (.int (jI x4)), some (.int (jI x5)), some (.int (jI (y1 + y0))), some (.int (jI x7)), some (.int (jI x8))]) (st1 := [.int (jI x5), .int (jI (A 57 x8))]) (σ1 := js E A) zM_X7_tellInodes dX7_tellInodes_152 rfl rfl rfl rfl ?_
  refine jw_icmp_ne (tgt := 172) zM_X7_tellInodes dX7_tellInodes_154 rfl (hA 57 x8) r_x5 (fun q => ?_) (fun q => ?_)
  · replace h := h.1 q
    refine zw_go (pc1 := 174) (L1 := [some (.ref 49), some (.int (jI x1)), some (.int (jI x2)), some (.int (jI x3)), some (.int (jI x4)), some (.int (jI x5)), some (.int (jI (y1 + y0))), some (.int (jI x7)), some (.int (jI x8))]) (st1 := [.int (jI x7)]) (σ1 := js E A) zM_X7_tellInodes dX7_tellInodes_172 rfl rfl rfl rfl ?_
    exact zw_weak2 (h hA) ⟨rfl, rfl, rfl, rfl, rfl, rfl, rfl, rfl, trivial⟩
  · replace h := h.2 q
    refine zw_go (pc1 := 158) (L1 := [some (.ref 49), some (.int (jI x1)), some (.int (jI x2)), some (.int (jI x3)), some (.int (jI x4)), some (.int (jI x5)), some (.int (jI (y1 + y0))), some (.int (jI x7)), some (.int (jI x8))]) (st1 := [.ref 49]) (σ1 := js E A) zM_X7_tellInodes dX7_tellInodes_157 rfl rfl rfl rfl ?_
    refine jw_getR (a := 60) zM_X7_tellInodes dX7_tellInodes_158 zF_7_40 rfl rfl rfl ?_
    refine zw_go (pc1 := 162) (L1 := [some (.ref 49), some (.int (jI x1)), some (.int (jI x2)), some (.int (jI x3)), some (.int (jI x4)), some (.int (jI x5)), some (.int (jI (y1 + y0))), some (.int (jI x7)), some (.int (jI x8))]) (st1 := [.ref 49, .ref 60]) (σ1 := js E A) zM_X7_tellInodes dX7_tellInodes_161 rfl rfl rfl rfl ?_
    refine jw_getR (a := 55) zM_X7_tellInodes dX7_tellInodes_162 zF_7_25 rfl rfl rfl ?_
    refine zw_go (pc1 := 167) (L1 := [some (.ref 49), some (.int (jI x1)), some (.int (jI x2)), some (.int (jI x3)), some (.int (jI x4)), some (.int (jI x5)), some (.int (jI (y1 + y0))), some (.int (jI x7)), some (.int (jI x8))]) (st1 := [.int (jI x8), .ref 55, .ref 60]) (σ1 := js E A) zM_X7_tellInodes dX7_tellInodes_165 rfl rfl rfl rfl ?_
    obtain ⟨hi2, h⟩ := h
    refine jw_iald zM_X7_tellInodes dX7_tellInodes_167 rfl rfl hi2 ?_
    obtain ⟨hi3, h⟩ := h
    refine jw_iald zM_X7_tellInodes dX7_tellInodes_168 rfl rfl hi3 ?_
    refine zw_goto (tgt := 174) zM_X7_tellInodes dX7_tellInodes_169 rfl ?_
    exact zw_weak2 (h hA) ⟨rfl, rfl, rfl, rfl, rfl, rfl, rfl, rfl, trivial⟩
set_option maxHeartbeats 4000000 in
set_option maxRecDepth 100000 in
theorem vd_X7_tellInodes_174 (x1 : Int) (r_x1 : jW x1) (x2 : Int) (r_x2 : jW x2) (x3 : Int) (r_x3 : jW x3) (x4 : Int) (r_x4 : jW x4) (x5 : Int) (r_x5 : jW x5) (x6 : Int) (r_x6 : jW x6) (x8 : Int) (r_x8 : jW x8) (y0 : Int) (r_y0 : jW y0) (E : jE) (A : jA) (K : jA → Prop) (h : jrV 205 114 [some (.ref 49), some (.int (jI x1)), some (.int (jI x2)), some (.int (jI x3)), some (.int (jI x4)), some (.int (jI x5)), some (.int (jI x6)), some (.int (jI y0)), some (.int (jI (x8 + 1)))] [] E A K) : jrV 205 174 [some (.ref 49), some (.int (jI x1)), some (.int (jI x2)), some (.int (jI x3)), some (.int (jI x4)), some (.int (jI x5)), some (.int (jI x6)), none, some (.int (jI x8))] [.int (jI y0)] E A K := by
  intro hA
  refine zw_go (pc1 := 176) (L1 := [some (.ref 49), some (.int (jI x1)), some (.int (jI x2)), some (.int (jI x3)), some (.int (jI x4)), some (.int (jI x5)), some (.int (jI x6)), some (.int (jI y0)), some (.int (jI x8))]) (st1 := []) (σ1 := js E A) zM_X7_tellInodes dX7_tellInodes_174 rfl rfl rfl rfl ?_
  refine jw_iinc (x := x8) (L1 := [some (.ref 49), some (.int (jI x1)), some (.int (jI x2)), some (.int (jI x3)), some (.int (jI x4)), some (.int (jI x5)), some (.int (jI x6)), some (.int (jI y0)), some (.int (jI (x8 + 1)))]) zM_X7_tellInodes dX7_tellInodes_176 rfl (show 8 < 9 by decide) rfl ?_
  refine zw_goto (tgt := 114) zM_X7_tellInodes dX7_tellInodes_179 rfl ?_
  exact zw_weak2 (h hA) ⟨rfl, rfl, rfl, rfl, rfl, rfl, rfl, rfl, rfl, trivial⟩
set_option maxHeartbeats 4000000 in
set_option maxRecDepth 100000 in
theorem vd_X7_tellInodes_267 (x1 : Int) (r_x1 : jW x1) (x2 : Int) (r_x2 : jW x2) (x3 : Int) (r_x3 : jW x3) (x4 : Int) (r_x4 : jW x4) (x5 : Int) (r_x5 : jW x5) (x6 : Int) (r_x6 : jW x6) (E : jE) (A : jA) (K : jA → Prop) (h : (0 ≤ x5 ∧ x5 < 32) ∧ 0 ≤ (A 53 x5) ∧ 0 < x1 ∧ jW ((A 53 x5) / x1) ∧ ((((A 53 x5) / x1) ≤ x6 → jrV 205 304 [some (.ref 49), some (.int (jI x1)), some (.int (jI x2)), some (.int (jI x3)), some (.int (jI x4)), none, none, none, none] [] E A K) ∧ (x6 < ((A 53 x5) / x1) → (0 ≤ ((13 * x4) + x6) ∧ ((13 * x4) + x6) < 429) ∧ jrV 206 0 [some (.ref 49), some (.int (jI (A 65 ((13 * x4) + x6))))] [] E A (fun A6 => jrV 205 267 [some (.ref 49), some (.int (jI x1)), some (.int (jI x2)), some (.int (jI x3)), some (.int (jI x4)), some (.int (jI x5)), some (.int (jI (x6 + 1))), none, none] [] E A6 K)))) : jrV 205 267 [some (.ref 49), some (.int (jI x1)), some (.int (jI x2)), some (.int (jI x3)), some (.int (jI x4)), some (.int (jI x5)), some (.int (jI x6)), none, none] [] E A K := by
  intro hA
  refine zw_go (pc1 := 269) (L1 := [some (.ref 49), some (.int (jI x1)), some (.int (jI x2)), some (.int (jI x3)), some (.int (jI x4)), some (.int (jI x5)), some (.int (jI x6)), none, none]) (st1 := [.int (jI x6)]) (σ1 := js E A) zM_X7_tellInodes dX7_tellInodes_267 rfl rfl rfl rfl ?_
  refine zw_go (pc1 := 270) (L1 := [some (.ref 49), some (.int (jI x1)), some (.int (jI x2)), some (.int (jI x3)), some (.int (jI x4)), some (.int (jI x5)), some (.int (jI x6)), none, none]) (st1 := [.ref 49, .int (jI x6)]) (σ1 := js E A) zM_X7_tellInodes dX7_tellInodes_269 rfl rfl rfl rfl ?_
  refine jw_getR (a := 53) zM_X7_tellInodes dX7_tellInodes_270 zF_7_19 rfl rfl rfl ?_
  refine zw_go (pc1 := 275) (L1 := [some (.ref 49), some (.int (jI x1)), some (.int (jI x2)), some (.int (jI x3)), some (.int (jI x4)), some (.int (jI x5)), some (.int (jI x6)), none, none]) (st1 := [.int (jI x5), .ref 53, .int (jI x6)]) (σ1 := js E A) zM_X7_tellInodes dX7_tellInodes_273 rfl rfl rfl rfl ?_
  obtain ⟨hi1, h⟩ := h
  refine jw_iald zM_X7_tellInodes dX7_tellInodes_275 rfl rfl hi1 ?_
  refine zw_go (pc1 := 277) (L1 := [some (.ref 49), some (.int (jI x1)), some (.int (jI x2)), some (.int (jI x3)), some (.int (jI x4)), some (.int (jI x5)), some (.int (jI x6)), none, none]) (st1 := [.int (jI x1), .int (jI (A 53 x5)), .int (jI x6)]) (σ1 := js E A) zM_X7_tellInodes dX7_tellInodes_276 rfl rfl rfl rfl ?_
  obtain ⟨hz2, h⟩ := h
  obtain ⟨hz3, h⟩ := h
  refine jw_div zM_X7_tellInodes dX7_tellInodes_277 (hA 53 x5) r_x1 hz2 hz3 ?_
  obtain ⟨hw4, h⟩ := h
  refine jw_icmp_ge (tgt := 304) zM_X7_tellInodes dX7_tellInodes_278 rfl r_x6 hw4 (fun q => ?_) (fun q => ?_)
  · replace h := h.1 q
    exact zw_weak2 (h hA) ⟨rfl, rfl, rfl, rfl, rfl, trivial⟩
  · replace h := h.2 q
    refine zw_go (pc1 := 282) (L1 := [some (.ref 49), some (.int (jI x1)), some (.int (jI x2)), some (.int (jI x3)), some (.int (jI x4)), some (.int (jI x5)), some (.int (jI x6)), none, none]) (st1 := [.ref 49]) (σ1 := js E A) zM_X7_tellInodes dX7_tellInodes_281 rfl rfl rfl rfl ?_
    refine zw_go (pc1 := 283) (L1 := [some (.ref 49), some (.int (jI x1)), some (.int (jI x2)), some (.int (jI x3)), some (.int (jI x4)), some (.int (jI x5)), some (.int (jI x6)), none, none]) (st1 := [.ref 49, .ref 49]) (σ1 := js E A) zM_X7_tellInodes dX7_tellInodes_282 rfl rfl rfl rfl ?_
    refine jw_getR (a := 65) zM_X7_tellInodes dX7_tellInodes_283 zF_7_55 rfl rfl rfl ?_
    refine jw_bipush (v := 13) zM_X7_tellInodes dX7_tellInodes_286 (by decide) ?_
    refine zw_go (pc1 := 290) (L1 := [some (.ref 49), some (.int (jI x1)), some (.int (jI x2)), some (.int (jI x3)), some (.int (jI x4)), some (.int (jI x5)), some (.int (jI x6)), none, none]) (st1 := [.int (jI x4), .int (jI 13), .ref 65, .ref 49]) (σ1 := js E A) zM_X7_tellInodes dX7_tellInodes_288 rfl rfl rfl rfl ?_
    refine jw_mul zM_X7_tellInodes dX7_tellInodes_290 ?_
    refine zw_go (pc1 := 293) (L1 := [some (.ref 49), some (.int (jI x1)), some (.int (jI x2)), some (.int (jI x3)), some (.int (jI x4)), some (.int (jI x5)), some (.int (jI x6)), none, none]) (st1 := [.int (jI x6), .int (jI (13 * x4)), .ref 65, .ref 49]) (σ1 := js E A) zM_X7_tellInodes dX7_tellInodes_291 rfl rfl rfl rfl ?_
    refine jw_add zM_X7_tellInodes dX7_tellInodes_293 ?_
    obtain ⟨hi5, h⟩ := h
    refine jw_iald zM_X7_tellInodes dX7_tellInodes_294 rfl rfl hi5 ?_
    refine jw_callV (as := [.ref 49, .int (jI (A 65 ((13 * x4) + x6)))]) (rest := []) zM_X7_tellInodes dX7_tellInodes_295 (zx_calV zC_7_184) zM_X7_tellWord rfl rfl rfl rfl rfl (j_args0 rfl rfl) rfl hA h (fun A6 hA7 h => ?_)
    refine jw_iinc (x := x6) (L1 := [some (.ref 49), some (.int (jI x1)), some (.int (jI x2)), some (.int (jI x3)), some (.int (jI x4)), some (.int (jI x5)), some (.int (jI (x6 + 1))), none, none]) zM_X7_tellInodes dX7_tellInodes_298 rfl (show 6 < 9 by decide) rfl ?_
    refine zw_goto (tgt := 267) zM_X7_tellInodes dX7_tellInodes_301 rfl ?_
    exact zw_weak2 (h hA7) ⟨rfl, rfl, rfl, rfl, rfl, rfl, rfl, trivial⟩
set_option maxHeartbeats 4000000 in
set_option maxRecDepth 100000 in
theorem vd_X7_tellInodes_304 (x1 : Int) (r_x1 : jW x1) (x2 : Int) (r_x2 : jW x2) (x3 : Int) (r_x3 : jW x3) (x4 : Int) (r_x4 : jW x4) (E : jE) (A : jA) (K : jA → Prop) (h : jrV 205 10 [some (.ref 49), some (.int (jI x1)), some (.int (jI x2)), some (.int (jI x3)), some (.int (jI (x4 + 1))), none, none, none, none] [] E A K) : jrV 205 304 [some (.ref 49), some (.int (jI x1)), some (.int (jI x2)), some (.int (jI x3)), some (.int (jI x4)), none, none, none, none] [] E A K := by
  intro hA
  refine jw_iinc (x := x4) (L1 := [some (.ref 49), some (.int (jI x1)), some (.int (jI x2)), some (.int (jI x3)), some (.int (jI (x4 + 1))), none, none, none, none]) zM_X7_tellInodes dX7_tellInodes_304 rfl (show 4 < 9 by decide) rfl ?_
  refine zw_goto (tgt := 10) zM_X7_tellInodes dX7_tellInodes_307 rfl ?_
  exact zw_weak2 (h hA) ⟨rfl, rfl, rfl, rfl, rfl, trivial⟩
set_option maxHeartbeats 4000000 in
set_option maxRecDepth 100000 in
theorem vd_X7_tellWord_0 (x1 : Int) (r_x1 : jW x1) (E : jE) (A : jA) (K : jA → Prop) (h : jrV 203 0 [some (.ref 49), some (.int (jI ((x1 / 256) % 256)))] [] E A (fun A1 => jrV 203 0 [some (.ref 49), some (.int (jI (x1 % 256)))] [] E A1 (fun A3 => K A3))) : jrV 206 0 [some (.ref 49), some (.int (jI x1))] [] E A K := by
  intro hA
  refine zw_go (pc1 := 1) (L1 := [some (.ref 49), some (.int (jI x1))]) (st1 := [.ref 49]) (σ1 := js E A) zM_X7_tellWord dX7_tellWord_0 rfl rfl rfl rfl ?_
  refine zw_go (pc1 := 2) (L1 := [some (.ref 49), some (.int (jI x1))]) (st1 := [.int (jI x1), .ref 49]) (σ1 := js E A) zM_X7_tellWord dX7_tellWord_1 rfl rfl rfl rfl ?_
  refine jw_bipush (v := 8) zM_X7_tellWord dX7_tellWord_2 (by decide) ?_
  refine jw_shrC (p := 256) zM_X7_tellWord dX7_tellWord_4 r_x1 ⟨by decide, by decide⟩ (by decide) ?_
  refine jw_sipush (v := 255) zM_X7_tellWord dX7_tellWord_5 (by decide) ?_
  refine jw_and zM_X7_tellWord dX7_tellWord_8 rfl ?_
  refine jw_callV (as := [.ref 49, .int (jI ((x1 / 256) % 256))]) (rest := []) zM_X7_tellWord dX7_tellWord_9 (zx_calV zC_7_135) zM_X7_tell rfl rfl rfl rfl rfl (j_args0 rfl rfl) rfl hA h (fun A1 hA2 h => ?_)
  refine zw_go (pc1 := 13) (L1 := [some (.ref 49), some (.int (jI x1))]) (st1 := [.ref 49]) (σ1 := js E A1) zM_X7_tellWord dX7_tellWord_12 rfl rfl rfl rfl ?_
  refine zw_go (pc1 := 14) (L1 := [some (.ref 49), some (.int (jI x1))]) (st1 := [.int (jI x1), .ref 49]) (σ1 := js E A1) zM_X7_tellWord dX7_tellWord_13 rfl rfl rfl rfl ?_
  refine jw_sipush (v := 255) zM_X7_tellWord dX7_tellWord_14 (by decide) ?_
  refine jw_and zM_X7_tellWord dX7_tellWord_17 rfl ?_
  refine jw_callV (as := [.ref 49, .int (jI (x1 % 256))]) (rest := []) zM_X7_tellWord dX7_tellWord_18 (zx_calV zC_7_135) zM_X7_tell rfl rfl rfl rfl rfl (j_args0 rfl rfl) rfl hA2 h (fun A3 hA4 h => ?_)
  exact jw_retv zM_X7_tellWord dX7_tellWord_21 rfl hA4 h
