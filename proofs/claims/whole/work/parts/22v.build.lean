theorem p_build {E : jE} {A : jA} (I : INV E A) {b : Int} (rb : jW b) : jrI 110 0 [some (.ref 1), some (.int (jI b))] [] E A (fun v B => jrI 142 0 [some (.ref 49), some (.int (jI b)), none, none, none, none, none] [] E B (fun w C => v = w ∧ INV E C)) := by
  obtain ⟨T, P, G, hl, W⟩ := I
  have P0 := P
  have G0 := G
  obtain ⟨g1, g2, g3, g4, g5, g6⟩ := G
  have triv : INV E (jup A 49 0 0) := ⟨T.thr, P0.thr, G0.thr, hl.thr, W.thr⟩
  refine vd_X6_build_0 b rb E A _ (k_isBlock rb (fun hb => ⟨fun _ => ⟨fun q => ?_, fun q => ?_⟩, fun z => absurd z (by decide)⟩) (fun hb => ⟨fun z => absurd rfl z, fun _ => ?_⟩))
  rotate_left
  · -- no room
    refine vd_X7_build_0 b rb E A _ (fun A1 e1 => ?_)
    subst e1
    have t11 : jup A 49 0 0 49 11 = 3 := by rw [jup_ne (by decide)]; omega
    have h26 : jrI 142 26 [some (.ref 49), some (.int (jI b)), none, none, none, none, none] [] E (jup A 49 0 0) (fun w C => -4 = w ∧ INV E C) := vd_X7_build_26 b rb E _ _ ⟨fun z => absurd t11 z, fun _ => ⟨rfl, triv⟩⟩
    exact ⟨fun _ => h26, fun n1 => ⟨fun _ => h26, fun n2 => ⟨fun _ => h26, fun n3 => by omega⟩⟩⟩
  · refine vd_X7_build_0 b rb E A _ (fun A1 e1 => ?_)
    subst e1
    exact ⟨fun z => absurd (.inl z) hb, fun n1 => ⟨fun z => absurd (.inr (.inl z)) hb, fun n2 => ⟨fun z => absurd (.inr (.inr z)) hb, fun _ => ⟨rfl, triv⟩⟩⟩⟩
  obtain ⟨m, em⟩ : ∃ m, m = A 1 6 := ⟨_, rfl⟩
  rw [← em] at q g1 g2 g3 g6 ⊢
  have hm : 0 ≤ m ∧ m ≤ 2 := by omega
  obtain ⟨hc, hc17, hN⟩ := jim_c hm
  obtain ⟨ql1, ql2, ql3, ql4, ql5, ql6, ql7, ql8, ql9, -⟩ := q_le T hb
  have nl := bN_le T
  have il := bIm_len A b (bSum A b)
  refine ⟨by omega, k_become T hb hc hN (g5 _ hc) (fun B' f1 hBI iB' => ?_)⟩
  have n18 : 18 ≤ qL A b := by omega
  have lB' : B' (13 + 2 * m.toNat) 1 = qL A b := by rw [hBI.1]; exact il
  obtain ⟨X, eX⟩ : ∃ X, X = cHead B' (13 + 2 * m.toNat) := ⟨_, rfl⟩
  rw [← eX]
  have xo : ∀ o, ¬ (21 ≤ o ∧ o ≤ 35) → o ≠ 13 + 2 * m.toNat → o ≠ 13 + 2 * m.toNat + 1 → X o = A o := fun o o1 o2 o3 => by rw [eX, cHead_row o2]; exact f1 o o1 o2 o3
  have x16 : X 1 6 = m := by rw [xo 1 (by decide) (by omega) (by omega)]; exact em.symm
  rw [x16]
  refine ⟨⟨by omega, by omega⟩, fun A9 e9 => ?_⟩
  have a16 : A9 1 6 = m + 1 := by rw [e9, jup_at]
  rw [a16]
  refine ⟨⟨by omega, by omega⟩, ?_⟩
  rw [show m + 1 - 1 = m by omega]
  have a9 : ∀ o, o ≠ 1 → ¬ (21 ≤ o ∧ o ≤ 35) → o ≠ 13 + 2 * m.toNat → o ≠ 13 + 2 * m.toNat + 1 → A9 o = A o := fun o o1 o2 o3 o4 => by rw [e9, jup_row o1]; exact xo o o2 o3 o4
  have a958 : A9 58 = A 58 := a9 58 (by decide) (by decide) (by omega) (by omega)
  refine k_mbuild T hb (fun o x y => a9 o (by omega) (by omega) (by omega) (by omega)) (by rw [a9 49 (by decide) (by decide) (by omega) (by omega)]) hm (by rw [a9 49 (by decide) (by decide) (by omega) (by omega)]; exact g1) (fun k => by rw [a958]; exact g4 k) (fun C k1 k2 k3 k4 k5 k6 k7 k8 k9 => ⟨rfl, ?_⟩)
  have hub : UB (mb C m) := k8.u m
  have VAm : VA (mb C m) (qL A b) := VA_built T hb k9 hub
  have co : ∀ o, o ≠ 1 → ¬ (21 ≤ o ∧ o ≤ 35) → o ≠ 13 + 2 * m.toNat → o ≠ 13 + 2 * m.toNat + 1 → o ≠ 49 → o ≠ 58 → o ≠ 59 → ¬ (60 ≤ o ∧ o ≤ 72) → C o = A o := fun o o1 o2 o3 o4 o5 o6 o7 o8 => by rw [k1 o o5 o6 o7 o8]; exact a9 o o1 o2 o3 o4
  have c49 : ∀ j, j ≠ 0 → j ≠ 11 → j ≠ 14 → j ≠ 15 → j ≠ 18 → j ≠ 19 → j ≠ 22 → j ≠ 27 → C 49 j = A 49 j := fun j j0 j1 j2 j3 j4 j5 j6 j7 => by rw [k2 j j0 j1 j2 j3 j4 j5 j6 j7, a9 49 (by decide) (by decide) (by omega) (by omega)]
  have c16 : C 1 6 = m + 1 := by rw [k1 1 (by decide) (by decide) (by decide) (by decide)]; exact a16
  have cx : ∀ o, o = 13 + 2 * m.toNat ∨ o = 13 + 2 * m.toNat + 1 → C o = X o := fun o ho => by rw [k1 o (by omega) (by omega) (by omega) (by omega), e9, jup_row (by omega)]
  have c58 : ∀ j, ¬ (6000 * m ≤ j ∧ j < 6000 * m + 6000) → C 58 j = A 58 j := fun j hj => by rw [k7 j hj, a958]
  have cmb : ∀ m', m' ≠ m → mb C m' = mb A m' := fun m' hne => mb_other c58 hne
  have c59 : ∀ j, j ≠ m → C 59 j = A 59 j := fun j hj => by rw [k5 j hj, a9 59 (by decide) (by decide) (by omega) (by omega)]
  have hCR : CR X (13 + 2 * m.toNat) (mb C m) (qL A b) := by
    rw [eX]
    refine CR_head iB' lB' n18 (fun x x0 x1 => ?_)
    have hlt : x < (bImg A b).length := by show x < ((bIm A b (bSum A b)).length : Int); omega
    rw [hBI.2 x x0 hlt, k9 x x0 x1]
  refine ⟨T.fr (fun a h => co a (by omega) (by omega) (by omega) (by omega) (by omega) (by omega) (by omega) (by omega)) (c49 1 (by decide) (by decide) (by decide) (by decide) (by decide) (by decide) (by decide) (by decide)) (c49 7 (by decide) (by decide) (by decide) (by decide) (by decide) (by decide) (by decide) (by decide)), P0.fr (fun a h => co a (by omega) (by omega) (by omega) (by omega) (by omega) (by omega) (by omega) (by omega)) (c49 34 (by decide) (by decide) (by decide) (by decide) (by decide) (by decide) (by decide) (by decide)), ⟨by rw [k4, c16], by rw [c16]; omega, by rw [c16]; omega, k8, fun c hc' => ?_, fun m' a b' => ?_⟩, hl.more (by rw [co 38 (by decide) (by decide) (by omega) (by omega) (by decide) (by decide) (by decide) (by decide)]) (co 39 (by decide) (by decide) (by omega) (by omega) (by decide) (by decide) (by decide) (by decide)) (co 74 (by decide) (by decide) (by omega) (by omega) (by decide) (by decide) (by decide) (by decide)) (by rw [c16, ← em]; omega) (c49 35 (by decide) (by decide) (by decide) (by decide) (by decide) (by decide) (by decide) (by decide)), W.more (fun l a c => ?_) (co 39 (by decide) (by decide) (by omega) (by omega) (by decide) (by decide) (by decide) (by decide)) (co 38 (by decide) (by decide) (by omega) (by omega) (by decide) (by decide) (by decide) (by decide)) (c49 37 (by decide) (by decide) (by decide) (by decide) (by decide) (by decide) (by decide) (by decide)) (co 41 (by decide) (by decide) (by omega) (by omega) (by decide) (by decide) (by decide) (by decide)) (co 42 (by decide) (by decide) (by omega) (by omega) (by decide) (by decide) (by decide) (by decide)) (co 43 (by decide) (by decide) (by omega) (by omega) (by decide) (by decide) (by decide) (by decide)) (co 75 (by decide) (by decide) (by omega) (by omega) (by decide) (by decide) (by decide) (by decide)) (co 76 (by decide) (by decide) (by omega) (by omega) (by decide) (by decide) (by decide) (by decide)) (co 77 (by decide) (by decide) (by omega) (by omega) (by decide) (by decide) (by decide) (by decide))⟩
  · by_cases ec : c = 13 + 2 * m.toNat
    · have := hCR.1
      rw [ec]
      unfold IM at this ⊢
      rw [cx _ (.inl rfl), cx _ (.inr rfl)]; exact this
    · have := g5 c hc'
      have h19 : c = 13 ∨ c = 15 ∨ c = 17 ∨ c = 19 ∨ c = 47 := hc'
      unfold IM at this ⊢
      rw [co c (by omega) (by omega) ec (by omega) (by omega) (by omega) (by omega) (by omega), co (c + 1) (by omega) (by omega) (by omega) (by omega) (by omega) (by omega) (by omega) (by omega)]; exact this
  · rw [c16] at b'
    by_cases e : m' = m
    · subst e
      unfold IR
      rw [k6]
      refine ⟨?_, VAm⟩
      unfold CR IM at hCR ⊢
      rw [cx _ (.inl rfl), cx _ (.inr rfl)]
      exact hCR
    · obtain ⟨r1, r2⟩ := g6 m' a (by omega)
      unfold IR
      rw [cmb m' e, c59 m' e]
      refine ⟨?_, r2⟩
      have h17 := (jim_c (show 0 ≤ m' ∧ m' ≤ 2 by omega)).2.1
      unfold CR IM at r1 ⊢
      rw [co (13 + 2 * m'.toNat) (by omega) (by omega) (by omega) (by omega) (by omega) (by omega) (by omega) (by omega), co (13 + 2 * m'.toNat + 1) (by omega) (by omega) (by omega) (by omega) (by omega) (by omega) (by omega) (by omega)]
      exact r1
  · have hlt := (hl.2.2.2.1 l a c).2.2.1
    unfold lu
    rw [co 39 (by decide) (by decide) (by omega) (by omega) (by decide) (by decide) (by decide) (by decide)]
    exact cmb _ (by omega)
