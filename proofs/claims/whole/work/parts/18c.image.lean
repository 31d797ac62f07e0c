/-! THE IMAGES ON BOTH SIDES: image, same, node -/
/-- the image m on both sides -/
def IR (A : jA) (m : Int) : Prop := CR A (13 + 2 * m.toNat) (mb A m) (A 59 m) ∧ VA (mb A m) (A 59 m)
def GI (A : jA) : Prop := A 49 11 = A 1 6 ∧ 0 ≤ A 1 6 ∧ A 1 6 ≤ 3 ∧ MB A ∧ (∀ c, jim c → IM A c) ∧ ∀ m, 0 ≤ m → m < A 1 6 → IR A m
theorem MB.u {A : jA} (h : MB A) (m : Int) : UB (mb A m) := fun k => by unfold mb; have := h (6000 * m + k); split <;> omega
/-- what the images' relation looks at -/
theorem GI.fr {A B : jA} (h : ∀ a, 13 ≤ a ∧ a ≤ 20 ∨ a = 1 ∨ a = 47 ∨ a = 48 ∨ a = 58 ∨ a = 59 → B a = A a) (h1 : B 49 11 = A 49 11) (hT : GI A) : GI B := by
  obtain ⟨g1, g2, g3, g4, g5, g6⟩ := hT
  have hI : ∀ c, jim c → IM A c → IM B c := by
    intro c hc hi
    have e1 : B c = A c := h c (by rcases hc with rfl | rfl | rfl | rfl | rfl <;> decide)
    have e2 : B (c + 1) = A (c + 1) := h (c + 1) (by rcases hc with rfl | rfl | rfl | rfl | rfl <;> decide)
    unfold IM
    rw [e1, e2]
    exact hi
  have hm : ∀ m, mb B m = mb A m := fun m => by funext x; unfold mb; rw [h 58 (by decide)]
  refine ⟨by rw [h1, h 1 (by decide)]; exact g1, by rw [h 1 (by decide)]; exact g2, by rw [h 1 (by decide)]; exact g3, ?_, fun c hc => hI c hc (g5 c hc), fun m m0 m1 => ?_⟩
  · unfold MB; rw [h 58 (by decide)]; exact g4
  · rw [h 1 (by decide)] at m1
    obtain ⟨r1, r2⟩ := g6 m m0 m1
    have hc : jim (13 + 2 * m.toNat) := jim_at m0 (by omega)
    have e1 : B (13 + 2 * m.toNat) = A (13 + 2 * m.toNat) := h _ (by omega)
    have e2 : B (13 + 2 * m.toNat + 1) = A (13 + 2 * m.toNat + 1) := h _ (by omega)
    unfold IR
    rw [hm, h 59 (by decide)]
    refine ⟨?_, r2⟩
    unfold CR at r1 ⊢
    rw [e1, e2]
    exact ⟨hI _ hc r1.1, r1.2⟩
theorem GI.thr {A : jA} (T : GI A) : GI (jup A 49 0 0) := T.fr (fun a h => jup_row (by omega)) (jup_ne (by decide))
theorem k_hasImage {x : Int} (r : jW x) {E : jE} {A : jA} {K : Int → jA → Prop} (h1 : 0 ≤ x → x < A 1 6 → K 1 A) (h0 : ¬ (0 ≤ x ∧ x < A 1 6) → K 0 A) : jrI 119 0 [some (.ref 1), some (.int (jI x))] [] E A K := vd_X6_hasImage_0 x r E A K (by grind)
theorem k_isImage {x : Int} (r : jW x) {E : jE} {A : jA} (hn : 0 ≤ A 49 11) {K : Int → jA → Prop} (h1 : 0 ≤ x → x < A 49 11 → K 1 A) (h0 : ¬ (0 ≤ x ∧ x < A 49 11) → K 0 A) : jrI 165 0 [some (.ref 49), some (.int (jI x))] [] E A K := by
  refine jrI.ok fun hA => vd_X7_isImage_0 x r E A K ?_
  have := hA 49 11
  refine k_in r (by decide) ⟨by omega, by omega⟩ ?_ ?_
  · grind
  · grind
/-- a call that changes nothing but thrown -/
theorem p_image {x y : Int} (rx : jW x) (ry : jW y) {E : jE} {A : jA} (T : GI A) : jrI 121 0 [some (.ref 1), some (.int (jI x)), some (.int (jI y)), none] [] E A (fun v B => jrI 159 0 [some (.ref 49), some (.int (jI x)), some (.int (jI y))] [] E B (fun w C => v = w ∧ C = jup A 49 0 0)) := by
  obtain ⟨g1, g2, g3, g4, g5, g6⟩ := id T
  obtain ⟨D, hD⟩ : ∃ D, D = jup A 49 0 0 := ⟨_, rfl⟩
  have d11 : D 49 11 = A 1 6 := by rw [hD, jup_ne (by decide)]; exact g1
  have d58 : D 58 = A 58 := by rw [hD]; exact jup_row (by decide)
  have d59 : D 59 = A 59 := by rw [hD]; exact jup_row (by decide)
  have dm : MB D := by unfold MB; rw [d58]; exact g4
  have dw : ∀ m z, mw D m z = mw A m z := fun m z => by unfold mw mb; rw [d58]
  have db : ∀ m z, mb D m z = mb A m z := fun m z => by unfold mb; rw [d58]
  refine vd_X6_image_0 x rx y ry E A _ (k_hasImage rx (fun a b => ⟨fun _ => ⟨by omega, ?_⟩, fun q => by omega⟩) (fun q => ⟨fun z => absurd rfl z, fun _ => ?_⟩))
  · obtain ⟨c1, ⟨⟨a1, a2, a3, a4, a5, a6, a7, a8, a9⟩, -⟩⟩ := g6 x a b
    obtain ⟨ci, cn, cu, c2, c3, c4, c5, c6, c7⟩ := id c1
    have hm : 0 ≤ x ∧ x ≤ 2 := by omega
    have ref : ∀ v : Int, (y = 0 → v = A 59 x) → (y = 1 → v = mb A x 2) → (y = 2 → v = uw (mb A x) 4) → (y = 3 → v = (uw (mb A x) 12 - uw (mb A x) 10) / 5) → (y = 4 → v = uw (mb A x) 6 - 18) → (¬ (0 ≤ y ∧ y ≤ 4) → v = -2) → jrI 159 0 [some (.ref 49), some (.int (jI x)), some (.int (jI y))] [] E A (fun w C => v = w ∧ C = jup A 49 0 0) := by
      intro v h0 h1 h2 h3 h4 h5
      refine vd_X7_image_0 x rx y ry E A _ (fun A1 e1 => ?_)
      rw [← hD] at e1 ⊢
      subst e1
      have e10 := mw_le g4 x 10
      have e12 := mw_le g4 x 12
      have w10 : mw A x 10 = uw (mb A x) 10 := rfl
      have w12 : mw A x 12 = uw (mb A x) 12 := rfl
      refine k_isImage rx (by omega) (fun _ _ => ⟨fun _ => ⟨fun q => ⟨by omega, by rw [d59]; exact h0 q, rfl⟩, fun q0 => ⟨fun q => k_mbyteAt hm (by omega) ⟨by rw [db]; exact h1 q, rfl⟩, fun q1 => ⟨fun q => vd_X7_numbersIn_0 x rx E _ _ (k_mword dm hm (by omega) ⟨by rw [dw]; exact h2 q, rfl⟩), fun q2 => ⟨fun q => vd_X7_tailsIn_0 x rx E _ _ (k_mword dm hm (by omega) (k_mword dm hm (by omega) ?_)), fun q3 => ⟨fun q => k_mword dm hm (by omega) ?_, fun q4 => ⟨h5 (by omega), rfl⟩⟩⟩⟩⟩⟩, fun q => by omega⟩) (fun q => by exfalso; omega)
      · rw [dw, dw]
        exact ⟨⟨by omega, by omega⟩, by omega, ⟨by omega, by omega⟩, h3 q, rfl⟩
      · have := mw_le g4 x 6
        rw [dw]
        exact ⟨⟨by omega, by omega⟩, h4 q, rfl⟩
    have f6 := ci.2.2.2.2 4 (by decide) (by decide)
    refine ⟨fun q => ref _ (fun _ => cn) ?_ ?_ ?_ ?_ ?_, fun q0 => ⟨fun q => ref _ ?_ (fun _ => c2) ?_ ?_ ?_ ?_, fun q1 => ⟨fun q => ref _ ?_ ?_ (fun _ => c3) ?_ ?_ ?_, fun q2 => ⟨fun q => k_tailBlocks ci (by omega) (ref _ ?_ ?_ ?_ (fun _ => by rw [c6, c7]) ?_ ?_), fun q3 => ⟨fun q => ⟨⟨by omega, by omega⟩, ref _ ?_ ?_ ?_ ?_ (fun _ => by rw [c4]) ?_⟩, fun q4 => ref _ ?_ ?_ ?_ ?_ ?_ (fun _ => rfl)⟩⟩⟩⟩⟩ <;> (intro z; exfalso; omega)
  · refine vd_X7_image_0 x rx y ry E A _ (fun A1 e1 => ?_)
    rw [← hD] at e1 ⊢
    subst e1
    exact k_isImage rx (by omega) (fun _ _ => by exfalso; omega) (fun _ => ⟨fun z => absurd rfl z, fun _ => ⟨rfl, rfl⟩⟩)
theorem p_node {x k y : Int} (rx : jW x) (rk : jW k) (ry : jW y) {E : jE} {A : jA} (T : GI A) : jrI 130 0 [some (.ref 1), some (.int (jI x)), some (.int (jI k)), some (.int (jI y)), none] [] E A (fun v B => jrI 188 0 [some (.ref 49), some (.int (jI x)), some (.int (jI k)), some (.int (jI y))] [] E B (fun w C => v = w ∧ C = jup A 49 0 0)) := by
  obtain ⟨g1, g2, g3, g4, g5, g6⟩ := id T
  obtain ⟨D, hD⟩ : ∃ D, D = jup A 49 0 0 := ⟨_, rfl⟩
  have d11 : D 49 11 = A 1 6 := by rw [hD, jup_ne (by decide)]; exact g1
  have d58 : D 58 = A 58 := by rw [hD]; exact jup_row (by decide)
  have dm : MB D := by unfold MB; rw [d58]; exact g4
  have dw : ∀ m z, mw D m z = uw (mb A m) z := fun m z => by unfold mw uw mb; rw [d58]
  have db : ∀ m z, mb D m z = mb A m z := fun m z => by unfold mb; rw [d58]
  have dr : ∀ m z, mRow D m z = uRow (mb A m) z := fun m z => by unfold mRow uRow; rw [dw, dw, dw]
  refine vd_X6_node_0 x rx k rk y ry E A _ (k_hasImage rx (fun a b => ⟨fun _ => ⟨by omega, ?_⟩, fun q => by omega⟩) (fun q => ⟨fun z => absurd rfl z, fun _ => ?_⟩))
  · obtain ⟨c1, V⟩ := g6 x a b
    have hb := g4.u x
    obtain ⟨u, hu⟩ : ∃ u, u = mb A x := ⟨_, rfl⟩
    obtain ⟨ci, cn, cu, c2, c3, c4, c5, c6, c7⟩ := id c1
    have hm : 0 ≤ x ∧ x ≤ 2 := by omega
    have w4 := uw_le hb 4
    have ref : ∀ v : Int, (¬ (1 ≤ k ∧ k ≤ uw (mb A x) 4 ∧ 0 ≤ y ∧ y ≤ 4) → v = -2) → (1 ≤ k → k ≤ uw (mb A x) 4 → (y = 0 → v = uKind (mb A x) k) ∧ (y = 1 → v = uw (mb A x) (uRow (mb A x) k + 1)) ∧ (y = 2 → v = uw (mb A x) (uRow (mb A x) k + 3)) ∧ (y = 3 → v = mb A x (uRow (mb A x) k + 5)) ∧ (y = 4 → v = if uKind (mb A x) k = 2 then uw (mb A x) (uRow (mb A x) k + 6) else if uKind (mb A x) k = 1 then uw (mb A x) (uRow (mb A x) k + 8) else 0)) → jrI 188 0 [some (.ref 49), some (.int (jI x)), some (.int (jI k)), some (.int (jI y))] [] E A (fun w C => v = w ∧ C = jup A 49 0 0) := by
      intro v h1 h2
      refine vd_X7_node_0 x rx k rk y ry E A _ (fun A1 e1 => ?_)
      rw [← hD] at e1 ⊢
      subst e1
      refine k_isImage rx (by omega) (fun _ _ => ⟨fun _ => vd_X7_numbersIn_0 x rx E _ _ (k_mword dm hm (by omega) ?_), fun q => by omega⟩) (fun q => by exfalso; omega)
      rw [dw]
      refine k_in rk (by decide) ⟨by omega, by omega⟩ (fun p1 p2 => ⟨fun z => by omega, fun _ => ?_⟩) (fun q => ⟨fun _ => ⟨h1 (by omega), rfl⟩, fun z => absurd rfl z⟩)
      refine k_in ry (by decide) (by decide) (fun s1 s2 => ⟨fun z => by omega, fun _ => ?_⟩) (fun q => ⟨fun _ => ⟨h1 (by omega), rfl⟩, fun z => absurd rfl z⟩)
      obtain ⟨t0, t1, t2, t3, t4⟩ := h2 p1 p2
      obtain ⟨b1, b2, b3, b4, b5, b6, b7⟩ := V.row hb p1 p2
      have hn := V.1.2.1
      refine vd_X7_told_0 x rx k rk y ry E _ _ (k_inode dm hm ⟨p1, by rw [dw]; omega⟩ ?_)
      rw [dr]
      refine k_mbyteAt hm (by omega) ⟨fun q => ⟨by rw [db]; exact t0 q, rfl⟩, fun q0 => ⟨fun q => k_mword dm hm (by omega) ⟨by rw [dw]; exact t1 q, rfl⟩, fun q1 => ⟨fun q => k_mword dm hm (by omega) ⟨by rw [dw]; exact t2 q, rfl⟩, fun q2 => ⟨fun q => k_mbyteAt hm (by omega) ⟨by rw [db]; exact t3 q, rfl⟩, fun q3 => ?_⟩⟩⟩⟩
      have t := t4 (by omega)
      rw [db]
      refine ⟨fun q => ⟨fun q5 => ⟨?_, rfl⟩, fun q5 => k_mword dm hm (by have := b7 (by unfold uKind; omega); omega) ⟨?_, rfl⟩⟩, fun q => k_mword dm hm (by have := b7 (by unfold uKind; omega); omega) ⟨?_, rfl⟩⟩
      · unfold uKind at t; rwa [if_neg q5, if_neg q] at t
      · unfold uKind at t; rw [dw]; rwa [if_pos q5] at t
      · unfold uKind at t; rw [dw]; rwa [if_neg (by omega), if_pos q] at t
    refine k_hasNumber ci rk (fun p1 p2 => ⟨fun _ => ?_, fun q => by omega⟩) (fun q => ⟨fun z => absurd rfl z, fun _ => ref _ (fun _ => rfl) (fun z1 z2 => by exfalso; omega)⟩)
    rw [c3] at p2
    obtain ⟨b1, b2, b3, b4, b5, b6, b7⟩ := V.row hb p1 p2
    have hn := V.1.2.1
    have sk : jS k := ⟨by omega, by omega⟩
    have rr : cRow A (13 + 2 * x.toNat) k = uRow (mb A x) k := c1.row hb p1 (by omega)
    have kk : cKind A (13 + 2 * x.toNat) k = uKind (mb A x) k := by unfold cKind uKind; rw [rr]; exact c1.b (by omega) (by omega)
    refine ⟨fun q => k_kindOf ci sk (ref _ (fun z => by exfalso; omega) (fun _ _ => ⟨fun _ => kk, ?_, ?_, ?_, ?_⟩)), fun q0 => ⟨fun q => k_modeOf ci sk (ref _ (fun z => by exfalso; omega) (fun _ _ => ⟨?_, fun _ => by rw [rr]; exact c1.w (by omega) (by omega), ?_, ?_, ?_⟩)), fun q1 => ⟨fun q => k_ownerOf ci sk (ref _ (fun z => by exfalso; omega) (fun _ _ => ⟨?_, ?_, fun _ => by rw [rr]; exact c1.w (by omega) (by omega), ?_, ?_⟩)), fun q2 => ⟨fun q => k_inamesOf ci sk (ref _ (fun z => by exfalso; omega) (fun _ _ => ⟨?_, ?_, ?_, fun _ => by rw [rr]; exact c1.b (by omega) (by omega), ?_⟩)), fun q3 => ⟨fun q => k_sizeOf ci sk (ref _ (fun z => by exfalso; omega) (fun _ _ => ⟨?_, ?_, ?_, ?_, fun _ => ?_⟩)), fun q4 => ref _ (fun _ => rfl) (fun _ _ => ⟨?_, ?_, ?_, ?_, ?_⟩)⟩⟩⟩⟩⟩
    all_goals first
      | (intro z; exfalso; omega)
      | skip
    unfold cSize
    rw [kk, rr]
    by_cases e2 : uKind (mb A x) k = 2
    · rw [if_pos e2, if_pos e2]
      have := b7 (by omega)
      exact c1.w (by omega) (by omega)
    · rw [if_neg e2, if_neg e2]
      by_cases e1 : uKind (mb A x) k = 1
      · rw [if_pos e1, if_pos e1]
        have := b7 (by omega)
        exact c1.w (by omega) (by omega)
      · rw [if_neg e1, if_neg e1]
  · refine vd_X7_node_0 x rx k rk y ry E A _ (fun A1 e1 => ?_)
    rw [← hD] at e1 ⊢
    subst e1
    exact k_isImage rx (by omega) (fun _ _ => by exfalso; omega) (fun _ => ⟨fun z => absurd rfl z, fun _ => ⟨rfl, rfl⟩⟩)
