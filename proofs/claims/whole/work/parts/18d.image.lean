/-! THE IMAGES ON BOTH SIDES: same, drop -/
theorem k_hasBytesOf {c d : Nat} {E : jE} {A : jA} (hc : IM A c) (hd : IM A d) {K : Int → jA → Prop} (h1 : A c 1 = A d 1 → (∀ k, 0 ≤ k → k < A c 1 → A (c + 1) k = A (d + 1) k) → K 1 A) (h0 : ¬ (A c 1 = A d 1 ∧ ∀ k, 0 ≤ k → k < A c 1 → A (c + 1) k = A (d + 1) k) → K 0 A) : jrI 26 0 [some (.ref c), some (.ref d), none] [] E A K := by
  have lc := hc.len
  have h3 := hc.2.2.1
  have h4 := hd.2.2.1
  refine vd_X1_hasBytesOf_0 c hc.1 d hd.1 E A K ⟨fun q => ?_, fun q => h0 (fun z => q z.1)⟩
  refine j_loop (P := fun i => 0 ≤ i → i ≤ A c 1 → (∀ k, 0 ≤ k → k < i → A (c + 1) k = A (d + 1) k) → jrI 26 15 [some (.ref c), some (.ref d), some (.int (jI i))] [] E A K) (A c 1) (fun i ih i0 i1 hi => ?_) 0 (by omega) (by omega) (fun k a b => by omega)
  refine vd_X1_hasBytesOf_15 c hc.1 d hd.1 i ⟨by omega, by omega⟩ E A K ⟨fun q2 => ?_, fun q2 => ⟨by omega, by omega, fun q3 => ih q2 (by omega) (by omega) (fun k k0 k1 => ?_), fun q3 => h0 (fun z => q3 (z.2 i i0 q2))⟩⟩
  · exact h1 q (fun k k0 k1 => hi k k0 (by omega))
  · by_cases e : k = i
    · rw [e]; exact q3
    · exact hi k k0 (by omega)
/-- the reference's comparison -/
theorem k_msame {x y b : Int} (hx : 0 ≤ x ∧ x ≤ 2) (hy : 0 ≤ y ∧ y ≤ 2) {E : jE} {A : jA} (hl : 0 ≤ A 59 x ∧ A 59 x ≤ 6000) (hb : b = 0 ∨ b = 1) {K : Int → jA → Prop} (h1 : b = 1 → (∀ k, 0 ≤ k → k < A 59 x → mb A x k = mb A y k) → K 1 A) (h0 : ¬ (b = 1 ∧ ∀ k, 0 ≤ k → k < A 59 x → mb A x k = mb A y k) → K 0 A) : jrI 199 43 [some (.ref 49), some (.int (jI x)), some (.int (jI y)), none, none] [.int (jI b)] E A K := by
  have rb : jW b := ⟨by omega, by omega⟩
  have rx : jW x := ⟨by omega, by omega⟩
  have ry : jW y := ⟨by omega, by omega⟩
  refine vd_X7_same_43 x rx y ry b rb E A K ?_
  refine j_loop (P := fun i => ∀ d : Int, 0 ≤ i → i ≤ A 59 x → (d = 0 ∨ d = 1) → (d = 1 ↔ b = 1 ∧ ∀ k, 0 ≤ k → k < i → mb A x k = mb A y k) → jrI 199 47 [some (.ref 49), some (.int (jI x)), some (.int (jI y)), some (.int (jI d)), some (.int (jI i))] [] E A K) (A 59 x) (fun i ih d i0 i1 hd hi => ?_) 0 b (by omega) (by omega) hb ⟨fun q => ⟨q, fun k a c => by omega⟩, fun q => q.1⟩
  have rd : jW d := ⟨by omega, by omega⟩
  have ri : jW i := ⟨by omega, by omega⟩
  refine vd_X7_same_47 x rx y ry d rd i ri E A K ⟨by omega, fun q => vd_X7_same_91 d rd E A K ⟨fun q2 => h0 (fun z => ?_), fun q2 => ?_⟩, fun q => ⟨fun q2 => vd_X7_same_91 d rd E A K ⟨fun _ => h0 (fun z => ?_), fun z => absurd q2 z⟩, fun q2 => k_mbyteAt hx (by omega) (k_mbyteAt hy (by omega) ⟨fun q3 => ?_, fun q3 => ?_⟩)⟩⟩
  · have := hi.mpr ⟨z.1, fun k a c => z.2 k a (by omega)⟩
    omega
  · obtain ⟨a, c⟩ := hi.mp (by omega)
    exact h1 a (fun k k0 k1 => c k k0 (by omega))
  · have := hi.mpr ⟨z.1, fun k a c => z.2 k a (by omega)⟩
    omega
  · refine vd_X7_same_84 x rx y ry i ri 0 (by decide) E A K (ih q 0 (by omega) (by omega) (Or.inl rfl) ⟨fun z => absurd z (by decide), fun z => absurd (z.2 i i0 (by omega)) q3⟩)
  · refine vd_X7_same_84 x rx y ry i ri 1 (by decide) E A K (ih q 1 (by omega) (by omega) (Or.inr rfl) ⟨fun _ => ?_, fun _ => rfl⟩)
    obtain ⟨a, c⟩ := hi.mp (by omega)
    refine ⟨a, fun k k0 k1 => ?_⟩
    by_cases e : k = i
    · rw [e]; exact q3
    · exact c k k0 (by omega)
theorem p_same {x y : Int} (rx : jW x) (ry : jW y) {E : jE} {A : jA} (T : GI A) : jrI 135 0 [some (.ref 1), some (.int (jI x)), some (.int (jI y))] [] E A (fun v B => jrI 199 0 [some (.ref 49), some (.int (jI x)), some (.int (jI y)), none, none] [] E B (fun w C => v = w ∧ C = jup A 49 0 0)) := by
  obtain ⟨g1, g2, g3, g4, g5, g6⟩ := id T
  obtain ⟨D, hD⟩ : ∃ D, D = jup A 49 0 0 := ⟨_, rfl⟩
  have d11 : D 49 11 = A 1 6 := by rw [hD, jup_ne (by decide)]; exact g1
  have d58 : D 58 = A 58 := by rw [hD]; exact jup_row (by decide)
  have d59 : D 59 = A 59 := by rw [hD]; exact jup_row (by decide)
  have db : ∀ m z, mb D m z = mb A m z := fun m z => by unfold mb; rw [d58]
  have bad : ¬ (0 ≤ x ∧ x < A 1 6) ∨ ¬ (0 ≤ y ∧ y < A 1 6) → jrI 199 0 [some (.ref 49), some (.int (jI x)), some (.int (jI y)), none, none] [] E A (fun w C => -1 = w ∧ C = jup A 49 0 0) := by
    intro h
    refine vd_X7_same_0 x rx y ry E A _ (fun A1 e1 => ?_)
    rw [← hD] at e1 ⊢
    subst e1
    exact k_isImage rx (by omega) (fun _ _ => ⟨fun z => by omega, fun _ => k_isImage ry (by omega) (fun _ _ => by exfalso; omega) (fun _ => ⟨fun z => absurd rfl z, fun _ => ⟨rfl, rfl⟩⟩)⟩) (fun _ => ⟨fun _ => ⟨rfl, rfl⟩, fun z => absurd rfl z⟩)
  refine vd_X6_same_0 x rx y ry E A _ (k_hasImage rx (fun a b => ⟨fun q => by omega, fun _ => ?_⟩) (fun q => ⟨fun _ => bad (Or.inl q), fun z => absurd rfl z⟩))
  refine k_hasImage ry (fun a' b' => ⟨fun _ => ⟨by omega, by omega, ?_⟩, fun q => by omega⟩) (fun q => ⟨fun z => absurd rfl z, fun _ => bad (Or.inr q)⟩)
  obtain ⟨c1, V1⟩ := g6 x a b
  obtain ⟨c2, V2⟩ := g6 y a' b'
  have n1 := V1.1.2.1
  have n0 := V1.1.1
  have ref : ∀ v : Int, (v = 0 ∨ v = 1) → (v = 1 ↔ A 59 x = A 59 y ∧ ∀ k, 0 ≤ k → k < A 59 x → mb A x k = mb A y k) → jrI 199 0 [some (.ref 49), some (.int (jI x)), some (.int (jI y)), none, none] [] E A (fun w C => v = w ∧ C = jup A 49 0 0) := by
    intro v hv hi
    refine vd_X7_same_0 x rx y ry E A _ (fun A1 e1 => ?_)
    rw [← hD] at e1 ⊢
    subst e1
    refine k_isImage rx (by omega) (fun _ _ => ⟨fun z => by omega, fun _ => ?_⟩) (fun q => by exfalso; omega)
    refine k_isImage ry (by omega) (fun _ _ => ⟨fun _ => ⟨by omega, by omega, fun q => ?_, fun q => ?_⟩, fun z => by omega⟩) (fun q => by exfalso; omega)
    · refine k_msame ⟨a, by omega⟩ ⟨a', by omega⟩ (by rw [d59]; omega) (Or.inl rfl) (fun z => absurd z (by decide)) (fun _ => ⟨?_, rfl⟩)
      rw [d59] at q
      rcases hv with h | h
      · exact h
      · exact absurd (hi.mp h).1 q
    · rw [d59] at q
      refine k_msame ⟨a, by omega⟩ ⟨a', by omega⟩ (by rw [d59]; omega) (Or.inr rfl) (fun _ z => ⟨?_, rfl⟩) (fun z => ⟨?_, rfl⟩)
      · refine hi.mpr ⟨q, fun k k0 k1 => ?_⟩
        have := z k k0 (by rw [d59]; exact k1)
        rwa [db, db] at this
      · rcases hv with h | h
        · exact h
        · refine absurd ⟨rfl, fun k k0 k1 => ?_⟩ z
          rw [db, db]
          rw [d59] at k1
          exact (hi.mp h).2 k k0 k1
  obtain ⟨i1, l1, u1, -⟩ := c1
  obtain ⟨i2, l2, u2, -⟩ := c2
  refine k_hasBytesOf i1 i2 (fun e g => ⟨fun z => absurd z (by decide), fun _ => ref 1 (Or.inr rfl) ⟨fun _ => ⟨by omega, fun k k0 k1 => ?_⟩, fun _ => rfl⟩⟩) (fun q => ⟨fun _ => ref 0 (Or.inl rfl) ⟨fun z => absurd z (by decide), fun z => absurd ?_ q⟩, fun z => absurd rfl z⟩)
  · rw [← u1 k k0 k1, ← u2 k k0 (by omega)]
    exact g k k0 (by omega)
  · refine ⟨by omega, fun k k0 k1 => ?_⟩
    rw [u1 k k0 (by omega), u2 k k0 (by omega)]
    exact z.2 k k0 (by omega)
/-- what is laid, on both sides -/
def LR (E : jE) (A : jA) : Prop := A 49 35 = A 38 10 ∧ 0 ≤ A 38 10 ∧ A 38 10 ≤ 3 ∧ (∀ i, 0 ≤ i → i < A 38 10 → A 74 i = A 39 i ∧ 0 ≤ A 39 i ∧ A 39 i < A 1 6 ∧ E.2.1 i.toNat = 13 + 2 * (A 39 i).toNat) ∧ (∀ i j, 0 ≤ i → i < j → j < A 38 10 → A 39 i ≠ A 39 j) ∧ ∀ k, k < 3 → jim (E.2.1 k)
theorem k_isLaid {x : Int} (rx : jW x) {E : jE} {A : jA} (hn : 0 ≤ A 38 10 ∧ A 38 10 ≤ 3) {K : Int → jA → Prop} (h1 : (∃ i, 0 ≤ i ∧ i < A 38 10 ∧ A 39 i = x) → K 1 A) (h0 : (∀ i, 0 ≤ i → i < A 38 10 → A 39 i ≠ x) → K 0 A) : jrI 74 0 [some (.ref 38), some (.int (jI x)), none] [] E A K := by
  refine vd_X3_isLaid_0 x rx E A K ?_
  refine j_loop (P := fun i => 0 ≤ i → i ≤ A 38 10 → (∀ k, 0 ≤ k → k < i → A 39 k ≠ x) → jrI 74 2 [some (.ref 38), some (.int (jI x)), some (.int (jI i))] [] E A K) (A 38 10) (fun i ih i0 i1 hi => ?_) 0 (by omega) (by omega) (fun k a b => by omega)
  refine vd_X3_isLaid_2 x rx i ⟨by omega, by omega⟩ E A K ⟨fun q => h0 (fun k k0 k1 => hi k k0 (by omega)), fun q => ⟨by omega, fun q2 => ih q (by omega) (by omega) (fun k k0 k1 => ?_), fun q2 => h1 ⟨i, i0, q, q2⟩⟩⟩
  by_cases e : k = i
  · rw [e]; exact q2
  · exact hi k k0 (by omega)
theorem k_misLaid {x : Int} (rx : jW x) {E : jE} {A : jA} (hn : 0 ≤ A 49 35 ∧ A 49 35 ≤ 3) {K : Int → jA → Prop} (h1 : (∃ i, 0 ≤ i ∧ i < A 49 35 ∧ A 74 i = x) → K 1 A) (h0 : (∀ i, 0 ≤ i → i < A 49 35 → A 74 i ≠ x) → K 0 A) : jrI 166 0 [some (.ref 49), some (.int (jI x)), none, none] [] E A K := by
  refine vd_X7_isLaid_0 x rx E A K ?_
  refine j_loop (P := fun i => ∀ b : Int, 0 ≤ i → i ≤ A 49 35 → (b = 0 ∧ (∀ k, 0 ≤ k → k < i → A 74 k ≠ x) ∨ b = 1 ∧ ∃ k, 0 ≤ k ∧ k < i ∧ A 74 k = x) → jrI 166 4 [some (.ref 49), some (.int (jI x)), some (.int (jI b)), some (.int (jI i))] [] E A K) (A 49 35) (fun i ih b i0 i1 hb => ?_) 0 0 (by omega) (by omega) (Or.inl ⟨rfl, fun k a b => by omega⟩)
  have ri : jW i := ⟨by omega, by omega⟩
  have rb : jW b := by rcases hb with h | h <;> (rw [h.1]; decide)
  have go1 : i < A 49 35 → (∃ k, 0 ≤ k ∧ k < i + 1 ∧ A 74 k = x) → jrI 166 26 [some (.ref 49), some (.int (jI x)), none, some (.int (jI i))] [] E A K := fun q hk => vd_X7_isLaid_26 x rx i ri E A K (vd_X7_isLaid_31 x rx i ri 1 (by decide) E A K (ih q 1 (by omega) (by omega) (Or.inr ⟨rfl, hk⟩)))
  refine vd_X7_isLaid_4 x rx b rb i ri E A K ⟨fun q => ?_, fun q => ⟨fun q2 => go1 q ?_, fun q2 => ⟨by omega, fun q3 => vd_X7_isLaid_31 x rx i ri 0 (by decide) E A K (ih q 0 (by omega) (by omega) (Or.inl ⟨rfl, ?_⟩)), fun q3 => go1 q ⟨i, i0, by omega, q3⟩⟩⟩⟩
  · have e : i = A 49 35 := by omega
    subst e
    rcases hb with h | h
    · rw [h.1]; exact ⟨Or.inl rfl, h0 h.2⟩
    · rw [h.1]; exact ⟨Or.inr rfl, h1 h.2⟩
  · grind
  · grind
theorem p_drop {E : jE} {A : jA} (T : GI A) (hl : LR E A) : jrI 114 0 [some (.ref 1)] [] E A (fun v B => jrI 150 0 [some (.ref 49)] [] E B (fun w C => v = w ∧ (C = jup A 49 0 0 ∨ A 1 6 ≠ 0 ∧ (∀ i, 0 ≤ i → i < A 38 10 → A 39 i ≠ A 1 6 - 1) ∧ C = jup (jup (jup A 1 6 (A 1 6 - 1)) 49 0 0) 49 11 (A 1 6 - 1)))) := by
  obtain ⟨g1, g2, g3, -⟩ := id T
  obtain ⟨l1, l2, l3, l4, -⟩ := id hl
  obtain ⟨D, hD⟩ : ∃ D, D = jup A 49 0 0 := ⟨_, rfl⟩
  have d11 : D 49 11 = A 1 6 := by rw [hD, jup_ne (by decide)]; exact g1
  have d35 : D 49 35 = A 38 10 := by rw [hD, jup_ne (by decide)]; exact l1
  have d74 : D 74 = A 74 := by rw [hD]; exact jup_row (by decide)
  have bad : (A 1 6 ≠ 0 → ∃ i, 0 ≤ i ∧ i < A 38 10 ∧ A 39 i = A 1 6 - 1) → jrI 150 0 [some (.ref 49)] [] E A (fun w C => -3 = w ∧ (C = jup A 49 0 0 ∨ A 1 6 ≠ 0 ∧ (∀ i, 0 ≤ i → i < A 38 10 → A 39 i ≠ A 1 6 - 1) ∧ C = jup (jup (jup A 1 6 (A 1 6 - 1)) 49 0 0) 49 11 (A 1 6 - 1))) := by
    intro h
    refine vd_X7_drop_0 E A _ (fun A1 e1 => ?_)
    rw [← hD] at e1 ⊢
    subst e1
    rw [d11]
    refine ⟨fun _ => ⟨rfl, Or.inl rfl⟩, fun q => k_misLaid ⟨by omega, by omega⟩ (by omega) (fun _ => ⟨fun z => absurd z (by decide), fun _ => ⟨rfl, Or.inl rfl⟩⟩) (fun z => ?_)⟩
    obtain ⟨i, i0, i1, e⟩ := h q
    have := z i i0 (by omega)
    rw [d74, (l4 i i0 i1).1] at this
    exact absurd e this
  refine vd_X6_drop_0 E A _ ⟨fun q => bad (fun z => absurd q z), fun q => k_isLaid ⟨by omega, by omega⟩ ⟨l2, l3⟩ (fun h => ⟨fun z => absurd z (by decide), fun _ => bad (fun _ => h)⟩) (fun h => ⟨fun _ => ⟨⟨by omega, by omega⟩, fun A6 e6 => ?_⟩, fun z => absurd rfl z⟩)⟩
  have q6 : A6 1 6 = A 1 6 - 1 := by rw [e6, jup_at]
  rw [q6]
  refine vd_X7_drop_0 E A6 _ (fun A1 e1 => ?_)
  have a11 : A1 49 11 = A 1 6 := by rw [e1, jup_ne (by decide), e6, jup_row (by decide)]; exact g1
  have a35 : A1 49 35 = A 38 10 := by rw [e1, jup_ne (by decide), e6, jup_row (by decide)]; exact l1
  have a74 : A1 74 = A 74 := by rw [e1, jup_row (by decide), e6, jup_row (by decide)]
  rw [a11]
  refine ⟨fun z => absurd z q, fun _ => k_misLaid ⟨by omega, by omega⟩ (by omega) (fun z => ?_) (fun _ => ⟨fun _ => ?_, fun z => absurd rfl z⟩)⟩
  · obtain ⟨i, i0, i1, e⟩ := z
    rw [a74, (l4 i i0 (by omega)).1] at e
    exact absurd e (h i i0 (by omega))
  · rw [a11]
    refine ⟨⟨by omega, by omega⟩, fun A9 e9 => ⟨by rw [e9, jup_at], Or.inr ⟨q, h, ?_⟩⟩⟩
    rw [e9, e1, e6]
