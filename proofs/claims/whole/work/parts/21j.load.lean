theorem p_load {E : jE} {A : jA} (I : INV E A) : jrI 128 0 [some (.ref 1), none] [] E A (fun v B => jrI 178 0 [some (.ref 49), none] [] E B (fun w C => v = w ∧ INV E C)) := by
  obtain ⟨T, P, G, hl, W⟩ := I
  obtain ⟨g1, g2, g3, g4, g5, g6⟩ := G
  obtain ⟨p1, p2, p3, p4⟩ := P
  refine vd_X6_load_0 E A _ ⟨fun q => ?_, fun q => ?_⟩
  rotate_left
  · -- no room
    refine vd_X7_load_0 E A _ (fun A1 e1 => ?_)
    subst e1
    have t11 : jup A 49 0 0 49 11 = 3 := by rw [jup_ne (by decide)]; omega
    exact ⟨fun z => absurd t11 z, fun _ => ⟨rfl, T.thr, TP.thr ⟨p1, p2, p3, p4⟩, GI.thr ⟨g1, g2, g3, g4, g5, g6⟩, hl.thr, W.thr⟩⟩
  obtain ⟨m, em⟩ : ∃ m, m = A 1 6 := ⟨_, rfl⟩
  obtain ⟨n, en⟩ : ∃ n, n = A 19 1 := ⟨_, rfl⟩
  rw [← em] at q g1 g2 g3 g6
  rw [← en] at p1 p2 p3 p4
  have hm : 0 ≤ m ∧ m ≤ 2 := by omega
  obtain ⟨hc, hc17, hN⟩ := jim_c hm
  have hI19 := g5 19 (.inr (.inr (.inr (.inl rfl))))
  have hb20 := hI19.2.2.2.1
  -- the bytes that both judge
  obtain ⟨u, eu⟩ : ∃ u : Int → Int, u = fun x => if 0 ≤ x ∧ x < n then A 20 x else mb A m x := ⟨_, rfl⟩
  have hu : ∀ x, 0 ≤ x → x < n → A 20 x = u x := fun x a b => by rw [eu]; exact (if_pos ⟨a, b⟩).symm
  have hub : UB u := fun x => by
    rw [eu]; dsimp only
    split
    · exact hb20 x
    · exact g4.u m x
  refine k_firstFault hI19 en.symm p3 hub hu (fun w f hw => ?_)
  have wl := hw.le
  obtain ⟨B, eB⟩ : ∃ B, B = nset (cHead A 19) f := ⟨_, rfl⟩
  rw [← eB]
  have bo : ∀ o, o ≠ 19 → o ≠ 37 → B o = A o := fun o h1 h2 => by rw [eB, nset_row h2, cHead_row h1]
  have b19 : B 19 = cHead A 19 19 := by rw [eB, nset_row (by decide)]
  have b191 : B 19 1 = n := by rw [b19, cHead_1]; exact en.symm
  have iB19 : IM B 19 := by
    have := cHead_IM hI19
    unfold IM at this ⊢
    rw [b19, bo (19 + 1) (by decide) (by decide), ← cHead_row (A := A) (c := 19) (o := 19 + 1) (by decide)]; exact this
  have iB : ∀ c, jim c → IM B c := fun c hc => by
    by_cases e : c = 19
    · rw [e]; exact iB19
    · have := g5 c hc
      unfold IM at this ⊢
      rw [bo c e (by rcases hc with h | h | h | h | h <;> omega), bo (c + 1) (by rcases hc with h | h | h | h | h <;> omega) (by rcases hc with h | h | h | h | h <;> omega)]; exact this
  -- the reference, from a table that agrees with A where it reads
  have ref : ∀ (X : jA) (v : Int), (∀ o, 38 ≤ o → o ≠ 47 → o ≠ 48 → X o = A o) → (∀ C, (w = 0 → v = m ∧ C = jup (jup (jup (mcp (jup X 49 0 0) m n) 59 m n) 49 34 0) 49 11 (m + 1)) → (w ≠ 0 → v = -10 - w ∧ C = jup (jup (mcp (jup X 49 0 0) m n) 59 m n) 49 34 0) → MB (jup (jup (mcp (jup X 49 0 0) m n) 59 m n) 49 34 0) → mb (jup (jup (mcp (jup X 49 0 0) m n) 59 m n) 49 34 0) m = u → INV E C) → (w = 0 → v = m) → (w ≠ 0 → v = -10 - w) → jrI 178 0 [some (.ref 49), none] [] E X (fun w' C => v = w' ∧ INV E C) := fun X v hX hC v0 v1 => by
    refine vd_X7_load_0 E X _ (fun A1 e1 => ?_)
    subst e1
    have x49 : ∀ k, k ≠ 0 → jup X 49 0 0 49 k = A 49 k := fun k hk => by rw [jup_ne hk, hX 49 (by decide) (by decide) (by decide)]
    have xo : ∀ o, 38 ≤ o → o ≠ 47 → o ≠ 48 → o ≠ 49 → jup X 49 0 0 o = A o := fun o h1 h2 h3 h4 => by rw [jup_row h4, hX o h1 h2 h3]
    have t11 : jup X 49 0 0 49 11 = m := by rw [x49 11 (by decide)]; exact g1
    have eU : mb (jup (jup (mcp (jup X 49 0 0) m n) 59 m n) 49 34 0) m = u := by
      funext x
      rw [eu]; unfold mb
      rw [jup_row (by decide), jup_row (by decide)]
      simp only [mcp]
      rw [xo 73 (by decide) (by decide) (by decide) (by decide), xo 58 (by decide) (by decide) (by decide) (by decide)]
      by_cases hx : 0 ≤ x ∧ x < n
      · rw [if_pos (by omega), if_pos ⟨trivial, by omega, by omega⟩, if_pos hx, show 6000 * m + x - 6000 * m = x by omega, (p4 x hx.1 hx.2).1]
      · rw [if_neg hx]
        by_cases h6 : 0 ≤ x ∧ x < 6000
        · rw [if_pos h6, if_pos h6, if_neg (by omega)]
        · rw [if_neg h6, if_neg h6]
    refine ⟨fun _ => ?_, fun z => by omega⟩
    refine k_mload hm t11 (by rw [x49 34 (by decide)]; exact p1) ⟨p2, p3⟩ (fun x a b => by rw [xo 73 (by decide) (by decide) (by decide) (by decide), (p4 x a b).1]; exact (p4 x a b).2) (fun k => by rw [xo 58 (by decide) (by decide) (by decide) (by decide)]; exact g4 k) (fun w' hb' hw' => ?_)
    rw [eU] at hw'
    have ew := hw'.one hw
    subst ew
    exact ⟨fun z => ⟨v0 z, hC _ (fun _ => ⟨v0 z, rfl⟩) (fun y => absurd z y) hb' eU⟩, fun z => ⟨v1 z, hC _ (fun y => absurd y z) (fun _ => ⟨v1 z, rfl⟩) hb' eU⟩⟩
  refine ⟨fun w0 => ?_, fun w0 => ?_⟩
  · -- a fault
    refine vd_X6_load_53 w ⟨by omega, by omega⟩ E B _ (fun A1 e1 => ⟨fun _ => ⟨⟨by omega, by omega⟩, ?_⟩, fun z => absurd z w0⟩)
    refine ref A1 _ (fun o h1 h2 h3 => by rw [e1, jup_row (by omega), bo o (by omega) (by omega)]) (fun C _ hC1 hMB hU => ?_) (fun z => absurd z w0) (fun _ => rfl)
    obtain ⟨-, eC⟩ := hC1 w0
    have co : ∀ o, o ≠ 19 → o ≠ 37 → o ≠ 49 → o ≠ 58 → o ≠ 59 → C o = A o := fun o h1 h2 h3 h4 h5 => by
      rw [eC, jup_row h3, jup_row h5, mcp_row h4, jup_row h3, e1, jup_row h1, bo o h1 h2]
    have c49 : ∀ k, k ≠ 0 → k ≠ 34 → C 49 k = A 49 k := fun k h1 h2 => by
      rw [eC, jup_ne h2, jup_row (by decide), mcp_row (by decide), jup_ne h1, e1, jup_row (by decide), bo 49 (by decide) (by decide)]
    have c34 : C 49 34 = 0 := by rw [eC, jup_at]
    have c191 : C 19 1 = 0 := by rw [eC, jup_row (by decide), jup_row (by decide), mcp_row (by decide), jup_row (by decide), e1, jup_at]
    have c19 : ∀ k, k ≠ 1 → C 19 k = B 19 k := fun k hk => by rw [eC, jup_row (by decide), jup_row (by decide), mcp_row (by decide), jup_row (by decide), e1, jup_ne hk]
    have c58 : ∀ j, ¬ (6000 * m ≤ j ∧ j < 6000 * m + 6000) → C 58 j = A 58 j := fun j hj => by
      rw [eC, jup_row (by decide), jup_row (by decide)]; simp only [mcp]; rw [if_neg (by omega), jup_row (by decide), e1, jup_row (by decide), bo 58 (by decide) (by decide)]
    have c59 : ∀ j, j ≠ m → C 59 j = A 59 j := fun j hj => by rw [eC, jup_row (by decide), jup_ne hj, mcp_row (by decide), jup_row (by decide), e1, jup_row (by decide), bo 59 (by decide) (by decide)]
    have cMB : MB C := by rw [eC]; exact hMB
    have cmb : ∀ m', m' ≠ m → mb C m' = mb A m' := fun m' hne => mb_other c58 hne
    refine ⟨T.fr (fun a h => co a (by omega) (by omega) (by omega) (by omega) (by omega)) (c49 1 (by decide) (by decide)) (c49 7 (by decide) (by decide)), ⟨by rw [c34, c191], by rw [c191]; omega, by rw [c191]; omega, fun k a b => by rw [c191] at b; omega⟩, ⟨?_, ?_, ?_, cMB, fun c hc => ?_, fun m' a b => ?_⟩, hl.fr (by rw [co 38 (by decide) (by decide) (by decide) (by decide) (by decide)]) (co 39 (by decide) (by decide) (by decide) (by decide) (by decide)) (co 74 (by decide) (by decide) (by decide) (by decide) (by decide)) (co 1 (by decide) (by decide) (by decide) (by decide) (by decide)) (c49 35 (by decide) (by decide)), W.more (fun l a b => ?_) (co 39 (by decide) (by decide) (by decide) (by decide) (by decide)) (co 38 (by decide) (by decide) (by decide) (by decide) (by decide)) (c49 37 (by decide) (by decide)) (co 41 (by decide) (by decide) (by decide) (by decide) (by decide)) (co 42 (by decide) (by decide) (by decide) (by decide) (by decide)) (co 43 (by decide) (by decide) (by decide) (by decide) (by decide)) (co 75 (by decide) (by decide) (by decide) (by decide) (by decide)) (co 76 (by decide) (by decide) (by decide) (by decide) (by decide)) (co 77 (by decide) (by decide) (by decide) (by decide) (by decide))⟩
    · rw [c49 11 (by decide) (by decide), co 1 (by decide) (by decide) (by decide) (by decide) (by decide), ← em]; exact g1
    · rw [co 1 (by decide) (by decide) (by decide) (by decide) (by decide), ← em]; exact g2
    · rw [co 1 (by decide) (by decide) (by decide) (by decide) (by decide), ← em]; exact g3
    · by_cases e : c = 19
      · subst e
        obtain ⟨i1, i2, i3, i4, i5⟩ := iB19
        refine ⟨i1, by rw [c191]; omega, by rw [c191]; omega, ?_, fun f f2 f7 => by rw [c19 f (by omega)]; exact i5 f f2 f7⟩
        rw [co (19 + 1) (by decide) (by decide) (by decide) (by decide) (by decide)]; exact hb20
      · have := g5 c hc
        unfold IM at this ⊢
        rw [co c e (by rcases hc with h | h | h | h | h <;> omega) (by rcases hc with h | h | h | h | h <;> omega) (by rcases hc with h | h | h | h | h <;> omega) (by rcases hc with h | h | h | h | h <;> omega), co (c + 1) (by rcases hc with h | h | h | h | h <;> omega) (by rcases hc with h | h | h | h | h <;> omega) (by rcases hc with h | h | h | h | h <;> omega) (by rcases hc with h | h | h | h | h <;> omega) (by rcases hc with h | h | h | h | h <;> omega)]; exact this
    · rw [co 1 (by decide) (by decide) (by decide) (by decide) (by decide), ← em] at b
      obtain ⟨r1, r2⟩ := g6 m' a b
      unfold IR
      rw [cmb m' (by omega), c59 m' (by omega)]
      refine ⟨?_, r2⟩
      have h17 := (jim_c (show 0 ≤ m' ∧ m' ≤ 2 by omega)).2.1
      unfold CR IM at r1 ⊢
      rw [co (13 + 2 * m'.toNat) (by omega) (by omega) (by omega) (by omega) (by omega), co (13 + 2 * m'.toNat + 1) (by omega) (by omega) (by omega) (by omega) (by omega)]
      exact r1
    · have hlt := (hl.2.2.2.1 l a b).2.2.1
      unfold lu
      rw [co 39 (by decide) (by decide) (by decide) (by decide) (by decide)]
      exact cmb _ (by omega)
  · -- right
    have n18 : 18 ≤ n := by
      rw [w0] at hw
      exact (hw.va hub p3).1.1
    have b16 : B 1 6 = m := by rw [bo 1 (by decide) (by decide)]; exact em.symm
    rw [b16]
    refine ⟨by omega, k_copyFrom (iB _ hc) (by omega) iB19 b191 ⟨p2, p3⟩ hN ?_⟩
    have iC := ccp_IM (B := B) (n := n) (iB _ hc) (by omega) iB19.2.2.2.1 (by omega)
    have hCR : CR (cHead (ccp B (13 + 2 * m.toNat) n) (13 + 2 * m.toNat)) (13 + 2 * m.toNat) u n := CR_head iC (by rw [ccp_1 B hc, if_pos rfl]) n18 (fun x a b => by rw [ccp_b B hc (by omega), if_pos ⟨a, b⟩, bo 20 (by decide) (by decide)]; exact hu x a b)
    obtain ⟨X, eX⟩ : ∃ X, X = cHead (ccp B (13 + 2 * m.toNat) n) (13 + 2 * m.toNat) := ⟨_, rfl⟩
    rw [← eX] at hCR ⊢
    have xo : ∀ o, o ≠ 13 + 2 * m.toNat → o ≠ 13 + 2 * m.toNat + 1 → X o = B o := fun o h1 h2 => by rw [eX, cHead_row h1, ccp_row h1 h2]
    have x16 : X 1 6 = m := by rw [xo 1 (by omega) (by omega)]; exact b16
    rw [x16]
    refine ⟨⟨by omega, by omega⟩, fun A9 e9 => ?_⟩
    refine vd_X6_load_53 w ⟨by omega, by omega⟩ E A9 _ (fun A1 e1 => ⟨fun z => absurd w0 z, fun _ => ?_⟩)
    have a16 : A1 1 6 = m + 1 := by rw [e1, jup_row (by decide), e9, jup_at]
    rw [a16]
    refine ⟨⟨by omega, by omega⟩, ?_⟩
    refine ref A1 _ (fun o h1 h2 h3 => by rw [e1, jup_row (by omega), e9, jup_row (by omega), xo o (by omega) (by omega), bo o (by omega) (by omega)]) (fun C hC0 _ hMB hU => ?_) (fun _ => by omega) (fun z => absurd w0 z)
    obtain ⟨-, eC⟩ := hC0 w0
    have co : ∀ o, o ≠ 1 → ¬ (13 ≤ o ∧ o ≤ 19) → o ≠ 13 + 2 * m.toNat + 1 → o ≠ 37 → o ≠ 49 → o ≠ 58 → o ≠ 59 → C o = A o := fun o h1 h2 h2' h3 h4 h5 h6 => by
      rw [eC, jup_row h4, jup_row h4, jup_row h6, mcp_row h5, jup_row h4, e1, jup_row (by omega), e9, jup_row h1, xo o (by omega) (by omega), bo o (by omega) h3]
    have cx : ∀ o, o ≠ 1 → 13 ≤ o → o ≤ 20 → o ≠ 19 → C o = X o := fun o h1 h2 h3 h4 => by
      rw [eC, jup_row (by omega), jup_row (by omega), jup_row (by omega), mcp_row (by omega), jup_row (by omega), e1, jup_row (by omega), e9, jup_row h1]
    have c49 : ∀ k, k ≠ 0 → k ≠ 34 → k ≠ 11 → C 49 k = A 49 k := fun k h1 h2 h3 => by
      rw [eC, jup_ne h3, jup_ne h2, jup_row (by decide), mcp_row (by decide), jup_ne h1, e1, jup_row (by decide), e9, jup_row (by decide), xo 49 (by omega) (by omega), bo 49 (by decide) (by decide)]
    have c34 : C 49 34 = 0 := by rw [eC, jup_ne (by decide), jup_at]
    have c11 : C 49 11 = m + 1 := by rw [eC, jup_at]
    have c16 : C 1 6 = m + 1 := by rw [eC, jup_row (by decide), jup_row (by decide), jup_row (by decide), mcp_row (by decide), jup_row (by decide)]; exact a16
    have c191 : C 19 1 = 0 := by rw [eC, jup_row (by decide), jup_row (by decide), jup_row (by decide), mcp_row (by decide), jup_row (by decide), e1, jup_at]
    have c19 : ∀ k, k ≠ 1 → C 19 k = B 19 k := fun k hk => by rw [eC, jup_row (by decide), jup_row (by decide), jup_row (by decide), mcp_row (by decide), jup_row (by decide), e1, jup_ne hk, e9, jup_row (by decide), xo 19 (by omega) (by omega)]
    have c58 : ∀ j, ¬ (6000 * m ≤ j ∧ j < 6000 * m + 6000) → C 58 j = A 58 j := fun j hj => by
      rw [eC, jup_row (by decide), jup_row (by decide), jup_row (by decide)]; simp only [mcp]; rw [if_neg (by omega), jup_row (by decide), e1, jup_row (by decide), e9, jup_row (by decide), xo 58 (by omega) (by omega), bo 58 (by decide) (by decide)]
    have c59 : ∀ j, j ≠ m → C 59 j = A 59 j := fun j hj => by rw [eC, jup_row (by decide), jup_row (by decide), jup_ne hj, mcp_row (by decide), jup_row (by decide), e1, jup_row (by decide), e9, jup_row (by decide), xo 59 (by omega) (by omega), bo 59 (by decide) (by decide)]
    have c59m : C 59 m = n := by rw [eC, jup_row (by decide), jup_row (by decide), jup_at]
    have e58 : C 58 = jup (jup (mcp (jup A1 49 0 0) m n) 59 m n) 49 34 0 58 := by rw [eC, jup_row (by decide)]
    have cMB : MB C := fun k => by rw [e58]; exact hMB k
    have cmbm : mb C m = u := by rw [← hU]; funext x; unfold mb; rw [e58]
    have cmb : ∀ m', m' ≠ m → mb C m' = mb A m' := fun m' hne => mb_other c58 hne
    have c20 : C 20 = A 20 := by rw [cx 20 (by decide) (by decide) (by decide) (by decide), xo 20 (by omega) (by omega), bo 20 (by decide) (by decide)]
    refine ⟨T.fr (fun a h => co a (by omega) (by omega) (by omega) (by omega) (by omega) (by omega) (by omega)) (c49 1 (by decide) (by decide) (by decide)) (c49 7 (by decide) (by decide) (by decide)), ⟨by rw [c34, c191], by rw [c191]; omega, by rw [c191]; omega, fun k a b => by rw [c191] at b; omega⟩, ⟨by rw [c11, c16], by rw [c16]; omega, by rw [c16]; omega, cMB, fun c hc' => ?_, fun m' a b => ?_⟩, hl.more (by rw [co 38 (by decide) (by decide) (by omega) (by decide) (by decide) (by decide) (by decide)]) (co 39 (by decide) (by decide) (by omega) (by decide) (by decide) (by decide) (by decide)) (co 74 (by decide) (by decide) (by omega) (by decide) (by decide) (by decide) (by decide)) (by rw [c16, ← em]; omega) (c49 35 (by decide) (by decide) (by decide)), W.more (fun l a b => ?_) (co 39 (by decide) (by decide) (by omega) (by decide) (by decide) (by decide) (by decide)) (co 38 (by decide) (by decide) (by omega) (by decide) (by decide) (by decide) (by decide)) (c49 37 (by decide) (by decide) (by decide)) (co 41 (by decide) (by decide) (by omega) (by decide) (by decide) (by decide) (by decide)) (co 42 (by decide) (by decide) (by omega) (by decide) (by decide) (by decide) (by decide)) (co 43 (by decide) (by decide) (by omega) (by decide) (by decide) (by decide) (by decide)) (co 75 (by decide) (by decide) (by omega) (by decide) (by decide) (by decide) (by decide)) (co 76 (by decide) (by decide) (by omega) (by decide) (by decide) (by decide) (by decide)) (co 77 (by decide) (by decide) (by omega) (by decide) (by decide) (by decide) (by decide))⟩
    · by_cases e : c = 19
      · subst e
        obtain ⟨i1, i2, i3, i4, i5⟩ := iB19
        refine ⟨i1, by rw [c191]; omega, by rw [c191]; omega, by rw [show 19 + 1 = 20 from rfl, c20]; exact hb20, fun f f2 f7 => by rw [c19 f (by omega)]; exact i5 f f2 f7⟩
      · by_cases ec : c = 13 + 2 * m.toNat
        · have := hCR.1
          rw [ec]
          unfold IM at this ⊢
          rw [cx _ (by omega) (by omega) (by omega) (by omega), cx _ (by omega) (by omega) (by omega) (by omega)]; exact this
        · have := g5 c hc'
          by_cases e47 : c = 47
          · subst e47
            unfold IM at this ⊢
            rw [co 47 (by decide) (by decide) (by omega) (by decide) (by decide) (by decide) (by decide), co (47 + 1) (by decide) (by decide) (by omega) (by decide) (by decide) (by decide) (by decide)]; exact this
          · unfold IM at this ⊢
            have h17 : 13 ≤ c ∧ c ≤ 17 ∧ c % 2 = 1 := by rcases hc' with h | h | h | h | h <;> omega
            rw [cx c (by omega) (by omega) (by omega) (by omega), cx (c + 1) (by omega) (by omega) (by omega) (by omega), xo c ec (by omega), xo (c + 1) (by omega) (by omega), bo c (by omega) (by omega), bo (c + 1) (by omega) (by omega)]; exact this
    · rw [c16] at b
      by_cases e : m' = m
      · subst e
        unfold IR
        rw [cmbm, c59m]
        refine ⟨?_, by rw [w0] at hw; exact hw.va hub p3⟩
        unfold CR IM at hCR ⊢
        rw [cx _ (by omega) (by omega) (by omega) (by omega), cx _ (by omega) (by omega) (by omega) (by omega)]
        exact hCR
      · obtain ⟨r1, r2⟩ := g6 m' a (by omega)
        unfold IR
        rw [cmb m' e, c59 m' e]
        refine ⟨?_, r2⟩
        have h17 := (jim_c (show 0 ≤ m' ∧ m' ≤ 2 by omega)).2.1
        unfold CR IM at r1 ⊢
        rw [cx (13 + 2 * m'.toNat) (by omega) (by omega) (by omega) (by omega), cx (13 + 2 * m'.toNat + 1) (by omega) (by omega) (by omega) (by omega), xo (13 + 2 * m'.toNat) (by omega) (by omega), xo (13 + 2 * m'.toNat + 1) (by omega) (by omega), bo (13 + 2 * m'.toNat) (by omega) (by omega), bo (13 + 2 * m'.toNat + 1) (by omega) (by omega)]
        exact r1
    · have hlt := (hl.2.2.2.1 l a b).2.2.1
      unfold lu
      rw [co 39 (by decide) (by decide) (by omega) (by decide) (by decide) (by decide) (by decide)]
      exact cmb _ (by omega)
