/-! THE TREE'S CALLS ON BOTH SIDES: link, data, owner, clear -/
theorem mName_row {A : jA} {f y x : Int} {o : Nat} (ho : ¬ (49 ≤ o ∧ o ≤ 57)) : mName A f y x o = A o := by
  funext j
  simp only [mName]
  rw [if_neg (by omega), if_neg (show ¬ o = 55 by omega), if_neg (show ¬ o = 56 by omega), if_neg (show ¬ o = 57 by omega)]
  split <;> rfl
/-- after a new name on both sides -/
theorem TR.link {A : jA} {f y x p : Int} (T : TR A) (hf : 0 ≤ f ∧ f < A 2 9) (hy : 1 ≤ y ∧ y ≤ 999) (hx : 0 ≤ x ∧ x < A 2 9) (hF : A 3 f = 1) (hX : A 3 x = 2) (h9 : A 6 x < 9) (hno : ∀ i, 0 ≤ i → i < A 2 10 → A 10 i ≠ 1000 * f + y) (hp : 0 ≤ p ∧ p ≤ A 2 10) (hlo : ∀ j, 0 ≤ j → j < p → A 10 j < 1000 * f + y) (hhi : p < A 2 10 → 1000 * f + y ≤ A 10 p) :
    TR (mName (jup (tName A p (1000 * f + y) x) 49 0 0) f y x) := by
  obtain ⟨⟨n1, n2, n3, n4, n5, n6, n7, n8⟩, Tk, Tb, Ts, Tm, Tc, Td, Tx, Tf⟩ := id T
  have x1 : 1 ≤ x := by
    by_cases e : x = 0
    · rw [e, n7] at hX; omega
    · omega
  obtain ⟨B, hB⟩ : ∃ B, B = tName A p (1000 * f + y) x := ⟨_, rfl⟩
  obtain ⟨C, hC⟩ : ∃ C, C = mName (jup B 49 0 0) f y x := ⟨_, rfl⟩
  rw [← hB, ← hC]
  have b49 : B 49 = A 49 := by rw [hB]; exact tName_row (by decide)
  have b55 : B 55 = A 55 := by rw [hB]; exact tName_row (by decide)
  have b56 : B 56 = A 56 := by rw [hB]; exact tName_row (by decide)
  have b57 : B 57 = A 57 := by rw [hB]; exact tName_row (by decide)
  have d7 : jup B 49 0 0 49 7 = A 2 10 := by rw [jup_ne (by decide), b49]; exact n6
  have co : ∀ o, ¬ (49 ≤ o ∧ o ≤ 57) → C o = B o := fun o ho => by rw [hC, mName_row ho]; exact jup_row (by omega)
  have cr : ∀ o, o = 50 ∨ o = 51 ∨ o = 52 ∨ o = 53 ∨ o = 54 → C o = A o := by
    intro o ho
    have e1 : B o = A o := by rw [hB]; exact tName_row (by omega)
    rw [← e1, hC]
    funext j
    simp only [mName, jup]
    rcases ho with rfl | rfl | rfl | rfl | rfl <;> simp
  have m1 : C 49 1 = A 2 9 := by rw [hC]; simp only [mName, d7]; simp [jup, b49, n3]
  have m7 : C 49 7 = A 2 10 + 1 := by rw [hC]; simp only [mName, d7]; simp
  have c55 : ∀ j, C 55 j = if j = A 2 10 then f else A 55 j := by intro j; rw [hC]; simp only [mName, d7]; simp [jup, b55]
  have c56 : ∀ j, C 56 j = if j = A 2 10 then y else A 56 j := by intro j; rw [hC]; simp only [mName, d7]; simp [jup, b56]
  have c57 : ∀ j, C 57 j = if j = A 2 10 then x else A 57 j := by intro j; rw [hC]; simp only [mName, d7]; simp [jup, b57]
  have c9 : C 2 9 = A 2 9 := by rw [co 2 (by decide), hB]; simp [tName]
  have c10 : C 2 10 = A 2 10 + 1 := by rw [co 2 (by decide), hB]; simp [tName]
  have cs : ∀ o, o = 3 ∨ o = 4 ∨ o = 5 ∨ o = 7 ∨ o = 8 ∨ o = 9 → C o = A o := by
    intro o ho
    rw [co o (by omega), hB]
    funext j
    simp only [tName]
    rcases ho with rfl | rfl | rfl | rfl | rfl | rfl <;> simp
  have c6 : ∀ j, C 6 j = if j = x then A 6 x + 1 else A 6 j := by intro j; rw [co 6 (by decide), hB]; simp [tName]
  have k10 : ∀ j, C 10 j = if j = p then 1000 * f + y else if p < j ∧ j ≤ A 2 10 then A 10 (j - 1) else A 10 j := by intro j; rw [co 10 (by decide), hB]; simp [tName]
  have k11 : ∀ j, C 11 j = if j = p then x else if p < j ∧ j ≤ A 2 10 then A 11 (j - 1) else A 11 j := by intro j; rw [co 11 (by decide), hB]; simp [tName]
  obtain ⟨r1, r2, r3⟩ := T.names (C := C) (f := f) (y := y) (x := x) (p := p) ⟨hf.1, by omega⟩ hy hno hp hlo hhi c10 k10 k11 c55 c56 c57
  have s3 := cs 3 (by decide); have s4 := cs 4 (by decide); have s5 := cs 5 (by decide); have s7 := cs 7 (by decide); have s8 := cs 8 (by decide); have s9 := cs 9 (by decide)
  have u0 := cr 50 (by decide); have u1 := cr 51 (by decide); have u2 := cr 52 (by decide); have u3 := cr 53 (by decide); have u4 := cr 54 (by decide)
  clear hB hC k10 k11 co cr cs
  have hle := jfree_le (f := A 6) (n := (A 2 9).toNat) (z := x) ⟨x1, by omega⟩ (fun z a b => (Tx z a (by omega)).2.2.1)
  refine ⟨⟨by omega, by omega, by omega, by omega, ?_, by omega, by rw [s3]; exact n7, by rw [s7]; exact n8⟩, ?_, ?_, r1, ?_, r2, r3, ?_, ?_⟩
  · unfold TRf at Tf
    omega
  · intro i i0 i1
    rw [c9] at i1
    rw [s3, s4, s5, s8, u0, u1, u2, u3]
    exact Tk i i0 i1
  · intro i j i0 i1 j0 j1
    rw [c9] at i1
    rw [s8] at j1
    rw [s9, u4]
    exact Tb i j i0 i1 j0 j1
  · intro j j0 j1
    rw [c10] at j1
    rw [c55, c56, c57, c9, s3, s7]
    by_cases e : j = A 2 10
    · simp only [if_pos e]
      exact ⟨by omega, by omega, hF, by omega, by omega, by omega, by omega, fun q => by omega⟩
    · simp only [if_neg e]
      exact Tm j j0 (by omega)
  · intro z z0 z1
    rw [c9] at z1
    rw [c10, show (A 2 10 + 1).toNat = (A 2 10).toNat + 1 by omega]
    simp only [jcnt]
    rw [Int.toNat_of_nonneg n4, jcnt_congr (g := A 57) (fun j a b => by rw [c57, if_neg (by omega)]), c57, if_pos rfl, c6, s3, s7]
    obtain ⟨t1, t2, t3, t4, t5, t6, j, j0, j1, e1, e2⟩ := Tx z z0 (by omega)
    have e3 : ∃ k, 0 ≤ k ∧ k < A 2 10 + 1 ∧ C 57 k = z ∧ C 55 k = A 7 z := ⟨j, j0, by omega, by rw [c57, if_neg (by omega)]; exact e1, by rw [c55, if_neg (by omega)]; exact e2⟩
    by_cases e : z = x
    · subst e
      rw [if_pos rfl, if_pos rfl]
      exact ⟨by omega, by omega, by omega, fun q => absurd hX q, t5, t6, e3⟩
    · rw [if_neg e, if_neg (fun q => e q.symm)]
      exact ⟨by omega, t2, t3, t4, t5, t6, e3⟩
  · unfold TRf at Tf ⊢
    rw [c9, c10, jfree_one (f := A 6) (z := x) ⟨x1, by omega⟩ (fun z hz => by rw [c6, if_neg hz]) (by rw [c6, if_pos rfl])]
    omega
theorem p_link {f y x : Int} (rf : jW f) (ry : jW y) (rx : jW x) {E : jE} {A : jA} (T : TR A) : jrI 126 0 [some (.ref 1), some (.int (jI f)), some (.int (jI y)), some (.int (jI x))] [] E A (fun v B => jrI 176 0 [some (.ref 49), some (.int (jI f)), some (.int (jI y)), some (.int (jI x))] [] E B (fun w C => v = w ∧ TR C ∧ FT A C)) := by
  obtain ⟨⟨n1, n2, n3, n4, n5, n6, n7, n8⟩, Tk, Tb, Ts, Tm, Tc, Td, Tx, Tf⟩ := id T
  have T0 := T.thr
  have F0 := FT.thr A
  have e1 : jup A 49 0 0 49 1 = A 2 9 := by rw [jup_ne (by decide)]; exact n3
  have e7 : jup A 49 0 0 49 7 = A 2 10 := by rw [jup_ne (by decide)]; exact n6
  have e50 : jup A 49 0 0 50 = A 50 := jup_row (by decide)
  have e55 : jup A 49 0 0 55 = A 55 := jup_row (by decide)
  have e56 : jup A 49 0 0 56 = A 56 := jup_row (by decide)
  have e57 : jup A 49 0 0 57 = A 57 := jup_row (by decide)
  -- the reference's call over the same table
  have ref : ∀ v : Int, (¬ (0 ≤ f ∧ f < A 2 9) ∨ ¬ (0 ≤ x ∧ x < A 2 9) → v = -1) → (0 ≤ f → f < A 2 9 → 0 ≤ x → x < A 2 9 → ¬ (1 ≤ y ∧ y ≤ 999) → v = -2) → (0 ≤ f → f < A 2 9 → 0 ≤ x → x < A 2 9 → 1 ≤ y → y ≤ 999 → (A 3 f ≠ 1 ∨ (∃ k, 0 ≤ k ∧ k < A 2 10 ∧ A 55 k = f ∧ A 56 k = y) ∨ A 3 x ≠ 2) → v = -3) → (0 ≤ f → f < A 2 9 → 0 ≤ x → x < A 2 9 → 1 ≤ y → y ≤ 999 → A 3 f = 1 → (∀ k, 0 ≤ k → k < A 2 10 → ¬ (A 55 k = f ∧ A 56 k = y)) → A 3 x = 2 → v = -4 ∧ A 6 x = 9) → jrI 176 0 [some (.ref 49), some (.int (jI f)), some (.int (jI y)), some (.int (jI x))] [] E A (fun w C => v = w ∧ TR C ∧ FT A C) := by
    intro v h1 h2 h3 h4
    refine vd_X7_link_0 f rf y ry x rx E A _ (fun A1 ea => ?_)
    subst ea
    refine k_isNode rf (by omega) (fun a b => ⟨fun q => by omega, fun _ => ?_⟩) (fun q => ⟨fun _ => ⟨h1 (Or.inl (by omega)), T0, F0⟩, fun z => absurd rfl z⟩)
    refine k_isNode rx (by omega) (fun a' b' => ⟨fun _ => ?_, fun q => by omega⟩) (fun q => ⟨fun z => absurd rfl z, fun _ => ⟨h1 (Or.inr (by omega)), T0, F0⟩⟩)
    refine k_in ry (by decide) (by decide) (fun c d => ⟨fun _ => ?_, fun q => by omega⟩) (fun q => ⟨fun z => absurd rfl z, fun _ => ⟨h2 a (by omega) a' (by omega) q, T0, F0⟩⟩)
    rw [e1] at b b'
    have t := Tk f a b
    have t' := Tk x a' b'
    refine ⟨by omega, fun q => ⟨h3 a b a' b' c d (Or.inl (by rw [e50] at q; omega)), T0, F0⟩, fun e => ?_⟩
    rw [e50] at e
    refine k_isThere rf ry (by rw [e7]; omega) (fun q => ⟨fun _ => ?_, fun z => absurd z (by decide)⟩) (fun q => ⟨fun z => absurd rfl z, fun _ => ⟨by omega, fun g => ?_, fun g => ?_⟩⟩)
    · rw [e7, e55, e56] at q
      exact ⟨h3 a b a' b' c d (Or.inr (Or.inl q)), T0, F0⟩
    · rw [e7, e55, e56] at q
      rw [e50] at g
      obtain ⟨h5, h6⟩ := h4 a b a' b' c d (by omega) q (by omega)
      have x1 : 1 ≤ x := by
        by_cases e0 : x = 0
        · subst e0; omega
        · omega
      refine k_namesOf rx (by rw [e7]; omega) ⟨fun z => absurd ?_ z, fun _ => ⟨h5, T0, F0⟩⟩
      rw [e7, e57, ← (Tx x x1 b').1]
      exact h6
    · rw [e50] at g
      exact ⟨h3 a b a' b' c d (Or.inr (Or.inr (by omega))), T0, F0⟩
  refine vd_X6_link_0 f rf y ry x rx E A _ ?_
  refine k_hasNode rf (fun a b => ⟨fun q => by omega, fun _ => ?_⟩) (fun q => ⟨fun _ => ref (-1) (fun _ => rfl) ?_ ?_ ?_, fun z => absurd rfl z⟩)
  · refine k_hasNode rx (fun a' b' => ⟨fun _ => ?_, fun q => by omega⟩) (fun q => ⟨fun z => absurd rfl z, fun _ => ref (-1) (fun _ => rfl) ?_ ?_ ?_⟩)
    · refine k_isName ry (fun c d => ⟨fun _ => ?_, fun q => by omega⟩) (fun q => ⟨fun z => absurd rfl z, fun _ => ref (-2) ?_ (fun _ _ _ _ _ => rfl) ?_ ?_⟩)
      · have t := Tk f a b
        have t' := Tk x a' b'
        refine k_takesName ⟨a, by omega⟩ ⟨c, d⟩ ⟨n4, n5⟩ Ts (fun e g => ⟨fun q => absurd q (by decide), fun _ => ⟨by omega, fun hX => ⟨by omega, fun h9 => ?_, fun h9 => ?_⟩, fun hX => ?_⟩⟩) (fun q => ⟨fun _ => ?_, fun z => absurd rfl z⟩)
        · -- both lay the name
          have x1 : 1 ≤ x := by
            by_cases e0 : x = 0
            · subst e0; omega
            · omega
          have tx := Tx x x1 b'
          have hle := jfree_le (f := A 6) (n := (A 2 9).toNat) (z := x) ⟨x1, by omega⟩ (fun z a b => (Tx z a (by omega)).2.2.1)
          unfold TRf at Tf
          refine k_addName ⟨a, by omega⟩ ⟨c, d⟩ ⟨a', by omega⟩ (by omega) (by omega) (fun p p0 p1 hlo hhi => ?_)
          have T2 := T.link ⟨a, b⟩ ⟨c, d⟩ ⟨a', b'⟩ e hX h9 g ⟨p0, p1⟩ hlo hhi
          obtain ⟨B, hB⟩ : ∃ B, B = tName A p (1000 * f + y) x := ⟨_, rfl⟩
          rw [← hB] at T2 ⊢
          have bo : ∀ o, ¬ (2 ≤ o ∧ o ≤ 11) → B o = A o := fun o ho => by rw [hB, tName_row ho]
          have hno : ∀ i, 0 ≤ i → i < A 2 10 → ¬ (A 55 i = f ∧ A 56 i = y) := by
            intro i i0 i1 e
            obtain ⟨j, j0, j1, e1⟩ := (T.there ⟨c, d⟩).mpr ⟨i, i0, i1, e.1, e.2⟩
            exact g j j0 j1 e1
          have f1 : jup B 49 0 0 49 1 = A 2 9 := by rw [jup_ne (by decide), bo 49 (by decide)]; exact n3
          have f7 : jup B 49 0 0 49 7 = A 2 10 := by rw [jup_ne (by decide), bo 49 (by decide)]; exact n6
          have f50 : jup B 49 0 0 50 = A 50 := (jup_row (by decide)).trans (bo 50 (by decide))
          have f55 : jup B 49 0 0 55 = A 55 := (jup_row (by decide)).trans (bo 55 (by decide))
          have f56 : jup B 49 0 0 56 = A 56 := (jup_row (by decide)).trans (bo 56 (by decide))
          have f57 : jup B 49 0 0 57 = A 57 := (jup_row (by decide)).trans (bo 57 (by decide))
          refine vd_X7_link_0 f rf y ry x rx E B _ (fun A1 ea => ?_)
          subst ea
          refine k_isNode rf (by omega) (fun _ _ => ⟨fun q => by omega, fun _ => ?_⟩) (fun q => by exfalso; omega)
          refine k_isNode rx (by omega) (fun _ _ => ⟨fun _ => ?_, fun q => by omega⟩) (fun q => by exfalso; omega)
          refine k_in ry (by decide) (by decide) (fun _ _ => ⟨fun _ => ?_, fun q => by omega⟩) (fun q => by exfalso; omega)
          refine ⟨by omega, fun q => by exfalso; rw [f50] at q; omega, fun _ => ?_⟩
          refine k_isThere rf ry (by rw [f7]; omega) (fun q => ?_) (fun _ => ⟨fun z => absurd rfl z, fun _ => ⟨by omega, fun _ => ?_, fun q => by exfalso; rw [f50] at q; omega⟩⟩)
          · rw [f7, f55, f56] at q
            obtain ⟨i, i0, i1, e1⟩ := q
            exact absurd e1 (hno i i0 i1)
          · have ec : jcnt (jup B 49 0 0 57) x (jup B 49 0 0 49 7).toNat = A 6 x := by rw [f7, f57]; exact tx.1.symm
            refine k_namesOf rx (by rw [f7]; omega) ?_
            rw [ec]
            refine ⟨fun _ => ?_, fun q => by omega⟩
            refine k_nameIt rf ry rx (by omega) ?_
            have g7 : mName (jup B 49 0 0) f y x 49 7 = A 2 10 + 1 := by simp only [mName, f7]; simp
            refine k_namesOf rx (by rw [g7]; omega) ⟨?_, T2, ⟨fun o h1 h2 => ?_, fun j h1 h2 h3 => ?_, ?_⟩⟩
            · rw [g7, show (A 2 10 + 1).toNat = (A 2 10).toNat + 1 by omega]
              simp only [jcnt]
              rw [Int.toNat_of_nonneg n4]
              have h57 : ∀ j, mName (jup B 49 0 0) f y x 57 j = if j = A 2 10 then x else A 57 j := by intro j; simp only [mName, f7]; simp [f57]
              rw [h57, if_pos rfl, if_pos rfl, jcnt_congr (g := A 57) (fun j a b => by rw [h57, if_neg (by omega)]), ← tx.1]
            · rw [mName_row h2, ← bo o h1]
              exact jup_row (by omega)
            · simp only [mName, f7]
              simp only [jup]
              rw [if_neg (by omega), bo 49 (by decide)]
              simp [h1]
            · simp only [mName, f7]
              simp only [jup]
              simp
        · refine ref (-4) ?_ ?_ ?_ ?_
          · intro z; exfalso; omega
          · intro _ _ _ _ z; exfalso; omega
          · intro _ _ _ _ _ _ z
            rcases z with z | z | z
            · omega
            · obtain ⟨i, i0, i1, e1⟩ := (T.there ⟨c, d⟩).mpr z
              exact absurd e1 (g i i0 i1)
            · omega
          · intro _ _ _ _ _ _ _ _ _
            have x1 : 1 ≤ x := by
              by_cases e0 : x = 0
              · subst e0; omega
              · omega
            have := Tx x x1 b'
            exact ⟨rfl, by omega⟩
        · refine ref (-3) ?_ ?_ (fun _ _ _ _ _ _ _ => rfl) ?_
          · intro z; exfalso; omega
          · intro _ _ _ _ z; exfalso; omega
          · intro _ _ _ _ _ _ _ _ z; exact absurd z hX
        · refine ref (-3) ?_ ?_ (fun _ _ _ _ _ _ _ => rfl) ?_
          · intro z; exfalso; omega
          · intro _ _ _ _ z; exfalso; omega
          · intro _ _ _ _ _ _ z h _
            obtain ⟨i, i0, i1, e1⟩ := (T.there ⟨c, d⟩).mp (q z)
            exact absurd e1 (h i i0 i1)
      · intro z; exfalso; omega
      · intro _ _ _ _ z1 z2; exfalso; omega
      · intro _ _ _ _ z1 z2; exfalso; omega
    · intro _ _ z1 z2; exfalso; omega
    · intro _ _ z1 z2; exfalso; omega
    · intro _ _ z1 z2; exfalso; omega
  · intro z1 z2; exfalso; omega
  · intro z1 z2; exfalso; omega
  · intro z1 z2; exfalso; omega
