/-! THE TWO TREES SIDE BY SIDE: a new node, a new name -/
theorem jcnt_none {f : Int → Int} {x : Int} {n : Nat} (h : ∀ k : Int, 0 ≤ k → k < n → f k ≠ x) : jcnt f x n = 0 := by
  induction n with
  | zero => rfl
  | succ n ih => simp only [jcnt]; rw [ih (fun k a b => h k a (by omega)), if_neg (h n (by omega) (by omega))]; rfl
/-- the names with one more laid in: what both sides have in common -/
theorem TR.names {A C : jA} {f y x p : Int} (T : TR A) (hf : 0 ≤ f ∧ f < C 2 9) (hy : 1 ≤ y ∧ y ≤ 999) (hno : ∀ i, 0 ≤ i → i < A 2 10 → A 10 i ≠ 1000 * f + y) (hp : 0 ≤ p ∧ p ≤ A 2 10) (hlo : ∀ j, 0 ≤ j → j < p → A 10 j < 1000 * f + y) (hhi : p < A 2 10 → 1000 * f + y ≤ A 10 p)
    (c10 : C 2 10 = A 2 10 + 1) (k10 : ∀ j, C 10 j = if j = p then 1000 * f + y else if p < j ∧ j ≤ A 2 10 then A 10 (j - 1) else A 10 j) (k11 : ∀ j, C 11 j = if j = p then x else if p < j ∧ j ≤ A 2 10 then A 11 (j - 1) else A 11 j)
    (c55 : ∀ j, C 55 j = if j = A 2 10 then f else A 55 j) (c56 : ∀ j, C 56 j = if j = A 2 10 then y else A 56 j) (c57 : ∀ j, C 57 j = if j = A 2 10 then x else A 57 j) : TRs C ∧ TRc C ∧ TRd C := by
  obtain ⟨⟨n1, n2, n3, n4, n5, n6, n7, n8⟩, Tk, Tb, Ts, Tm, Tc, Td, Tx, Tf⟩ := id T
  refine ⟨?_, ⟨?_, ?_⟩, ?_⟩
  · intro i j i0 ij j1
    rw [c10] at j1
    rw [k10, k10]
    have hlo' := hlo i i0
    have hlo2 := hlo j
    have s1 := Ts i j i0 ij
    have s2 := Ts (i - 1) (j - 1)
    have s3 := Ts i (j - 1) i0
    have s4 := Ts p (j - 1) hp.1
    have no1 := hno p hp.1
    by_cases e1 : i = p
    · rw [if_pos e1, if_neg (by omega), if_pos (by omega)]
      by_cases e2 : j - 1 = p
      · rw [e2]
        have := hhi (by omega)
        have := no1 (by omega)
        omega
      · have := hhi (by omega)
        have := s4 (by omega) (by omega)
        omega
    · rw [if_neg e1]
      by_cases e2 : j = p
      · rw [if_pos e2, if_neg (by omega)]
        exact hlo' (by omega)
      · rw [if_neg e2]
        by_cases e3 : p < i
        · rw [if_pos (by omega), if_pos (by omega)]
          exact s2 (by omega) (by omega) (by omega)
        · rw [if_neg (by omega)]
          by_cases e4 : p < j
          · rw [if_pos (by omega)]
            by_cases e5 : i < j - 1
            · exact s3 e5 (by omega)
            · omega
          · rw [if_neg (by omega)]
            exact s1 (by omega)
  · intro k k0 k1
    rw [c10] at k1 ⊢
    rw [c55, c56, c57]
    by_cases e : k = A 2 10
    · rw [if_pos e, if_pos e, if_pos e]
      exact ⟨p, hp.1, by omega, by rw [k10, if_pos rfl], by rw [k11, if_pos rfl]⟩
    · rw [if_neg e, if_neg e, if_neg e]
      obtain ⟨i, i0, i1, e1, e2⟩ := Tc.1 k k0 (by omega)
      by_cases h : i < p
      · exact ⟨i, i0, by omega, by rw [k10, if_neg (by omega), if_neg (by omega)]; exact e1, by rw [k11, if_neg (by omega), if_neg (by omega)]; exact e2⟩
      · exact ⟨i + 1, by omega, by omega, by rw [k10, if_neg (by omega), if_pos (by omega), show i + 1 - 1 = i by omega]; exact e1, by rw [k11, if_neg (by omega), if_pos (by omega), show i + 1 - 1 = i by omega]; exact e2⟩
  · intro i i0 i1
    rw [c10] at i1 ⊢
    rw [k10, k11]
    by_cases e : i = p
    · exact ⟨A 2 10, by omega, by omega, by rw [if_pos e, c55, c56, if_pos rfl, if_pos rfl], by rw [if_pos e, c57, if_pos rfl]⟩
    · rw [if_neg e, if_neg e]
      by_cases h : p < i
      · rw [if_pos (by omega), if_pos (by omega)]
        obtain ⟨k, k0, k1, e1, e2⟩ := Tc.2 (i - 1) (by omega) (by omega)
        exact ⟨k, k0, by omega, by rw [c55, c56, if_neg (by omega), if_neg (by omega)]; exact e1, by rw [c57, if_neg (by omega)]; exact e2⟩
      · rw [if_neg (by omega), if_neg (by omega)]
        obtain ⟨k, k0, k1, e1, e2⟩ := Tc.2 i i0 (by omega)
        exact ⟨k, k0, by omega, by rw [c55, c56, if_neg (by omega), if_neg (by omega)]; exact e1, by rw [c57, if_neg (by omega)]; exact e2⟩
  · intro k l k0 kl l1 hh
    rw [c10] at l1
    have hk9 : ¬ k = A 2 10 := by omega
    simp only [c55, c56, if_neg hk9] at hh
    by_cases e : l = A 2 10
    · simp only [if_pos e] at hh
      obtain ⟨i, i0, i1, e1, -⟩ := Tc.1 k k0 (by omega)
      exact hno i i0 i1 (by omega)
    · simp only [if_neg e] at hh
      exact Td k l k0 kl (by omega) hh
/-- after a new node on both sides -/
theorem TR.node {A : jA} {k f y p : Int} (T : TR A) (hk : 1 ≤ k ∧ k ≤ 3) (hf : 0 ≤ f ∧ f < A 2 9) (hy : 1 ≤ y ∧ y ≤ 999) (hF : A 3 f = 1) (hno : ∀ i, 0 ≤ i → i < A 2 10 → A 10 i ≠ 1000 * f + y) (h32 : A 2 9 < 32) (hp : 0 ≤ p ∧ p ≤ A 2 10) (hlo : ∀ j, 0 ≤ j → j < p → A 10 j < 1000 * f + y) (hhi : p < A 2 10 → 1000 * f + y ≤ A 10 p) :
    TR (mNode (tName (tNode A f k) p (1000 * f + y) (A 2 9)) k f y) := by
  obtain ⟨⟨n1, n2, n3, n4, n5, n6, n7, n8⟩, Tk, Tb, Ts, Tm, Tc, Td, Tx, Tf⟩ := id T
  obtain ⟨B, hB⟩ : ∃ B, B = tName (tNode A f k) p (1000 * f + y) (A 2 9) := ⟨_, rfl⟩
  obtain ⟨C, hC⟩ : ∃ C, C = mNode B k f y := ⟨_, rfl⟩
  rw [← hB, ← hC]
  have b49 : ∀ j, B 49 j = A 49 j := by intro j; rw [hB]; simp only [tName, tNode]; grind
  have c9 : C 2 9 = A 2 9 + 1 := by rw [hC, hB]; simp only [mNode, tName, tNode]; grind
  have c10 : C 2 10 = A 2 10 + 1 := by rw [hC, hB]; simp only [mNode, tName, tNode]; grind
  have m1 : C 49 1 = A 2 9 + 1 := by rw [hC]; simp only [mNode, b49]; grind
  have m7 : C 49 7 = A 2 10 + 1 := by rw [hC]; simp only [mNode, b49]; grind
  have c3 : ∀ j, C 3 j = if j = A 2 9 then k else A 3 j := by intro j; rw [hC, hB]; simp only [mNode, tName, tNode]; grind
  have c7 : ∀ j, C 7 j = if j = A 2 9 then f else A 7 j := by intro j; rw [hC, hB]; simp only [mNode, tName, tNode]; grind
  have c4 : ∀ j, C 4 j = if j = A 2 9 then 0 else A 4 j := by intro j; rw [hC, hB]; simp only [mNode, tName, tNode]; grind
  have c5 : ∀ j, C 5 j = if j = A 2 9 then 0 else A 5 j := by intro j; rw [hC, hB]; simp only [mNode, tName, tNode]; grind
  have c8 : ∀ j, C 8 j = if j = A 2 9 then 0 else A 8 j := by intro j; rw [hC, hB]; simp only [mNode, tName, tNode]; grind
  have c6 : ∀ j, C 6 j = if j = A 2 9 then 1 else A 6 j := by intro j; rw [hC, hB]; simp only [mNode, tName, tNode]; grind
  have cc9 : ∀ j, C 9 j = A 9 j := by intro j; rw [hC, hB]; simp only [mNode, tName, tNode]; grind
  have c54 : ∀ j, C 54 j = A 54 j := by intro j; rw [hC, hB]; simp only [mNode, tName, tNode]; grind
  have c50 : ∀ j, C 50 j = if j = A 2 9 then k else A 50 j := by intro j; rw [hC]; simp only [mNode, b49, n3, n6]; rw [hB]; simp only [tName, tNode]; grind
  have c51 : ∀ j, C 51 j = if j = A 2 9 then 0 else A 51 j := by intro j; rw [hC]; simp only [mNode, b49, n3, n6]; rw [hB]; simp only [tName, tNode]; grind
  have c52 : ∀ j, C 52 j = if j = A 2 9 then 0 else A 52 j := by intro j; rw [hC]; simp only [mNode, b49, n3, n6]; rw [hB]; simp only [tName, tNode]; grind
  have c53 : ∀ j, C 53 j = if j = A 2 9 then 0 else A 53 j := by intro j; rw [hC]; simp only [mNode, b49, n3, n6]; rw [hB]; simp only [tName, tNode]; grind
  have c55 : ∀ j, C 55 j = if j = A 2 10 then f else A 55 j := by intro j; rw [hC]; simp only [mNode, b49, n3, n6]; rw [hB]; simp only [tName, tNode]; grind
  have c56 : ∀ j, C 56 j = if j = A 2 10 then y else A 56 j := by intro j; rw [hC]; simp only [mNode, b49, n3, n6]; rw [hB]; simp only [tName, tNode]; grind
  have c57 : ∀ j, C 57 j = if j = A 2 10 then A 2 9 else A 57 j := by intro j; rw [hC]; simp only [mNode, b49, n3, n6]; rw [hB]; simp only [tName, tNode]; grind
  have t10 : tNode A f k 2 10 = A 2 10 := by simp only [tNode]; grind
  have k10 : ∀ j, C 10 j = if j = p then 1000 * f + y else if p < j ∧ j ≤ A 2 10 then A 10 (j - 1) else A 10 j := by intro j; rw [hC, hB]; simp only [mNode, tName, t10]; simp only [tNode]; grind
  have k11 : ∀ j, C 11 j = if j = p then A 2 9 else if p < j ∧ j ≤ A 2 10 then A 11 (j - 1) else A 11 j := by intro j; rw [hC, hB]; simp only [mNode, tName, t10]; simp only [tNode]; grind
  obtain ⟨r1, r2, r3⟩ := T.names (C := C) (f := f) (y := y) (x := A 2 9) (p := p) ⟨hf.1, by omega⟩ hy hno hp hlo hhi c10 k10 k11 c55 c56 c57
  clear hB hC k10 k11
  have hz : jcnt (A 57) (A 2 9) (A 2 10).toNat = 0 := jcnt_none (fun j a b => by have := Tm j a (by omega); omega)
  refine ⟨⟨by omega, by omega, by omega, by omega, ?_, by omega, ?_, ?_⟩, ?_, ?_, r1, ?_, r2, r3, ?_, ?_⟩
  · have h1 := jfree_nonneg (f := A 6) (n := (A 2 9).toNat) (fun x a b => (Tx x a (by omega)).2.2.1)
    unfold TRf at Tf
    omega
  · rw [c3, if_neg (by omega)]; exact n7
  · rw [c7, if_neg (by omega)]; exact n8
  · intro i i0 i1
    rw [c9] at i1
    simp only [c3, c4, c5, c8, c50, c51, c52, c53]
    by_cases e : i = A 2 9
    · simp only [if_pos e]; grind
    · simp only [if_neg e]; exact Tk i i0 (by omega)
  · intro i j i0 i1 j0 j1
    rw [c9] at i1
    rw [c8] at j1
    by_cases e : i = A 2 9
    · rw [if_pos e] at j1; omega
    · rw [if_neg e] at j1
      rw [c54, cc9]
      exact Tb i j i0 (by omega) j0 j1
  · intro j j0 j1
    rw [c10] at j1
    rw [c55, c56, c57, c9]
    by_cases e : j = A 2 10
    · simp only [if_pos e]
      refine ⟨by omega, by omega, by rw [c3, if_neg (by omega)]; exact hF, by omega, by omega, by omega, by omega, fun _ => by rw [c7, if_pos rfl]⟩
    · simp only [if_neg e]
      have t := Tm j j0 (by omega)
      refine ⟨by omega, by omega, by rw [c3, if_neg (by omega)]; exact t.2.2.1, by omega, by omega, by omega, by omega, ?_⟩
      rw [c3, c7, if_neg (by omega), if_neg (by omega)]
      exact t.2.2.2.2.2.2.2
  · intro x x0 x1
    rw [c9] at x1
    rw [c10, show (A 2 10 + 1).toNat = (A 2 10).toNat + 1 by omega]
    simp only [jcnt]
    rw [Int.toNat_of_nonneg n4, jcnt_congr (g := A 57) (fun j a b => by rw [c57, if_neg (by omega)]), c57, if_pos rfl, c6, c3, c7]
    by_cases e : x = A 2 9
    · subst e
      rw [if_pos rfl, if_pos rfl, if_pos rfl, hz, if_pos rfl]
      refine ⟨by simp, by omega, by omega, fun _ => rfl, hf.1, hf.2, A 2 10, n4, by omega, by rw [c57, if_pos rfl], by rw [c55, if_pos rfl]⟩
    · simp only [if_neg e]
      rw [if_neg (fun q => e q.symm)]
      obtain ⟨t1, t2, t3, t4, t5, t6, j, j0, j1, e1, e2⟩ := Tx x x0 (by omega)
      exact ⟨by omega, t2, t3, t4, t5, t6, j, j0, by omega, by rw [c57, if_neg (by omega)]; exact e1, by rw [c55, if_neg (by omega)]; exact e2⟩
  · unfold TRf at Tf ⊢
    rw [c9, c10, show (A 2 9 + 1).toNat = (A 2 9).toNat + 1 by omega]
    simp only [jfree]
    rw [if_neg (by omega), Int.toNat_of_nonneg (by omega), c6, if_pos rfl, jfree_congr (g := A 6) (fun x a b => by rw [c6, if_neg (by omega)])]
    omega
