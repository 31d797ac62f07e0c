/-! THE TREE'S CALLS ON BOTH SIDES: data, owner, clear -/
def mData (A : jA) (x b s t : Int) : jA := fun a j => if a = 54 ∧ 100 * x + s ≤ j ∧ j < 100 * x + s + t then b else if a = 53 ∧ j = x then s + t else A a j
theorem mData_0 {A : jA} {x b : Int} : mData A x b (A 53 x) 0 = A := by
  funext a j
  simp only [mData]
  grind
theorem mData_up {A : jA} {x b s t : Int} (ht : 0 ≤ t) : jup (jup (mData A x b s t) 54 (100 * x + (s + t)) b) 53 x (s + t + 1) = mData A x b s (t + 1) := by
  funext a j
  simp only [mData, jup]
  grind
theorem k_mdata {x b n : Int} (hx : 0 ≤ x ∧ x < 32) (hb : 0 ≤ b ∧ b ≤ 255) (hn : 0 ≤ n) {E : jE} {A : jA} (hs : 0 ≤ A 53 x) (h1 : A 53 x + n ≤ 100) {K : Int → jA → Prop} (h : K (A 53 x + n) (mData A x b (A 53 x) n)) : jrI 149 71 [some (.ref 49), some (.int (jI x)), some (.int (jI b)), some (.int (jI n)), some (.int (jI 0))] [] E A K := by
  have key := j_loop (P := fun i => 0 ≤ i → i ≤ n → jrI 149 71 [some (.ref 49), some (.int (jI x)), some (.int (jI b)), some (.int (jI n)), some (.int (jI i))] [] E (mData A x b (A 53 x) i) K) n (fun i ih i0 i1 => by
    have e53 : mData A x b (A 53 x) i 53 x = A 53 x + i := by simp only [mData]; grind
    refine vd_X7_data_71 x ⟨by omega, by omega⟩ b ⟨by omega, by omega⟩ n ⟨by omega, by omega⟩ i ⟨by omega, by omega⟩ E _ K ⟨fun q => ⟨hx, ?_⟩, fun q => ⟨hx, ?_⟩⟩
    · have e : i = n := by omega
      rw [e53, e]
      exact h
    · rw [e53]
      refine ⟨by omega, fun A4 e4 => ⟨hx, ?_⟩⟩
      have q4 : A4 53 x = A 53 x + i := by rw [e4, jup_row (by decide)]; exact e53
      rw [q4]
      refine ⟨⟨by omega, by omega⟩, hx, fun A10 e10 => ?_⟩
      rw [e10, e4, mData_up i0]
      exact ih q (by omega) (by omega)) 0 (by omega) hn
  rw [mData_0] at key
  exact key
theorem TR.data {A : jA} {x b n : Int} (T : TR A) (hx : 0 ≤ x ∧ x < A 2 9) (hX : A 3 x = 2) (hb : 0 ≤ b ∧ b ≤ 255) (hn : 0 ≤ n) (h1 : A 8 x + n ≤ 100) :
    TR (mData (jup (jup (jfill A 9 (x * 100 + A 8 x) (x * 100 + A 8 x + n) b) 8 x (A 8 x + n)) 49 0 0) x b (A 8 x) n) := by
  obtain ⟨⟨n1, n2, n3, n4, n5, n6, n7, n8⟩, Tk, Tb, Ts, Tm, Tc, Td, Tx, Tf⟩ := id T
  obtain ⟨C, hC⟩ : ∃ C, C = mData (jup (jup (jfill A 9 (x * 100 + A 8 x) (x * 100 + A 8 x + n) b) 8 x (A 8 x + n)) 49 0 0) x b (A 8 x) n := ⟨_, rfl⟩
  rw [← hC]
  have c8 : ∀ j, C 8 j = if j = x then A 8 x + n else A 8 j := by intro j; rw [hC]; simp [mData, jup, jfill]
  have c53 : ∀ j, C 53 j = if j = x then A 8 x + n else A 53 j := by intro j; rw [hC]; simp [mData, jup, jfill]
  have c9 : ∀ j, C 9 j = if x * 100 + A 8 x ≤ j ∧ j < x * 100 + A 8 x + n then b else A 9 j := by intro j; rw [hC]; simp [mData, jup, jfill]
  have c54 : ∀ j, C 54 j = if 100 * x + A 8 x ≤ j ∧ j < 100 * x + A 8 x + n then b else A 54 j := by intro j; rw [hC]; simp [mData, jup, jfill]
  have co : ∀ o, o = 2 ∨ o = 3 ∨ o = 4 ∨ o = 5 ∨ o = 6 ∨ o = 7 ∨ o = 10 ∨ o = 11 ∨ o = 50 ∨ o = 51 ∨ o = 52 ∨ o = 55 ∨ o = 56 ∨ o = 57 → C o = A o := by
    intro o ho
    rw [hC]
    funext j
    simp only [mData, jup, jfill]
    rw [if_neg (by omega), if_neg (by omega), if_neg (by omega), if_neg (by omega), if_neg (by omega)]
  have m1 : C 49 1 = A 49 1 := by rw [hC]; simp [mData, jup, jfill]
  have m7 : C 49 7 = A 49 7 := by rw [hC]; simp [mData, jup, jfill]
  clear hC
  refine ⟨?_, ?_, ?_, ?_, ?_, ?_, ?_, ?_, ?_⟩
  · unfold TRn
    rw [co 2 (by decide), co 3 (by decide), co 7 (by decide), m1, m7]
    exact ⟨n1, n2, n3, n4, n5, n6, n7, n8⟩
  · intro i i0 i1
    rw [co 2 (by decide)] at i1
    rw [co 3 (by decide), co 4 (by decide), co 5 (by decide), co 50 (by decide), co 51 (by decide), co 52 (by decide), c8, c53]
    have t := Tk i i0 i1
    by_cases e : i = x
    · subst e
      rw [if_pos rfl, if_pos rfl]
      exact ⟨t.1, t.2.1, t.2.2.1, t.2.2.2.1, t.2.2.2.2.1, t.2.2.2.2.2.1, t.2.2.2.2.2.2.1, t.2.2.2.2.2.2.2.1, t.2.2.2.2.2.2.2.2.1, rfl, by omega, by omega, fun q => absurd hX q⟩
    · rw [if_neg e, if_neg e]
      exact t
  · intro i j i0 i1 j0 j1
    rw [co 2 (by decide)] at i1
    rw [c8] at j1
    rw [c54, c9]
    have t := Tk i i0 i1
    have tx := Tk x hx.1 hx.2
    by_cases e : i = x
    · subst e
      rw [if_pos rfl] at j1
      by_cases e2 : A 8 i ≤ j
      · rw [if_pos (by omega), if_pos (by omega)]
        exact ⟨rfl, hb.1, hb.2⟩
      · rw [if_neg (by omega), if_neg (by omega)]
        exact Tb i j i0 i1 j0 (by omega)
    · rw [if_neg e] at j1
      rw [if_neg (by omega), if_neg (by omega)]
      exact Tb i j i0 i1 j0 j1
  · unfold TRs; rw [co 2 (by decide), co 10 (by decide)]; exact Ts
  · unfold TRm; rw [co 2 (by decide), co 3 (by decide), co 7 (by decide), co 55 (by decide), co 56 (by decide), co 57 (by decide)]; exact Tm
  · unfold TRc; rw [co 2 (by decide), co 10 (by decide), co 11 (by decide), co 55 (by decide), co 56 (by decide), co 57 (by decide)]; exact Tc
  · unfold TRd; rw [co 2 (by decide), co 55 (by decide), co 56 (by decide)]; exact Td
  · unfold TRx; rw [co 2 (by decide), co 3 (by decide), co 6 (by decide), co 7 (by decide), co 55 (by decide), co 57 (by decide)]; exact Tx
  · unfold TRf; rw [co 2 (by decide), co 6 (by decide)]; exact Tf
theorem p_data {x b n : Int} (rx : jW x) (rb : jW b) (rn : jW n) {E : jE} {A : jA} (T : TR A) : jrI 113 0 [some (.ref 1), some (.int (jI x)), some (.int (jI b)), some (.int (jI n))] [] E A (fun v B => jrI 149 0 [some (.ref 49), some (.int (jI x)), some (.int (jI b)), some (.int (jI n)), none] [] E B (fun w C => v = w ∧ TR C ∧ FT A C)) := by
  obtain ⟨⟨n1, n2, n3, n4, n5, n6, n7, n8⟩, Tk, -⟩ := id T
  have T0 := T.thr
  have F0 := FT.thr A
  have e1 : jup A 49 0 0 49 1 = A 2 9 := by rw [jup_ne (by decide)]; exact n3
  have e50 : jup A 49 0 0 50 = A 50 := jup_row (by decide)
  have e53 : jup A 49 0 0 53 = A 53 := jup_row (by decide)
  have ref : ∀ v : Int, (¬ (0 ≤ x ∧ x < A 2 9) → v = -1) → (0 ≤ x → x < A 2 9 → ¬ (0 ≤ b ∧ b ≤ 255 ∧ 1 ≤ n ∧ n ≤ 100) → v = -2) → (0 ≤ x → x < A 2 9 → 0 ≤ b → b ≤ 255 → 1 ≤ n → n ≤ 100 → A 3 x ≠ 2 → v = -3) → (0 ≤ x → x < A 2 9 → 0 ≤ b → b ≤ 255 → 1 ≤ n → n ≤ 100 → A 3 x = 2 → 100 < A 8 x + n ∧ v = -4) → jrI 149 0 [some (.ref 49), some (.int (jI x)), some (.int (jI b)), some (.int (jI n)), none] [] E A (fun w C => v = w ∧ TR C ∧ FT A C) := by
    intro v h1 h2 h3 h4
    refine vd_X7_data_0 x rx b rb n rn E A _ (fun A1 ea => ?_)
    subst ea
    refine k_isNode rx (by omega) (fun a c => ⟨fun _ => ?_, fun q => by omega⟩) (fun q => ⟨fun z => absurd rfl z, fun _ => ⟨h1 (by omega), T0, F0⟩⟩)
    rw [e1] at c
    have t := Tk x a c
    refine k_in rb (by decide) (by decide) (fun d f => ⟨fun z => by omega, fun _ => ?_⟩) (fun q => ⟨fun _ => ⟨h2 a c (by omega), T0, F0⟩, fun z => absurd rfl z⟩)
    refine k_in rn (by decide) (by decide) (fun g i => ⟨fun _ => ?_, fun q => by omega⟩) (fun q => ⟨fun z => absurd rfl z, fun _ => ⟨h2 a c (by omega), T0, F0⟩⟩)
    rw [e50, e53]
    refine ⟨by omega, fun q => ⟨by omega, ⟨by omega, by omega⟩, fun q2 => ?_, fun q2 => ?_⟩, fun q => ?_⟩
    · have := h4 a c d f g i (by omega)
      omega
    · exact ⟨(h4 a c d f g i (by omega)).2, T0, F0⟩
    · exact ⟨h3 a c d f g i (by omega), T0, F0⟩
  refine vd_X6_data_0 x rx b rb n rn E A _ ?_
  refine k_hasNode rx (fun a c => ⟨fun _ => ?_, fun q => by omega⟩) (fun q => ⟨fun z => absurd rfl z, fun _ => ref (-1) (fun _ => rfl) ?_ ?_ ?_⟩)
  · have t := Tk x a c
    have r2 : ¬ (0 ≤ b ∧ b ≤ 255 ∧ 1 ≤ n ∧ n ≤ 100) → jrI 149 0 [some (.ref 49), some (.int (jI x)), some (.int (jI b)), some (.int (jI n)), none] [] E A (fun w C => -2 = w ∧ TR C ∧ FT A C) := by
      intro q
      refine ref (-2) ?_ (fun _ _ _ => rfl) ?_ ?_
      · intro z; exfalso; omega
      · intro _ _ z1 z2 z3 z4; exfalso; omega
      · intro _ _ z1 z2 z3 z4; exfalso; omega
    refine ⟨fun q => r2 (by omega), fun d => ⟨fun q => r2 (by omega), fun f => ⟨fun q => r2 (by omega), fun g => ⟨fun i => ⟨by omega, fun hX => ⟨by omega, ⟨by omega, by omega⟩, fun q => ?_, fun q => ?_⟩, fun q => ?_⟩, fun q => r2 (by omega)⟩⟩⟩⟩
    · refine vd_X5_append_0 x rx b rb n rn E A _ ⟨by omega, ?_⟩
      have nine : jN 9 = 3200 := rfl
      refine k_fillPart rfl rb (by omega) (by omega) (by rw [nine]; omega) ⟨by omega, ?_⟩
      have e8 : jfill A 9 (x * 100 + A 8 x) (x * 100 + A 8 x + n) b 8 x = A 8 x := by simp [jfill]
      rw [e8]
      refine ⟨⟨by omega, by omega⟩, by omega, fun A7 e7 => ⟨by omega, ?_⟩⟩
      have q8 : A7 8 x = A 8 x + n := by rw [e7, jup_at]
      rw [q8]
      have T2 := T.data ⟨a, c⟩ hX ⟨d, f⟩ (show 0 ≤ n by omega) q
      rw [← e7] at T2
      have ao : ∀ o, ¬ (2 ≤ o ∧ o ≤ 11) → A7 o = A o := by
        intro o ho
        rw [e7, jup_row (by omega)]
        funext j
        simp only [jfill]
        rw [if_neg (by omega)]
      have f1 : jup A7 49 0 0 49 1 = A 2 9 := by rw [jup_ne (by decide), ao 49 (by decide)]; exact n3
      have f50 : jup A7 49 0 0 50 = A 50 := (jup_row (by decide)).trans (ao 50 (by decide))
      have f53 : jup A7 49 0 0 53 = A 53 := (jup_row (by decide)).trans (ao 53 (by decide))
      refine vd_X7_data_0 x rx b rb n rn E A7 _ (fun A1 ea => ?_)
      subst ea
      refine k_isNode rx (by omega) (fun _ _ => ⟨fun _ => ?_, fun q => by omega⟩) (fun q => by exfalso; omega)
      refine k_in rb (by decide) (by decide) (fun _ _ => ⟨fun q => by omega, fun _ => ?_⟩) (fun q => by exfalso; omega)
      refine k_in rn (by decide) (by decide) (fun _ _ => ⟨fun _ => ?_, fun q => by omega⟩) (fun q => by exfalso; omega)
      rw [f50, f53]
      refine ⟨by omega, fun _ => ⟨by omega, ⟨by omega, by omega⟩, fun _ => ?_, fun q => by omega⟩, fun q => by omega⟩
      refine k_mdata ⟨a, by omega⟩ ⟨d, f⟩ (by omega) (by rw [f53]; omega) (by rw [f53]; omega) ?_
      rw [f53, t.2.2.2.2.2.2.2.2.2.1]
      refine ⟨rfl, T2, ⟨fun o h1 h2 => ?_, fun j h1 h2 h3 => ?_, ?_⟩⟩
      · rw [← ao o h1]
        funext j
        simp only [mData, jup]
        rw [if_neg (by omega), if_neg (by omega), if_neg (by omega)]
      · simp only [mData, jup]
        rw [if_neg (by omega), if_neg (by omega), if_neg (by omega), ao 49 (by decide)]
      · simp [mData, jup]
    · refine ref (-4) ?_ ?_ ?_ ?_
      · intro z; exfalso; omega
      · intro _ _ z; exfalso; omega
      · intro _ _ _ _ _ _ z; exact absurd hX z
      · intro _ _ _ _ _ _ _; exact ⟨q, rfl⟩
    · refine ref (-3) ?_ ?_ (fun _ _ _ _ _ _ _ => rfl) ?_
      · intro z; exfalso; omega
      · intro _ _ z; exfalso; omega
      · intro _ _ _ _ _ _ z; exact absurd z q
  · intro z1 z2; exfalso; omega
  · intro z1 z2; exfalso; omega
  · intro z1 z2; exfalso; omega
theorem TR.owner {A : jA} {x o m : Int} (T : TR A) (ho : 0 ≤ o ∧ o ≤ 65535) (hm : 0 ≤ m ∧ m ≤ 65535) : TR (jup (jup (jup (jup (jup A 4 x o) 5 x m) 49 0 0) 52 x o) 51 x m) := by
  obtain ⟨C, hC⟩ : ∃ C, C = jup (jup (jup (jup (jup A 4 x o) 5 x m) 49 0 0) 52 x o) 51 x m := ⟨_, rfl⟩
  rw [← hC]
  obtain ⟨⟨n1, n2, n3, n4, n5, n6, n7, n8⟩, Tk, Tb, Ts, Tm, Tc, Td, Tx, Tf⟩ := id T
  have c4 : ∀ j, C 4 j = if j = x then o else A 4 j := by intro j; rw [hC]; simp [jup]
  have c5 : ∀ j, C 5 j = if j = x then m else A 5 j := by intro j; rw [hC]; simp [jup]
  have c51 : ∀ j, C 51 j = if j = x then m else A 51 j := by intro j; rw [hC]; simp [jup]
  have c52 : ∀ j, C 52 j = if j = x then o else A 52 j := by intro j; rw [hC]; simp [jup]
  have co : ∀ a, ¬ (a = 4 ∨ a = 5 ∨ a = 49 ∨ a = 51 ∨ a = 52) → C a = A a := by
    intro a ha
    rw [hC, jup_row (by omega), jup_row (by omega), jup_row (by omega), jup_row (by omega), jup_row (by omega)]
  have m1 : C 49 1 = A 49 1 := by rw [hC]; simp [jup]
  have m7 : C 49 7 = A 49 7 := by rw [hC]; simp [jup]
  clear hC
  refine ⟨?_, ?_, ?_, ?_, ?_, ?_, ?_, ?_, ?_⟩
  · unfold TRn
    rw [co 2 (by decide), co 3 (by decide), co 7 (by decide), m1, m7]
    exact ⟨n1, n2, n3, n4, n5, n6, n7, n8⟩
  · intro i i0 i1
    rw [co 2 (by decide)] at i1
    have t := Tk i i0 i1
    rw [co 3 (by decide), co 50 (by decide), co 8 (by decide), co 53 (by decide), c4, c5, c51, c52]
    by_cases e : i = x
    · simp only [if_pos e]
      exact ⟨t.1, t.2.1, t.2.2.1, trivial, hm.1, hm.2, trivial, ho.1, ho.2, t.2.2.2.2.2.2.2.2.2⟩
    · simp only [if_neg e]
      exact t
  · unfold TRb; rw [co 2 (by decide), co 8 (by decide), co 9 (by decide), co 54 (by decide)]; exact Tb
  · unfold TRs; rw [co 2 (by decide), co 10 (by decide)]; exact Ts
  · unfold TRm; rw [co 2 (by decide), co 3 (by decide), co 7 (by decide), co 55 (by decide), co 56 (by decide), co 57 (by decide)]; exact Tm
  · unfold TRc; rw [co 2 (by decide), co 10 (by decide), co 11 (by decide), co 55 (by decide), co 56 (by decide), co 57 (by decide)]; exact Tc
  · unfold TRd; rw [co 2 (by decide), co 55 (by decide), co 56 (by decide)]; exact Td
  · unfold TRx; rw [co 2 (by decide), co 3 (by decide), co 6 (by decide), co 7 (by decide), co 55 (by decide), co 57 (by decide)]; exact Tx
  · unfold TRf; rw [co 2 (by decide), co 6 (by decide)]; exact Tf
theorem p_owner {x o m : Int} (rx : jW x) (ro : jW o) (rm : jW m) {E : jE} {A : jA} (T : TR A) : jrI 133 0 [some (.ref 1), some (.int (jI x)), some (.int (jI o)), some (.int (jI m))] [] E A (fun v B => jrI 195 0 [some (.ref 49), some (.int (jI x)), some (.int (jI o)), some (.int (jI m))] [] E B (fun w C => v = w ∧ TR C ∧ FT A C)) := by
  obtain ⟨⟨n1, n2, n3, n4, n5, n6, n7, n8⟩, Tk, -⟩ := id T
  have T0 := T.thr
  have F0 := FT.thr A
  have e1 : jup A 49 0 0 49 1 = A 2 9 := by rw [jup_ne (by decide)]; exact n3
  have ref : ∀ v : Int, (¬ (0 ≤ x ∧ x < A 2 9) → v = -1) → (0 ≤ x → x < A 2 9 → ¬ (0 ≤ o ∧ o ≤ 65535 ∧ 0 ≤ m ∧ m ≤ 65535) ∧ v = -2) → jrI 195 0 [some (.ref 49), some (.int (jI x)), some (.int (jI o)), some (.int (jI m))] [] E A (fun w C => v = w ∧ TR C ∧ FT A C) := by
    intro v h1 h2
    refine vd_X7_owner_0 x rx o ro m rm E A _ (fun A1 ea => ?_)
    subst ea
    refine k_isNode rx (by omega) (fun a c => ⟨fun _ => ?_, fun q => by omega⟩) (fun q => ⟨fun z => absurd rfl z, fun _ => ⟨h1 (by omega), T0, F0⟩⟩)
    obtain ⟨h3, h4⟩ := h2 a (by omega)
    refine k_in ro (by decide) (by decide) (fun d f => ⟨fun z => by omega, fun _ => ?_⟩) (fun q => ⟨fun _ => ⟨h4, T0, F0⟩, fun z => absurd rfl z⟩)
    refine k_in rm (by decide) (by decide) (fun g i => by exfalso; omega) (fun q => ⟨fun z => absurd rfl z, fun _ => ⟨h4, T0, F0⟩⟩)
  refine vd_X6_owner_0 x rx o ro m rm E A _ ?_
  refine k_hasNode rx (fun a c => ⟨fun _ => ?_, fun q => by omega⟩) (fun q => ⟨fun z => absurd rfl z, fun _ => ref (-1) (fun _ => rfl) (fun z1 z2 => by exfalso; omega)⟩)
  refine k_isWord ro (fun d f => ⟨fun q => by omega, fun _ => ?_⟩) (fun q => ⟨fun _ => ref (-2) (fun z => by exfalso; omega) (fun z1 z2 => ⟨by omega, rfl⟩), fun z => absurd rfl z⟩)
  refine k_isWord rm (fun g i => ⟨fun _ => ⟨by omega, fun A14 e14 => ⟨by omega, fun A18 e18 => ?_⟩⟩, fun q => by omega⟩) (fun q => ⟨fun z => absurd rfl z, fun _ => ref (-2) (fun z => by exfalso; omega) (fun z1 z2 => ⟨by omega, rfl⟩)⟩)
  have T2 := T.owner (x := x) ⟨d, f⟩ ⟨g, i⟩
  rw [← e14, ← e18] at T2
  have ao : ∀ a, ¬ (2 ≤ a ∧ a ≤ 11) → A18 a = A a := fun a ha => by rw [e18, e14, jup_row (by omega), jup_row (by omega)]
  have f1 : jup A18 49 0 0 49 1 = A 2 9 := by rw [jup_ne (by decide), ao 49 (by decide)]; exact n3
  refine vd_X7_owner_0 x rx o ro m rm E A18 _ (fun A1 ea => ?_)
  subst ea
  refine k_isNode rx (by omega) (fun _ _ => ⟨fun _ => ?_, fun q => by omega⟩) (fun q => by exfalso; omega)
  refine k_in ro (by decide) (by decide) (fun _ _ => ⟨fun q => by omega, fun _ => ?_⟩) (fun q => by exfalso; omega)
  refine k_in rm (by decide) (by decide) (fun _ _ => ⟨fun _ => ⟨by omega, fun A17 e17 => ⟨by omega, fun A21 e21 => ?_⟩⟩, fun q => by omega⟩) (fun q => by exfalso; omega)
  rw [e21, e17]
  refine ⟨rfl, T2, ⟨fun a h1 h2 => ?_, fun j h1 h2 h3 => ?_, ?_⟩⟩
  · rw [jup_row (by omega), jup_row (by omega), jup_row (by omega), ao a h1]
  · rw [jup_row (by decide), jup_row (by decide), jup_ne h1, ao 49 (by decide)]
  · rw [jup_row (by decide), jup_row (by decide), jup_at]

theorem TR.clear {A C : jA} (T : TR A) (a9 : C 2 9 = 1) (a10 : C 2 10 = 0) (m1 : C 49 1 = 1) (m7 : C 49 7 = 0) (c3 : C 3 0 = 1) (c7 : C 7 0 = 0) (c4 : C 4 0 = 0) (c5 : C 5 0 = 0) (c8 : C 8 0 = 0) (c50 : C 50 0 = 1) (c51 : C 51 0 = 0) (c52 : C 52 0 = 0) (c53 : C 53 0 = 0) : TR C := by
  refine ⟨⟨by omega, by omega, by omega, by omega, by omega, by omega, c3, c7⟩, ?_, ?_, ?_, ?_, ⟨?_, ?_⟩, ?_, ?_, ?_⟩
  · intro i i0 i1
    have e : i = 0 := by omega
    subst e
    omega
  · intro i j i0 i1 j0 j1
    have e : i = 0 := by omega
    subst e
    omega
  · intro i j i0 ij j1; omega
  · intro k k0 k1; omega
  · intro k k0 k1; omega
  · intro k k0 k1; omega
  · intro k l k0 kl l1; omega
  · intro x x0 x1; omega
  · unfold TRf; rw [a9, a10]; simp [jfree]
theorem p_clear {E : jE} {A : jA} (T : TR A) : jrI 111 0 [some (.ref 1), none] [] E A (fun v B => jrI 146 0 [some (.ref 49), none] [] E B (fun w C => v = w ∧ TR C ∧ FT A C)) := by
  obtain ⟨⟨n1, n2, n3, n4, n5, n6, n7, n8⟩, Tk, -⟩ := id T
  have t := Tk 0 (by omega) (by omega)
  refine vd_X6_clear_0 E A _ (vd_X5_reset_0 E A _ (fun A1 e1 A4 e4 => ?_))
  have a9 : A4 2 9 = 0 := by rw [e4, jup_at]
  refine k_startNode (by decide) (by decide) (by omega) ?_
  obtain ⟨B, hB⟩ : ∃ B, B = tNode A4 0 1 := ⟨_, rfl⟩
  rw [← hB]
  have bo : ∀ o, ¬ (2 ≤ o ∧ o ≤ 11) → B o = A o := fun o ho => by rw [hB, tNode_row ho, e4, e1, jup_row (by omega), jup_row (by omega)]
  have b9 : B 2 9 = 1 := by rw [hB]; simp only [tNode, a9]; simp
  have b10 : B 2 10 = 0 := by rw [hB]; simp only [tNode, a9]; rw [e4, e1]; simp [jup]
  have b3 : B 3 0 = 1 := by rw [hB]; simp only [tNode, a9]; simp
  have b7 : B 7 0 = 0 := by rw [hB]; simp only [tNode, a9]; simp
  have b4 : B 4 0 = 0 := by rw [hB]; simp only [tNode, a9]; simp
  have b5 : B 5 0 = 0 := by rw [hB]; simp only [tNode, a9]; simp
  have b8 : B 8 0 = 0 := by rw [hB]; simp only [tNode, a9]; simp
  clear hB
  refine vd_X7_clear_0 E B _ (fun B1 f1 B4 f4 B7 f7 B11 f11 B15 f15 => ?_)
  have g1 : B1 49 1 = A 49 1 := by rw [f1, jup_ne (by decide), bo 49 (by decide)]
  rw [g1]
  have co : ∀ a, ¬ (a = 49 ∨ a = 51 ∨ a = 52) → B15 a = B a := fun a ha => by rw [f15, f11, f7, f4, f1, jup_row (by omega), jup_row (by omega), jup_row (by omega), jup_row (by omega), jup_row (by omega)]
  refine ⟨by omega, T.clear (by rw [co 2 (by decide)]; exact b9) (by rw [co 2 (by decide)]; exact b10) (by rw [f15, f11, f7, f4]; simp [jup]) (by rw [f15, f11, f7]; simp [jup]) (by rw [co 3 (by decide)]; exact b3) (by rw [co 7 (by decide)]; exact b7) (by rw [co 4 (by decide)]; exact b4) (by rw [co 5 (by decide)]; exact b5) (by rw [co 8 (by decide)]; exact b8) (by rw [co 50 (by decide), bo 50 (by decide)]; omega) (by rw [f15, f11]; simp [jup]) (by rw [f15, jup_at]) (by rw [co 53 (by decide), bo 53 (by decide)]; omega), ⟨fun a h1 h2 => ?_, fun j h1 h2 h3 => ?_, ?_⟩⟩
  · rw [co a (by omega), bo a h1]
  · rw [f15, f11, jup_row (by decide), jup_row (by decide), f7, jup_ne h3, f4, jup_ne h2, f1, jup_ne h1, bo 49 (by decide)]
  · rw [f15, f11, jup_row (by decide), jup_row (by decide), f7, jup_ne (by decide), f4, jup_ne (by decide), f1, jup_at]
