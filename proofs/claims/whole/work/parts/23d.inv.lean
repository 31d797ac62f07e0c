/-! WHAT EACH CALL KEEPS -/
section INVS
variable {E F : jE} {A C : jA}
/-- views stand where their rows stand -/
theorem VW.rows (W : VW A) (h : ∀ a, 38 ≤ a ∧ a ≤ 43 ∨ a = 58 ∨ 75 ≤ a ∧ a ≤ 77 → C a = A a) (h37 : C 49 37 = A 49 37) : VW C :=
  W.keep (h 39 (by decide)) (h 58 (by decide)) (by rw [h 38 (by decide)]) (by rw [h 38 (by decide)]) h37 (fun j _ => ⟨by rw [h 41 (by decide)], by rw [h 75 (by decide)]⟩) (fun j _ => ⟨by rw [h 42 (by decide)], by rw [h 43 (by decide)], by rw [h 76 (by decide)], by rw [h 77 (by decide)]⟩)
theorem LR.rows (hl : LR E A) (h : ∀ a, a = 1 ∨ a = 38 ∨ a = 39 ∨ a = 74 → C a = A a) (h35 : C 49 35 = A 49 35) : LR E C :=
  hl.fr (by rw [h 38 (by decide)]) (h 39 (by decide)) (h 74 (by decide)) (h 1 (by decide)) h35
theorem LR.env (hF : F.2.1 = E.2.1) (hl : LR E A) : LR F A := by
  unfold LR at *
  rw [hF]
  exact hl
theorem INV.env (hF : F.2.1 = E.2.1) (I : INV E A) : INV F A := ⟨I.1, I.2.1, I.2.2.1, LR.env hF I.2.2.2.1, I.2.2.2.2⟩
theorem INV.rows (I : INV E A) (h : ∀ a, 1 ≤ a → a < 79 → C a = A a) : INV E C :=
  ⟨I.1.fr (fun a x => h a (by omega) (by omega)) (by rw [h 49 (by decide) (by decide)]) (by rw [h 49 (by decide) (by decide)]), I.2.1.fr (fun a x => h a (by omega) (by omega)) (by rw [h 49 (by decide) (by decide)]), I.2.2.1.fr (fun a x => h a (by omega) (by omega)) (by rw [h 49 (by decide) (by decide)]), I.2.2.2.1.rows (fun a x => h a (by omega) (by omega)) (by rw [h 49 (by decide) (by decide)]), I.2.2.2.2.rows (fun a x => h a (by omega) (by omega)) (by rw [h 49 (by decide) (by decide)])⟩
theorem INV.tree (I : INV E A) (h : TR C ∧ FT A C) : INV E C := by
  obtain ⟨T, f1, f2, -⟩ := h
  exact ⟨T, I.2.1.fr (fun a x => f1 a (by omega) (by omega)) (f2 34 (by decide) (by decide) (by decide)), I.2.2.1.fr (fun a x => f1 a (by omega) (by omega)) (f2 11 (by decide) (by decide) (by decide)), I.2.2.2.1.rows (fun a x => f1 a (by omega) (by omega)) (f2 35 (by decide) (by decide) (by decide)), I.2.2.2.2.rows (fun a x => f1 a (by omega) (by omega)) (f2 37 (by decide) (by decide) (by decide))⟩
theorem INV.thr (I : INV E A) : INV E (jup A 49 0 0) := ⟨I.1.thr, I.2.1.thr, I.2.2.1.thr, I.2.2.2.1.thr, I.2.2.2.2.thr⟩
theorem INV.view (I : INV E A) (h : VW C ∧ FV A C) : INV E C := by
  obtain ⟨W, f1, f10, f2, -⟩ := h
  exact ⟨I.1.fr (fun a x => f1 a (by omega) (by omega) (by omega) (by omega)) (f2 1 (by decide) (by decide)) (f2 7 (by decide) (by decide)), I.2.1.fr (fun a x => f1 a (by omega) (by omega) (by omega) (by omega)) (f2 34 (by decide) (by decide)), I.2.2.1.fr (fun a x => f1 a (by omega) (by omega) (by omega) (by omega)) (f2 11 (by decide) (by decide)), I.2.2.2.1.fr f10 (f1 39 (by decide) (by decide) (by decide) (by decide)) (f1 74 (by decide) (by decide) (by decide) (by decide)) (f1 1 (by decide) (by decide) (by decide) (by decide)) (f2 35 (by decide) (by decide)), W⟩
theorem INV.lay (I : INV E A) (h : LR F C ∧ VW C ∧ FL A C) : INV F C := by
  obtain ⟨hl, W, f1, f2, -⟩ := h
  exact ⟨I.1.fr (fun a x => f1 a (by omega) (by omega) (by omega)) (f2 1 (by decide) (by decide) (by decide)) (f2 7 (by decide) (by decide) (by decide)), I.2.1.fr (fun a x => f1 a (by omega) (by omega) (by omega)) (f2 34 (by decide) (by decide) (by decide)), I.2.2.1.fr (fun a x => f1 a (by omega) (by omega) (by omega)) (f2 11 (by decide) (by decide) (by decide)), hl, W⟩
theorem INV.tape (I : INV E A) (h : TP C ∧ FP A C) : INV E C := by
  obtain ⟨P, f1, f2, -, f19, f20⟩ := h
  obtain ⟨T, P0, ⟨g1, g2, g3, g4, g5, g6⟩, hl, W⟩ := I
  have e1 : C 1 = A 1 := f1 1 (by decide) (by decide) (by decide) (by decide)
  have e58 : C 58 = A 58 := f1 58 (by decide) (by decide) (by decide) (by decide)
  have em : ∀ m, mb C m = mb A m := fun m => by funext x; unfold mb; rw [e58]
  have hI : ∀ c, jim c → c ≠ 19 → IM C c := fun c hc hn => by
    have r1 : C c = A c := f1 c (by omega) (by rcases hc with h | h | h | h | h <;> omega) (by rcases hc with h | h | h | h | h <;> omega) (by rcases hc with h | h | h | h | h <;> omega)
    have r2 : C (c + 1) = A (c + 1) := f1 (c + 1) (by rcases hc with h | h | h | h | h <;> omega) (by rcases hc with h | h | h | h | h <;> omega) (by rcases hc with h | h | h | h | h <;> omega) (by rcases hc with h | h | h | h | h <;> omega)
    unfold IM
    rw [r1, r2]
    exact g5 c hc
  refine ⟨T.fr (fun a x => f1 a (by omega) (by omega) (by omega) (by omega)) (f2 1 (by decide) (by decide)) (f2 7 (by decide) (by decide)), P, ⟨by rw [f2 11 (by decide) (by decide), e1]; exact g1, by rw [e1]; exact g2, by rw [e1]; exact g3, by unfold MB; rw [e58]; exact g4, fun c hc => ?_, fun m m0 m1 => ?_⟩, hl.rows (fun a x => f1 a (by omega) (by omega) (by omega) (by omega)) (f2 35 (by decide) (by decide)), W.rows (fun a x => f1 a (by omega) (by omega) (by omega) (by omega)) (f2 37 (by decide) (by decide))⟩
  · by_cases hn : c = 19
    · subst hn
      obtain ⟨i1, i2, i3, i4, i5⟩ := g5 19 hc
      exact ⟨hc, P.2.1, P.2.2.1, f20 i4, fun f a b => by rw [f19 f (by omega)]; exact i5 f a b⟩
    · exact hI c hc hn
  · rw [e1] at m1
    have := g6 m m0 m1
    unfold IR CR at this ⊢
    rw [em, f1 59 (by decide) (by decide) (by decide) (by decide), f1 (13 + 2 * m.toNat) (by omega) (by omega) (by omega) (by omega), f1 (13 + 2 * m.toNat + 1) (by omega) (by omega) (by omega) (by omega)]
    exact ⟨⟨hI _ this.1.1.1 (by omega), this.1.2⟩, this.2⟩
theorem INV.drop (I : INV E A) (h : C = jup A 49 0 0 ∨ A 1 6 ≠ 0 ∧ (∀ i, 0 ≤ i → i < A 38 10 → A 39 i ≠ A 1 6 - 1) ∧ C = jup (jup (jup A 1 6 (A 1 6 - 1)) 49 0 0) 49 11 (A 1 6 - 1)) : INV E C := by
  rcases h with h | ⟨h0, hl0, h⟩
  · rw [h]; exact I.thr
  obtain ⟨T, P0, ⟨g1, g2, g3, g4, g5, g6⟩, ⟨l1, l2, l3, l4, l5, l6⟩, W⟩ := I
  have o : ∀ a, a ≠ 1 → a ≠ 49 → C a = A a := fun a h1 h2 => by rw [h, jup_row h2, jup_row h2, jup_row h1]
  have o49 : ∀ j, j ≠ 0 → j ≠ 11 → C 49 j = A 49 j := fun j h1 h2 => by rw [h, jup_ne h2, jup_ne h1, jup_row (by decide)]
  have c11 : C 49 11 = A 1 6 - 1 := by rw [h, jup_at]
  have c16 : C 1 6 = A 1 6 - 1 := by rw [h, jup_row (by decide), jup_row (by decide), jup_at]
  have em : ∀ m, mb C m = mb A m := fun m => by funext x; unfold mb; rw [o 58 (by decide) (by decide)]
  have hI : ∀ c, jim c → IM C c := fun c hc => by
    have r1 : C c = A c := o c (by rcases hc with h | h | h | h | h <;> omega) (by rcases hc with h | h | h | h | h <;> omega)
    have r2 : C (c + 1) = A (c + 1) := o (c + 1) (by rcases hc with h | h | h | h | h <;> omega) (by rcases hc with h | h | h | h | h <;> omega)
    unfold IM
    rw [r1, r2]
    exact g5 c hc
  refine ⟨T.fr (fun a x => o a (by omega) (by omega)) (o49 1 (by decide) (by decide)) (o49 7 (by decide) (by decide)), P0.fr (fun a x => o a (by omega) (by omega)) (o49 34 (by decide) (by decide)), ⟨by omega, by omega, by omega, by unfold MB; rw [o 58 (by decide) (by decide)]; exact g4, hI, fun m m0 m1 => ?_⟩, ?_, W.rows (fun a x => o a (by omega) (by omega)) (o49 37 (by decide) (by decide))⟩
  · have := g6 m m0 (by omega)
    unfold IR CR at this ⊢
    rw [em, o 59 (by decide) (by decide), o (13 + 2 * m.toNat) (by omega) (by omega), o (13 + 2 * m.toNat + 1) (by omega) (by omega)]
    exact ⟨⟨hI _ this.1.1.1, this.1.2⟩, this.2⟩
  · unfold LR
    rw [o49 35 (by decide) (by decide), o 38 (by decide) (by decide), o 39 (by decide) (by decide), o 74 (by decide) (by decide), c16]
    refine ⟨l1, l2, l3, fun i i0 i1 => ?_, l5, l6⟩
    obtain ⟨a1, a2, a3, a4⟩ := l4 i i0 i1
    have := hl0 i i0 i1
    exact ⟨a1, a2, by omega, a4⟩
end INVS
