/-! THE TREE'S CALLS ON BOTH SIDES -/
/-- outside the trees nothing has changed -/
def FT (A C : jA) : Prop := (∀ a, ¬ (2 ≤ a ∧ a ≤ 11) → ¬ (49 ≤ a ∧ a ≤ 57) → C a = A a) ∧ (∀ k, k ≠ 0 → k ≠ 1 → k ≠ 7 → C 49 k = A 49 k) ∧ C 49 0 = 0
theorem FT.thr (A : jA) : FT A (jup A 49 0 0) := ⟨fun a h1 h2 => jup_row (by omega), fun k h1 h2 h3 => jup_ne h1, jup_at _ _ _ _⟩
theorem TR.thr {A : jA} (T : TR A) : TR (jup A 49 0 0) := T.fr (fun a h => jup_row (by omega)) (jup_ne (by decide)) (jup_ne (by decide))
theorem tNode_row {A : jA} {h k : Int} {o : Nat} (ho : ¬ (2 ≤ o ∧ o ≤ 11)) : tNode A h k o = A o := by
  funext j
  simp only [tNode]
  rw [if_neg (by omega), if_neg (show ¬ o = 3 by omega), if_neg (show ¬ o = 7 by omega), if_neg (show ¬ (o = 4 ∨ o = 5 ∨ o = 8 ∨ o = 6) by omega)]
  split <;> rfl
theorem tName_row {A : jA} {p k x : Int} {o : Nat} (ho : ¬ (2 ≤ o ∧ o ≤ 11)) : tName A p k x o = A o := by
  funext j
  simp only [tName]
  rw [if_neg (by omega), if_neg (by omega), if_neg (by omega), if_neg (by omega), if_neg (by omega)]
theorem mNode_row {A : jA} {k f y : Int} {o : Nat} (ho : ¬ (49 ≤ o ∧ o ≤ 57)) : mNode A k f y o = A o := by
  funext j
  simp only [mNode]
  rw [if_neg (by omega), if_neg (by omega), if_neg (by omega), if_neg (by omega), if_neg (by omega), if_neg (by omega), if_neg (by omega), if_neg (by omega)]
theorem mNode_49 {A : jA} {k f y j : Int} (h0 : j ≠ 0) (h1 : j ≠ 1) (h7 : j ≠ 7) : mNode A k f y 49 j = A 49 j := by
  simp only [mNode]
  rw [if_neg (by omega), if_neg (by omega), if_neg (by omega), if_neg (by omega), if_neg (by omega), if_neg (by omega), if_neg (by omega), if_neg (by omega)]
theorem p_comes {f y k : Int} (rf : jW f) (ry : jW y) (hk : 1 ≤ k ∧ k ≤ 3) {E : jE} {A : jA} (T : TR A) : jrI 108 0 [some (.ref 1), some (.int (jI f)), some (.int (jI y)), some (.int (jI k))] [] E A (fun v B => jrI 147 0 [some (.ref 49), some (.int (jI k)), some (.int (jI f)), some (.int (jI y))] [] E B (fun w C => v = w ∧ TR C ∧ FT A C)) := by
  obtain ⟨⟨n1, n2, n3, n4, n5, n6, n7, n8⟩, Tk, Tb, Ts, Tm, Tc, Td, Tx, Tf⟩ := id T
  have hm2 : A 2 9 < 32 → A 2 10 < 279 := by
    intro h
    have h1 := jfree_nonneg (f := A 6) (n := (A 2 9).toNat) (fun x a b => (Tx x a (by omega)).2.2.1)
    unfold TRf at Tf
    omega
  have bad : ∀ v : Int, v = v ∧ TR (jup A 49 0 0) ∧ FT A (jup A 49 0 0) := fun v => ⟨rfl, T.thr, FT.thr A⟩
  have hno : (∀ i, 0 ≤ i → i < A 2 10 → A 10 i ≠ 1000 * f + y) → 1 ≤ y → y ≤ 999 → ∀ i, 0 ≤ i → i < A 2 10 → ¬ (A 55 i = f ∧ A 56 i = y) := by
    intro h y0 y1 i i0 i1 e
    obtain ⟨j, j0, j1, e1⟩ := (T.there ⟨y0, y1⟩).mpr ⟨i, i0, i1, e.1, e.2⟩
    exact h j j0 j1 e1
  refine k_addBelow rf ry hk ⟨n1, n2⟩ ⟨n4, n5⟩ hm2 Ts ?_ ?_ ?_ ?_ ?_
  · intro q
    refine k_comes hk rf ry (by omega) (by omega) (fun _ => bad _) ?_ ?_ ?_ ?_ <;> (intro z1 z2; exfalso; omega)
  · intro a b q
    refine k_comes hk rf ry (by omega) (by omega) (fun z => by exfalso; omega) (fun _ _ _ => bad _) ?_ ?_ ?_ <;> (intro z1 z2 z3 z4; exfalso; omega)
  · intro a b c d q
    have q2 : A 50 f = 1 → ∃ i, 0 ≤ i ∧ i < A 2 10 ∧ A 55 i = f ∧ A 56 i = y := fun e => (T.there ⟨c, d⟩).mp (q (by have := Tk f a b; omega))
    refine k_comes hk rf ry (by omega) (by omega) ?_ ?_ (fun _ _ _ _ _ => bad _) ?_ ?_
    · intros; omega
    · intros; omega
    · intro _ _ _ _ e h
      obtain ⟨i, i0, i1, e1⟩ := q2 e
      exact absurd e1 (h i i0 (by omega))
    · intro _ _ _ _ e h
      obtain ⟨i, i0, i1, e1⟩ := q2 e
      exact absurd e1 (h i i0 (by omega))
  · intro a b c d e g q
    have h9 := hno g c d
    have t := Tk f a b
    refine k_comes hk rf ry (by omega) (by omega) ?_ ?_ ?_ (fun _ _ _ _ _ _ _ => bad _) ?_
    · intros; omega
    · intros; omega
    · intro _ _ _ _ h
      obtain ⟨i, i0, i1, e1⟩ := h (by omega)
      exact absurd e1 (h9 i i0 (by omega))
    · intros; omega
  · intro a b c d e g q p p0 p1 hlo hhi
    have h9 := hno g c d
    have t := Tk f a b
    obtain ⟨B, hB⟩ : ∃ B, B = tName (tNode A f k) p (1000 * f + y) (A 2 9) := ⟨_, rfl⟩
    have T2 := T.node hk ⟨a, b⟩ ⟨c, d⟩ e g q ⟨p0, p1⟩ hlo hhi
    rw [← hB] at T2 ⊢
    have bo : ∀ o, ¬ (2 ≤ o ∧ o ≤ 11) → B o = A o := fun o ho => by rw [hB, tName_row ho, tNode_row ho]
    have b49 : ∀ j, B 49 j = A 49 j := fun j => by rw [bo 49 (by decide)]
    have b1 := b49 1
    have b7 := b49 7
    refine k_comes hk rf ry (by omega) (by omega) ?_ ?_ ?_ ?_ ?_
    · intros; omega
    · intros; omega
    · intro _ _ _ _ h
      rw [bo 50 (by decide), bo 55 (by decide), bo 56 (by decide)] at h
      obtain ⟨i, i0, i1, e1⟩ := h (by omega)
      exact absurd e1 (h9 i i0 (by omega))
    · intros; omega
    · intros
      refine ⟨by omega, T2, ⟨fun o h1 h2 => ?_, fun j h1 h2 h3 => ?_, ?_⟩⟩
      · rw [← bo o h1]
        exact mNode_row h2
      · rw [← b49 j]
        exact mNode_49 h1 h2 h3
      · simp [mNode]
theorem p_folder {f y : Int} (rf : jW f) (ry : jW y) {E : jE} {A : jA} (T : TR A) : jrI 118 0 [some (.ref 1), some (.int (jI f)), some (.int (jI y))] [] E A (fun v B => jrI 157 0 [some (.ref 49), some (.int (jI f)), some (.int (jI y))] [] E B (fun w C => v = w ∧ TR C ∧ FT A C)) :=
  vd_X6_folder_0 f rf y ry E A _ ((p_comes rf ry (by decide) T).mono (fun v B _ _ h => vd_X7_folder_0 f rf y ry E B _ h))
theorem p_file {f y : Int} (rf : jW f) (ry : jW y) {E : jE} {A : jA} (T : TR A) : jrI 117 0 [some (.ref 1), some (.int (jI f)), some (.int (jI y))] [] E A (fun v B => jrI 153 0 [some (.ref 49), some (.int (jI f)), some (.int (jI y))] [] E B (fun w C => v = w ∧ TR C ∧ FT A C)) :=
  vd_X6_file_0 f rf y ry E A _ ((p_comes rf ry (by decide) T).mono (fun v B _ _ h => vd_X7_file_0 f rf y ry E B _ h))
theorem p_hide {f y : Int} (rf : jW f) (ry : jW y) {E : jE} {A : jA} (T : TR A) : jrI 120 0 [some (.ref 1), some (.int (jI f)), some (.int (jI y))] [] E A (fun v B => jrI 158 0 [some (.ref 49), some (.int (jI f)), some (.int (jI y))] [] E B (fun w C => v = w ∧ TR C ∧ FT A C)) :=
  vd_X6_hide_0 f rf y ry E A _ ((p_comes rf ry (by decide) T).mono (fun v B _ _ h => vd_X7_hide_0 f rf y ry E B _ h))
