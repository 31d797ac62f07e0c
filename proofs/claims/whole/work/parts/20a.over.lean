/-! OVER ON BOTH SIDES -/
theorem vroot_len (n : Nat) : (vroot n).length = n := by
  induction n with
  | zero => rfl
  | succ n ih => simp only [vroot, List.length_cons, ih]
theorem vroot_get (n : Nat) (i : Nat) (h : i < n) : (vroot n).getD i (0, 0) = ((n : Int) - 1 - i, 1) := by
  induction n generalizing i with
  | zero => omega
  | succ n ih =>
    cases i with
    | zero => simp [vroot]
    | succ i =>
      simp only [vroot, List.getD_cons_succ]
      rw [ih i (by omega)]
      simp only [Prod.mk.injEq, and_true]
      omega
theorem k_lay {x : Int} (hx : 0 ≤ x ∧ x ≤ 2) {E : jE} {A : jA} (hA : jOK A) (hn : 0 ≤ A 38 10 ∧ A 38 10 < 3) {K : Int32 → zx_S → Prop} (h : jOK (vadd (jup (jup (jup A 39 (A 38 10) x) 38 10 (A 38 10 + 1)) 38 11 0) (vroot (A 38 10 + 1).toNat)) → K (jI (A 38 10 + 1)) (js (jlay E (A 38 10).toNat (13 + 2 * x.toNat)) (vadd (jup (jup (jup A 39 (A 38 10) x) 38 10 (A 38 10 + 1)) 38 11 0) (vroot (A 38 10 + 1).toNat)))) : zwI 76 0 [some (.ref 38), some (.int (jI x)), some (.ref (13 + 2 * x.toNat))] [] (js E A) K := by
  have e10 : zI (js E A) 38 10 = jI (A 38 10) := rfl
  have ek : Int32.toNatClampNeg (jI (A 38 10)) = (A 38 10).toNat := jI_nat (by omega)
  refine vc_X3_lay_0 38 (jI x) (13 + 2 * x.toNat) (js E A) K ⟨rfl, fun q => ?_, fun _ => ⟨39, rfl, rfl, j_in (n := 3) (by omega) (by omega), fun σ6 s6 => ?_⟩⟩
  · rw [e10, show (3 : Int32) = jI 3 from rfl, jI_le (by omega) (by omega)] at q
    omega
  · rw [e10, ek, ← js_up E A 39 (A 38 10).toNat (A 38 10) x (by omega)] at s6
    subst s6
    have f10 : zI (js E (jup A 39 (A 38 10) x)) 38 10 = jI (A 38 10) := by
      show jI (jup A 39 (A 38 10) x 38 10) = _
      rw [jup_row (by decide)]
    refine ⟨40, rfl, rfl, (jim_at hx.1 (by omega)).K, j_in (n := 3) (by omega) (by rw [jup_row (by decide)]; exact ⟨hn.1, hn.2⟩), fun σ13 s13 σ15 s15 => ?_⟩
    rw [f10, ek, js_lay _ _ _ _ (by omega)] at s13
    subst s13
    have g10 : zI (js (jlay E (A 38 10).toNat (13 + 2 * x.toNat)) (jup A 39 (A 38 10) x)) 38 10 = jI (A 38 10) := f10
    rw [g10, show jI (A 38 10) + 1 = jI (A 38 10 + 1) from by rw [show (1 : Int32) = jI 1 from rfl, ← Int32.ofInt_add], ← js_up _ _ 38 10 10 (A 38 10 + 1) rfl] at s15
    subst s15
    have hB : jOK (jup (jup A 39 (A 38 10) x) 38 10 (A 38 10 + 1)) := (hA.up (o := 39) (i := A 38 10) (v := x) (by omega) rfl).up (by omega) rfl
    have b10 : jup (jup A 39 (A 38 10) x) 38 10 (A 38 10 + 1) 38 10 = A 38 10 + 1 := jup_at _ _ _ _
    have key := (k_startViews (E := jlay E (A 38 10).toNat (13 + 2 * x.toNat)) (A := jup (jup A 39 (A 38 10) x) 38 10 (A 38 10 + 1)) (by omega) (K := fun B => B = vadd (jup (jup (jup A 39 (A 38 10) x) 38 10 (A 38 10 + 1)) 38 11 0) (vroot (A 38 10 + 1).toNat)) (by rw [b10])).z hB
    refine zwV.mono key (fun σ ⟨B, e1, e2, e3⟩ => ?_)
    subst e1
    rw [e3] at e2 ⊢
    refine ⟨rfl, ?_⟩
    have : zI (js (jlay E (A 38 10).toNat (13 + 2 * x.toNat)) (vadd (jup (jup (jup A 39 (A 38 10) x) 38 10 (A 38 10 + 1)) 38 11 0) (vroot (A 38 10 + 1).toNat))) 38 10 = jI (A 38 10 + 1) := by
      show jI (vadd (jup (jup (jup A 39 (A 38 10) x) 38 10 (A 38 10 + 1)) 38 11 0) (vroot (A 38 10 + 1).toNat) 38 10) = _
      congr 1
    rw [this]
    exact h e2
/-- the images laid are the same but one -/
def EF (E F : jE) : Prop := F.1 = E.1 ∧ F.2.2 = E.2.2
theorem p_over {x : Int} (rx : jW x) {E : jE} {A : jA} (hA : jOK A) (G : GI A) (hl : LR E A) (W : VW A) : zwI 132 0 [some (.ref 1), some (.int (jI x))] [] (js E A) (fun v σ => ∃ (w : Int) (F : jE) (B : jA), v = jI w ∧ jW w ∧ σ = js F B ∧ jOK B ∧ EF E F ∧ jrI 194 0 [some (.ref 49), some (.int (jI x))] [] F B (fun y C => w = y ∧ LR F C ∧ VW C ∧ FL A C)) := by
  have hl' := hl
  obtain ⟨l1, l2, l3, l4, l5, l6⟩ := hl
  obtain ⟨g1, g2, g3, g4, g5, g6⟩ := G
  have ft : FL A (jup A 49 0 0) := ⟨fun a _ h _ => jup_row h, fun k h _ _ => jup_ne h, jup_at _ _ _ _⟩
  have lt : LR E (jup A 49 0 0) := by
    refine ⟨?_, ?_, ?_, ?_, ?_, l6⟩
    · rw [jup_ne (by decide), jup_row (by decide)]; exact l1
    · rw [jup_row (by decide)]; exact l2
    · rw [jup_row (by decide)]; exact l3
    · rw [jup_row (by decide), jup_row (by decide), jup_row (by decide), jup_row (by decide)]; exact l4
    · rw [jup_row (by decide), jup_row (by decide)]; exact l5
  have t6 : jup A 49 0 0 49 11 = A 1 6 := by rw [jup_ne (by decide)]; exact g1
  have t35 : jup A 49 0 0 49 35 = A 38 10 := by rw [jup_ne (by decide)]; exact l1
  have t74 : jup A 49 0 0 74 = A 74 := jup_row (by decide)
  refine vc_X6_over_0 1 (jI x) (js E A) _ ⟨rfl, ?_⟩
  refine zwI.mono ((k_hasImage rx (K := fun v B => B = A ∧ (v = 1 ∧ 0 ≤ x ∧ x < A 1 6 ∨ v = 0 ∧ ¬ (0 ≤ x ∧ x < A 1 6))) (fun h1 h2 => ⟨rfl, .inl ⟨rfl, h1, h2⟩⟩) (fun h => ⟨rfl, .inr ⟨rfl, h⟩⟩)).z hA) (fun v σ ⟨w, B, e1, e2, e3, e4, e5, e6⟩ => ?_)
  subst e5 e3 e1
  rcases e6 with ⟨rfl, x0, x1⟩ | ⟨rfl, hx⟩
  · refine ⟨fun _ => ⟨rfl, 38, rfl, rfl, ?_⟩, fun q => absurd q (by decide)⟩
    refine zwI.mono ((k_isLaid rx (K := fun v C => C = B ∧ (v = 1 ∧ (∃ i, 0 ≤ i ∧ i < B 38 10 ∧ B 39 i = x) ∨ v = 0 ∧ (∀ i, 0 ≤ i → i < B 38 10 → B 39 i ≠ x))) ⟨l2, l3⟩ (fun h => ⟨rfl, .inl ⟨rfl, h⟩⟩) (fun h => ⟨rfl, .inr ⟨rfl, h⟩⟩)).z hA) (fun v σ ⟨w, C, e1, e2, e3, e4, e5, e6⟩ => ?_)
    subst e5 e3 e1
    rcases e6 with ⟨rfl, hi⟩ | ⟨rfl, hi⟩
    · refine ⟨fun q => absurd q (by decide), fun _ => ⟨-3, E, C, rfl, by omega, rfl, hA, ⟨rfl, rfl⟩, ?_⟩⟩
      refine vd_X7_over_0 x rx E C _ (fun A1 a1 => ?_)
      subst a1
      refine k_isImage rx (by omega) (fun _ _ => ⟨fun _ => ?_, fun q => absurd q (by decide)⟩) (fun h => absurd ⟨x0, by omega⟩ h)
      refine k_misLaid rx (by omega) (fun _ => ⟨fun q => absurd q (by decide), fun _ => ⟨rfl, lt, W.thr, ft⟩⟩) (fun h => ?_)
      exfalso
      obtain ⟨i, i0, i1, i2⟩ := hi
      refine h i i0 (by omega) ?_
      rw [t74, (l4 i i0 i1).1, i2]
    · have hn : C 38 10 < 3 := by
        false_or_by_contra
        have h3 : C 38 10 = 3 := by omega
        have a0 := l4 0 (by omega) (by omega)
        have a1 := l4 1 (by omega) (by omega)
        have a2 := l4 2 (by omega) (by omega)
        have b0 := hi 0 (by omega) (by omega)
        have b1 := hi 1 (by omega) (by omega)
        have b2 := hi 2 (by omega) (by omega)
        have c0 := l5 0 1 (by omega) (by omega) (by omega)
        have c1 := l5 0 2 (by omega) (by omega) (by omega)
        have c2 := l5 1 2 (by omega) (by omega) (by omega)
        omega
      refine ⟨fun _ => ⟨rfl, 38, rfl, 12, rfl, rfl, j_in (n := 3) (by omega) (by omega), 13 + 2 * x.toNat, ?_, rfl, ?_⟩, fun q => absurd rfl q⟩
      · rw [jI_nat rx]
        have : x = 0 ∨ x = 1 ∨ x = 2 := by omega
        rcases this with rfl | rfl | rfl <;> rfl
      refine k_lay ⟨x0, by omega⟩ hA ⟨l2, hn⟩ (fun hB => ⟨C 38 10 + 1, _, _, rfl, by omega, rfl, hB, ⟨rfl, rfl⟩, ?_⟩)
      generalize hBe : vadd (jup (jup (jup C 39 (C 38 10) x) 38 10 (C 38 10 + 1)) 38 11 0) (vroot (C 38 10 + 1).toNat) = B at hB ⊢
      have b11 : jup (jup (jup C 39 (C 38 10) x) 38 10 (C 38 10 + 1)) 38 11 0 38 11 = 0 := jup_at _ _ _ _
      have bo : ∀ o, ¬ (38 ≤ o ∧ o ≤ 46) → B o = C o := fun o ho => by
        rw [← hBe, vadd_row (by omega) (by omega), jup_row (by omega), jup_row (by omega), jup_row (by omega)]
      have b39 : B 39 = jup C 39 (C 38 10) x 39 := by
        rw [← hBe, vadd_row (by decide) (by decide), jup_row (by decide), jup_row (by decide)]
      have b10 : B 38 10 = C 38 10 + 1 := by rw [← hBe]; simp [vadd, fset, jup]
      have bn : B 38 11 = 1 := by rw [← hBe]; simp [vadd, jup]
      have b41 : B 41 0 = C 38 10 + 1 := by
        rw [← hBe]
        simp only [vadd, b11, show ¬ (41 : Nat) = 38 by decide, false_and, if_false, true_and, if_true]
        rw [vroot_len]; omega
      have b42 : ∀ i, 0 ≤ i → i < C 38 10 + 1 → B 42 (0 * 3 + i) = C 38 10 - i ∧ B 43 (0 * 3 + i) = 1 := fun i i0 i1 => by
        have := vadd_new (A := jup (jup (jup C 39 (C 38 10) x) 38 10 (C 38 10 + 1)) 38 11 0) (F := vroot (C 38 10 + 1).toNat) i0 (by rw [vroot_len]; omega)
        rw [b11, hBe, vroot_get _ _ (by omega)] at this
        dsimp only at this
        exact ⟨by rw [this.1]; omega, this.2⟩
      refine vd_X7_over_0 x rx _ B _ (fun A1 a1 => ?_)
      subst a1
      have u11 : jup B 49 0 0 49 11 = C 1 6 := by rw [jup_ne (by decide), bo 49 (by decide)]; exact g1
      have u35 : jup B 49 0 0 49 35 = C 38 10 := by rw [jup_ne (by decide), bo 49 (by decide)]; exact l1
      have u74 : jup B 49 0 0 74 = C 74 := by rw [jup_row (by decide), bo 74 (by decide)]
      refine k_isImage rx (by omega) (fun _ _ => ⟨fun _ => ?_, fun q => absurd q (by decide)⟩) (fun h => absurd ⟨x0, by omega⟩ h)
      refine k_misLaid rx (by omega) (fun ⟨i, i0, i1, i2⟩ => absurd i2 (by rw [u74, (l4 i i0 (by omega)).1]; exact hi i i0 (by omega))) (fun _ => ⟨fun _ => ⟨by omega, fun A2 a2 => ?_⟩, fun q => absurd rfl q⟩)
      rw [u35] at a2
      have v35 : A2 49 35 = C 38 10 := by rw [a2, jup_row (by decide)]; exact u35
      refine ⟨by omega, fun A3 a3 => ?_⟩
      rw [v35] at a3
      have w35 : A3 49 35 = C 38 10 + 1 := by rw [a3, jup_at]
      have w49 : ∀ k, k ≠ 0 → k ≠ 35 → A3 49 k = C 49 k := fun k h0 h1 => by rw [a3, jup_ne h1, a2, jup_row (by decide), jup_ne h0, bo 49 (by decide)]
      have w0 : A3 49 0 = 0 := by rw [a3, jup_ne (by decide), a2, jup_row (by decide), jup_at]
      have wo : ∀ o, o ≠ 49 → o ≠ 74 → A3 o = B o := fun o h1 h2 => by rw [a3, jup_row h1, a2, jup_row h2, jup_row h1]
      have w74 : A3 74 = jup C 74 (C 38 10) x 74 := by
        rw [a3, jup_row (by decide), a2]
        funext j
        simp only [jup, true_and]
        by_cases hj : j = C 38 10
        · rw [if_pos hj, if_pos hj]
        · rw [if_neg hj, if_neg hj, if_neg (by omega), bo 74 (by decide)]
      refine k_first (by omega) ?_
      rw [w35]
      have c : ∀ o, o ≠ 49 → ¬ (75 ≤ o ∧ o ≤ 77) → mfirst A3 (C 38 10 + 1) o = A3 o := fun o h1 h2 => by
        funext j; simp only [mfirst]; rw [if_neg (by omega), if_neg (by omega), if_neg (by omega), if_neg (by omega)]
      have c49 : ∀ k, k ≠ 37 → mfirst A3 (C 38 10 + 1) 49 k = A3 49 k := fun k hk => by
        simp only [mfirst]; rw [if_neg (by omega), if_neg (by omega), if_neg (by omega), if_neg (by omega)]
      have c37 : mfirst A3 (C 38 10 + 1) 49 37 = 1 := by simp only [mfirst, w35]; rw [if_pos (by decide), if_neg (by omega)]
      have c75 : mfirst A3 (C 38 10 + 1) 75 0 = C 38 10 + 1 := by simp [mfirst, w35]
      have c76 : ∀ i, 0 ≤ i → i < C 38 10 + 1 → mfirst A3 (C 38 10 + 1) 76 i = A3 74 (C 38 10 - i) ∧ mfirst A3 (C 38 10 + 1) 77 i = 1 := fun i i0 i1 => by
        constructor
        · simp [mfirst, w35, i0, i1]
        · simp [mfirst, w35, i0, i1]
      have hmb : ∀ m, mb (mfirst A3 (C 38 10 + 1)) m = mb C m := fun m => by
        funext j; simp only [mb]; rw [c 58 (by decide) (by decide), wo 58 (by decide) (by decide), bo 58 (by decide)]
      generalize hD : mfirst A3 (C 38 10 + 1) = D at c c49 c37 c75 c76 hmb ⊢
      have d38 : D 38 = B 38 := by rw [c 38 (by decide) (by decide), wo 38 (by decide) (by decide)]
      have d39 : D 39 = jup C 39 (C 38 10) x 39 := by rw [c 39 (by decide) (by decide), wo 39 (by decide) (by decide), b39]
      have d74 : D 74 = jup C 74 (C 38 10) x 74 := by rw [c 74 (by decide) (by decide), w74]
      have d1 : D 1 = C 1 := by rw [c 1 (by decide) (by decide), wo 1 (by decide) (by decide), bo 1 (by decide)]
      have d41 : ∀ o, 41 ≤ o → o ≤ 43 → D o = B o := fun o h1 h2 => by rw [c o (by omega) (by omega), wo o (by omega) (by omega)]
      have hL : ∀ i, 0 ≤ i → i < C 38 10 + 1 → D 74 i = D 39 i ∧ 0 ≤ D 39 i ∧ D 39 i < C 1 6 := fun i i0 i1 => by
        rw [d74, d39]
        by_cases hj : i = C 38 10
        · subst hj; rw [jup_at, jup_at]; exact ⟨rfl, x0, x1⟩
        · rw [jup_ne hj, jup_ne hj]; exact ⟨(l4 i i0 (by omega)).1, (l4 i i0 (by omega)).2.1, (l4 i i0 (by omega)).2.2.1⟩
      refine ⟨by rw [c49 35 (by decide), w35], ⟨?_, ?_, ?_, fun i i0 i1 => ?_, fun i j i0 ij j1 => ?_, fun k hk => ?_⟩, ⟨?_, ?_, ?_, fun v v0 v1 => ?_⟩, ⟨fun a h1 h2 h3 => ?_, fun k h1 h2 h3 => ?_, ?_⟩⟩
      · rw [c49 35 (by decide), w35, d38, b10]
      · rw [d38, b10]; omega
      · rw [d38, b10]; omega
      · rw [d38, b10] at i1
        have := hL i i0 i1
        refine ⟨this.1, this.2.1, by rw [d1]; exact this.2.2, ?_⟩
        rw [d39]
        show (if i.toNat = (C 38 10).toNat then 13 + 2 * x.toNat else E.2.1 i.toNat) = _
        by_cases hj : i = C 38 10
        · subst hj; rw [if_pos rfl, jup_at]
        · rw [if_neg (by omega), jup_ne hj]; exact (l4 i i0 (by omega)).2.2.2
      · rw [d38, b10] at j1
        rw [d39, jup_ne (by omega)]
        by_cases hj : j = C 38 10
        · subst hj; rw [jup_at]; exact hi i i0 (by omega)
        · rw [jup_ne hj]; exact l5 i j i0 ij (by omega)
      · show jim (if k = (C 38 10).toNat then 13 + 2 * x.toNat else E.2.1 k)
        by_cases hj : k = (C 38 10).toNat
        · rw [if_pos hj]; exact jim_at x0 (by omega)
        · rw [if_neg hj]; exact l6 k hk
      · rw [c37, d38, bn]
      · rw [d38, bn]; decide
      · rw [d38, bn]; decide
      · rw [d38, bn] at v1
        have : v = 0 := by omega
        subst this
        have hst : vstk D 0 = vroot (C 38 10 + 1).toNat := by
          have hh := vfr_of (B := D) (v := 0) (F := vroot (C 38 10 + 1).toNat) (i := 0) (fun j j0 j1 => by
            rw [vroot_len] at j1
            rw [Int.zero_add, d41 42 (by decide) (by decide), d41 43 (by decide) (by decide), (b42 j j0 (by omega)).1, (b42 j j0 (by omega)).2, vroot_get _ _ (by omega)]
            dsimp only
            exact ⟨by omega, rfl⟩)
          rw [vroot_len] at hh
          unfold vstk
          rw [d41 41 (by decide) (by decide), b41]; exact hh
        have hp : ∀ i, 0 ≤ i → i < C 38 10 + 1 → D 42 (0 * 3 + i) = C 38 10 - i ∧ D 43 (0 * 3 + i) = 1 ∧ 1 ≤ uw (lu D (C 38 10 - i)) 4 ∧ uKind (lu D (C 38 10 - i)) 1 = 1 := fun i i0 i1 => by
          rw [d41 42 (by decide) (by decide), d41 43 (by decide) (by decide)]
          have hm := hL (C 38 10 - i) (by omega) (by omega)
          have := (g6 (D 39 (C 38 10 - i)) hm.2.1 hm.2.2).2
          refine ⟨(b42 i i0 i1).1, (b42 i i0 i1).2, ?_, ?_⟩
          · unfold lu; rw [hmb]; exact this.1.2.2.2.2.2.2.2.1
          · unfold lu; rw [hmb]; exact this.2.2.2.2.1
        refine ⟨⟨?_, ?_, fun i i0 i1 => ?_, .inl fun i i0 i1 => ?_⟩, ⟨?_, fun i i0 i1 => ?_⟩, [], ?_⟩
        · rw [d41 41 (by decide) (by decide), b41]; omega
        · rw [d41 41 (by decide) (by decide), b41]; omega
        · rw [d41 41 (by decide) (by decide), b41] at i1
          have := hp i i0 i1
          rw [this.1, this.2.1, d38, b10]
          exact ⟨by omega, by omega, by omega, this.2.2.1⟩
        · rw [d41 41 (by decide) (by decide), b41] at i1
          have := hp i i0 i1
          rw [this.1, this.2.1]; exact this.2.2.2
        · rw [c75, d41 41 (by decide) (by decide), b41]
        · rw [d41 41 (by decide) (by decide), b41] at i1
          have := hp i i0 i1
          rw [this.1, this.2.1, show 3 * (0 : Int) + i = i by omega, (c76 i i0 i1).1, (c76 i i0 i1).2, w74, ← d74]
          exact ⟨(hL _ (by omega) (by omega)).1, rfl⟩
        · show vstk D 0 = vroot (D 38 10).toNat
          rw [hst, d38, b10]
      · rw [c a h2 (by omega), wo a h2 (by omega), bo a h1]
      · rw [c49 k h3, w49 k h1 h2]
      · rw [c49 0 (by decide), w0]
  · refine ⟨fun q => absurd rfl q, fun _ => ⟨-1, E, B, rfl, by omega, rfl, hA, ⟨rfl, rfl⟩, ?_⟩⟩
    refine vd_X7_over_0 x rx E B _ (fun A1 a1 => ?_)
    subst a1
    exact k_isImage rx (by omega) (fun h1 h2 => absurd ⟨h1, by omega⟩ hx) (fun _ => ⟨fun q => absurd rfl q, fun _ => ⟨rfl, lt, W.thr, ft⟩⟩)
