/-! WHAT IS LAID, ON BOTH SIDES: bare, over -/
theorem jrI.z {y pc : Nat} {L : zx_L} {E : jE} {A : jA} {K : Int → jA → Prop} (h : jrI y pc L [] E A K) (hA : jOK A) : zwI y pc L [] (js E A) (fun v σ => ∃ (w : Int) (B : jA), v = jI w ∧ jW w ∧ σ = js E B ∧ jOK B ∧ K w B) := zw.mono (h hA) (fun _ _ ⟨w, B, a, b, c, d, e⟩ => ⟨jI w, a, w, B, rfl, b, c, d, e⟩)
theorem jrV.z {y pc : Nat} {L : zx_L} {E : jE} {A : jA} {K : jA → Prop} (h : jrV y pc L [] E A K) (hA : jOK A) : zwV y pc L [] (js E A) (fun σ => ∃ (B : jA), σ = js E B ∧ jOK B ∧ K B) := zw.mono (h hA) (fun _ _ ⟨B, a, c, d, e⟩ => ⟨a, B, c, d, e⟩)
/-- another image stands at the layer k -/
def jlay (E : jE) (k c : Nat) : jE := (E.1, fun j => if j = k then c else E.2.1 j, E.2.2)
theorem js_lay (E : jE) (A : jA) (k c : Nat) (hk : k < 3) : zx_pR (js E A) 40 k (some c) = js (jlay E k c) A := by
  unfold js zx_pR jlay zK zN zI zR zJ zn zs
  refine congrArg _ (congrArg _ (congrArg _ (congrArg (fun f => (f, _)) (funext fun a => funext fun j => ?_))))
  by_cases ha : a = 40
  · subst ha
    rw [if_pos rfl]
    simp only [jR, va_up, if_true]
    by_cases hj : j = k
    · subst hj; simp [hk]
    · simp [hj]
  · rw [if_neg ha]
    simp only [jR, ha, if_false]
theorem k_startViews {E : jE} {A : jA} (hn : 1 ≤ A 38 10 ∧ A 38 10 ≤ 3) {K : jA → Prop} (h : K (vadd (jup A 38 11 0) (vroot (A 38 10).toNat))) : jrV 85 0 [some (.ref 38), none] [] E A K := by
  refine vd_X3_startViews_0 E A K (fun A1 e1 A4 e4 => ?_)
  rw [e4, ← fset_nil, e1]
  have e10 : fset (jup A 38 11 0) [] 38 10 = A 38 10 := by rw [fset_38 (by decide), jup_ne (by decide)]
  rw [e10]
  have key := j_down (P := fun l => ∀ F : List (Int × Int), -1 ≤ l → l < A 38 10 → (F.length : Int) + (l + 1) ≤ 3 → F ++ vroot (l + 1).toNat = vroot (A 38 10).toNat → jrV 85 17 [some (.ref 38), some (.int (jI l))] [] E (fset (jup A 38 11 0) F) K) (-1) (fun l ih F l0 l1 hF hv => by
    refine vd_X3_startViews_17 l ⟨by omega, by omega⟩ E _ K ⟨fun q => ?_, fun q => ?_⟩
    · have el : l = -1 := by omega
      subst el
      have eF : F = vroot (A 38 10).toNat := by rw [← hv]; simp [vroot]
      rw [← eF] at h
      have e11 : jup A 38 11 0 38 11 = 0 := jup_at _ _ _ _
      exact k_addFound (by omega) (by omega) h
    · refine k_addToFound ⟨by omega, by omega⟩ (by decide) (by omega) ?_
      have := ih (by omega) (F ++ [(l, 1)]) (by omega) (by omega) (by simp only [List.length_append, List.length_cons, List.length_nil]; omega) (by
        rw [← hv, show (l + 1).toNat = l.toNat + 1 by omega, show (l - 1 + 1).toNat = l.toNat by omega]
        simp only [vroot, List.append_assoc, List.singleton_append]
        rw [Int.toNat_of_nonneg q])
      exact this) (A 38 10 - 1) [] (by omega) (by omega) (by simp; omega) (by rw [show (A 38 10 - 1 + 1).toNat = (A 38 10).toNat by omega]; rfl)
  exact key
/-- the reference's first view -/
def mfirst (A : jA) (i : Int) : jA := fun o j => if o = 49 ∧ j = 37 then (if A 49 35 = 0 then 0 else 1) else if o = 75 ∧ j = 0 then A 49 35 else if o = 76 ∧ 0 ≤ j ∧ j < i then A 74 (A 49 35 - 1 - j) else if o = 77 ∧ 0 ≤ j ∧ j < i then 1 else A o j
theorem k_first {E : jE} {A : jA} (hn : 0 ≤ A 49 35 ∧ A 49 35 ≤ 3) {K : jA → Prop} (h : K (mfirst A (A 49 35))) : jrV 154 0 [some (.ref 49), none] [] E A K := by
  have body : ∀ y : Int, jW y → y = (if A 49 35 = 0 then 0 else 1) → jrV 154 13 [some (.ref 49), none] [.int (jI y), .ref 49] E A K := by
    intro y ry hy
    refine vd_X7_first_13 y ry E A K (fun A1 e1 A5 e5 => ?_)
    have e35 : A1 49 35 = A 49 35 := by rw [e1, jup_ne (by decide)]
    have e0 : A5 = mfirst A 0 := by
      rw [e5, e35, e1, hy]
      funext o j
      simp only [jup, mfirst]
      by_cases h1 : o = 49 ∧ j = 37
      · rw [if_neg (by omega), if_pos h1, if_pos h1]
      · rw [if_neg h1, if_neg h1]
        by_cases h2 : o = 75 ∧ j = 0
        · rw [if_pos h2, if_pos h2]
        · rw [if_neg h2, if_neg h2, if_neg (by omega), if_neg (by omega)]
    rw [e0]
    exact j_loop (P := fun i => 0 ≤ i → i ≤ A 49 35 → jrV 154 28 [some (.ref 49), some (.int (jI i))] [] E (mfirst A i) K) (A 49 35) (fun i ih i0 i1 => by
      have m35 : mfirst A i 49 35 = A 49 35 := by simp [mfirst]
      have m74 : mfirst A i 74 = A 74 := by funext j; simp [mfirst]
      refine vd_X7_first_28 i ⟨by omega, by omega⟩ E _ K ?_
      rw [m35, m74]
      refine ⟨fun q => ?_, fun q => ⟨by omega, by omega, fun A3 e3 => ⟨by omega, fun A7 e7 => ?_⟩⟩⟩
      · have : i = A 49 35 := by omega
        rw [this]; exact h
      · have : A7 = mfirst A (i + 1) := by
          rw [e7, e3]
          funext o j
          simp only [jup, mfirst]
          by_cases h77 : o = 77
          · subst h77
            simp only [show ¬ (77 : Nat) = 49 by decide, show ¬ (77 : Nat) = 75 by decide, show ¬ (77 : Nat) = 76 by decide, false_and, if_false, true_and]
            by_cases hj : j = i
            · rw [if_pos hj, if_pos (by omega)]
            · rw [if_neg hj]
              by_cases hh : 0 ≤ j ∧ j < i
              · rw [if_pos hh, if_pos (by omega)]
              · rw [if_neg hh, if_neg (by omega)]
          · by_cases h76 : o = 76
            · subst h76
              simp only [show ¬ (76 : Nat) = 49 by decide, show ¬ (76 : Nat) = 75 by decide, show ¬ (76 : Nat) = 77 by decide, false_and, if_false, true_and]
              by_cases hj : j = i
              · rw [if_pos hj, if_pos (by omega), hj]
              · rw [if_neg hj]
                by_cases hh : 0 ≤ j ∧ j < i
                · rw [if_pos hh, if_pos (by omega)]
                · rw [if_neg hh, if_neg (by omega)]
            · simp only [h77, h76, false_and, if_false]
        rw [this]
        exact ih q (by omega) (by omega)) 0 (by omega) hn.1
  refine vd_X7_first_0 E A K ⟨fun q => body 1 (by decide) (by rw [if_neg q]), fun q => body 0 (by decide) (by rw [if_pos q])⟩
/-- outside what is laid nothing has changed -/
def FL (A C : jA) : Prop := (∀ a, ¬ (38 ≤ a ∧ a ≤ 46) → a ≠ 49 → ¬ (74 ≤ a ∧ a ≤ 77) → C a = A a) ∧ (∀ k, k ≠ 0 → k ≠ 35 → k ≠ 37 → C 49 k = A 49 k) ∧ C 49 0 = 0
theorem p_bare {E : jE} {A : jA} (hl : LR E A) : jrI 109 0 [some (.ref 1)] [] E A (fun v B => jrI 141 0 [some (.ref 49), none] [] E B (fun w C => v = w ∧ LR E C ∧ VW C ∧ FL A C)) := by
  obtain ⟨l1, l2, l3, l4, l5, l6⟩ := hl
  refine vd_X6_bare_0 E A _ (vd_X3_takeAway_0 E A _ (fun A1 e1 A4 e4 => ?_))
  have a4 : ∀ o, o ≠ 38 → A4 o = A o := fun o h => by rw [e4, e1, jup_row h, jup_row h]
  have a10 : A4 38 10 = 0 := by rw [e4, jup_ne (by decide), e1, jup_at]
  have a11 : A4 38 11 = 0 := by rw [e4, jup_at]
  refine vd_X7_bare_0 E A4 _ (fun B1 f1 B4 f4 => ?_)
  have b35 : B4 49 35 = 0 := by rw [f4, jup_at]
  have b1 : B1 49 35 = A 38 10 := by rw [f1, jup_ne (by decide), a4 49 (by decide)]; exact l1
  have bo : ∀ o, o ≠ 49 → B4 o = A4 o := fun o h => by rw [f4, f1, jup_row h, jup_row h]
  refine k_first (by omega) ?_
  rw [b35, b1]
  have c : ∀ o, o ≠ 49 → o ≠ 75 → mfirst B4 0 o = A4 o := fun o h1 h2 => by
    rw [← bo o h1]; funext j; simp only [mfirst]; rw [if_neg (by omega), if_neg (by omega), if_neg (by omega), if_neg (by omega)]
  have c49 : ∀ k, k ≠ 37 → mfirst B4 0 49 k = B4 49 k := fun k hk => by
    simp only [mfirst]; rw [if_neg (by omega), if_neg (by omega), if_neg (by omega), if_neg (by omega)]
  have c37 : mfirst B4 0 49 37 = 0 := by simp [mfirst, b35]
  refine ⟨rfl, ⟨?_, ?_, ?_, fun i i0 i1 => ?_, fun i j i0 ij j1 => ?_, l6⟩, ⟨?_, ?_, ?_, fun v v0 v1 => ?_⟩, ⟨fun a h1 h2 h3 => ?_, fun k h1 h2 h3 => ?_, ?_⟩⟩
  · rw [c49 35 (by decide), c 38 (by decide) (by decide)]; omega
  · rw [c 38 (by decide) (by decide)]; omega
  · rw [c 38 (by decide) (by decide)]; omega
  · rw [c 38 (by decide) (by decide)] at i1; omega
  · rw [c 38 (by decide) (by decide)] at j1; omega
  · rw [c37, c 38 (by decide) (by decide)]; omega
  · rw [c 38 (by decide) (by decide)]; omega
  · rw [c 38 (by decide) (by decide)]; omega
  · rw [c 38 (by decide) (by decide)] at v1; omega
  · rw [c a h2 (by omega), a4 a (by omega)]
  · rw [c49 k h3, f4, jup_ne h2, f1, jup_ne h1, a4 49 (by decide)]
  · rw [c49 0 (by decide), f4, jup_ne (by decide), f1, jup_at]
