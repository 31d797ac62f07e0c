/-! WHAT A NAME LEADS TO BELOW A VIEW, ON BOTH SIDES -/
/-- the bytes at a layer -/
def lu (A : jA) (l : Int) : Int → Int := mb A (A 39 l)
/-- one name on: the layers and numbers that are left, those that are found -/
def vstep (u : Int → Int → Int) (a : Int) : List (Int × Int) → List (Int × Int) → List (Int × Int)
  | [], F => F
  | (l, k) :: r, F => if uChild (u l) k a = 0 then vstep u a r F else if uKind (u l) (uChild (u l) k a) = 1 then vstep u a r (F ++ [(l, uChild (u l) k a)]) else if uKind (u l) (uChild (u l) k a) = 2 ∧ F = [] then F ++ [(l, uChild (u l) k a)] else F
/-- layers and numbers of a view, from i on -/
def vfr (A : jA) (v : Int) : Nat → Int → List (Int × Int)
  | 0, _ => []
  | n + 1, i => (A 42 (v * 3 + i), A 43 (v * 3 + i)) :: vfr A v n (i + 1)
def vstk (A : jA) (v : Int) : List (Int × Int) := vfr A v (A 41 v).toNat 0
def fset (A : jA) (F : List (Int × Int)) : jA := fun o j => if o = 38 ∧ j = 8 then F.length else if o = 44 ∧ 0 ≤ j ∧ j < F.length then (F.getD j.toNat (0, 0)).1 else if o = 45 ∧ 0 ≤ j ∧ j < F.length then (F.getD j.toNat (0, 0)).2 else A o j
def mset (A : jA) (V : Int) (F : List (Int × Int)) : jA := fun o j => if o = 76 ∧ 3 * V ≤ j ∧ j < 3 * V + F.length then A 39 (F.getD (j - 3 * V).toNat (0, 0)).1 else if o = 77 ∧ 3 * V ≤ j ∧ j < 3 * V + F.length then (F.getD (j - 3 * V).toNat (0, 0)).2 else A o j
theorem pgetD_l {l m : List (Int × Int)} {n : Nat} (h : n < l.length) : (l ++ m).getD n (0, 0) = l.getD n (0, 0) := by rw [List.getD_eq_getElem?_getD, List.getD_eq_getElem?_getD, List.getElem?_append_left h]
theorem pgetD_e {l : List (Int × Int)} {p : Int × Int} : (l ++ [p]).getD l.length (0, 0) = p := by rw [List.getD_eq_getElem?_getD, List.getElem?_append_right (Nat.le_refl _)]; simp
theorem fset_row {A : jA} {F : List (Int × Int)} {o : Nat} (h1 : o ≠ 38) (h2 : o ≠ 44) (h3 : o ≠ 45) : fset A F o = A o := by
  funext j; simp only [fset]; rw [if_neg (by omega), if_neg (by omega), if_neg (by omega)]
theorem fset_38 {A : jA} {F : List (Int × Int)} {j : Int} (h : j ≠ 8) : fset A F 38 j = A 38 j := by
  simp only [fset]; rw [if_neg (by omega), if_neg (by omega), if_neg (by omega)]
theorem fset_d (A : jA) (F : List (Int × Int)) : fset A F 38 8 = F.length := by simp [fset]
theorem fset_nil (A : jA) : fset A [] = jup A 38 8 0 := by
  funext o j
  simp only [fset, jup, List.length_nil]
  split
  · rfl
  · rw [if_neg (by simp only [Int.natCast_zero]; omega), if_neg (by simp only [Int.natCast_zero]; omega)]
theorem fset_add (A : jA) (F : List (Int × Int)) (l k : Int) : jup (jup (jup (fset A F) 44 F.length l) 45 F.length k) 38 8 (F.length + 1) = fset A (F ++ [(l, k)]) := by
  funext o j
  simp only [fset, jup, List.length_append, List.length_cons, List.length_nil]
  by_cases h44 : o = 44
  · subst h44
    simp only [show ¬ (44 : Nat) = 38 by decide, show ¬ (44 : Nat) = 45 by decide, false_and, if_false, true_and]
    by_cases hj : j = F.length
    · rw [if_pos hj, if_pos (by omega), hj, Int.toNat_natCast, pgetD_e]
    · rw [if_neg hj]
      by_cases h : 0 ≤ j ∧ j < F.length
      · rw [if_pos h, if_pos (by omega), pgetD_l (by omega)]
      · rw [if_neg h, if_neg (by omega)]
  · by_cases h45 : o = 45
    · subst h45
      simp only [show ¬ (45 : Nat) = 38 by decide, show ¬ (45 : Nat) = 44 by decide, false_and, if_false, true_and]
      by_cases hj : j = F.length
      · rw [if_pos hj, if_pos (by omega), hj, Int.toNat_natCast, pgetD_e]
      · rw [if_neg hj]
        by_cases h : 0 ≤ j ∧ j < F.length
        · rw [if_pos h, if_pos (by omega), pgetD_l (by omega)]
        · rw [if_neg h, if_neg (by omega)]
    · simp only [h44, h45, false_and, if_false]
      by_cases h : o = 38 ∧ j = 8
      · rw [if_pos h, if_pos h]; omega
      · rw [if_neg h, if_neg h, if_neg h]
theorem mset_nil (A : jA) (V : Int) : mset A V [] = A := by
  funext o j
  simp only [mset, List.length_nil]
  rw [if_neg (by simp only [Int.natCast_zero]; omega), if_neg (by simp only [Int.natCast_zero]; omega)]
theorem mset_row {A : jA} {V : Int} {F : List (Int × Int)} {o : Nat} (h2 : o ≠ 76) (h3 : o ≠ 77) : mset A V F o = A o := by
  funext j; simp only [mset]; rw [if_neg (by omega), if_neg (by omega)]
theorem mset_lo {A : jA} {V : Int} {F : List (Int × Int)} {o : Nat} {j : Int} (h : j < 3 * V) : mset A V F o j = A o j := by
  simp only [mset]; rw [if_neg (by omega), if_neg (by omega)]
theorem mset_add (A : jA) (V : Int) (F : List (Int × Int)) (l k : Int) : jup (jup (mset A V F) 76 (3 * V + F.length) (A 39 l)) 77 (3 * V + F.length) k = mset A V (F ++ [(l, k)]) := by
  funext o j
  simp only [mset, jup, List.length_append, List.length_cons, List.length_nil]
  by_cases h44 : o = 76
  · subst h44
    simp only [show ¬ (76 : Nat) = 77 by decide, false_and, if_false, true_and]
    by_cases hj : j = 3 * V + F.length
    · rw [if_pos hj, if_pos (by omega), show (j - 3 * V).toNat = F.length by omega, pgetD_e]
    · rw [if_neg hj]
      by_cases h : 3 * V ≤ j ∧ j < 3 * V + F.length
      · rw [if_pos h, if_pos (by omega), pgetD_l (by omega)]
      · rw [if_neg h, if_neg (by omega)]
  · by_cases h45 : o = 77
    · subst h45
      simp only [show ¬ (77 : Nat) = 76 by decide, false_and, if_false, true_and]
      by_cases hj : j = 3 * V + F.length
      · rw [if_pos hj, if_pos (by omega), show (j - 3 * V).toNat = F.length by omega, pgetD_e]
      · rw [if_neg hj]
        by_cases h : 3 * V ≤ j ∧ j < 3 * V + F.length
        · rw [if_pos h, if_pos (by omega), pgetD_l (by omega)]
        · rw [if_neg h, if_neg (by omega)]
    · simp only [h44, h45, false_and, if_false]
theorem k_addToFound {l k : Int} (rl : jW l) (rk : jW k) {E : jE} {A : jA} {F : List (Int × Int)} (hF : F.length < 3) {K : jA → Prop} (h : K (fset A (F ++ [(l, k)]))) : jrV 67 0 [some (.ref 38), some (.int (jI l)), some (.int (jI k))] [] E (fset A F) K := by
  have e := fset_d A F
  refine vd_X3_addToFound_0 l rl k rk E _ K ⟨fun q => by omega, fun q => ⟨by omega, fun A2 e2 => ?_⟩⟩
  have q2 : A2 38 8 = F.length := by rw [e2, jup_row (by decide)]; exact e
  refine ⟨by omega, fun A6 e6 => ?_⟩
  have q6 : A6 38 8 = F.length := by rw [e6, jup_row (by decide)]; exact q2
  refine ⟨⟨by omega, by omega⟩, fun A10 e10 => ?_⟩
  rw [e10, q6, e6, q2, e2, e, fset_add]
  exact h
/-- what is known of an image that is laid -/
theorem LR.img {E : jE} {A : jA} (hl : LR E A) (G : GI A) {l : Int} (h0 : 0 ≤ l) (h1 : l < A 38 10) : IV A (E.2.1 l.toNat) (lu A l) (A 59 (A 39 l)) ∧ 0 ≤ A 39 l ∧ A 39 l ≤ 2 ∧ l < 3 := by
  obtain ⟨l1, l2, l3, l4, -⟩ := hl
  obtain ⟨-, g2, g3, g4, -, g6⟩ := G
  obtain ⟨a1, a2, a3, a4⟩ := l4 l h0 h1
  obtain ⟨c1, c2⟩ := g6 (A 39 l) a2 a3
  rw [a4]
  exact ⟨⟨c1, c2, g4.u _⟩, a2, by omega, by omega⟩
theorem IV.fr {A B : jA} {c : Nat} {u : Int → Int} {n : Int} (h : IV A c u n) (e1 : B c = A c) (e2 : B (c + 1) = A (c + 1)) : IV B c u n := by
  obtain ⟨h1, h2⟩ := h
  refine ⟨?_, h2⟩
  unfold CR IM at h1 ⊢
  rw [e1, e2]
  exact h1
theorem vstep_len {u : Int → Int → Int} {a : Int} (r F : List (Int × Int)) : (vstep u a r F).length ≤ F.length + r.length ∧ F.length ≤ (vstep u a r F).length := by
  induction r generalizing F with
  | nil => simp [vstep]
  | cons p r ih =>
    obtain ⟨l, k⟩ := p
    simp only [vstep]
    split
    · have := ih F; simp only [List.length_cons]; omega
    · split
      · have := ih (F ++ [(l, uChild (u l) k a)])
        simp only [List.length_append, List.length_cons, List.length_nil] at this ⊢
        omega
      · split
        · simp only [List.length_append, List.length_cons, List.length_nil]; omega
        · simp only [List.length_cons]; omega
/-- the view v can be walked: its layers and numbers are folders of laid images -/
def VF (A : jA) (v : Int) : Prop := 0 ≤ A 41 v ∧ A 41 v ≤ 3 ∧ ∀ i, 0 ≤ i → i < A 41 v → 0 ≤ A 42 (v * 3 + i) ∧ A 42 (v * 3 + i) < A 38 10 ∧ 1 ≤ A 43 (v * 3 + i) ∧ A 43 (v * 3 + i) ≤ uw (lu A (A 42 (v * 3 + i))) 4 ∧ uKind (lu A (A 42 (v * 3 + i))) (A 43 (v * 3 + i)) = 1
theorem k_find {v a : Int} (hv : 0 ≤ v ∧ v < 60) (ra : jW a) {E : jE} {A : jA} (G : GI A) (hl : LR E A) (W : VF A v) {K : jA → Prop} (h : K (fset A (vstep (lu A) a (vstk A v) []))) : jrV 70 0 [some (.ref 38), some (.int (jI v)), some (.int (jI a)), none, none, none, none, none] [] E A K := by
  have rv : jW v := ⟨by omega, by omega⟩
  obtain ⟨d0, d3, W⟩ := W
  have hE := hl.2.2.2.2.2
  refine vd_X3_find_0 v rv a ra E A K (fun A1 e1 => ?_)
  rw [e1, ← fset_nil]
  refine j_loop (P := fun i => ∀ F : List (Int × Int), 0 ≤ i → i ≤ A 41 v → F.length ≤ i → K (fset A (vstep (lu A) a (vfr A v (A 41 v - i).toNat i) F)) → jrV 70 7 [some (.ref 38), some (.int (jI v)), some (.int (jI a)), some (.int (jI i)), none, none, none, none] [] E (fset A F) K) (A 41 v) (fun i ih F i0 i1 hF hK => ?_) 0 [] (by omega) d0 (by simp) (by rw [Int.sub_zero]; exact h)
  have ri : jW i := ⟨by omega, by omega⟩
  have f41 : fset A F 41 = A 41 := fset_row (by decide) (by decide) (by decide)
  have f42 : fset A F 42 = A 42 := fset_row (by decide) (by decide) (by decide)
  have f43 : fset A F 43 = A 43 := fset_row (by decide) (by decide) (by decide)
  refine vd_X3_find_7 v rv a ra i ri E hE _ K ?_
  rw [f41, f42, f43]
  refine ⟨hv, fun q => ?_, fun q => ?_⟩
  · rw [show (A 41 v - i).toNat = 0 by omega] at hK
    exact hK
  · obtain ⟨w1, w2, w3, w4, w5⟩ := W i i0 q
    obtain ⟨hI, m0, m2, l3⟩ := hl.img G w1 w2
    have hc : jim (E.2.1 (A 42 (v * 3 + i)).toNat) := hE _ (by omega)
    have ne : ∀ o, o = E.2.1 (A 42 (v * 3 + i)).toNat ∨ o = E.2.1 (A 42 (v * 3 + i)).toNat + 1 → fset A F o = A o := by
      intro o ho
      refine fset_row ?_ ?_ ?_ <;> (rcases hc with h | h | h | h | h <;> omega)
    have hI2 := hI.fr (B := fset A F) (ne _ (Or.inl rfl)) (ne _ (Or.inr rfl))
    have w4' := uw_le hI.2.2 4
    obtain ⟨c0, cN⟩ := uChild_le hI.2.1.2.2.2.1 w3 w4 w5 (a := a)
    have next : ∀ F', F'.length ≤ i + 1 → K (fset A (vstep (lu A) a (vfr A v (A 41 v - (i + 1)).toNat (i + 1)) F')) → jrV 70 104 [some (.ref 38), some (.int (jI v)), some (.int (jI a)), some (.int (jI i)), none, none, none, none] [] E (fset A F') K := fun F' hF' hK' => vd_X3_find_104 v rv a ra i ri E _ K (ih q F' (by omega) (by omega) hF' hK')
    rw [show (A 41 v - i).toNat = (A 41 v - (i + 1)).toNat + 1 by omega] at hK
    simp only [vfr, vstep] at hK
    refine ⟨by omega, by omega, by omega, k_targetOf hI2 w3 w4 w5 ra ⟨fun q2 => ?_, fun q2 => ?_⟩⟩
    · rw [if_pos q2] at hK
      exact next F (by omega) hK
    · rw [if_neg q2] at hK
      refine k_kindOf hI2.1.1 ⟨by omega, by omega⟩ ?_
      rw [hI2.kind (by omega) (by omega)]
      have hk := hI.2.1.row hI.2.2 (show 1 ≤ uChild (lu A (A 42 (v * 3 + i))) (A 43 (v * 3 + i)) a by omega) (by omega)
      have rk : jW (uKind (lu A (A 42 (v * 3 + i))) (uChild (lu A (A 42 (v * 3 + i))) (A 43 (v * 3 + i)) a)) := ⟨by omega, by omega⟩
      refine ⟨fun q3 => ?_, fun q3 => ?_⟩
      · rw [if_pos q3] at hK
        refine vd_X3_find_89 v rv a ra i ri _ ⟨by omega, by omega⟩ _ ⟨by omega, by omega⟩ _ rk E _ K (k_addToFound ⟨by omega, by omega⟩ ⟨by omega, by omega⟩ (by omega) (vd_X3_find_97 v rv a ra i ri _ rk E _ K ⟨fun _ => next _ ?_ hK, fun z => absurd q3 z⟩))
        simp only [List.length_append, List.length_cons, List.length_nil]; omega
      · rw [if_neg q3] at hK
        have fd := fset_d A F
        refine ⟨fun q4 => vd_X3_find_97 v rv a ra i ri _ rk E _ K ⟨fun z => absurd z q3, fun _ => ?_⟩, fun q4 => ⟨fun q5 => vd_X3_find_97 v rv a ra i ri _ rk E _ K ⟨fun z => absurd z q3, fun _ => ?_⟩, fun q5 => ?_⟩⟩
        · rwa [if_neg (fun z => q4 z.1)] at hK
        · rwa [if_neg (fun z => q5 (by rw [fd, z.2]; rfl))] at hK
        · have eF : F = [] := List.length_eq_zero_iff.mp (by omega)
          rw [if_pos ⟨q4, eF⟩] at hK
          exact vd_X3_find_89 v rv a ra i ri _ ⟨by omega, by omega⟩ _ ⟨by omega, by omega⟩ _ rk E _ K (k_addToFound ⟨by omega, by omega⟩ ⟨by omega, by omega⟩ (by omega) (vd_X3_find_97 v rv a ra i ri _ rk E _ K ⟨fun z => absurd z q3, fun _ => hK⟩))
/-- the same of the reference: what it tells of the view v agrees -/
def VM (A : jA) (v : Int) : Prop := A 75 v = A 41 v ∧ ∀ i, 0 ≤ i → i < A 41 v → A 76 (3 * v + i) = A 39 (A 42 (v * 3 + i)) ∧ A 77 (3 * v + i) = A 43 (v * 3 + i)
theorem k_told0 {E : jE} {A : jA} (hb : MB A) {m k : Int} (hm : 0 ≤ m ∧ m ≤ 2) {n : Int} (V : VA (mb A m) n) (h1 : 1 ≤ k) (h2 : k ≤ uw (mb A m) 4) {K : Int → jA → Prop} (hK : K (uKind (mb A m) k) A) : jrI 208 0 [some (.ref 49), some (.int (jI m)), some (.int (jI k)), some (.int (jI 0)), none, none] [] E A K := by
  obtain ⟨b1, b2, b3, b4, b5, b6, b7⟩ := V.row (hb.u m) h1 h2
  have hn := V.1.2.1
  have w12 : mw A m 12 = uw (mb A m) 12 := rfl
  have rr : mRow A m k = uRow (mb A m) k := rfl
  have w4 := uw_le (hb.u m) 4
  exact vd_X7_told_0 m ⟨by omega, by omega⟩ k ⟨by omega, by omega⟩ 0 (by decide) E A K (k_inode hb hm ⟨h1, by omega⟩ (k_mbyteAt hm (by omega) ⟨fun _ => hK, fun z => absurd rfl z⟩))
theorem k_leads {v a : Int} (ra : jW a) {E : jE} {A : jA} (G : GI A) (hl : LR E A) (hV : 0 ≤ A 49 37 ∧ A 49 37 ≤ 60) (hv : 0 ≤ v ∧ v < A 49 37) (W : VF A v) (M : VM A v) {K : Int → jA → Prop} (h : K (vstep (lu A) a (vstk A v) []).length (jup (mset A (A 49 37) (vstep (lu A) a (vstk A v) [])) 75 (A 49 37) (vstep (lu A) a (vstk A v) []).length)) : jrI 174 0 [some (.ref 49), some (.int (jI v)), some (.int (jI a)), none, none, none, none, none, none] [] E A K := by
  have rv : jW v := ⟨by omega, by omega⟩
  obtain ⟨d0, d3, W⟩ := W
  obtain ⟨M1, M2⟩ := M
  obtain ⟨V, eV⟩ : ∃ V, V = A 49 37 := ⟨_, rfl⟩
  rw [← eV] at h
  refine vd_X7_leads_0 v rv a ra E A K ?_
  have key : ∀ F : List (Int × Int), F.length ≤ 3 → K F.length (jup (mset A V F) 75 V F.length) → ∀ (B : jA), B = mset A V F → (0 ≤ B 49 37 ∧ B 49 37 < 61) ∧ ∀ A3 : jA, A3 = jup B 75 (B 49 37) F.length → K F.length A3 := by
    intro F hF hK B hB
    have e : B 49 37 = V := by rw [hB, mset_row (by decide) (by decide)]; exact eV.symm
    rw [e]
    refine ⟨by omega, fun A3 e3 => ?_⟩
    rw [e3, hB]
    exact hK
  have main := j_loop (P := fun i => ∀ (F : List (Int × Int)), 0 ≤ i → i ≤ A 41 v → F.length ≤ i → (K (vstep (lu A) a (vfr A v (A 41 v - i).toNat i) F).length (jup (mset A V (vstep (lu A) a (vfr A v (A 41 v - i).toNat i) F)) 75 V (vstep (lu A) a (vfr A v (A 41 v - i).toNat i) F).length)) → jrI 174 8 [some (.ref 49), some (.int (jI v)), some (.int (jI a)), some (.int (jI F.length)), some (.int (jI 1)), some (.int (jI i)), none, none, none] [] E (mset A V F) K) (A 41 v) (fun i ih F i0 i1 hF hK => by
    have ri : jW i := ⟨by omega, by omega⟩
    have rF : jW F.length := ⟨by omega, by omega⟩
    have f75 : mset A V F 75 = A 75 := mset_row (by decide) (by decide)
    have f58 : mset A V F 58 = A 58 := mset_row (by decide) (by decide)
    have fB : MB (mset A V F) := by unfold MB; rw [f58]; exact G.2.2.2.1
    have fm : ∀ m, mb (mset A V F) m = mb A m := fun m => by unfold mb; rw [f58]
    refine vd_X7_leads_8 v rv a ra _ rF 1 (by decide) i ri E _ K ⟨by omega, fun q => ?_, fun q => ⟨fun z => absurd z (by decide), fun _ => ?_⟩⟩
    · rw [f75, M1] at q
      rw [show (A 41 v - i).toNat = 0 by omega] at hK
      exact key F (by omega) hK _ rfl
    · rw [f75, M1] at q
      obtain ⟨w1, w2, w3, w4, w5⟩ := W i i0 q
      obtain ⟨n1, n2⟩ := M2 i i0 q
      obtain ⟨hI, m0, m2, l3⟩ := hl.img G w1 w2
      have w4' := uw_le hI.2.2 4
      obtain ⟨c0, cN⟩ := uChild_le hI.2.1.2.2.2.1 w3 w4 w5 (a := a)
      have g76 : mset A V F 76 (3 * v + i) = A 39 (A 42 (v * 3 + i)) := by rw [mset_lo (by omega)]; exact n1
      have g77 : mset A V F 77 (3 * v + i) = A 43 (v * 3 + i) := by rw [mset_lo (by omega)]; exact n2
      rw [show (A 41 v - i).toNat = (A 41 v - (i + 1)).toNat + 1 by omega] at hK
      simp only [vfr, vstep] at hK
      have next : ∀ F' : List (Int × Int), F'.length ≤ i + 1 → (K (vstep (lu A) a (vfr A v (A 41 v - (i + 1)).toNat (i + 1)) F').length (jup (mset A V (vstep (lu A) a (vfr A v (A 41 v - (i + 1)).toNat (i + 1)) F')) 75 V (vstep (lu A) a (vfr A v (A 41 v - (i + 1)).toNat (i + 1)) F').length)) → jrI 174 135 [some (.ref 49), some (.int (jI v)), some (.int (jI a)), some (.int (jI F'.length)), some (.int (jI 1)), some (.int (jI i)), none, none, none] [] E (mset A V F') K := fun F' hF' hK' => vd_X7_leads_135 v rv a ra _ ⟨by omega, by omega⟩ 1 (by decide) i ri E _ K (ih q F' (by omega) (by omega) hF' hK')
      have stop : ∀ F' : List (Int × Int), F'.length ≤ 3 → K F'.length (jup (mset A V F') 75 V F'.length) → jrI 174 135 [some (.ref 49), some (.int (jI v)), some (.int (jI a)), some (.int (jI F'.length)), some (.int (jI 0)), some (.int (jI i)), none, none, none] [] E (mset A V F') K := fun F' hF' hK' => vd_X7_leads_135 v rv a ra _ ⟨by omega, by omega⟩ 0 (by decide) i ri E _ K (vd_X7_leads_8 v rv a ra _ ⟨by omega, by omega⟩ 0 (by decide) (i + 1) ⟨by omega, by omega⟩ E _ K ⟨by omega, fun _ => key F' hF' hK' _ rfl, fun _ => ⟨fun _ => key F' hF' hK' _ rfl, fun z => absurd rfl z⟩⟩)
      rw [g76, g77]
      refine ⟨by omega, by omega, k_child fB ⟨m0, m2⟩ (by rw [fm]; exact hI.2.1) w3 (by rw [fm]; exact w4) (by rw [fm]; exact w5) ra ?_⟩
      rw [fm]
      refine ⟨fun q2 => ?_, fun q2 => ?_⟩
      · have q2' : uChild (lu A (A 42 (v * 3 + i))) (A 43 (v * 3 + i)) a = 0 := by
          have e : lu A (A 42 (v * 3 + i)) = mb A (A 39 (A 42 (v * 3 + i))) := rfl
          rw [e] at c0 ⊢
          omega
        rw [if_pos q2'] at hK
        exact next F (by omega) hK
      · have q2' : ¬ uChild (lu A (A 42 (v * 3 + i))) (A 43 (v * 3 + i)) a = 0 := by
          have e : lu A (A 42 (v * 3 + i)) = mb A (A 39 (A 42 (v * 3 + i))) := rfl
          rw [e]
          omega
        rw [if_neg q2'] at hK
        have hk := hI.2.1.row hI.2.2 (show 1 ≤ uChild (lu A (A 42 (v * 3 + i))) (A 43 (v * 3 + i)) a by omega) (by omega)
        have rk : jW (uKind (lu A (A 42 (v * 3 + i))) (uChild (lu A (A 42 (v * 3 + i))) (A 43 (v * 3 + i)) a)) := ⟨by omega, by omega⟩
        refine k_told0 fB ⟨m0, m2⟩ (by rw [fm]; exact hI.2.1) (show 1 ≤ uChild (lu A (A 42 (v * 3 + i))) (A 43 (v * 3 + i)) a by omega) (by rw [fm]; show uChild (lu A (A 42 (v * 3 + i))) (A 43 (v * 3 + i)) a ≤ uw (lu A (A 42 (v * 3 + i))) 4; omega) ?_
        rw [fm]
        have put : ∀ x8, jW x8 → F.length < 3 → jrI 174 122 [some (.ref 49), some (.int (jI v)), some (.int (jI a)), some (.int (jI ((F.length : Int) + 1))), none, some (.int (jI i)), none, none, some (.int (jI x8))] [] E (mset A V (F ++ [(A 42 (v * 3 + i), uChild (lu A (A 42 (v * 3 + i))) (A 43 (v * 3 + i)) a)])) K → jrI 174 89 [some (.ref 49), some (.int (jI v)), some (.int (jI a)), some (.int (jI F.length)), none, some (.int (jI i)), some (.int (jI (A 39 (A 42 (v * 3 + i))))), some (.int (jI (uChild (lu A (A 42 (v * 3 + i))) (A 43 (v * 3 + i)) a))), some (.int (jI x8))] [] E (mset A V F) K := by
          intro x8 r8 h3 hh
          refine vd_X7_leads_89 v rv a ra _ rF i ri _ ⟨by omega, by omega⟩ _ ⟨by omega, by omega⟩ x8 r8 E _ K ?_
          have e37 : mset A V F 49 37 = V := by rw [mset_row (by decide) (by decide)]; exact eV.symm
          rw [e37]
          refine ⟨by omega, fun A2 e2 => ?_⟩
          have q37 : A2 49 37 = V := by rw [e2, jup_row (by decide)]; exact e37
          rw [q37]
          refine ⟨by omega, fun A6 e6 => ?_⟩
          rw [e6, e2, mset_add]
          exact hh
        have len1 : ((F ++ [(A 42 (v * 3 + i), uChild (lu A (A 42 (v * 3 + i))) (A 43 (v * 3 + i)) a)]).length : Int) = (F.length : Int) + 1 := by simp
        refine ⟨fun q3 => ?_, fun q3 => ⟨fun q4 => ?_, fun q4 => ⟨fun q5 => ?_, fun q5 => ?_⟩⟩⟩
        · have q3' : uKind (lu A (A 42 (v * 3 + i))) (uChild (lu A (A 42 (v * 3 + i))) (A 43 (v * 3 + i)) a) = 1 := q3
          rw [if_pos q3'] at hK
          refine put _ rk (by omega) (vd_X7_leads_122 v rv a ra _ ⟨by omega, by omega⟩ i ri _ rk E _ K ⟨fun z => absurd q3' z, fun _ => vd_X7_leads_133 v rv a ra _ ⟨by omega, by omega⟩ i ri 1 (by decide) E _ K ?_⟩)
          rw [← len1]
          exact next _ (by simp only [List.length_append, List.length_cons, List.length_nil]; omega) hK
        · have q3' : ¬ uKind (lu A (A 42 (v * 3 + i))) (uChild (lu A (A 42 (v * 3 + i))) (A 43 (v * 3 + i)) a) = 1 := q3
          rw [if_neg q3', if_neg (fun z => q4 z.1)] at hK
          exact vd_X7_leads_122 v rv a ra _ rF i ri _ rk E _ K ⟨fun _ => vd_X7_leads_133 v rv a ra _ rF i ri 0 (by decide) E _ K (stop F (by omega) hK), fun z => absurd z q3'⟩
        · have q3' : ¬ uKind (lu A (A 42 (v * 3 + i))) (uChild (lu A (A 42 (v * 3 + i))) (A 43 (v * 3 + i)) a) = 1 := q3
          rw [if_neg q3', if_neg (fun z => q5 (by rw [z.2]; rfl))] at hK
          exact vd_X7_leads_122 v rv a ra _ rF i ri _ rk E _ K ⟨fun _ => vd_X7_leads_133 v rv a ra _ rF i ri 0 (by decide) E _ K (stop F (by omega) hK), fun z => absurd z q3'⟩
        · have q3' : ¬ uKind (lu A (A 42 (v * 3 + i))) (uChild (lu A (A 42 (v * 3 + i))) (A 43 (v * 3 + i)) a) = 1 := q3
          have eF : F = [] := List.length_eq_zero_iff.mp (by omega)
          have q4' : uKind (lu A (A 42 (v * 3 + i))) (uChild (lu A (A 42 (v * 3 + i))) (A 43 (v * 3 + i)) a) = 2 := q4
          rw [if_neg q3', if_pos ⟨q4', eF⟩] at hK
          refine put _ rk (by omega) (vd_X7_leads_122 v rv a ra _ ⟨by omega, by omega⟩ i ri _ rk E _ K ⟨fun _ => vd_X7_leads_133 v rv a ra _ ⟨by omega, by omega⟩ i ri 0 (by decide) E _ K ?_, fun z => absurd z q3'⟩)
          rw [← len1]
          exact stop _ (by simp only [List.length_append, List.length_cons, List.length_nil]; omega) hK) 0 [] (by omega) d0 (by simp) (by rw [Int.sub_zero]; exact h)
  rw [mset_nil] at main
  exact main
