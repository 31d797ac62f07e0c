/-! THE VIEWS ON BOTH SIDES: look -/
/-- the view v: its layers and numbers -/
def VS (A : jA) (v : Int) : Prop := 1 ≤ A 41 v ∧ A 41 v ≤ 3 ∧ (∀ i, 0 ≤ i → i < A 41 v → 0 ≤ A 42 (v * 3 + i) ∧ A 42 (v * 3 + i) < A 38 10 ∧ 1 ≤ A 43 (v * 3 + i) ∧ A 43 (v * 3 + i) ≤ uw (lu A (A 42 (v * 3 + i))) 4) ∧ ((∀ i, 0 ≤ i → i < A 41 v → uKind (lu A (A 42 (v * 3 + i))) (A 43 (v * 3 + i)) = 1) ∨ A 41 v = 1 ∧ uKind (lu A (A 42 (v * 3))) (A 43 (v * 3)) = 2)
def VW (A : jA) : Prop := A 49 37 = A 38 11 ∧ 0 ≤ A 38 11 ∧ A 38 11 ≤ 60 ∧ ∀ v, 0 ≤ v → v < A 38 11 → VS A v ∧ VM A v ∧ ∃ p, VP (lu A) (A 38 10) (vroot (A 38 10).toNat) p (vstk A v)
theorem VS.vf {A : jA} {v : Int} (h : VS A v) (hk : uKind (lu A (A 42 (v * 3))) (A 43 (v * 3)) = 1) : VF A v := by
  obtain ⟨d1, d3, h1, h2⟩ := h
  refine ⟨by omega, d3, fun i i0 i1 => ?_⟩
  obtain ⟨a1, a2, a3, a4⟩ := h1 i i0 i1
  refine ⟨a1, a2, a3, a4, ?_⟩
  rcases h2 with h2 | h2
  · exact h2 i i0 i1
  · omega
/-- the uppermost layer and number of a view -/
theorem vstk_cons {A : jA} {v : Int} (h : 1 ≤ A 41 v) : vstk A v = (A 42 (v * 3), A 43 (v * 3)) :: vfr A v (A 41 v - 1).toNat 1 := by
  unfold vstk
  rw [show (A 41 v).toNat = (A 41 v - 1).toNat + 1 by omega]
  simp only [vfr, Int.add_zero, Int.zero_add]
theorem vfr_mem {A : jA} {v : Int} {n : Nat} {i : Int} {c : Int × Int} (h : c ∈ vfr A v n i) : ∃ j, i ≤ j ∧ j < i + n ∧ c = (A 42 (v * 3 + j), A 43 (v * 3 + j)) := by
  induction n generalizing i with
  | zero => cases h
  | succ n ih =>
    simp only [vfr] at h
    rcases List.mem_cons.mp h with e | e
    · exact ⟨i, by omega, by omega, e⟩
    · obtain ⟨j, j0, j1, e2⟩ := ih e
      exact ⟨j, by omega, by omega, e2⟩
theorem vfr_of {B : jA} {v : Int} {F : List (Int × Int)} {i : Int} (h : ∀ j : Int, 0 ≤ j → j < F.length → B 42 (v * 3 + (i + j)) = (F.getD j.toNat (0, 0)).1 ∧ B 43 (v * 3 + (i + j)) = (F.getD j.toNat (0, 0)).2) : vfr B v F.length i = F := by
  induction F generalizing i with
  | nil => rfl
  | cons p F ih =>
    simp only [List.length_cons, vfr]
    have h0 := h 0 (by omega) (by simp only [List.length_cons]; omega)
    rw [Int.add_zero] at h0
    have hp : (B 42 (v * 3 + i), B 43 (v * 3 + i)) = p := by rw [h0.1, h0.2]; simp
    rw [hp, ih (i := i + 1) (fun j j0 j1 => ?_)]
    have h2 := h (j + 1) (by omega) (by simp only [List.length_cons]; omega)
    rw [show i + (j + 1) = i + 1 + j by omega, show (j + 1).toNat = j.toNat + 1 by omega] at h2
    simpa using h2
theorem vfr_congr {A B : jA} {v : Int} {n : Nat} {i : Int} (h : ∀ j, i ≤ j → j < i + n → B 42 (v * 3 + j) = A 42 (v * 3 + j) ∧ B 43 (v * 3 + j) = A 43 (v * 3 + j)) : vfr B v n i = vfr A v n i := by
  induction n generalizing i with
  | zero => rfl
  | succ n ih =>
    simp only [vfr]
    rw [(h i (by omega) (by omega)).1, (h i (by omega) (by omega)).2, ih (fun j a b => h j (by omega) (by omega))]
theorem fset_44 {A : jA} {F : List (Int × Int)} {j : Int} (h0 : 0 ≤ j) (h1 : j < F.length) : fset A F 44 j = (F.getD j.toNat (0, 0)).1 := by simp [fset, h0, h1]
theorem fset_45 {A : jA} {F : List (Int × Int)} {j : Int} (h0 : 0 ≤ j) (h1 : j < F.length) : fset A F 45 j = (F.getD j.toNat (0, 0)).2 := by simp [fset, h0, h1]
/-- a new view of the class -/
def vadd (A : jA) (F : List (Int × Int)) : jA := fun o j => if o = 38 ∧ j = 11 then A 38 11 + 1 else if o = 41 ∧ j = A 38 11 then F.length else if o = 42 ∧ A 38 11 * 3 ≤ j ∧ j < A 38 11 * 3 + F.length then (F.getD (j - A 38 11 * 3).toNat (0, 0)).1 else if o = 43 ∧ A 38 11 * 3 ≤ j ∧ j < A 38 11 * 3 + F.length then (F.getD (j - A 38 11 * 3).toNat (0, 0)).2 else fset A F o j
/-- on the way to it -/
def vadi (A : jA) (F : List (Int × Int)) (i : Int) : jA := fun o j => if o = 42 ∧ A 38 11 * 3 ≤ j ∧ j < A 38 11 * 3 + i then (F.getD (j - A 38 11 * 3).toNat (0, 0)).1 else if o = 43 ∧ A 38 11 * 3 ≤ j ∧ j < A 38 11 * 3 + i then (F.getD (j - A 38 11 * 3).toNat (0, 0)).2 else fset A F o j
theorem k_addFound {E : jE} {A : jA} {F : List (Int × Int)} (hF : F.length ≤ 3) (hv : 0 ≤ A 38 11 ∧ A 38 11 < 60) {K : jA → Prop} (h : K (vadd A F)) : jrV 66 0 [some (.ref 38), none] [] E (fset A F) K := by
  have z : vadi A F 0 = fset A F := by
    funext o j; simp only [vadi]; rw [if_neg (by omega), if_neg (by omega)]
  refine vd_X3_addFound_0 E _ K ?_
  have key := j_loop (P := fun i => 0 ≤ i → i ≤ F.length → jrV 66 2 [some (.ref 38), some (.int (jI i))] [] E (vadi A F i) K) F.length (fun i ih i0 i1 => by
    have ri : jW i := ⟨by omega, by omega⟩
    have e8 : vadi A F i 38 8 = F.length := by simp [vadi, fset]
    have e11 : vadi A F i 38 11 = A 38 11 := by simp [vadi, fset]
    refine vd_X3_addFound_2 i ri E _ K ⟨fun q => ?_, fun q => ?_⟩
    · rw [e8, e11]
      have ei : i = F.length := by omega
      subst ei
      refine ⟨by omega, fun A2 e2 => ?_⟩
      have q2 : A2 38 11 = A 38 11 := by rw [e2, jup_row (by decide)]; exact e11
      rw [q2]
      refine ⟨⟨by omega, by omega⟩, fun A6 e6 => ?_⟩
      have : A6 = vadd A F := by
        rw [e6, e2]
        funext o j
        simp only [jup, vadi, vadd]
      rw [this]
      exact h
    · rw [e8] at q
      have e44 : vadi A F i 44 i = (F.getD i.toNat (0, 0)).1 := by
        have e9 : vadi A F i 44 i = fset A F 44 i := by simp [vadi]
        rw [e9]
        exact fset_44 i0 q
      rw [e11, e44]
      refine ⟨by omega, by omega, fun A11 e11' => ⟨by omega, ?_⟩⟩
      have q11 : A11 38 11 = A 38 11 := by rw [e11', jup_row (by decide)]; exact e11
      have q45 : A11 45 i = (F.getD i.toNat (0, 0)).2 := by
        rw [e11', jup_row (by decide)]
        have e9 : vadi A F i 45 i = fset A F 45 i := by simp [vadi]
        rw [e9]
        exact fset_45 i0 q
      rw [q11, q45]
      refine ⟨by omega, fun A16 e16 => ?_⟩
      have : A16 = vadi A F (i + 1) := by
        rw [e16, e11']
        funext o j
        simp only [jup, vadi]
        by_cases h43 : o = 43
        · subst h43
          simp only [show ¬ (43 : Nat) = 42 by decide, false_and, if_false, true_and]
          by_cases hj : j = A 38 11 * 3 + i
          · rw [if_pos hj, if_pos (by omega), show (j - A 38 11 * 3).toNat = i.toNat by omega]
          · rw [if_neg hj]
            by_cases hh : A 38 11 * 3 ≤ j ∧ j < A 38 11 * 3 + i
            · rw [if_pos hh, if_pos (by omega)]
            · rw [if_neg hh, if_neg (by omega)]
        · by_cases h42 : o = 42
          · subst h42
            simp only [show ¬ (42 : Nat) = 43 by decide, false_and, if_false, true_and]
            by_cases hj : j = A 38 11 * 3 + i
            · rw [if_pos hj, if_pos (by omega), show (j - A 38 11 * 3).toNat = i.toNat by omega]
            · rw [if_neg hj]
              by_cases hh : A 38 11 * 3 ≤ j ∧ j < A 38 11 * 3 + i
              · rw [if_pos hh, if_pos (by omega)]
              · rw [if_neg hh, if_neg (by omega)]
          · simp only [h43, h42, false_and, if_false]
      rw [this]
      exact ih q (by omega) (by omega)) 0 (by omega) (by omega)
  rw [z] at key
  exact key
/-- the class's search for a view with that top -/
theorem k_lead17 {E : jE} {A : jA} {F : List (Int × Int)} {c : Int × Int} {r : List (Int × Int)} (hF : F = c :: r) (h3 : F.length ≤ 3) (hv : 0 ≤ A 38 11 ∧ A 38 11 ≤ 60) {K : Int → jA → Prop} (h1 : ∀ w, 0 ≤ w → w < A 38 11 → (∀ z, 0 ≤ z → z < w → ¬ (A 42 (z * 3) = c.1 ∧ A 43 (z * 3) = c.2)) → A 42 (w * 3) = c.1 → A 43 (w * 3) = c.2 → K w (fset A F)) (h2 : (∀ z, 0 ≤ z → z < A 38 11 → ¬ (A 42 (z * 3) = c.1 ∧ A 43 (z * 3) = c.2)) → A 38 11 = 60 → K (-4) (fset A F)) (h4 : (∀ z, 0 ≤ z → z < A 38 11 → ¬ (A 42 (z * 3) = c.1 ∧ A 43 (z * 3) = c.2)) → A 38 11 < 60 → K (A 38 11) (vadd A F)) : jrI 77 17 [some (.ref 38), none, none, some (.int (jI 0))] [] E (fset A F) K := by
  have e11 : fset A F 38 11 = A 38 11 := fset_38 (by decide)
  have e42 : fset A F 42 = A 42 := fset_row (by decide) (by decide) (by decide)
  have e43 : fset A F 43 = A 43 := fset_row (by decide) (by decide) (by decide)
  have lp : 0 < F.length := by rw [hF]; simp
  have e44 : fset A F 44 0 = c.1 := by rw [fset_44 (by omega) (by omega), hF]; rfl
  have e45 : fset A F 45 0 = c.2 := by rw [fset_45 (by omega) (by omega), hF]; rfl
  refine j_loop (P := fun i => 0 ≤ i → i ≤ A 38 11 → (∀ z, 0 ≤ z → z < i → ¬ (A 42 (z * 3) = c.1 ∧ A 43 (z * 3) = c.2)) → jrI 77 17 [some (.ref 38), none, none, some (.int (jI i))] [] E (fset A F) K) (A 38 11) (fun i ih i0 i1 hi => ?_) 0 (by omega) (by omega) (fun z a b => by omega)
  have ri : jW i := ⟨by omega, by omega⟩
  have next : i < A 38 11 → ¬ (A 42 (i * 3) = c.1 ∧ A 43 (i * 3) = c.2) → jrI 77 58 [some (.ref 38), none, none, some (.int (jI i))] [] E (fset A F) K := fun q hn => vd_X3_lead_58 i ri E _ K (ih q (by omega) (by omega) (fun z z0 z1 => by
    by_cases e : z = i
    · rw [e]; exact hn
    · exact hi z z0 (by omega)))
  refine vd_X3_lead_17 i ri E _ K ?_
  rw [e11, e42, e44]
  refine ⟨fun q => ⟨fun q2 => k_addFound h3 (by omega) ?_, fun q2 => h2 (fun z z0 z1 => hi z z0 (by omega)) (by omega)⟩, fun q => ⟨by omega, fun q2 => next q (fun z => q2 z.1), fun q2 => vd_X3_numberOf_0 i ri E _ _ ⟨by omega, ?_⟩⟩⟩
  · have : vadd A F 38 11 = A 38 11 + 1 := by simp [vadd]
    rw [this]
    refine ⟨⟨by omega, by omega⟩, ?_⟩
    rw [show A 38 11 + 1 - 1 = A 38 11 by omega]
    exact h4 (fun z z0 z1 => hi z z0 (by omega)) q2
  · rw [e43, e45]
    exact ⟨fun q3 => next q (fun z => q3 z.2), fun q3 => h1 i i0 q hi q2 q3⟩
/-- the reference's search for a view with those layers and numbers -/
theorem k_look57 {E : jE} {T : jA} {n : Int} (hn : 1 ≤ n ∧ n ≤ 3) (hv : 0 ≤ T 49 37 ∧ T 49 37 ≤ 60) {K : Int → jA → Prop} (h1 : ∀ w, 0 ≤ w → w < T 49 37 → (∀ z, 0 ≤ z → z < w → ¬ (T 75 z = n ∧ ∀ k, 0 ≤ k → k < n → T 76 (3 * z + k) = T 76 (3 * T 49 37 + k) ∧ T 77 (3 * z + k) = T 77 (3 * T 49 37 + k))) → (T 75 w = n ∧ ∀ k, 0 ≤ k → k < n → T 76 (3 * w + k) = T 76 (3 * T 49 37 + k) ∧ T 77 (3 * w + k) = T 77 (3 * T 49 37 + k)) → K w T) (h2 : (∀ z, 0 ≤ z → z < T 49 37 → ¬ (T 75 z = n ∧ ∀ k, 0 ≤ k → k < n → T 76 (3 * z + k) = T 76 (3 * T 49 37 + k) ∧ T 77 (3 * z + k) = T 77 (3 * T 49 37 + k))) → T 49 37 = 60 → K (-4) T) (h4 : (∀ z, 0 ≤ z → z < T 49 37 → ¬ (T 75 z = n ∧ ∀ k, 0 ≤ k → k < n → T 76 (3 * z + k) = T 76 (3 * T 49 37 + k) ∧ T 77 (3 * z + k) = T 77 (3 * T 49 37 + k))) → T 49 37 < 60 → K (T 49 37) (jup T 49 37 (T 49 37 + 1))) : jrI 179 57 [some (.ref 49), none, none, some (.int (jI n)), some (.int (jI 0)), none, none] [] E T K := by
  have rn : jW n := ⟨by omega, by omega⟩
  refine j_loop (P := fun i => 0 ≤ i → i ≤ T 49 37 → (∀ z, 0 ≤ z → z < i → ¬ (T 75 z = n ∧ ∀ k, 0 ≤ k → k < n → T 76 (3 * z + k) = T 76 (3 * T 49 37 + k) ∧ T 77 (3 * z + k) = T 77 (3 * T 49 37 + k))) → jrI 179 57 [some (.ref 49), none, none, some (.int (jI n)), some (.int (jI i)), none, none] [] E T K) (T 49 37) (fun i ih i0 i1 hi => ?_) 0 (by omega) (by omega) (fun z a b => by omega)
  have ri : jW i := ⟨by omega, by omega⟩
  have done : i < T 49 37 → ∀ b : Int, (b = 0 ∨ b = 1) → (b = 1 ↔ T 75 i = n ∧ ∀ k, 0 ≤ k → k < n → T 76 (3 * i + k) = T 76 (3 * T 49 37 + k) ∧ T 77 (3 * i + k) = T 77 (3 * T 49 37 + k)) → jrI 179 169 [some (.ref 49), none, none, some (.int (jI n)), some (.int (jI i)), some (.int (jI b)), none] [] E T K := by
    intro q b hb hbi
    refine vd_X7_look_169 n rn i ri b ⟨by omega, by omega⟩ E T K ⟨fun q2 => ih q (by omega) (by omega) (fun z z0 z1 => ?_), fun q2 => h1 i i0 q hi (hbi.mp (by omega))⟩
    by_cases e : z = i
    · rw [e]; intro hh; have := hbi.mpr hh; omega
    · exact hi z z0 (by omega)
  have inner : i < T 49 37 → ∀ b : Int, (b = 0 ∨ b = 1) → (b = 1 ↔ T 75 i = n) → jrI 179 82 [some (.ref 49), none, none, some (.int (jI n)), some (.int (jI i)), none, none] [.int (jI b)] E T K := by
    intro q b hb hbi
    refine vd_X7_look_82 n rn i ri b ⟨by omega, by omega⟩ E T K ?_
    refine j_loop (P := fun k => ∀ d : Int, 0 ≤ k → k ≤ n → (d = 0 ∨ d = 1) → (d = 1 ↔ T 75 i = n ∧ ∀ j, 0 ≤ j → j < k → T 76 (3 * i + j) = T 76 (3 * T 49 37 + j) ∧ T 77 (3 * i + j) = T 77 (3 * T 49 37 + j)) → jrI 179 87 [some (.ref 49), none, none, some (.int (jI n)), some (.int (jI i)), some (.int (jI d)), some (.int (jI k))] [] E T K) n (fun k ik d k0 k1 hd hdi => ?_) 0 b (by omega) (by omega) hb ⟨fun z => ⟨hbi.mp z, fun j a b => by omega⟩, fun z => hbi.mpr z.1⟩
    have rd : jW d := ⟨by omega, by omega⟩
    have rk : jW k := ⟨by omega, by omega⟩
    have no : k < n → ¬ (T 76 (3 * i + k) = T 76 (3 * T 49 37 + k) ∧ T 77 (3 * i + k) = T 77 (3 * T 49 37 + k)) → jrI 179 160 [some (.ref 49), none, none, some (.int (jI n)), some (.int (jI i)), none, some (.int (jI k))] [] E T K := fun q2 hno => vd_X7_look_160 n rn i ri k rk E T K (vd_X7_look_161 n rn i ri k rk 0 (by decide) E T K (ik q2 0 (by omega) (by omega) (Or.inl rfl) ⟨fun z => absurd z (by decide), fun z => absurd (z.2 k k0 (by omega)) hno⟩))
    refine vd_X7_look_87 n rn i ri d rd k rk E T K ⟨fun q2 => done q d hd ⟨fun z => ⟨(hdi.mp z).1, fun j j0 j1 => (hdi.mp z).2 j j0 (by omega)⟩, fun z => hdi.mpr ⟨z.1, fun j j0 j1 => z.2 j j0 (by omega)⟩⟩, fun q2 => ⟨fun q3 => done q d hd ⟨fun z => by omega, fun z => hdi.mpr ⟨z.1, fun j j0 j1 => z.2 j j0 (by omega)⟩⟩, fun q3 => ⟨by omega, by omega, fun q4 => no q2 (fun z => q4 z.1), fun q4 => ⟨by omega, by omega, fun q5 => no q2 (fun z => q5 z.2), fun q5 => ?_⟩⟩⟩⟩
    refine vd_X7_look_161 n rn i ri k rk 1 (by decide) E T K (ik q2 1 (by omega) (by omega) (Or.inr rfl) ⟨fun _ => ?_, fun _ => rfl⟩)
    obtain ⟨z1, z2⟩ := hdi.mp (by omega)
    refine ⟨z1, fun j j0 j1 => ?_⟩
    by_cases e : j = k
    · rw [e]; exact ⟨q4, q5⟩
    · exact z2 j j0 (by omega)
  refine vd_X7_look_57 n rn i ri E T K ⟨fun q => ⟨fun q2 => ⟨⟨by omega, by omega⟩, fun A2 e2 => ?_⟩, fun q2 => h2 (fun z z0 z1 => hi z z0 (by omega)) q2⟩, fun q => ⟨by omega, fun q2 => inner q 0 (Or.inl rfl) ⟨fun z => absurd z (by decide), fun z => absurd z q2⟩, fun q2 => inner q 1 (Or.inr rfl) ⟨fun _ => q2, fun _ => rfl⟩⟩⟩
  have : A2 49 37 = T 49 37 + 1 := by rw [e2, jup_at]
  rw [this]
  refine ⟨⟨by omega, by omega⟩, ?_⟩
  rw [show T 49 37 + 1 - 1 = T 49 37 by omega, e2]
  exact h4 (fun z z0 z1 => hi z z0 (by omega)) (by omega)
