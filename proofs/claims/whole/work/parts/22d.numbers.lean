/-! NUMBERS FOR ALL NODES, ON BOTH SIDES -/
def tFi (A : jA) (x : Int) : Nat → Int → Int
  | 0, i => i
  | f + 1, i => if x ≤ A 10 i then i else tFi A x f (i + 1)
/-- the first name whose key is x or more -/
def tF (A : jA) (x : Int) : Int := tFi A x (A 2 10).toNat 0
theorem tFi_ch {A : jA} {x : Int} (f : Nat) (i : Int) (i0 : 0 ≤ i) (hf : i + f = A 2 10) (h : ∀ j, 0 ≤ j → j < i → A 10 j < x) : 0 ≤ tFi A x f i ∧ tFi A x f i ≤ A 2 10 ∧ (∀ j, 0 ≤ j → j < tFi A x f i → A 10 j < x) ∧ (tFi A x f i < A 2 10 → x ≤ A 10 (tFi A x f i)) := by
  induction f generalizing i with
  | zero => simp only [tFi]; exact ⟨i0, by omega, h, fun z => by omega⟩
  | succ f ih =>
    simp only [tFi]
    by_cases q : x ≤ A 10 i
    · rw [if_pos q]; exact ⟨i0, by omega, h, fun _ => q⟩
    · rw [if_neg q]
      exact ih (i + 1) (by omega) (by omega) (fun j j0 j1 => by
        by_cases e : j = i
        · rw [e]; omega
        · exact h j j0 (by omega))
theorem tF_ch {A : jA} (hn : 0 ≤ A 2 10) (x : Int) : 0 ≤ tF A x ∧ tF A x ≤ A 2 10 ∧ (∀ j, 0 ≤ j → j < tF A x → A 10 j < x) ∧ (tF A x < A 2 10 → x ≤ A 10 (tF A x)) := tFi_ch _ 0 (by omega) (by omega) (fun j a b => by omega)
theorem tF_eq {A : jA} (hn : 0 ≤ A 2 10) {x v : Int} (v0 : 0 ≤ v) (v1 : v ≤ A 2 10) (h1 : ∀ j, 0 ≤ j → j < v → A 10 j < x) (h2 : v < A 2 10 → x ≤ A 10 v) : tF A x = v := by
  obtain ⟨c1, c2, c3, c4⟩ := tF_ch hn x
  by_cases q : tF A x < v
  · have := h1 _ c1 q; have := c4 (by omega); omega
  · by_cases q2 : v < tF A x
    · have := c3 v v0 q2; have := h2 (by omega); omega
    · omega
theorem tF_same {A B : jA} (h10 : B 10 = A 10) (h2 : B 2 10 = A 2 10) (x : Int) : tF B x = tF A x := by
  have : ∀ (f : Nat) (i : Int), tFi B x f i = tFi A x f i := by
    intro f
    induction f with
    | zero => intro i; rfl
    | succ f ih => intro i; simp only [tFi]; rw [h10, ih]
  unfold tF; rw [h2]; exact this _ _
theorem k_firstNameOf {E : jE} {A : jA} {x : Int} (hx : 0 ≤ x ∧ x ≤ 32) (hn : 0 ≤ A 2 10 ∧ A 2 10 ≤ 279) {K : Int → jA → Prop} (h : K (tF A (1000 * x)) A) : jrI 100 0 [some (.ref 2), some (.int (jI x))] [] E A K := by
  refine vd_X5_firstNameOf_0 x ⟨by omega, by omega⟩ E A K (k_firstFrom ⟨by omega, by omega⟩ hn (fun v v0 v1 v2 v3 => ?_))
  rw [← tF_eq hn.1 v0 v1 v2 v3, Int.mul_comm x 1000]; exact h
/-- the names of a folder stand side by side -/
theorem TR.range {A : jA} (T : TR A) {f i : Int} (h0 : tF A (1000 * f) ≤ i) (h1 : i < tF A (1000 * (f + 1))) : 0 ≤ i ∧ i < A 2 10 ∧ 1000 * f ≤ A 10 i ∧ A 10 i < 1000 * (f + 1) := by
  obtain ⟨hn, -, -, hs, -⟩ := T
  have hn' := hn.2.2.2.1
  obtain ⟨c1, c2, c3, c4⟩ := tF_ch hn' (1000 * f)
  obtain ⟨d1, d2, d3, d4⟩ := tF_ch hn' (1000 * (f + 1))
  refine ⟨by omega, by omega, ?_, d3 i (by omega) h1⟩
  by_cases e : tF A (1000 * f) = i
  · rw [← e]; exact c4 (by omega)
  · have := hs (tF A (1000 * f)) i c1 (by omega) (by omega)
    have := c4 (by omega)
    omega
theorem TR.tfle {A : jA} (T : TR A) {x y : Int} (h : x ≤ y) : tF A x ≤ tF A y := by
  have hn' := T.1.2.2.2.1
  obtain ⟨c1, c2, c3, c4⟩ := tF_ch hn' x
  obtain ⟨d1, d2, d3, d4⟩ := tF_ch hn' y
  false_or_by_contra
  have := c3 (tF A y) d1 (by omega)
  have := d4 (by omega)
  omega
/-- what stands at an index -/
theorem TR.name {A : jA} (T : TR A) {i : Int} (h0 : 0 ≤ i) (h1 : i < A 2 10) : ∃ k, 0 ≤ k ∧ k < A 2 10 ∧ A 10 i = 1000 * A 55 k + A 56 k ∧ A 11 i = A 57 k ∧ 0 ≤ A 55 k ∧ A 55 k < A 2 9 ∧ A 3 (A 55 k) = 1 ∧ 1 ≤ A 56 k ∧ A 56 k ≤ 999 ∧ 1 ≤ A 57 k ∧ A 57 k < A 2 9 ∧ (A 3 (A 57 k) = 1 → A 7 (A 57 k) = A 55 k) := by
  obtain ⟨-, -, -, -, hm, hc, -⟩ := T
  obtain ⟨k, k0, k1, e1, e2⟩ := hc.2 i h0 h1
  exact ⟨k, k0, k1, e1, e2, hm k k0 k1⟩
theorem tF_next {A : jA} (T : TR A) {p : Int} (h0 : 0 ≤ p) (h1 : p < A 2 10) : tF A (A 10 p + 1) = p + 1 := by
  obtain ⟨hn, -, -, hs, -⟩ := T
  refine tF_eq hn.2.2.2.1 (by omega) (by omega) (fun j j0 j1 => ?_) (fun z => ?_)
  · by_cases e : j = p
    · rw [e]; omega
    · have := hs j p j0 (by omega) h1; omega
  · have := hs p (p + 1) h0 (by omega) z; omega
/-- the reference's next name in a folder -/
theorem k_mnext {E : jE} {A B : jA} (T : TR A) (hB : ∀ o, o ≠ 49 → 50 ≤ o → o ≤ 57 → B o = A o) (h7 : B 49 7 = A 49 7) {f last : Int} (hf : 0 ≤ f ∧ f < 32) (hl : 0 ≤ last ∧ last ≤ 999) {K : Int → jA → Prop} (h1 : ∀ k, tF A (1000 * f + last + 1) < tF A (1000 * (f + 1)) → 0 ≤ k → k < A 2 10 → A 57 k = A 11 (tF A (1000 * f + last + 1)) → K (A 10 (tF A (1000 * f + last + 1)) - 1000 * f) (jup B 49 19 k)) (h0 : tF A (1000 * (f + 1)) ≤ tF A (1000 * f + last + 1) → ∀ k, K 1000 (jup B 49 19 k)) : jrI 187 0 [some (.ref 49), some (.int (jI f)), some (.int (jI last)), none, none] [] E B K := by
  have T' := T
  obtain ⟨⟨n1, n2, n3, n4, n5, n6, n7, n8⟩, -, -, hs, hm, hc, hd, -⟩ := T
  have rf : jW f := ⟨by omega, by omega⟩
  have rl : jW last := ⟨by omega, by omega⟩
  have e55 : B 55 = A 55 := hB 55 (by decide) (by decide) (by decide)
  have e56 : B 56 = A 56 := hB 56 (by decide) (by decide) (by decide)
  obtain ⟨c1, c2, c3, c4⟩ := tF_ch n4 (1000 * f + last + 1)
  obtain ⟨d1, d2, d3, d4⟩ := tF_ch n4 (1000 * (f + 1))
  have js : jup B 49 19 (B 49 19) = B := by
    funext o j; simp only [jup]
    by_cases h : o = 49 ∧ j = 19
    · rw [if_pos h, h.1, h.2]
    · rw [if_neg h]
  refine vd_X7_nextName_0 f rf last rl E B K ?_
  -- best so far
  have key := j_loop (P := fun i => ∀ x k, 0 ≤ i → i ≤ A 2 10 → (x = 1000 ∧ (∀ j, 0 ≤ j → j < i → A 55 j = f → A 56 j ≤ last) ∨ last < x ∧ x < 1000 ∧ 0 ≤ k ∧ k < i ∧ A 55 k = f ∧ A 56 k = x ∧ ∀ j, 0 ≤ j → j < i → A 55 j = f → last < A 56 j → x ≤ A 56 j) → jrI 187 7 [some (.ref 49), some (.int (jI f)), some (.int (jI last)), some (.int (jI x)), some (.int (jI i))] [] E (jup B 49 19 k) K) (A 2 10) (fun i ih x k i0 i1 hx => by
    have g7 : jup B 49 19 k 49 7 = A 2 10 := by rw [jup_ne (by decide), h7]; exact n6
    have g55 : jup B 49 19 k 55 = A 55 := by rw [jup_row (by decide), e55]
    have g56 : jup B 49 19 k 56 = A 56 := by rw [jup_row (by decide), e56]
    have rx : jW x := by rcases hx with h | h <;> exact ⟨by omega, by omega⟩
    have ri : jW i := ⟨by omega, by omega⟩
    refine vd_X7_nextName_7 f rf last rl x rx i ri E _ K ?_
    rw [g7, g55, g56]
    refine ⟨fun q => ?_, fun q => ⟨by omega, ?_⟩⟩
    · have ei : i = A 2 10 := by omega
      subst ei
      rcases hx with ⟨ex, hx⟩ | ⟨x1, x2, k0, k1, k2, k3, hx⟩
      · rw [ex]
        refine h0 ?_ k
        false_or_by_contra
        obtain ⟨k', q0, q1, q2, q3, q4, q5, q6, q7, q8, -⟩ := T'.name c1 (by omega)
        have a1 := c4 (by omega)
        have a2 := d3 _ c1 (by omega)
        have ef : A 55 k' = f := by omega
        have := hx k' q0 q1 ef
        rw [ef] at q2; omega
      · obtain ⟨p, p0, p1, p2, p3⟩ := hc.1 k k0 k1
        rw [k2, k3] at p2
        have ep : tF A (1000 * f + last + 1) = p := by
          refine tF_eq n4 p0 (by omega) (fun j j0 j1 => ?_) (fun _ => by omega)
          obtain ⟨k', q0, q1, q2, q3, q4, q5, q6, q7, q8, -⟩ := T'.name j0 (by omega)
          have := hs j p j0 j1 p1
          false_or_by_contra
          have ef : A 55 k' = f := by omega
          rw [ef] at q2
          have := hx k' q0 q1 ef (by omega)
          omega
        have := h1 k (by
          rw [ep]
          false_or_by_contra
          have := d4 (by omega)
          have hp := hs (tF A (1000 * (f + 1))) p d1
          by_cases e : tF A (1000 * (f + 1)) = p
          · rw [e] at this; omega
          · have := hp (by omega) p1; omega) k0 k1 (by rw [ep]; exact p3.symm)
        rw [ep, show A 10 p - 1000 * f = x by omega] at this
        exact this
    · have next : ∀ x' k', (x' = 1000 ∧ (∀ j, 0 ≤ j → j < i + 1 → A 55 j = f → A 56 j ≤ last) ∨ last < x' ∧ x' < 1000 ∧ 0 ≤ k' ∧ k' < i + 1 ∧ A 55 k' = f ∧ A 56 k' = x' ∧ ∀ j, 0 ≤ j → j < i + 1 → A 55 j = f → last < A 56 j → x' ≤ A 56 j) → jW x' → jrI 187 63 [some (.ref 49), some (.int (jI f)), some (.int (jI last)), some (.int (jI x')), some (.int (jI i))] [] E (jup B 49 19 k') K := fun x' k' hx' rx' => vd_X7_nextName_63 f rf last rl x' rx' i ri E _ K (ih q x' k' (by omega) (by omega) hx')
      have stay : (A 55 i = f → last < A 56 i → x ≤ A 56 i) → (x = 1000 → A 55 i = f → A 56 i ≤ last) → jrI 187 63 [some (.ref 49), some (.int (jI f)), some (.int (jI last)), some (.int (jI x)), some (.int (jI i))] [] E (jup B 49 19 k) K := fun hq hq' => next x k (by
        rcases hx with ⟨ex, hx⟩ | ⟨x1, x2, k0, k1, k2, k3, hx⟩
        · left
          refine ⟨ex, fun j j0 j1 => ?_⟩
          by_cases e : j = i
          · rw [e]; exact hq' ex
          · exact hx j j0 (by omega)
        · right
          refine ⟨x1, x2, k0, by omega, k2, k3, fun j j0 j1 => ?_⟩
          by_cases e : j = i
          · rw [e]; exact hq
          · exact hx j j0 (by omega)) rx
      obtain ⟨m1, m2, m3, m4, m5, -⟩ := hm i i0 q
      refine ⟨fun q2 => stay (fun z => absurd z q2) (fun _ z => absurd z q2), fun q2 => ⟨by omega, fun q3 => stay (fun _ z => by omega) (fun _ _ => q3), fun q3 => ⟨by omega, fun q4 => stay (fun _ _ => q4) (fun e => by omega), fun q4 => ⟨by omega, fun A5 e5 => ?_⟩⟩⟩⟩
      have e5' : A5 = jup B 49 19 i := by
        rw [e5]; funext o j; simp only [jup]
        by_cases h : o = 49 ∧ j = 19
        · rw [if_pos h, if_pos h]
        · rw [if_neg h, if_neg h, if_neg h]
      rw [e5']
      refine next (A 56 i) i ?_ ⟨by omega, by omega⟩
      right
      refine ⟨q3, by omega, i0, by omega, q2, rfl, fun j j0 j1 j2 j3 => ?_⟩
      by_cases e : j = i
      · rw [e]; omega
      · rcases hx with ⟨ex, hx⟩ | ⟨x1, x2, k0, k1, k2, k3, hx⟩
        · have := hx j j0 (by omega) j2; omega
        · have := hx j j0 (by omega) j2 j3; omega) 0 1000 (B 49 19) (by omega) (by omega) (.inl ⟨rfl, fun j a b => by omega⟩)
  rwa [js] at key
/-- numbers of nodes, nodes of numbers, how many -/
abbrev nSt : Type := (Int → Int) × (Int → Int) × Int
def nAdd (s : nSt) (x : Int) : nSt := if s.1 x = 0 then (fun y => if y = x then s.2.2 + 1 else s.1 y, fun k => if k = s.2.2 + 1 then x else s.2.1 k, s.2.2 + 1) else s
def nB (A : jA) : Nat → Int → nSt → nSt
  | 0, _, s => s
  | f + 1, i, s => nB A f (i + 1) (nAdd s (A 11 i))
def nIn (A : jA) (x : Int) (s : nSt) : nSt := if A 3 x = 1 then nB A (tF A (1000 * (x + 1)) - tF A (1000 * x)).toNat (tF A (1000 * x)) s else s
def nO (A : jA) : Nat → Int → nSt → nSt
  | 0, _, s => s
  | f + 1, k, s => if s.2.2 < k then s else nO A f (k + 1) (nIn A (s.2.1 k) s)
def nS0 : nSt := (fun x => if x = 0 then 1 else 0, fun _ => 0, 1)
def nU (A : jA) : nSt := nO A 40 1 nS0
/-- what holds of them -/
def NV (A : jA) (s : nSt) : Prop := 1 ≤ s.2.2 ∧ s.2.2 ≤ A 2 9 ∧ s.2.1 1 = 0 ∧ s.1 0 = 1 ∧ (∀ k, 1 ≤ k → k ≤ s.2.2 → 0 ≤ s.2.1 k ∧ s.2.1 k < A 2 9 ∧ s.1 (s.2.1 k) = k) ∧ ∀ x, s.1 x = 0 ∨ 1 ≤ s.1 x ∧ s.1 x ≤ s.2.2 ∧ s.2.1 (s.1 x) = x
theorem NV.room {A : jA} {s : nSt} (h : NV A s) (hn : A 2 9 ≤ 32) {x : Int} (x0 : 0 ≤ x) (x1 : x < A 2 9) (hz : s.1 x = 0) : s.2.2 < A 2 9 := by
  obtain ⟨h1, h2, h3, h4, h5, h6⟩ := h
  have := php (A 2 9).toNat (s.2.2.toNat + 1) (fun i => if (i : Int) = s.2.2 then x + 1 else s.2.1 ((i : Int) + 1) + 1) (fun i hi => by
    by_cases e : (i : Int) = s.2.2
    · rw [if_pos e]; omega
    · rw [if_neg e]; have := h5 ((i : Int) + 1) (by omega) (by omega); omega) (fun i j hij hj => by
    rw [if_neg (by omega)]
    have hi := h5 ((i : Int) + 1) (by omega) (by omega)
    by_cases e : (j : Int) = s.2.2
    · rw [if_pos e]
      intro z
      have : s.2.1 ((i : Int) + 1) = x := by omega
      rw [this] at hi; omega
    · rw [if_neg e]
      have hj' := h5 ((j : Int) + 1) (by omega) (by omega)
      intro z
      have : s.2.1 ((i : Int) + 1) = s.2.1 ((j : Int) + 1) := by omega
      rw [this] at hi; omega)
  omega
theorem NV.add {A : jA} {s : nSt} (h : NV A s) (hn : A 2 9 ≤ 32) {x : Int} (x0 : 0 ≤ x) (x1 : x < A 2 9) : NV A (nAdd s x) ∧ (nAdd s x).1 x ≠ 0 ∧ (∀ y, s.1 y ≠ 0 → (nAdd s x).1 y = s.1 y) ∧ s.2.2 ≤ (nAdd s x).2.2 ∧ ∀ k, k ≤ s.2.2 → (nAdd s x).2.1 k = s.2.1 k := by
  unfold nAdd
  by_cases hz : s.1 x = 0
  · have hr := h.room hn x0 x1 hz
    obtain ⟨h1, h2, h3, h4, h5, h6⟩ := h
    rw [if_pos hz]
    have ne0 : x ≠ 0 := fun e => by rw [e, h4] at hz; omega
    refine ⟨⟨by dsimp only; omega, by dsimp only; omega, by dsimp only; rw [if_neg (by omega)]; exact h3, by dsimp only; rw [if_neg (fun e => ne0 e.symm)]; exact h4, fun k k1 k2 => ?_, fun y => ?_⟩, by dsimp only; rw [if_pos rfl]; omega, fun y hy => by dsimp only; rw [if_neg (fun e => hy (by rw [e]; exact hz))], by dsimp only; omega, fun k hk => by dsimp only; rw [if_neg (by omega)]⟩
    · dsimp only at k2 ⊢
      by_cases e : k = s.2.2 + 1
      · rw [if_pos e, if_pos rfl]; exact ⟨x0, x1, e.symm⟩
      · rw [if_neg e]
        have := h5 k k1 (by omega)
        rw [if_neg (fun z => by rw [z, hz] at this; omega)]; exact this
    · dsimp only
      by_cases e : y = x
      · rw [if_pos e, if_pos rfl]; exact .inr ⟨by omega, by omega, e.symm⟩
      · rw [if_neg e]
        rcases h6 y with z | ⟨a, b, c⟩
        · exact .inl z
        · rw [if_neg (by omega)]; exact .inr ⟨a, by omega, c⟩
  · rw [if_neg hz]
    exact ⟨h, hz, fun _ _ => rfl, by omega, fun _ _ => rfl⟩
theorem NV.b {A : jA} (T : TR A) (f : Nat) (i : Int) {s : nSt} (h : NV A s) (i0 : 0 ≤ i) (i1 : i + f ≤ A 2 10) : NV A (nB A f i s) ∧ (∀ j, i ≤ j → j < i + f → (nB A f i s).1 (A 11 j) ≠ 0) ∧ (∀ y, s.1 y ≠ 0 → (nB A f i s).1 y = s.1 y) ∧ s.2.2 ≤ (nB A f i s).2.2 ∧ ∀ k, k ≤ s.2.2 → (nB A f i s).2.1 k = s.2.1 k := by
  induction f generalizing i s with
  | zero => exact ⟨h, fun j a b => by omega, fun _ _ => rfl, by show s.2.2 ≤ s.2.2; omega, fun _ _ => rfl⟩
  | succ f ih =>
    obtain ⟨k, k0, k1, e1, e2, e3⟩ := T.name i0 (show i < A 2 10 by omega)
    obtain ⟨a1, a2, a3, a4, a5⟩ := h.add T.1.2.1 (x := A 11 i) (by omega) (by omega)
    obtain ⟨b1, b2, b3, b4, b5⟩ := ih (i + 1) a1 (by omega) (by omega)
    refine ⟨b1, fun j j0 j1 => ?_, fun y hy => ?_, by show s.2.2 ≤ (nB A f (i + 1) (nAdd s (A 11 i))).2.2; omega, fun k hk => ?_⟩
    · by_cases e : j = i
      · rw [e]
        show (nB A f (i + 1) (nAdd s (A 11 i))).1 (A 11 i) ≠ 0
        rw [b3 _ a2]; exact a2
      · exact b2 j (by omega) (by omega)
    · show (nB A f (i + 1) (nAdd s (A 11 i))).1 y = s.1 y
      rw [b3 y (by rw [a3 y hy]; exact hy), a3 y hy]
    · show (nB A f (i + 1) (nAdd s (A 11 i))).2.1 k = s.2.1 k
      rw [b5 k (by omega), a5 k hk]
theorem NV.i {A : jA} (T : TR A) {x : Int} {s : nSt} (h : NV A s) : NV A (nIn A x s) ∧ (A 3 x = 1 → ∀ j, tF A (1000 * x) ≤ j → j < tF A (1000 * (x + 1)) → (nIn A x s).1 (A 11 j) ≠ 0) ∧ (∀ y, s.1 y ≠ 0 → (nIn A x s).1 y = s.1 y) ∧ s.2.2 ≤ (nIn A x s).2.2 ∧ ∀ k, k ≤ s.2.2 → (nIn A x s).2.1 k = s.2.1 k := by
  unfold nIn
  have hn := T.1.2.2.2.1
  have c := tF_ch hn (1000 * x)
  have d := tF_ch hn (1000 * (x + 1))
  have le := T.tfle (show 1000 * x ≤ 1000 * (x + 1) by omega)
  by_cases q : A 3 x = 1
  · rw [if_pos q]
    obtain ⟨a1, a2, a3, a4, a5⟩ := NV.b T (tF A (1000 * (x + 1)) - tF A (1000 * x)).toNat (tF A (1000 * x)) h (by omega) (by omega)
    exact ⟨a1, fun _ j j0 j1 => a2 j j0 (by omega), a3, a4, a5⟩
  · rw [if_neg q]
    exact ⟨h, fun z => absurd z q, fun _ _ => rfl, by omega, fun _ _ => rfl⟩
/-- below each numbered folder all is numbered -/
def NC (A : jA) (s : nSt) (k : Int) : Prop := ∀ k', 1 ≤ k' → k' < k → k' ≤ s.2.2 → A 3 (s.2.1 k') = 1 → ∀ j, tF A (1000 * s.2.1 k') ≤ j → j < tF A (1000 * (s.2.1 k' + 1)) → s.1 (A 11 j) ≠ 0
theorem NV.o {A : jA} (T : TR A) (f : Nat) (k : Int) {s : nSt} (h : NV A s) (k1 : 1 ≤ k) (hf : 33 - k < f) (hc : NC A s k) : NV A (nO A f k s) ∧ NC A (nO A f k s) ((nO A f k s).2.2 + 1) := by
  induction f generalizing k s with
  | zero =>
    have := h.2.1
    have := T.1.2.1
    exact ⟨h, fun k' a b c => hc k' a (by have c' : k' ≤ s.2.2 := c; omega) c⟩
  | succ f ih =>
    simp only [nO]
    by_cases q : s.2.2 < k
    · rw [if_pos q]; exact ⟨h, fun k' a b c => hc k' a (by omega) c⟩
    · rw [if_neg q]
      obtain ⟨a1, a2, a3, a4, a5⟩ := h.i T (x := s.2.1 k)
      refine ih (k + 1) a1 (by omega) (by omega) (fun k' b1 b2 b3 b4 j j0 j1 => ?_)
      rw [a5 k' (by omega)] at b4 j0 j1
      by_cases e : k' = k
      · subst e; exact a2 b4 j j0 j1
      · have := hc k' b1 (by omega) (by omega) b4 j j0 j1
        rw [a3 _ this]; exact this
theorem nU_NV {A : jA} (T : TR A) : NV A (nU A) ∧ NC A (nU A) ((nU A).2.2 + 1) := by
  have h1 := T.1.1
  refine NV.o T 40 1 ⟨by show (1 : Int) ≤ 1; omega, by show (1 : Int) ≤ A 2 9; omega, rfl, rfl, fun k k1 k2 => ?_, fun x => ?_⟩ (by omega) (by omega) (fun k' a b => by omega)
  · have : k = 1 := by have : k ≤ 1 := k2; omega
    subst this
    exact ⟨by show (0 : Int) ≤ 0; omega, by show (0 : Int) < A 2 9; omega, rfl⟩
  · by_cases e : x = 0
    · right; subst e; exact ⟨by decide, by decide, rfl⟩
    · left; exact if_neg e
