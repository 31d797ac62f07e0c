/-! CONTRACTS: small ones; the names of the class's tree -/
/-- a loop that counts up -/
theorem j_loop {P : Int → Prop} (n : Int) (h : ∀ i, (i < n → P (i + 1)) → P i) (i : Int) : P i := by
  obtain ⟨d, hd⟩ : ∃ d : Nat, (n - i).toNat = d := ⟨_, rfl⟩
  induction d generalizing i with
  | zero => exact h i (fun q => by omega)
  | succ d ih => exact h i (fun q => ih (i + 1) (by omega))
/-- a loop that counts down -/
theorem j_down {P : Int → Prop} (n : Int) (h : ∀ i, (n < i → P (i - 1)) → P i) (i : Int) : P i := by
  obtain ⟨d, hd⟩ : ∃ d : Nat, (i - n).toNat = d := ⟨_, rfl⟩
  induction d generalizing i with
  | zero => exact h i (fun q => by omega)
  | succ d ih => exact h i (fun q => ih (i - 1) (by omega))
theorem jup_row {A : jA} {o a : Nat} {i v : Int} (h : a ≠ o) : jup A o i v a = A a := funext fun j => if_neg (fun q => h q.1)
theorem jup_at (A : jA) (o : Nat) (i v : Int) : jup A o i v o i = v := if_pos ⟨rfl, rfl⟩
theorem jup_ne {A : jA} {o : Nat} {i j v : Int} (h : j ≠ i) : jup A o i v o j = A o j := if_neg (fun q => h q.2)
theorem k_hasNode {x : Int} (r : jW x) {E : jE} {A : jA} {K : Int → jA → Prop} (h1 : 0 ≤ x → x < A 2 9 → K 1 A) (h0 : ¬ (0 ≤ x ∧ x < A 2 9) → K 0 A) : jrI 101 0 [some (.ref 2), some (.int (jI x))] [] E A K := vd_X5_hasNode_0 x r E A K (by grind)
theorem k_isName {x : Int} (r : jW x) {E : jE} {A : jA} {K : Int → jA → Prop} (h1 : 1 ≤ x → x ≤ 999 → K 1 A) (h0 : ¬ (1 ≤ x ∧ x ≤ 999) → K 0 A) : jrI 124 0 [some (.int (jI x))] [] E A K := vd_X6_isName_0 x r E A K (by grind)
theorem k_isWord {x : Int} (r : jW x) {E : jE} {A : jA} {K : Int → jA → Prop} (h1 : 0 ≤ x → x ≤ 65535 → K 1 A) (h0 : ¬ (0 ≤ x ∧ x ≤ 65535) → K 0 A) : jrI 125 0 [some (.int (jI x))] [] E A K := vd_X6_isWord_0 x r E A K (by grind)
theorem k_isBlock {x : Int} (r : jW x) {E : jE} {A : jA} {K : Int → jA → Prop} (h1 : x = 8 ∨ x = 16 ∨ x = 32 → K 1 A) (h0 : ¬ (x = 8 ∨ x = 16 ∨ x = 32) → K 0 A) : jrI 123 0 [some (.int (jI x))] [] E A K := vd_X6_isBlock_0 x r E A K (by grind)
theorem k_in {x a b : Int} (r : jW x) (ra : jW a) (rb : jW b) {E : jE} {A : jA} {K : Int → jA → Prop} (h1 : a ≤ x → x ≤ b → K 1 A) (h0 : ¬ (a ≤ x ∧ x ≤ b) → K 0 A) : jrI 160 0 [some (.int (jI x)), some (.int (jI a)), some (.int (jI b))] [] E A K := vd_X7_in_0 x r a ra b rb E A K (by grind)
theorem k_isNode {x : Int} (r : jW x) {E : jE} {A : jA} (hn : 0 ≤ A 49 1) {K : Int → jA → Prop} (h1 : 0 ≤ x → x < A 49 1 → K 1 A) (h0 : ¬ (0 ≤ x ∧ x < A 49 1) → K 0 A) : jrI 167 0 [some (.ref 49), some (.int (jI x))] [] E A K := by
  refine jrI.ok fun hA => vd_X7_isNode_0 x r E A K ?_
  have := hA 49 1
  refine k_in r (by decide) ⟨by omega, by omega⟩ ?_ ?_
  · grind
  · grind
theorem k_firstFrom {x : Int} (r : jW x) {E : jE} {A : jA} (hn : 0 ≤ A 2 10 ∧ A 2 10 ≤ 279) {K : Int → jA → Prop} (hK : ∀ v, 0 ≤ v → v ≤ A 2 10 → (∀ j, 0 ≤ j → j < v → A 10 j < x) → (v < A 2 10 → x ≤ A 10 v) → K v A) : jrI 99 0 [some (.ref 2), some (.int (jI x)), none] [] E A K := by
  refine vd_X5_firstFrom_0 x r E A K ?_
  refine j_loop (P := fun i => 0 ≤ i → i ≤ A 2 10 → (∀ j, 0 ≤ j → j < i → A 10 j < x) → jrI 99 2 [some (.ref 2), some (.int (jI x)), some (.int (jI i))] [] E A K) (A 2 10) (fun i ih h0 h1 hj => ?_) 0 (by omega) (by omega) (by omega)
  refine vd_X5_firstFrom_2 x r i ⟨by omega, by omega⟩ E A K ?_
  refine ⟨fun q => ?_, fun q => ⟨by omega, fun q2 => ih q (by omega) (by omega) ?_, fun q2 => ?_⟩⟩
  · have e : i = A 2 10 := by omega
    subst e
    grind
  · grind
  · grind
/-- the class's question whether a folder takes a name -/
theorem k_takesName {x y : Int} (hx : 0 ≤ x ∧ x < 32) (hy : 1 ≤ y ∧ y ≤ 999) {E : jE} {A : jA} (hn : 0 ≤ A 2 10 ∧ A 2 10 ≤ 279) (hs : ∀ i j, 0 ≤ i → i < j → j < A 2 10 → A 10 i < A 10 j) {K : Int → jA → Prop} (h1 : A 3 x = 1 → (∀ i, 0 ≤ i → i < A 2 10 → A 10 i ≠ 1000 * x + y) → K 1 A) (h0 : (A 3 x = 1 → ∃ i, 0 ≤ i ∧ i < A 2 10 ∧ A 10 i = 1000 * x + y) → K 0 A) : jrI 107 0 [some (.ref 2), some (.int (jI x)), some (.int (jI y)), none, none] [] E A K := by
  refine vd_X5_takesName_0 x ⟨by omega, by omega⟩ y ⟨by omega, by omega⟩ E A K ⟨hx, fun q => ?_, fun q => h0 (fun z => absurd z q)⟩
  refine k_firstFrom ⟨by omega, by omega⟩ hn (fun v v0 v1 hlo hhi => ⟨fun q2 => ?_, fun q2 => ⟨by omega, ⟨by omega, by omega⟩, fun q3 => ?_, fun q3 => ?_⟩⟩)
  · refine h1 q (fun i i0 i1 e => ?_)
    have := hlo i i0 (by omega)
    omega
  · exact h0 (fun _ => ⟨v, v0, q2, by omega⟩)
  · refine h1 q (fun i i0 i1 e => ?_)
    have a1 := hhi q2
    rcases Int.lt_trichotomy i v with h | h | h
    · have := hlo i i0 h
      omega
    · subst h; omega
    · have := hs v i v0 h i1
      omega
/-- the reference's question whether a name is there -/
theorem k_isThere {x y : Int} (hx : jW x) (hy : jW y) {E : jE} {A : jA} (hn : 0 ≤ A 49 7 ∧ A 49 7 ≤ 300) {K : Int → jA → Prop} (h1 : (∃ k, 0 ≤ k ∧ k < A 49 7 ∧ A 55 k = x ∧ A 56 k = y) → K 1 A) (h0 : (∀ k, 0 ≤ k → k < A 49 7 → ¬ (A 55 k = x ∧ A 56 k = y)) → K 0 A) : jrI 169 0 [some (.ref 49), some (.int (jI x)), some (.int (jI y)), none, none] [] E A K := by
  refine vd_X7_isThere_0 x hx y hy E A K ?_
  refine j_loop (P := fun i => ∀ b : Int, 0 ≤ i → i ≤ A 49 7 → (b = 0 ∧ (∀ k, 0 ≤ k → k < i → ¬ (A 55 k = x ∧ A 56 k = y)) ∨ b = 1 ∧ (∃ k, 0 ≤ k ∧ k < i ∧ A 55 k = x ∧ A 56 k = y)) → jrI 169 5 [some (.ref 49), some (.int (jI x)), some (.int (jI y)), some (.int (jI b)), some (.int (jI i))] [] E A K) (A 49 7) (fun i ih b i0 i1 hb => ?_) 0 0 (by omega) (by omega) (Or.inl ⟨rfl, fun k a b => by omega⟩)
  have hW : jW i := ⟨by omega, by omega⟩
  have go1 : i < A 49 7 → (∃ k, 0 ≤ k ∧ k < i + 1 ∧ A 55 k = x ∧ A 56 k = y) → jrI 169 45 [some (.ref 49), some (.int (jI x)), some (.int (jI y)), none, some (.int (jI i))] [.int (jI 1)] E A K := fun q hk => vd_X7_isThere_45 x hx y hy i hW 1 (by decide) E A K (ih q 1 (by omega) (by omega) (Or.inr ⟨rfl, hk⟩))
  have go0 : i < A 49 7 → (∀ k, 0 ≤ k → k < i + 1 → ¬ (A 55 k = x ∧ A 56 k = y)) → jrI 169 45 [some (.ref 49), some (.int (jI x)), some (.int (jI y)), none, some (.int (jI i))] [.int (jI 0)] E A K := fun q hk => vd_X7_isThere_45 x hx y hy i hW 0 (by decide) E A K (ih q 0 (by omega) (by omega) (Or.inl ⟨rfl, hk⟩))
  refine vd_X7_isThere_5 x hx y hy b (by rcases hb with h | h <;> (rw [h.1]; decide)) i hW E A K ⟨fun q => ?_, fun q => ⟨fun q2 => ?_, fun q2 => ⟨by omega, fun q3 => ?_, fun q3 => ⟨by omega, fun q4 => ?_, fun q4 => ?_⟩⟩⟩⟩
  · have e : i = A 49 7 := by omega
    subst e
    rcases hb with h | h
    · rw [h.1]; exact ⟨Or.inl rfl, h0 h.2⟩
    · rw [h.1]; exact ⟨Or.inr rfl, h1 h.2⟩
  · refine vd_X7_isThere_40 x hx y hy i hW E A K (go1 q ?_)
    grind
  · refine vd_X7_isThere_44 x hx y hy i hW E A K (go0 q ?_)
    grind
  · refine vd_X7_isThere_44 x hx y hy i hW E A K (go0 q ?_)
    grind
  · refine vd_X7_isThere_40 x hx y hy i hW E A K (go1 q ?_)
    grind
