/-! THE TWO TREES SIDE BY SIDE -/
/-- what the names leave free, summed over the nodes 1 .. n - 1 -/
def jfree (f : Int → Int) : Nat → Int
  | 0 => 0
  | n + 1 => jfree f n + (if n = 0 then 0 else 9 - f n)
def TRn (A : jA) : Prop := 1 ≤ A 2 9 ∧ A 2 9 ≤ 32 ∧ A 49 1 = A 2 9 ∧ 0 ≤ A 2 10 ∧ A 2 10 ≤ 279 ∧ A 49 7 = A 2 10 ∧ A 3 0 = 1 ∧ A 7 0 = 0
def TRk (A : jA) : Prop := ∀ i, 0 ≤ i → i < A 2 9 → A 50 i = A 3 i ∧ 1 ≤ A 3 i ∧ A 3 i ≤ 3 ∧ A 51 i = A 5 i ∧ 0 ≤ A 5 i ∧ A 5 i ≤ 65535 ∧ A 52 i = A 4 i ∧ 0 ≤ A 4 i ∧ A 4 i ≤ 65535 ∧ A 53 i = A 8 i ∧ 0 ≤ A 8 i ∧ A 8 i ≤ 100 ∧ (A 3 i ≠ 2 → A 8 i = 0)
def TRb (A : jA) : Prop := ∀ i k, 0 ≤ i → i < A 2 9 → 0 ≤ k → k < A 8 i → A 54 (100 * i + k) = A 9 (100 * i + k) ∧ 0 ≤ A 9 (100 * i + k) ∧ A 9 (100 * i + k) ≤ 255
def TRs (A : jA) : Prop := ∀ i j, 0 ≤ i → i < j → j < A 2 10 → A 10 i < A 10 j
def TRm (A : jA) : Prop := ∀ k, 0 ≤ k → k < A 2 10 → 0 ≤ A 55 k ∧ A 55 k < A 2 9 ∧ A 3 (A 55 k) = 1 ∧ 1 ≤ A 56 k ∧ A 56 k ≤ 999 ∧ 1 ≤ A 57 k ∧ A 57 k < A 2 9 ∧ (A 3 (A 57 k) = 1 → A 7 (A 57 k) = A 55 k)
def TRc (A : jA) : Prop := (∀ k, 0 ≤ k → k < A 2 10 → ∃ i, 0 ≤ i ∧ i < A 2 10 ∧ A 10 i = 1000 * A 55 k + A 56 k ∧ A 11 i = A 57 k) ∧ (∀ i, 0 ≤ i → i < A 2 10 → ∃ k, 0 ≤ k ∧ k < A 2 10 ∧ A 10 i = 1000 * A 55 k + A 56 k ∧ A 11 i = A 57 k)
def TRd (A : jA) : Prop := ∀ k l, 0 ≤ k → k < l → l < A 2 10 → ¬ (A 55 k = A 55 l ∧ A 56 k = A 56 l)
def TRx (A : jA) : Prop := ∀ x, 1 ≤ x → x < A 2 9 → A 6 x = jcnt (A 57) x (A 2 10).toNat ∧ 1 ≤ A 6 x ∧ A 6 x ≤ 9 ∧ (A 3 x ≠ 2 → A 6 x = 1) ∧ 0 ≤ A 7 x ∧ A 7 x < x ∧ ∃ k, 0 ≤ k ∧ k < A 2 10 ∧ A 57 k = x ∧ A 55 k = A 7 x
def TRf (A : jA) : Prop := A 2 10 + jfree (A 6) (A 2 9).toNat = 9 * (A 2 9 - 1)
def TR (A : jA) : Prop := TRn A ∧ TRk A ∧ TRb A ∧ TRs A ∧ TRm A ∧ TRc A ∧ TRd A ∧ TRx A ∧ TRf A
theorem TR.fr {A B : jA} (h : ∀ a, 2 ≤ a ∧ a ≤ 11 ∨ 50 ≤ a ∧ a ≤ 57 → B a = A a) (h1 : B 49 1 = A 49 1) (h7 : B 49 7 = A 49 7) (hT : TR A) : TR B := by
  unfold TR TRn TRk TRb TRs TRm TRc TRd TRx TRf at *
  simp only [h 2 (by decide), h 3 (by decide), h 4 (by decide), h 5 (by decide), h 6 (by decide), h 7 (by decide), h 8 (by decide), h 9 (by decide), h 10 (by decide), h 11 (by decide), h 50 (by decide), h 51 (by decide), h 52 (by decide), h 53 (by decide), h 54 (by decide), h 55 (by decide), h 56 (by decide), h 57 (by decide), h1, h7]
  exact hT
/-- the name is there, in either tree -/
theorem TR.there {A : jA} (T : TR A) {f y : Int} (hy : 1 ≤ y ∧ y ≤ 999) : (∃ i, 0 ≤ i ∧ i < A 2 10 ∧ A 10 i = 1000 * f + y) ↔ (∃ k, 0 ≤ k ∧ k < A 2 10 ∧ A 55 k = f ∧ A 56 k = y) := by
  obtain ⟨-, -, -, -, Tm, Tc, -, -, -⟩ := T
  constructor
  · rintro ⟨i, i0, i1, e⟩
    obtain ⟨k, k0, k1, e2, -⟩ := Tc.2 i i0 i1
    have := Tm k k0 k1
    exact ⟨k, k0, k1, by omega, by omega⟩
  · rintro ⟨k, k0, k1, rfl, rfl⟩
    obtain ⟨i, i0, i1, e2, -⟩ := Tc.1 k k0 k1
    exact ⟨i, i0, i1, e2⟩
theorem jfree_nonneg {f : Int → Int} {n : Nat} (h : ∀ x : Int, 1 ≤ x → x < n → f x ≤ 9) : 0 ≤ jfree f n := by
  induction n with
  | zero => simp [jfree]
  | succ n ih =>
    have := ih (fun x a b => h x a (by omega))
    simp only [jfree]
    split
    · omega
    · have := h n (by omega) (by omega)
      omega
theorem jfree_congr {f g : Int → Int} {n : Nat} (h : ∀ x : Int, 1 ≤ x → x < n → f x = g x) : jfree f n = jfree g n := by
  induction n with
  | zero => rfl
  | succ n ih =>
    simp only [jfree]
    rw [ih (fun x a b => h x a (by omega))]
    split
    · rfl
    · rw [h n (by omega) (by omega)]
/-- one node has one name more -/
theorem jfree_one {f g : Int → Int} {n : Nat} {z : Int} (hz : 1 ≤ z ∧ z < n) (h : ∀ x : Int, x ≠ z → g x = f x) (h1 : g z = f z + 1) : jfree g n = jfree f n - 1 := by
  induction n with
  | zero => omega
  | succ n ih =>
    simp only [jfree]
    by_cases e : z = n
    · rw [jfree_congr (g := f) (fun x a b => h x (by omega)), if_neg (by omega), if_neg (by omega), ← e, h1]
      omega
    · rw [ih (by omega)]
      split
      · omega
      · rw [h n (by omega)]
        omega
theorem jfree_le {f : Int → Int} {n : Nat} {z : Int} (hz : 1 ≤ z ∧ z < n) (h : ∀ x : Int, 1 ≤ x → x < n → f x ≤ 9) : 9 - f z ≤ jfree f n := by
  induction n with
  | zero => omega
  | succ n ih =>
    simp only [jfree]
    by_cases e : z = n
    · have := jfree_nonneg (f := f) (n := n) (fun x a b => h x a (by omega))
      rw [if_neg (by omega), e]
      omega
    · have := ih (by omega) (fun x a b => h x a (by omega))
      split
      · omega
      · have := h n (by omega) (by omega)
        omega
/-- the class's addBelow -/
theorem k_addBelow {f y k : Int} (rf : jW f) (ry : jW y) (hk : 1 ≤ k ∧ k ≤ 3) {E : jE} {A : jA} (hn : 1 ≤ A 2 9 ∧ A 2 9 ≤ 32) (hm : 0 ≤ A 2 10 ∧ A 2 10 ≤ 279) (hm2 : A 2 9 < 32 → A 2 10 < 279) (hs : TRs A) {K : Int → jA → Prop}
    (h1 : ¬ (0 ≤ f ∧ f < A 2 9) → K (-1) A) (h2 : 0 ≤ f → f < A 2 9 → ¬ (1 ≤ y ∧ y ≤ 999) → K (-2) A) (h3 : 0 ≤ f → f < A 2 9 → 1 ≤ y → y ≤ 999 → (A 3 f = 1 → ∃ i, 0 ≤ i ∧ i < A 2 10 ∧ A 10 i = 1000 * f + y) → K (-3) A)
    (h4 : 0 ≤ f → f < A 2 9 → 1 ≤ y → y ≤ 999 → A 3 f = 1 → (∀ i, 0 ≤ i → i < A 2 10 → A 10 i ≠ 1000 * f + y) → 32 ≤ A 2 9 → K (-4) A)
    (h5 : 0 ≤ f → f < A 2 9 → 1 ≤ y → y ≤ 999 → A 3 f = 1 → (∀ i, 0 ≤ i → i < A 2 10 → A 10 i ≠ 1000 * f + y) → A 2 9 < 32 → ∀ p, 0 ≤ p → p ≤ A 2 10 → (∀ j, 0 ≤ j → j < p → A 10 j < 1000 * f + y) → (p < A 2 10 → 1000 * f + y ≤ A 10 p) → K (A 2 9) (tName (tNode A f k) p (1000 * f + y) (A 2 9))) :
    jrI 108 0 [some (.ref 1), some (.int (jI f)), some (.int (jI y)), some (.int (jI k))] [] E A K := by
  refine vd_X6_addBelow_0 f rf y ry k ⟨by omega, by omega⟩ E A K ?_
  refine k_hasNode rf (fun a b => ⟨fun _ => ?_, fun q => by omega⟩) (fun q => ⟨fun z => absurd rfl z, fun _ => h1 q⟩)
  refine k_isName ry (fun c d => ⟨fun _ => ?_, fun q => by omega⟩) (fun q => ⟨fun z => absurd rfl z, fun _ => h2 a b q⟩)
  refine k_takesName ⟨a, by omega⟩ ⟨c, d⟩ hm hs (fun e g => ⟨fun _ => ⟨fun q => ?_, fun q => h4 a b c d e g q⟩, fun q => by omega⟩) (fun q => ⟨fun z => absurd rfl z, fun _ => h3 a b c d q⟩)
  refine vd_X5_addNode_0 f rf y ry k ⟨by omega, by omega⟩ E A _ ?_
  refine k_startNode rf ⟨by omega, by omega⟩ (by omega) ?_
  have e9 : tNode A f k 2 10 = A 2 10 := by simp only [tNode]; grind
  have e6 : tNode A f k 6 (A 2 9) = 0 := by simp [tNode]
  have e10 : ∀ j, tNode A f k 10 j = A 10 j := by intro j; simp only [tNode]; grind
  refine k_addName ⟨a, by omega⟩ ⟨c, d⟩ (by omega) (by rw [e9]; omega) (by rw [e6]; omega) (fun p p0 p1 hlo hhi => ?_)
  simp only [e9, e10] at p1 hlo hhi
  exact h5 a b c d e g q p p0 p1 hlo hhi
/-- a new node of the reference's -/
def mNode (A : jA) (k f y : Int) : jA := fun a j =>
  if a = 49 ∧ j = 0 then 0 else if a = 49 ∧ j = 1 then A 49 1 + 1 else if a = 49 ∧ j = 7 then A 49 7 + 1 else if a = 50 ∧ j = A 49 1 then k else if (a = 51 ∨ a = 52 ∨ a = 53) ∧ j = A 49 1 then 0 else if a = 55 ∧ j = A 49 7 then f else if a = 56 ∧ j = A 49 7 then y else if a = 57 ∧ j = A 49 7 then A 49 1 else A a j
theorem k_comes {k f y : Int} (hk : 1 ≤ k ∧ k ≤ 3) (rf : jW f) (ry : jW y) {E : jE} {A : jA} (hn : 1 ≤ A 49 1 ∧ A 49 1 ≤ 32) (hm : 0 ≤ A 49 7 ∧ A 49 7 ≤ 279) {K : Int → jA → Prop}
    (h1 : ¬ (0 ≤ f ∧ f < A 49 1) → K (-1) (jup A 49 0 0)) (h2 : 0 ≤ f → f < A 49 1 → ¬ (1 ≤ y ∧ y ≤ 999) → K (-2) (jup A 49 0 0)) (h3 : 0 ≤ f → f < A 49 1 → 1 ≤ y → y ≤ 999 → (A 50 f = 1 → ∃ i, 0 ≤ i ∧ i < A 49 7 ∧ A 55 i = f ∧ A 56 i = y) → K (-3) (jup A 49 0 0))
    (h4 : 0 ≤ f → f < A 49 1 → 1 ≤ y → y ≤ 999 → A 50 f = 1 → (∀ i, 0 ≤ i → i < A 49 7 → ¬ (A 55 i = f ∧ A 56 i = y)) → A 49 1 = 32 → K (-4) (jup A 49 0 0))
    (h5 : 0 ≤ f → f < A 49 1 → 1 ≤ y → y ≤ 999 → A 50 f = 1 → (∀ i, 0 ≤ i → i < A 49 7 → ¬ (A 55 i = f ∧ A 56 i = y)) → A 49 1 < 32 → K (A 49 1) (mNode A k f y)) :
    jrI 147 0 [some (.ref 49), some (.int (jI k)), some (.int (jI f)), some (.int (jI y))] [] E A K := by
  refine vd_X7_comes_0 k ⟨by omega, by omega⟩ f rf y ry E A K (fun A1 e1 => ?_)
  have q1 : A1 49 1 = A 49 1 := by rw [e1]; simp [jup]
  have q7 : A1 49 7 = A 49 7 := by rw [e1]; simp [jup]
  have q50 : A1 50 = A 50 := by rw [e1]; exact jup_row (by decide)
  have q55 : A1 55 = A 55 := by rw [e1]; exact jup_row (by decide)
  have q56 : A1 56 = A 56 := by rw [e1]; exact jup_row (by decide)
  refine k_isNode rf (by omega) (fun a b => ⟨fun _ => ?_, fun q => by omega⟩) (fun q => ⟨fun z => absurd rfl z, fun _ => e1 ▸ h1 (by rwa [q1] at q)⟩)
  rw [q1] at b
  refine k_in ry (by decide) (by decide) (fun c d => ⟨fun _ => ?_, fun q => by omega⟩) (fun q => ⟨fun z => absurd rfl z, fun _ => e1 ▸ h2 a b q⟩)
  refine ⟨by omega, fun q => e1 ▸ h3 a b c d (fun z => absurd (by rw [q50]; exact z) q), fun e => ?_⟩
  rw [q50] at e
  refine k_isThere rf ry (by rw [q7]; omega) (fun q => ⟨fun z => by omega, fun _ => e1 ▸ h3 a b c d (fun _ => by rw [q7, q55, q56] at q; exact q)⟩) (fun q => ⟨fun _ => ⟨fun q2 => ?_, fun q2 => ?_⟩, fun z => absurd rfl z⟩)
  · rw [q1] at q2
    rw [q7, q55, q56] at q
    refine ⟨by omega, fun A18 e18 => ?_⟩
    have w1 : A18 49 1 = A 49 1 := by rw [e18]; simp only [jup]; grind
    refine ⟨by omega, fun A22 e22 => ?_⟩
    have w2 : A22 49 1 = A 49 1 := by rw [e22]; simp only [jup]; grind
    refine ⟨by omega, fun A26 e26 => ?_⟩
    have w3 : A26 49 1 = A 49 1 := by rw [e26]; simp only [jup]; grind
    refine ⟨by omega, fun A30 e30 => ?_⟩
    have w4 : A30 49 1 = A 49 1 := by rw [e30]; simp only [jup]; grind
    have w7 : A30 49 7 = A 49 7 := by rw [e30, e26, e22, e18]; simp only [jup]; grind
    rw [w4]
    refine k_nameIt rf ry ⟨by omega, by omega⟩ (by omega) ?_
    have w5 : mName A30 f y (A 49 1) 49 1 = A 49 1 := by simp only [mName]; grind
    rw [w5]
    refine ⟨⟨by omega, by omega⟩, fun A36 e36 => ?_⟩
    have w6 : A36 = mNode A k f y := by
      rw [e36]
      funext a' j
      simp only [jup, mName, mNode, w7, e30, e26, e22, e18, w1, w2, w3, q1, e1]
      clear h1 h2 h3 h4 h5 q hn hm
      grind (splits := 30)
    have w8 : A36 49 1 = A 49 1 + 1 := by rw [e36, jup_at]
    rw [w8, w6]
    refine ⟨⟨by omega, by omega⟩, ?_⟩
    rw [show A 49 1 + 1 - 1 = A 49 1 by omega]
    exact h5 a b c d e q (by omega)
  · rw [q1] at q2
    rw [q7, q55, q56] at q
    exact e1 ▸ h4 a b c d e q q2
