/-! CONTRACTS: what changes the trees -/
/-- a row filled in part -/
def jfill (A : jA) (c : Nat) (f t v : Int) : jA := fun a j => if a = c ∧ f ≤ j ∧ j < t then v else A a j
theorem jfill_0 (A : jA) (c : Nat) (f t v : Int) (h : t ≤ f) : jfill A c f t v = A := by
  funext a j; simp only [jfill]; rw [if_neg (by omega)]
theorem jfill_up (A : jA) (c : Nat) (f i v : Int) (h : f ≤ i) : jup (jfill A c f i v) c i v = jfill A c f (i + 1) v := by
  funext a j
  simp only [jup, jfill]
  grind
theorem k_fill {c : Nat} (hc : jK c = 1) {v : Int} (rv : jW v) {E : jE} {A : jA} {K : jA → Prop} (h : K (jfill A c 0 (jN c) v)) : jrV 0 0 [some (.ref c), some (.int (jI v)), none, none] [] E A K := by
  have hl := jN_le c
  refine vd_J7_fill_53178_0 c hc v rv E A K ?_
  have key := j_loop (P := fun i => 0 ≤ i → i ≤ jN c → jrV 0 5 [some (.ref c), some (.int (jI v)), some (.int (jI i)), some (.int (jI (jN c : Int)))] [] E (jfill A c 0 i v) K) (jN c) (fun i ih i0 i1 => by
    refine vd_J7_fill_53178_5 c hc v rv i ⟨by omega, by omega⟩ (jN c) ⟨by omega, by omega⟩ E _ K ⟨fun q => ?_, fun q => ⟨by omega, fun A2 e => ?_⟩⟩
    · have e : i = jN c := by omega
      rw [e]; exact h
    · rw [e, jfill_up A c 0 i v i0]
      exact ih q (by omega) (by omega)) 0 (by omega) (by omega)
  rw [jfill_0 A c 0 0 v (by omega)] at key
  exact key
theorem k_fillPart {c : Nat} (hc : jK c = 1) {f t v : Int} (rv : jW v) (h0 : 0 ≤ f) (h1 : f ≤ t) (h2 : t ≤ jN c) {E : jE} {A : jA} {K : jA → Prop} (h : K (jfill A c f t v)) : jrV 1 0 [some (.ref c), some (.int (jI f)), some (.int (jI t)), some (.int (jI v)), none] [] E A K := by
  have hl := jN_le c
  refine vd_J7_fill_fda19_0 c hc f ⟨by omega, by omega⟩ t ⟨by omega, by omega⟩ v rv E A K ?_
  refine vd_J7_rangeCheck_23922_0 _ ⟨by omega, by omega⟩ f ⟨by omega, by omega⟩ t ⟨by omega, by omega⟩ E A _ ?_
  have key := j_loop (P := fun i => f ≤ i → i ≤ t → jrV 1 10 [some (.ref c), none, some (.int (jI t)), some (.int (jI v)), some (.int (jI i))] [] E (jfill A c f i v) K) t (fun i ih i0 i1 => by
    refine vd_J7_fill_fda19_10 c hc t ⟨by omega, by omega⟩ v rv i ⟨by omega, by omega⟩ E _ K ⟨fun q => ?_, fun q => ⟨by omega, fun A2 e => ?_⟩⟩
    · have e : i = t := by omega
      rw [e]; exact h
    · rw [e, jfill_up A c f i v i0]
      exact ih q (by omega) (by omega)) f (by omega) h1
  rw [jfill_0 A c f f v (by omega)] at key
  grind
/-- the names moved up by one from a place on -/
def tShift (A : jA) (i : Int) : jA := fun a j => if (a = 10 ∨ a = 11) ∧ i < j ∧ j ≤ A 2 10 then A a (j - 1) else A a j
/-- a name laid in at p -/
def tName (A : jA) (p key x : Int) : jA := fun a j =>
  if a = 10 ∧ j = p then key else if a = 11 ∧ j = p then x else if a = 2 ∧ j = 10 then A 2 10 + 1 else if a = 6 ∧ j = x then A 6 x + 1 else if (a = 10 ∨ a = 11) ∧ p < j ∧ j ≤ A 2 10 then A a (j - 1) else A a j
theorem tShift_end (A : jA) : tShift A (A 2 10) = A := by
  funext a j; simp only [tShift]; rw [if_neg (by omega)]
theorem tShift_step (A : jA) (i : Int) (h : i ≤ A 2 10) : jup (jup (tShift A i) 10 i (tShift A i 10 (i - 1))) 11 i (jup (tShift A i) 10 i (tShift A i 10 (i - 1)) 11 (i - 1)) = tShift A (i - 1) := by
  funext a j
  simp only [jup, tShift]
  grind
theorem tName_eq (A : jA) (p key x : Int) (h : p ≤ A 2 10) : jup (jup (jup (jup (tShift A p) 10 p key) 11 p x) 2 10 (A 2 10 + 1)) 6 x (A 6 x + 1) = tName A p key x := by
  funext a j
  simp only [jup, tShift, tName]
  grind
theorem k_addName {f y x : Int} (hf : 0 ≤ f ∧ f < 32) (hy : 1 ≤ y ∧ y ≤ 999) (hx : 0 ≤ x ∧ x < 32) {E : jE} {A : jA} (hn : 0 ≤ A 2 10 ∧ A 2 10 < 279) (h6 : 0 ≤ A 6 x ∧ A 6 x ≤ 100) {K : Int → jA → Prop} (hK : ∀ p, 0 ≤ p → p ≤ A 2 10 → (∀ j, 0 ≤ j → j < p → A 10 j < 1000 * f + y) → (p < A 2 10 → 1000 * f + y ≤ A 10 p) → K (A 6 x + 1) (tName A p (1000 * f + y) x)) : jrI 96 0 [some (.ref 2), some (.int (jI f)), some (.int (jI y)), some (.int (jI x)), none, none, none] [] E A K := by
  refine vd_X5_addName_0 f ⟨by omega, by omega⟩ y ⟨by omega, by omega⟩ x ⟨by omega, by omega⟩ E A K ⟨fun q => by omega, fun q => ?_⟩
  have e1 : f * 1000 + y = 1000 * f + y := by omega
  rw [e1]
  refine k_firstFrom ⟨by omega, by omega⟩ (by omega) (fun p p0 p1 hlo hhi => ?_)
  have key := j_down (P := fun i => p ≤ i → i ≤ A 2 10 → jrI 96 33 [some (.ref 2), none, none, some (.int (jI x)), some (.int (jI (1000 * f + y))), some (.int (jI p)), some (.int (jI i))] [] E (tShift A i) K) p (fun i ih i0 i1 => by
    refine vd_X5_addName_33 x ⟨by omega, by omega⟩ _ ⟨by omega, by omega⟩ p ⟨by omega, by omega⟩ i ⟨by omega, by omega⟩ E _ K ⟨fun q => ?_, fun q => ?_⟩
    · have e : i = p := by omega
      subst e
      refine ⟨by omega, fun A2 e2 => ⟨by omega, fun A6 e6 => ?_⟩⟩
      have q1 : A6 2 10 = A 2 10 := by rw [e6, e2]; simp [jup, tShift]
      refine ⟨⟨by omega, by omega⟩, fun A10 e10 => ⟨hx, ?_⟩⟩
      have q2 : A10 6 x = A 6 x := by rw [e10, e6, e2]; simp [jup, tShift]
      refine ⟨⟨by omega, by omega⟩, hx, fun A16 e16 => ⟨hx, ?_⟩⟩
      have q3 : A16 = tName A i (1000 * f + y) x := by
        rw [e16, q2, e10, q1, e6, e2]
        exact tName_eq A i _ x i1
      have q4 : A16 6 x = A 6 x + 1 := by rw [e16, q2, jup_at]
      rw [q4, q3]
      exact hK i p0 i1 hlo hhi
    · refine ⟨by omega, by omega, fun A22 e22 => ⟨by omega, by omega, fun A27 e27 => ?_⟩⟩
      have q3 : A27 = tShift A (i - 1) := by
        rw [e27, e22]
        exact tShift_step A i i1
      rw [q3]
      exact ih q (by omega) (by omega)) (A 2 10) p1 (by omega)
  rw [tShift_end] at key
  exact key
/-- a new node -/
def tNode (A : jA) (home kind : Int) : jA := fun a j =>
  if a = 2 ∧ j = 9 then A 2 9 + 1 else if j = A 2 9 then (if a = 3 then kind else if a = 7 then home else if a = 4 ∨ a = 5 ∨ a = 8 ∨ a = 6 then 0 else A a j) else A a j
theorem k_startNode {x k : Int} (rx : jW x) (rk : jW k) {E : jE} {A : jA} (hn : 0 ≤ A 2 9 ∧ A 2 9 < 32) {K : jA → Prop} (h : K (tNode A x k)) : jrV 106 0 [some (.ref 2), some (.int (jI x)), some (.int (jI k)), none] [] E A K := by
  refine vd_X5_startNode_0 x rx k rk E A K ⟨hn, fun A2 e2 => ⟨hn, fun A6 e6 => ⟨hn, fun A10 e10 => ⟨hn, fun A14 e14 => ⟨hn, fun A18 e18 => ⟨hn, fun A22 e22 => ?_⟩⟩⟩⟩⟩⟩
  have q1 : A22 2 9 = A 2 9 := by subst e22 e18 e14 e10 e6 e2; simp [jup]
  refine ⟨⟨by omega, by omega⟩, fun A26 e26 => ?_⟩
  have q2 : A26 = tNode A x k := by
    rw [e26, q1]
    subst e22 e18 e14 e10 e6 e2
    funext a j
    simp only [jup, tNode]
    grind
  rw [q2]; exact h
/-- a name of the reference's -/
def mName (A : jA) (f y x : Int) : jA := fun a j => if a = 49 ∧ j = 7 then A 49 7 + 1 else if j = A 49 7 then (if a = 55 then f else if a = 56 then y else if a = 57 then x else A a j) else A a j
theorem k_nameIt {f y x : Int} (rf : jW f) (ry : jW y) (rx : jW x) {E : jE} {A : jA} (hn : 0 ≤ A 49 7 ∧ A 49 7 < 300) {K : jA → Prop} (h : K (mName A f y x)) : jrV 182 0 [some (.ref 49), some (.int (jI f)), some (.int (jI y)), some (.int (jI x))] [] E A K := by
  refine vd_X7_nameIt_0 f rf y ry x rx E A K ⟨hn, fun A2 e2 => ?_⟩
  have q1 : A2 49 7 = A 49 7 := by rw [e2]; simp [jup]
  refine ⟨by omega, fun A6 e6 => ?_⟩
  have q2 : A6 49 7 = A 49 7 := by rw [e6, e2]; simp [jup]
  refine ⟨by omega, fun A10 e10 => ?_⟩
  have q3 : A10 49 7 = A 49 7 := by rw [e10, e6, e2]; simp [jup]
  refine ⟨⟨by omega, by omega⟩, fun A14 e14 => ?_⟩
  have q4 : A14 = mName A f y x := by
    rw [e14, q3, e10, q2, e6, q1, e2]
    funext a j
    simp only [jup, mName]
    grind
  rw [q4]; exact h
/-- how often x stands among the first n -/
def jcnt (f : Int → Int) (x : Int) : Nat → Int
  | 0 => 0
  | n + 1 => jcnt f x n + (if f n = x then 1 else 0)
theorem jcnt_le (f : Int → Int) (x : Int) (n : Nat) : 0 ≤ jcnt f x n ∧ jcnt f x n ≤ n := by
  induction n with
  | zero => simp [jcnt]
  | succ n ih => simp only [jcnt]; split <;> omega
theorem jcnt_congr {f g : Int → Int} {x : Int} {n : Nat} (h : ∀ k : Int, 0 ≤ k → k < n → f k = g k) : jcnt f x n = jcnt g x n := by
  induction n with
  | zero => rfl
  | succ n ih => simp only [jcnt]; rw [ih (fun k a b => h k a (by omega)), h n (by omega) (by omega)]
theorem k_namesOf {x : Int} (rx : jW x) {E : jE} {A : jA} (hn : 0 ≤ A 49 7 ∧ A 49 7 ≤ 300) {K : Int → jA → Prop} (h : K (jcnt (A 57) x (A 49 7).toNat) A) : jrI 185 0 [some (.ref 49), some (.int (jI x)), none, none] [] E A K := by
  refine vd_X7_namesOf_0 x rx E A K ?_
  refine j_loop (P := fun i => ∀ b : Int, 0 ≤ i → i ≤ A 49 7 → b = jcnt (A 57) x i.toNat → jrI 185 4 [some (.ref 49), some (.int (jI x)), some (.int (jI b)), some (.int (jI i))] [] E A K) (A 49 7) (fun i ih b i0 i1 hb => ?_) 0 0 (by omega) (by omega) rfl
  have hl := jcnt_le (A 57) x i.toNat
  have hW : jW i := ⟨by omega, by omega⟩
  have hB : jW b := ⟨by omega, by omega⟩
  have step : ∀ c : Int, c = jcnt (A 57) x i.toNat + (if A 57 i = x then 1 else 0) → c = jcnt (A 57) x (i + 1).toNat := by
    intro c hc
    rw [show (i + 1).toNat = i.toNat + 1 by omega, hc]
    simp only [jcnt]
    rw [Int.toNat_of_nonneg i0]
  refine vd_X7_namesOf_4 x rx b hB i hW E A K ⟨fun q => ?_, fun q => ⟨by omega, fun q2 => ?_, fun q2 => ?_⟩⟩
  · have e : i = A 49 7 := by omega
    rw [hb, e]; exact h
  · refine vd_X7_namesOf_28 x rx i hW 0 (by decide) b hB E A K (ih q _ (by omega) (by omega) (step _ ?_))
    rw [if_neg q2, hb]
  · refine vd_X7_namesOf_28 x rx i hW 1 (by decide) b hB E A K (ih q _ (by omega) (by omega) (step _ ?_))
    rw [if_pos q2, hb]
