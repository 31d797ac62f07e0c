/-! BYTES BEHIND AN IMAGE'S BYTES; THE TAPE -/
/-- a list of bytes laid behind the bytes of the image a -/
def jap (A : jA) (a : Nat) (l : List Int) : jA := fun o j => if o = a ∧ j = 1 then A a 1 + l.length else if o = a + 1 ∧ A a 1 ≤ j ∧ j < A a 1 + l.length then l.getD (j - A a 1).toNat 0 else A o j
theorem jap_nil (A : jA) (a : Nat) : jap A a [] = A := by
  funext o j
  simp only [jap, List.length_nil]
  split
  next h => obtain ⟨rfl, rfl⟩ := h; simp
  next h => rw [if_neg (by simp only [Int.natCast_zero]; omega)]
theorem jap_len (A : jA) (a : Nat) (l : List Int) : jap A a l a 1 = A a 1 + l.length := by simp [jap]
theorem jap_fld {A : jA} {a : Nat} {l : List Int} {j : Int} (h : j ≠ 1) : jap A a l a j = A a j := by
  simp only [jap]
  rw [if_neg (by omega), if_neg (by omega)]
theorem jap_row {A : jA} {a : Nat} {l : List Int} {o : Nat} (h : o ≠ a) (h1 : o ≠ a + 1) : jap A a l o = A o := by
  funext j
  simp only [jap]
  rw [if_neg (by omega), if_neg (by omega)]
theorem jap_lo {A : jA} {a : Nat} {l : List Int} {j : Int} (h : j < A a 1) : jap A a l (a + 1) j = A (a + 1) j := by
  simp only [jap]
  rw [if_neg (by omega), if_neg (by omega)]
theorem jap_hi {A : jA} {a : Nat} {l : List Int} {j : Int} (h : A a 1 ≤ j) (h1 : j < A a 1 + l.length) : jap A a l (a + 1) j = l.getD (j - A a 1).toNat 0 := by
  simp only [jap]
  rw [if_neg (by omega), if_pos ⟨trivial, h, h1⟩]
theorem jap_one (A : jA) (a : Nat) (v : Int) : jup (jup A (a + 1) (A a 1) v) a 1 (A a 1 + 1) = jap A a [v] := by
  funext o j
  simp only [jap, jup, List.length_cons, List.length_nil]
  by_cases h : o = a ∧ j = 1
  · rw [if_pos h, if_pos h]; omega
  · rw [if_neg h, if_neg h]
    by_cases h2 : o = a + 1 ∧ j = A a 1
    · rw [if_pos h2, if_pos ⟨h2.1, by omega, by omega⟩, h2.2]
      simp
    · rw [if_neg h2, if_neg (by omega)]
theorem jgetD_l {l m : List Int} {n : Nat} (h : n < l.length) : (l ++ m).getD n 0 = l.getD n 0 := by rw [List.getD_eq_getElem?_getD, List.getD_eq_getElem?_getD, List.getElem?_append_left h]
theorem jgetD_r {l m : List Int} {n : Nat} (h : l.length ≤ n) : (l ++ m).getD n 0 = m.getD (n - l.length) 0 := by rw [List.getD_eq_getElem?_getD, List.getD_eq_getElem?_getD, List.getElem?_append_right h]
theorem jap_app (A : jA) (a : Nat) (l m : List Int) : jap (jap A a l) a m = jap A a (l ++ m) := by
  funext o j
  have e1 := jap_len A a l
  simp only [jap] at e1 ⊢
  simp only [e1, List.length_append]
  by_cases h : o = a ∧ j = 1
  · rw [if_pos h, if_pos h]; omega
  · rw [if_neg h, if_neg h, if_neg h]
    by_cases h2 : o = a + 1
    · subst h2
      by_cases h3 : A a 1 + l.length ≤ j ∧ j < A a 1 + l.length + m.length
      · rw [if_pos ⟨rfl, h3⟩, if_pos ⟨rfl, by omega, by omega⟩, jgetD_r (by omega)]
        congr 1
        omega
      · rw [if_neg (fun q => h3 q.2)]
        by_cases h4 : A a 1 ≤ j ∧ j < A a 1 + l.length
        · rw [if_pos ⟨rfl, h4⟩, if_pos ⟨rfl, by omega, by omega⟩, jgetD_l (by omega)]
        · rw [if_neg (fun q => h4 q.2), if_neg (by omega)]
    · rw [if_neg (fun q => h2 q.1), if_neg (fun q => h2 q.1), if_neg (fun q => h2 q.1)]
theorem k_putByte {a : Nat} (ha : jim a) {v : Int} (rv : jW v) {E : jE} {A : jA} (h0 : 0 ≤ A a 1) (h1 : A a 1 < jN (a + 1)) {K : jA → Prop} (h : K (jap A a [v % 256])) : jrV 38 0 [some (.ref a), some (.int (jI v))] [] E A K := by
  have hl := jN_le (a + 1)
  refine vd_X1_putByte_0 a ha v rv E A K ⟨fun q => by omega, fun q => ⟨by omega, fun A2 e2 => ?_⟩⟩
  have e : A2 a 1 = A a 1 := by rw [e2, jup_row (by omega)]
  rw [e]
  refine ⟨⟨by omega, by omega⟩, fun A6 e6 => ?_⟩
  rw [e6, e2, jap_one]
  exact h
/-- the two bytes of a word -/
def jw2 (w : Int) : List Int := [w / 256 % 256, w % 256]
theorem k_putWord {a : Nat} (ha : jim a) {v : Int} (rv : jW v) {E : jE} {A : jA} (h0 : 0 ≤ A a 1) (h1 : A a 1 + 2 ≤ jN (a + 1)) {K : jA → Prop} (h : K (jap A a (jw2 v))) : jrV 40 0 [some (.ref a), some (.int (jI v))] [] E A K := by
  refine vd_X1_putWord_0 a ha v rv E A K ?_
  refine k_putByte ha ⟨by omega, by omega⟩ h0 (by omega) ?_
  have e := jap_len A a [v / 256 % 256]
  simp only [List.length_cons, List.length_nil] at e
  refine k_putByte ha rv (by omega) (by omega) ?_
  rw [jap_app]
  exact h
/-- the four bytes of a number -/
def jw4 (w : Int) : List Int := [w / 16777216 % 256, w / 65536 % 256, w / 256 % 256, w % 256]
theorem k_putInt {a : Nat} (ha : jim a) {v : Int} (rv : jW v) {E : jE} {A : jA} (h0 : 0 ≤ A a 1) (h1 : A a 1 + 4 ≤ jN (a + 1)) {K : jA → Prop} (h : K (jap A a (jw4 v))) : jrV 39 0 [some (.ref a), some (.int (jI v))] [] E A K := by
  refine vd_X1_putInt_0 a ha v rv E A K ?_
  refine k_putWord ha ⟨by omega, by omega⟩ h0 (by omega) ?_
  have e := jap_len A a (jw2 (v / 65536))
  have e2 : (jw2 (v / 65536)).length = 2 := rfl
  rw [e2] at e
  refine k_putWord ha rv (by omega) (by omega) ?_
  rw [jap_app, show jw2 (v / 65536) ++ jw2 v = jw4 v by simp [jw2, jw4, Int.ediv_ediv]]
  exact h
/-- the tape on both sides -/
def TP (A : jA) : Prop := A 49 34 = A 19 1 ∧ 0 ≤ A 19 1 ∧ A 19 1 ≤ 4000 ∧ ∀ k, 0 ≤ k → k < A 19 1 → A 73 k = A 20 k ∧ 0 ≤ A 20 k ∧ A 20 k ≤ 255
def FP (A C : jA) : Prop := (∀ a, a ≠ 19 → a ≠ 20 → a ≠ 49 → a ≠ 73 → C a = A a) ∧ (∀ k, k ≠ 0 → k ≠ 34 → C 49 k = A 49 k) ∧ C 49 0 = 0 ∧ (∀ k, k ≠ 1 → C 19 k = A 19 k) ∧ ((∀ k, 0 ≤ A 20 k ∧ A 20 k ≤ 255) → ∀ k, 0 ≤ C 20 k ∧ C 20 k ≤ 255)
theorem TP.fr {A B : jA} (h : ∀ a, a = 19 ∨ a = 20 ∨ a = 73 → B a = A a) (h1 : B 49 34 = A 49 34) (hT : TP A) : TP B := by
  unfold TP at *
  simp only [h 19 (by decide), h 20 (by decide), h 73 (by decide), h1]
  exact hT
theorem TP.thr {A : jA} (T : TP A) : TP (jup A 49 0 0) := T.fr (fun a h => jup_row (by omega)) (jup_ne (by decide))
theorem FP.thr (A : jA) : FP A (jup A 49 0 0) := ⟨fun a h1 h2 h3 h4 => jup_row (by omega), fun k h1 h2 => jup_ne h1, jup_at _ _ _ _, fun k _ => by rw [jup_row (by decide)], fun h k => by rw [jup_row (by decide)]; exact h k⟩
theorem p_end {x : Int} (rx : jW x) {E : jE} {A : jA} (T : TP A) : jrI 115 0 [some (.ref 1), some (.int (jI x))] [] E A (fun v B => jrI 151 0 [some (.ref 49), some (.int (jI x))] [] E B (fun w C => v = w ∧ TP C ∧ FP A C)) := by
  obtain ⟨t1, t2, t3, t4⟩ := id T
  have bad : ¬ (0 ≤ x ∧ x ≤ A 19 1) → jrI 151 0 [some (.ref 49), some (.int (jI x))] [] E A (fun w C => -2 = w ∧ TP C ∧ FP A C) := by
    intro q
    refine vd_X7_end_0 x rx E A _ (fun A1 e1 => ?_)
    subst e1
    have e : jup A 49 0 0 49 34 = A 19 1 := by rw [jup_ne (by decide)]; exact t1
    rw [e]
    exact k_in rx (by decide) ⟨by omega, by omega⟩ (fun a b => absurd ⟨a, b⟩ q) (fun _ => ⟨fun z => absurd rfl z, fun _ => ⟨rfl, T.thr, FP.thr A⟩⟩)
  refine vd_X6_end_0 x rx E A _ ⟨fun q => bad (by omega), fun q => ⟨fun q2 A1 e1 => ?_, fun q2 => bad (by omega)⟩⟩
  refine vd_X7_end_0 x rx E A1 _ (fun A2 e2 => ?_)
  have e : A2 49 34 = A 19 1 := by rw [e2, jup_ne (by decide), e1, jup_row (by decide)]; exact t1
  rw [e]
  refine k_in rx (by decide) ⟨by omega, by omega⟩ (fun _ _ => ⟨fun _ A8 e8 => ?_, fun z => by omega⟩) (fun z => by exfalso; omega)
  have c19 : A8 19 1 = x := by rw [e8, e2, e1, jup_row (by decide), jup_row (by decide), jup_at]
  have c20 : A8 20 = A 20 := by rw [e8, e2, e1, jup_row (by decide), jup_row (by decide), jup_row (by decide)]
  have c73 : A8 73 = A 73 := by rw [e8, e2, e1, jup_row (by decide), jup_row (by decide), jup_row (by decide)]
  refine ⟨rfl, ⟨by rw [c19, e8, jup_at], by omega, by omega, fun k k0 k1 => ?_⟩, ⟨fun a h1 h2 h3 h4 => ?_, fun k h1 h2 => ?_, ?_, fun k h1 => ?_, fun h k => by rw [c20]; exact h k⟩⟩
  · rw [c20, c73]; exact t4 k k0 (by omega)
  · rw [e8, e2, e1, jup_row h3, jup_row h3, jup_row h1]
  · rw [e8, jup_ne h2, e2, jup_ne h1, e1, jup_row (by decide)]
  · rw [e8, jup_ne (by decide), e2, jup_at]
  · rw [e8, e2, e1, jup_row (by decide), jup_row (by decide), jup_ne h1]
/-- what the reference feeds at k -/
def mfd (a b c d e k : Int) : Int := (if k < 4 then a else if k < 8 then b else if k < 12 then c else if k < 16 then d else e) / 2 ^ (24 - 8 * (k % 4)).toNat % 256
def mFeed (A : jA) (a b c d e t i : Int) : jA := fun o j => if o = 73 ∧ t ≤ j ∧ j < t + i then mfd a b c d e (j - t) else if o = 49 ∧ j = 34 then t + i else A o j
theorem mFeed_up {A : jA} {a b c d e t i : Int} (h : 0 ≤ i) : jup (jup (mFeed A a b c d e t i) 73 (t + i) (mfd a b c d e i)) 49 34 (t + i + 1) = mFeed A a b c d e t (i + 1) := by
  funext o j
  simp only [mFeed, jup]
  by_cases h1 : o = 49 ∧ j = 34
  · rw [if_pos h1, if_neg (by omega), if_pos h1]; omega
  · rw [if_neg h1]
    by_cases h2 : o = 73 ∧ j = t + i
    · rw [if_pos h2, if_pos (by omega), show j - t = i by omega]
    · rw [if_neg h2]
      by_cases h3 : o = 73 ∧ t ≤ j ∧ j < t + i
      · rw [if_pos h3, if_pos (by omega)]
      · rw [if_neg h3, if_neg h1, if_neg (by omega), if_neg h1]
theorem mFeed_0 {A : jA} {a b c d e : Int} : mFeed A a b c d e (A 49 34) 0 = A := by
  funext o j
  simp only [mFeed]
  rw [if_neg (by omega)]
  split
  next h => rw [h.1, h.2]; omega
  next => rfl
theorem k_mfeed {a b c d e : Int} (ra : jW a) (rb : jW b) (rc : jW c) (rd : jW d) (re : jW e) {E : jE} {A : jA} (h0 : 0 ≤ A 49 34) (h1 : A 49 34 + 20 ≤ 4000) {K : Int → jA → Prop} (h : K (A 49 34 + 20) (mFeed A a b c d e (A 49 34) 20)) : jrI 152 24 [some (.ref 49), some (.int (jI a)), some (.int (jI b)), some (.int (jI c)), some (.int (jI d)), some (.int (jI e)), some (.int (jI 0)), none] [] E A K := by
  have key := j_loop (P := fun i => 0 ≤ i → i ≤ 20 → jrI 152 24 [some (.ref 49), some (.int (jI a)), some (.int (jI b)), some (.int (jI c)), some (.int (jI d)), some (.int (jI e)), some (.int (jI i)), none] [] E (mFeed A a b c d e (A 49 34) i) K) 20 (fun i ih i0 i1 => by
    have e34 : mFeed A a b c d e (A 49 34) i 49 34 = A 49 34 + i := by simp [mFeed]
    have rest : i < 20 → ∀ v, jW v → v / 2 ^ (24 - 8 * (i % 4)).toNat % 256 = mfd a b c d e i → jrI 152 77 [some (.ref 49), some (.int (jI a)), some (.int (jI b)), some (.int (jI c)), some (.int (jI d)), some (.int (jI e)), some (.int (jI i)), none] [.int (jI v)] E (mFeed A a b c d e (A 49 34) i) K := by
      intro q v rv hv
      refine vd_X7_feed_77 a ra b rb c rc d rd e re i ⟨by omega, by omega⟩ v rv E _ K ⟨i0, by omega, by omega, fun A4 e4 => ?_⟩
      have q4 : A4 49 34 = A 49 34 + i := by rw [e4, jup_row (by decide)]; exact e34
      rw [q4]
      refine ⟨⟨by omega, by omega⟩, fun A8 e8 => ?_⟩
      rw [e8, e4, hv, e34, mFeed_up i0]
      exact ih q (by omega) (by omega)
    refine vd_X7_feed_24 a ra b rb c rc d rd e re i ⟨by omega, by omega⟩ E _ K ⟨fun q => ?_, fun q => ⟨fun q1 => ⟨fun q2 => ⟨fun q3 => ⟨fun q4 => rest q e re ?_, fun q4 => rest q d rd ?_⟩, fun q3 => rest q c rc ?_⟩, fun q2 => rest q b rb ?_⟩, fun q1 => rest q a ra ?_⟩⟩
    · have e9 : i = 20 := by omega
      rw [e34, e9]
      exact h
    · unfold mfd; rw [if_neg (by omega), if_neg (by omega), if_neg (by omega), if_neg (by omega)]
    · unfold mfd; rw [if_neg (by omega), if_neg (by omega), if_neg (by omega), if_pos (by omega)]
    · unfold mfd; rw [if_neg (by omega), if_neg (by omega), if_pos (by omega)]
    · unfold mfd; rw [if_neg (by omega), if_pos (by omega)]
    · unfold mfd; rw [if_pos (by omega)]) 0 (by omega) (by omega)
  rw [mFeed_0] at key
  exact key
theorem mfd_eq (a b c d e i : Int) (h0 : 0 ≤ i) (h1 : i < 20) : (jw4 a ++ jw4 b ++ jw4 c ++ jw4 d ++ jw4 e).getD i.toNat 0 = mfd a b c d e i := by
  rcases (by omega : i = 0 ∨ i = 1 ∨ i = 2 ∨ i = 3 ∨ i = 4 ∨ i = 5 ∨ i = 6 ∨ i = 7 ∨ i = 8 ∨ i = 9 ∨ i = 10 ∨ i = 11 ∨ i = 12 ∨ i = 13 ∨ i = 14 ∨ i = 15 ∨ i = 16 ∨ i = 17 ∨ i = 18 ∨ i = 19) with rfl | rfl | rfl | rfl | rfl | rfl | rfl | rfl | rfl | rfl | rfl | rfl | rfl | rfl | rfl | rfl | rfl | rfl | rfl | rfl <;> simp [jw4, mfd]
theorem p_feed {a b c d e : Int} (ra : jW a) (rb : jW b) (rc : jW c) (rd : jW d) (re : jW e) {E : jE} {A : jA} (T : TP A) : jrI 116 0 [some (.ref 1), some (.int (jI a)), some (.int (jI b)), some (.int (jI c)), some (.int (jI d)), some (.int (jI e))] [] E A (fun v B => jrI 152 0 [some (.ref 49), some (.int (jI a)), some (.int (jI b)), some (.int (jI c)), some (.int (jI d)), some (.int (jI e)), none, none] [] E B (fun w C => v = w ∧ TP C ∧ FP A C)) := by
  obtain ⟨t1, t2, t3, t4⟩ := id T
  have i19 : jim 19 := Or.inr (Or.inr (Or.inr (Or.inl rfl)))
  have n20 : jN (19 + 1) = 4000 := rfl
  refine vd_X6_feed_0 a ra b rb c rc d rd e re E A _ ⟨⟨by omega, by omega⟩, fun q => ?_, fun q => ?_⟩
  · have l4 : ∀ w, (jw4 w).length = 4 := fun w => rfl
    refine k_putInt i19 ra t2 (by omega) ?_
    refine k_putInt i19 rb (by rw [jap_len, l4]; omega) (by rw [jap_len, l4]; omega) ?_
    rw [jap_app]
    refine k_putInt i19 rc (by rw [jap_len]; omega) (by rw [jap_len, List.length_append, l4, l4]; omega) ?_
    rw [jap_app]
    refine k_putInt i19 rd (by rw [jap_len]; omega) (by rw [jap_len, List.length_append, List.length_append, l4, l4, l4]; omega) ?_
    rw [jap_app]
    refine k_putInt i19 re (by rw [jap_len]; omega) (by rw [jap_len, List.length_append, List.length_append, List.length_append, l4, l4, l4, l4]; omega) ?_
    rw [jap_app]
    obtain ⟨l, hl⟩ : ∃ l, l = jw4 a ++ jw4 b ++ jw4 c ++ jw4 d ++ jw4 e := ⟨_, rfl⟩
    rw [← hl]
    have ll : l.length = 20 := by rw [hl]; simp [l4]
    obtain ⟨B, hB⟩ : ∃ B, B = jap A 19 l := ⟨_, rfl⟩
    rw [← hB]
    have b19 : B 19 1 = A 19 1 + 20 := by rw [hB, jap_len, ll]; rfl
    have bo : ∀ o, o ≠ 19 → o ≠ 20 → B o = A o := fun o h1 h2 => by rw [hB]; exact jap_row h1 h2
    have b34 : jup B 49 0 0 49 34 = A 19 1 := by rw [jup_ne (by decide), bo 49 (by decide) (by decide)]; exact t1
    refine vd_X7_feed_0 a ra b rb c rc d rd e re E B _ (fun A1 e1 => ?_)
    subst e1
    rw [b34]
    refine ⟨⟨by omega, by omega⟩, fun _ => ?_, fun z => by omega⟩
    refine k_mfeed ra rb rc rd re (by omega) (by omega) ?_
    rw [b34, b19]
    obtain ⟨C, hC⟩ : ∃ C, C = mFeed (jup B 49 0 0) a b c d e (A 19 1) 20 := ⟨_, rfl⟩
    rw [← hC]
    have c49 : ∀ k, k ≠ 34 → k ≠ 0 → C 49 k = A 49 k := fun k h1 h2 => by
      rw [hC]; simp only [mFeed]; rw [if_neg (by omega), if_neg (by omega), jup_ne h2, bo 49 (by decide) (by decide)]
    have co : ∀ o, o ≠ 49 → o ≠ 73 → C o = B o := fun o h1 h2 => by
      rw [hC]; funext j; simp only [mFeed]; rw [if_neg (by omega), if_neg (by omega), jup_row h1]
    refine ⟨rfl, ⟨?_, ?_, ?_, fun k k0 k1 => ?_⟩, ⟨fun o h1 h2 h3 h4 => by rw [co o h3 h4, bo o h1 h2], fun k h1 h2 => c49 k h2 h1, ?_, fun k h1 => by rw [co 19 (by decide) (by decide), hB]; exact jap_fld h1, fun h k => ?_⟩⟩
    · rw [co 19 (by decide) (by decide), b19, hC]; simp [mFeed]
    · rw [co 19 (by decide) (by decide), b19]; omega
    · rw [co 19 (by decide) (by decide), b19]; omega
    · rw [co 19 (by decide) (by decide), b19] at k1
      rw [co 20 (by decide) (by decide)]
      by_cases hk : k < A 19 1
      · have e73 : C 73 k = A 73 k := by rw [hC]; simp only [mFeed]; rw [if_neg (by omega), if_neg (by omega), jup_row (by decide), bo 73 (by decide) (by decide)]
        have e20 : B 20 k = A 20 k := by rw [hB]; exact jap_lo hk
        rw [e73, e20]
        exact t4 k k0 hk
      · have e73 : C 73 k = mfd a b c d e (k - A 19 1) := by rw [hC]; simp only [mFeed]; rw [if_pos ⟨trivial, by omega, by omega⟩]
        have e20 : B 20 k = l.getD (k - A 19 1).toNat 0 := by rw [hB]; exact jap_hi (by omega) (by rw [ll]; omega)
        rw [e73, e20, hl, mfd_eq _ _ _ _ _ _ (by omega) (by omega)]
        unfold mfd
        exact ⟨rfl, by omega, by omega⟩
    · rw [hC]; simp only [mFeed]; rw [if_neg (by omega), if_neg (by omega), jup_at]
    · rw [co 20 (by decide) (by decide), hB]
      by_cases hk : A 19 1 ≤ k ∧ k < A 19 1 + l.length
      · rw [jap_hi hk.1 hk.2, hl, mfd_eq _ _ _ _ _ _ (by omega) (by omega)]
        unfold mfd
        omega
      · have e9 : jap A 19 l 20 k = A 20 k := by simp only [jap]; rw [if_neg (by omega), if_neg (by omega)]
        rw [e9]
        exact h k
  · refine vd_X7_feed_0 a ra b rb c rc d rd e re E A _ (fun A1 e1 => ?_)
    subst e1
    have e : jup A 49 0 0 49 34 = A 19 1 := by rw [jup_ne (by decide)]; exact t1
    rw [e]
    exact ⟨⟨by omega, by omega⟩, fun z => by omega, fun _ => ⟨rfl, T.thr, FP.thr A⟩⟩
