/-! THE START IS A STATE OF WHOLE NUMBERS -/
def jE0 (L : Nat) : jE := (fun _ => L, fun _ => 47, fun _ _ => 0, 79, 55066)
def jA0 (xs : Nat → Int32) : jA := fun a j => if j < 0 then 0 else (gi xs 79 4 a j.toNat).toInt
theorem gRf_in : ((List.range 50).all fun a => (List.range 41).all fun k => gRf 77 a k == jR (fun _ => 47) a k) = true := by decide +kernel
theorem gOps_in : (gOps.all fun p => decide (p.1 < 50) && decide (p.2.1 < 41)) = true := by decide +kernel
theorem jRl_in : jRl.length ≤ 50 ∧ (jRl.all fun r => decide (r.length ≤ 41)) = true := by decide +kernel
theorem gRf_all (a k : Nat) : gRf 77 a k = jR (fun _ => 47) a k := by
  by_cases h : a < 50 ∧ k < 41
  · have := List.all_eq_true.mp gRf_in a (List.mem_range.mpr h.1)
    have := List.all_eq_true.mp this k (List.mem_range.mpr h.2)
    exact eq_of_beq this
  · have e1 : gRf 77 a k = none := by
      unfold gRf
      have : (gOps.take 77).find? (fun p => p.1 == a && p.2.1 == k) = none := by
        rw [List.find?_eq_none]
        intro p hp
        have := List.all_eq_true.mp gOps_in p (List.mem_of_mem_take hp)
        simp at this
        simp
        intro x y
        exact h ⟨by omega, by omega⟩
      rw [this]; rfl
    rw [e1]
    unfold jR
    by_cases h40 : a = 40
    · rw [if_pos h40, if_neg (by omega)]
    · rw [if_neg h40]
      by_cases ha : a < jRl.length
      · have hl : (jRl.getD a []).length ≤ 41 := by
          rw [List.getD_eq_getElem?_getD, List.getElem?_eq_getElem ha]
          have := List.all_eq_true.mp jRl_in.2 _ (List.getElem_mem ha)
          simpa using this
        have := jRl_in.1
        rw [List.getD_eq_getElem?_getD (l := jRl.getD a []), List.getElem?_eq_none (by omega)]
        rfl
      · rw [List.getD_eq_getElem?_getD (l := jRl), List.getElem?_eq_none (by omega)]
        rfl
theorem gs_js (L : Nat) (xs : Nat → Int32) : gs L xs 79 55066 77 4 = js (jE0 L) (jA0 xs) := by
  unfold gs js
  refine Prod.ext ?_ (Prod.ext rfl (Prod.ext ?_ (Prod.ext ?_ rfl)))
  · funext a
    show (if a < 79 then jK a else 0) = jK a
    by_cases h : a < 79
    · rw [if_pos h]
    · rw [if_neg h]
      unfold jK
      rw [List.getD_eq_getElem?_getD, List.getElem?_eq_none (by show 79 ≤ a; omega)]
      rfl
  · funext a k
    show gi xs 79 4 a k = jI (jA0 xs a (k : Int))
    unfold jA0
    rw [if_neg (by omega), Int.toNat_natCast]
    exact (Int32.ofInt_toInt _).symm
  · funext a k
    exact gRf_all a k
theorem jA0_ok (xs : Nat → Int32) : jOK (jA0 xs) := fun a k => by
  unfold jA0
  split
  · decide
  · have h1 := (gi xs 79 4 a k.toNat).le_toInt
    have h2 := (gi xs 79 4 a k.toNat).toInt_lt
    exact ⟨by omega, by omega⟩
theorem jA0_0 (xs : Nat → Int32) {a : Nat} {j : Int} (h1 : 1 ≤ a ∧ a < 79) (n3 : ¬ (a = 3 ∧ j = 0)) (n2 : ¬ (a = 2 ∧ j = 9)) (n49 : ¬ (a = 49 ∧ j = 1)) (n50 : ¬ (a = 50 ∧ j = 0)) : jA0 xs a j = 0 := by
  unfold jA0
  by_cases h : j < 0
  · rw [if_pos h]
  · rw [if_neg h]
    unfold gi
    rw [if_neg (by omega), if_neg (by omega), if_neg (by omega), if_neg (by omega), if_pos h1]
    rfl
theorem INV0 (L : Nat) (xs : Nat → Int32) : INV (jE0 L) (jA0 xs) := by
  have z : ∀ (a : Nat) (j : Int), 1 ≤ a ∧ a < 79 → ¬ (a = 3 ∧ j = 0) → ¬ (a = 2 ∧ j = 9) → ¬ (a = 49 ∧ j = 1) → ¬ (a = 50 ∧ j = 0) → jA0 xs a j = 0 := fun a j => jA0_0 xs
  have e2 : jA0 xs 2 9 = 1 := rfl
  have e3 : jA0 xs 3 0 = 1 := rfl
  have e49 : jA0 xs 49 1 = 1 := rfl
  have e50 : jA0 xs 50 0 = 1 := rfl
  generalize jA0 xs = A at *
  have z2 : A 2 10 = 0 := z 2 10 (by decide) (by decide) (by decide) (by decide) (by decide)
  have zr : ∀ (a : Nat) (j : Int), 1 ≤ a ∧ a < 79 → a ≠ 2 → a ≠ 3 → a ≠ 49 → a ≠ 50 → A a j = 0 := fun a j h h2 h3 h4 h5 => z a j h (by omega) (by omega) (by omega) (by omega)
  have z7 : A 49 7 = 0 := z 49 7 (by decide) (by decide) (by decide) (by decide) (by decide)
  refine ⟨⟨⟨by omega, by omega, by omega, by omega, by omega, by omega, e3, zr 7 0 (by decide) (by decide) (by decide) (by decide) (by decide)⟩, fun i i0 i1 => ?_, fun i k i0 i1 k0 k1 => ?_, fun i j i0 i1 i2 => by omega, fun k k0 k1 => by omega, ⟨fun k k0 k1 => by omega, fun k k0 k1 => by omega⟩, fun k l k0 k1 k2 => by omega, fun x x0 x1 => by omega, ?_⟩, ?_, ?_, ?_, ?_⟩
  · have : i = 0 := by omega
    subst this
    have y5 := zr 5 0 (by decide) (by decide) (by decide) (by decide) (by decide)
    have y51 := zr 51 0 (by decide) (by decide) (by decide) (by decide) (by decide)
    have y52 := zr 52 0 (by decide) (by decide) (by decide) (by decide) (by decide)
    have y4 := zr 4 0 (by decide) (by decide) (by decide) (by decide) (by decide)
    have y8 := zr 8 0 (by decide) (by decide) (by decide) (by decide) (by decide)
    have y53 := zr 53 0 (by decide) (by decide) (by decide) (by decide) (by decide)
    exact ⟨by omega, by omega, by omega, by omega, by omega, by omega, by omega, by omega, by omega, by omega, by omega, by omega, fun _ => y8⟩
  · have y8 := zr 8 i (by decide) (by decide) (by decide) (by decide) (by decide)
    omega
  · show A 2 10 + jfree (A 6) (A 2 9).toNat = 9 * (A 2 9 - 1)
    rw [e2, z2]; rfl
  · have y1 := zr 19 1 (by decide) (by decide) (by decide) (by decide) (by decide)
    have y2 := z 49 34 (by decide) (by decide) (by decide) (by decide) (by decide)
    exact ⟨by omega, by omega, by omega, fun k k0 k1 => by omega⟩
  · have y1 := zr 1 6 (by decide) (by decide) (by decide) (by decide) (by decide)
    have y2 := z 49 11 (by decide) (by decide) (by decide) (by decide) (by decide)
    refine ⟨by omega, by omega, by omega, fun k => ?_, fun c hc => ?_, fun m m0 m1 => by omega⟩
    · have := zr 58 k (by decide) (by decide) (by decide) (by decide) (by decide)
      omega
    · have hr : ∀ f, A c f = 0 := fun f => zr c f (by rcases hc with h | h | h | h | h <;> (rw [h]; decide)) (by rcases hc with h | h | h | h | h <;> (rw [h]; decide)) (by rcases hc with h | h | h | h | h <;> (rw [h]; decide)) (by rcases hc with h | h | h | h | h <;> (rw [h]; decide)) (by rcases hc with h | h | h | h | h <;> (rw [h]; decide))
      have hr2 : ∀ f, A (c + 1) f = 0 := fun f => zr (c + 1) f (by rcases hc with h | h | h | h | h <;> (rw [h]; decide)) (by rcases hc with h | h | h | h | h <;> (rw [h]; decide)) (by rcases hc with h | h | h | h | h <;> (rw [h]; decide)) (by rcases hc with h | h | h | h | h <;> (rw [h]; decide)) (by rcases hc with h | h | h | h | h <;> (rw [h]; decide))
      exact ⟨hc, by rw [hr]; decide, by rw [hr]; exact Int.natCast_nonneg _, fun k => by rw [hr2]; decide, fun f _ _ => by rw [hr]; decide⟩
  · have y1 := zr 38 10 (by decide) (by decide) (by decide) (by decide) (by decide)
    have y2 := z 49 35 (by decide) (by decide) (by decide) (by decide) (by decide)
    exact ⟨by omega, by omega, by omega, fun i i0 i1 => by omega, fun i j i0 i1 i2 => by omega, fun k _ => Or.inr (Or.inr (Or.inr (Or.inr rfl)))⟩
  · have y1 := zr 38 11 (by decide) (by decide) (by decide) (by decide) (by decide)
    have y2 := z 49 37 (by decide) (by decide) (by decide) (by decide) (by decide)
    exact ⟨by omega, by omega, by omega, fun v v0 v1 => by omega⟩
