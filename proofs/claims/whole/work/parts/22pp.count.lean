/-! TWO COUNTS OF THE SAME NAMES -/
theorem jcnt_rank {f : Int → Int} {x : Int} (n : Nat) : ∀ j : Nat, (j : Int) < jcnt f x n → ∃ k : Nat, k < n ∧ f k = x ∧ jcnt f x (k + 1) = (j : Int) + 1 := by
  induction n with
  | zero => intro j hj; simp only [jcnt] at hj; omega
  | succ n ih =>
    intro j hj
    by_cases q : (j : Int) < jcnt f x n
    · obtain ⟨k, a, b, c⟩ := ih j q
      exact ⟨k, by omega, b, c⟩
    · simp only [jcnt] at hj
      by_cases e : f n = x
      · rw [if_pos e] at hj
        refine ⟨n, by omega, e, ?_⟩
        simp only [jcnt]; rw [if_pos e]; omega
      · rw [if_neg e] at hj; omega
theorem jcnt_mono {f : Int → Int} {x : Int} {m n : Nat} (h : m ≤ n) : jcnt f x m ≤ jcnt f x n := by
  induction n with
  | zero => rw [show m = 0 by omega]; exact Int.le_refl _
  | succ n ih =>
    by_cases e : m = n + 1
    · rw [e]; exact Int.le_refl _
    · have := ih (by omega)
      simp only [jcnt]; split <;> omega
theorem cnt_le {f g : Int → Int} {x : Int} {n : Nat} {R : Nat → Nat → Prop} (h : ∀ k : Nat, k < n → f k = x → ∃ i : Nat, i < n ∧ g i = x ∧ R k i) (hR : ∀ k k' i : Nat, k < n → k' < n → R k i → R k' i → k = k') : jcnt f x n ≤ jcnt g x n := by
  have ex : ∀ j : Nat, ∃ i : Nat, (j : Int) < jcnt f x n → i < n ∧ g i = x ∧ ∃ k : Nat, k < n ∧ jcnt f x (k + 1) = (j : Int) + 1 ∧ R k i := fun j => by
    by_cases q : (j : Int) < jcnt f x n
    · obtain ⟨k, a, b, c⟩ := jcnt_rank n j q
      obtain ⟨i, d, e, r⟩ := h k a b
      exact ⟨i, fun _ => ⟨d, e, k, a, c, r⟩⟩
    · exact ⟨0, fun z => absurd z q⟩
  obtain ⟨φ, hφ⟩ := Classical.skolem.mp ex
  have le0 := jcnt_le f x n
  have le1 := jcnt_le g x n
  have := php (jcnt g x n).toNat (jcnt f x n).toNat (fun j => jcnt g x (φ j + 1)) (fun j hj => by
    obtain ⟨a, b, k, c, d, e⟩ := hφ j (by omega)
    have h1 : jcnt g x (φ j + 1) = jcnt g x (φ j) + 1 := by simp only [jcnt]; rw [if_pos b]
    have h2 := (jcnt_le g x (φ j)).1
    have h3 := jcnt_mono (f := g) (x := x) (show φ j + 1 ≤ n by omega)
    omega) (fun i j hij hj e => by
    obtain ⟨a, b, k, c, d, r⟩ := hφ i (by omega)
    obtain ⟨a', b', k', c', d', r'⟩ := hφ j (by omega)
    have eφ : φ i = φ j := by
      false_or_by_contra
      have h1 : jcnt g x (φ i + 1) = jcnt g x (φ i) + 1 := by simp only [jcnt]; rw [if_pos b]
      have h2 : jcnt g x (φ j + 1) = jcnt g x (φ j) + 1 := by simp only [jcnt]; rw [if_pos b']
      by_cases q : φ i < φ j
      · have := jcnt_mono (f := g) (x := x) (show φ i + 1 ≤ φ j by omega); omega
      · have := jcnt_mono (f := g) (x := x) (show φ j + 1 ≤ φ i by omega); omega
    rw [← eφ] at r'
    have := hR k k' (φ i) c c' r r'
    subst this
    omega)
  omega
theorem jcnt_range {g : Int → Int} {x lo hi : Int} (n : Nat) (l0 : 0 ≤ lo) (h : ∀ i : Int, 0 ≤ i → i < n → (g i = x ↔ lo ≤ i ∧ i < hi)) (hlh : lo ≤ hi) : jcnt g x n = min (n : Int) hi - min (n : Int) lo := by
  induction n with
  | zero => simp only [jcnt]; omega
  | succ n ih =>
    simp only [jcnt]
    rw [ih (fun i a b => h i a (by omega))]
    have := h n (by omega) (by omega)
    by_cases q : g n = x
    · rw [if_pos q]; have := this.mp q; omega
    · rw [if_neg q]
      have : ¬ (lo ≤ (n : Int) ∧ (n : Int) < hi) := fun z => q (this.mpr z)
      omega
theorem jcnt_many {A : jA} (T : TR A) {x : Int} (x0 : 0 ≤ x) : jcnt (A 55) x (A 2 10).toNat = many A x := by
  have hn := T.1.2.2.2.1
  have T' := T
  obtain ⟨-, -, -, hs, hm, hc, hd, -⟩ := T
  have c := tF_ch hn (1000 * x)
  have d := tF_ch hn (1000 * (x + 1))
  have le := T'.tfle (show 1000 * x ≤ 1000 * (x + 1) by omega)
  have e2 : jcnt (fun i => A 10 i / 1000) x (A 2 10).toNat = many A x := by
    rw [jcnt_range (lo := tF A (1000 * x)) (hi := tF A (1000 * (x + 1))) (A 2 10).toNat c.1 (fun i i0 i1 => ?_) le]
    · unfold many; omega
    · constructor
      · intro e
        refine ⟨?_, ?_⟩
        · false_or_by_contra
          have := c.2.2.1 i i0 (by omega); omega
        · false_or_by_contra
          by_cases q : tF A (1000 * (x + 1)) = i
          · have := d.2.2.2 (by omega); rw [q] at this; omega
          · have := hs (tF A (1000 * (x + 1))) i d.1 (by omega) (by omega)
            have := d.2.2.2 (by omega); omega
      · rintro ⟨a, b⟩
        have := T'.range a b
        omega
  have l1 : jcnt (A 55) x (A 2 10).toNat ≤ jcnt (fun i => A 10 i / 1000) x (A 2 10).toNat := cnt_le (R := fun k i => A 10 i = 1000 * A 55 k + A 56 k) (fun k hk e => by
    obtain ⟨i, i0, i1, i2, i3⟩ := hc.1 k (by omega) (by omega)
    have mk := hm k (by omega) (by omega)
    refine ⟨i.toNat, by omega, ?_, ?_⟩
    · rw [Int.toNat_of_nonneg i0, i2, e]; omega
    · rw [Int.toNat_of_nonneg i0]; exact i2) (fun k k' i hk hk' r r' => by
    have mk := hm k (by omega) (by omega)
    have mk' := hm k' (by omega) (by omega)
    by_cases q : k < k'
    · exact absurd ⟨by omega, by omega⟩ (hd k k' (by omega) (by omega) (by omega))
    · by_cases q2 : k' < k
      · exact absurd ⟨by omega, by omega⟩ (hd k' k (by omega) (by omega) (by omega))
      · omega)
  have l2 : jcnt (fun i => A 10 i / 1000) x (A 2 10).toNat ≤ jcnt (A 55) x (A 2 10).toNat := cnt_le (R := fun i k => A 10 i = 1000 * A 55 k + A 56 k) (fun i hi e => by
    obtain ⟨k, k0, k1, k2, k3⟩ := hc.2 i (by omega) (by omega)
    have mk := hm k k0 k1
    refine ⟨k.toNat, by omega, ?_, ?_⟩
    · rw [Int.toNat_of_nonneg k0]; omega
    · rw [Int.toNat_of_nonneg k0]; exact k2) (fun i i' k hi hi' r r' => by
    by_cases q : i < i'
    · have := hs i i' (by omega) (by omega) (by omega); omega
    · by_cases q2 : i' < i
      · have := hs i' i (by omega) (by omega) (by omega); omega
      · omega)
  omega
