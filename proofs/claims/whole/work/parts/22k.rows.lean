/-! ROWS, NAMES, TAILS, EXPORTS: WHAT IS TOLD -/
def many (A : jA) (x : Int) : Int := tF A (1000 * (x + 1)) - tF A (1000 * x)
def bef (A : jA) : Nat → Int
  | 0 => 0
  | k + 1 => bef A k + (if A 3 (bd A ((k : Int) + 1)) = 1 then many A (bd A ((k : Int) + 1)) else 0)
def szL (A : jA) (b s : Int) : Nat → List Int
  | 0 => []
  | j + 1 => szL A b s j ++ jw2 (sSize (bG A b (bd A s) j) b)
def iR (A : jA) (b k : Int) : List Int := [A 3 (bd A k)] ++ jw2 (A 5 (bd A k)) ++ jw2 (A 4 (bd A k)) ++ [if k = 1 then 1 else A 6 (bd A k)] ++ (if A 3 (bd A k) = 1 then jw2 (4 * bef A (k - 1).toNat) ++ jw2 (many A (bd A k)) ++ jw2 (bf A (A 7 (bd A k))) else if A 3 (bd A k) = 2 then jw2 (A 8 (bd A k)) ++ jw2 (bBeg A b (told A k)) ++ [tI A b (told A k)] ++ [tO A b (told A k)] ++ szL A b (told A k) (bW A b k).toNat else [])
def iL (A : jA) (b : Int) : Nat → List Int
  | 0 => []
  | k + 1 => iL A b k ++ iR A b ((k : Int) + 1)
def fN (A : jA) (i : Int) : List Int := jw2 (A 10 i % 1000) ++ jw2 (bf A (A 11 i))
def nmP (A : jA) (i : Int) : Nat → List Int
  | 0 => []
  | n + 1 => nmP A i n ++ fN A (i + n)
def fL (A : jA) : Nat → List Int
  | 0 => []
  | k + 1 => fL A k ++ nmP A (tF A (1000 * bd A ((k : Int) + 1))) (many A (bd A ((k : Int) + 1))).toNat
def tR (l : List (List Int)) (p : Int) (t : Nat) : List Int := jw2 (tP p l t) ++ jw2 (sSize (tFn (l.getD t [])) (l.getD t []).length) ++ [((l.getD t []).length : Int)]
def tL (l : List (List Int)) (p : Int) : Nat → List Int
  | 0 => []
  | t + 1 => tL l p t ++ tR l p t
def xL (A : jA) (b : Int) : Nat → List Int
  | 0 => []
  | k + 1 => xL A b k ++ jw2 ((iL A b k).length : Int)
theorem jw2_len (w : Int) : (jw2 w).length = 2 := rfl
theorem iL_at {A : jA} {b k : Int} (hk : 1 ≤ k) : iL A b k.toNat = iL A b (k - 1).toNat ++ iR A b k := by
  obtain ⟨n, rfl⟩ : ∃ n : Nat, k = n + 1 := ⟨(k - 1).toNat, by omega⟩
  rw [show ((n : Int) + 1).toNat = n + 1 by omega, show ((n : Int) + 1 - 1).toNat = n by omega]; rfl
theorem bef_at {A : jA} {k : Int} (hk : 1 ≤ k) : bef A k.toNat = bef A (k - 1).toNat + (if A 3 (bd A k) = 1 then many A (bd A k) else 0) := by
  obtain ⟨n, rfl⟩ : ∃ n : Nat, k = n + 1 := ⟨(k - 1).toNat, by omega⟩
  rw [show ((n : Int) + 1).toNat = n + 1 by omega, show ((n : Int) + 1 - 1).toNat = n by omega]; rfl
theorem fL_at {A : jA} {k : Int} (hk : 1 ≤ k) : fL A k.toNat = fL A (k - 1).toNat ++ nmP A (tF A (1000 * bd A k)) (many A (bd A k)).toNat := by
  obtain ⟨n, rfl⟩ : ∃ n : Nat, k = n + 1 := ⟨(k - 1).toNat, by omega⟩
  rw [show ((n : Int) + 1).toNat = n + 1 by omega, show ((n : Int) + 1 - 1).toNat = n by omega]; rfl
theorem szL_len (A : jA) (b s : Int) (n : Nat) : (szL A b s n).length = 2 * n := by
  induction n with
  | zero => rfl
  | succ n ih => simp only [szL, List.length_append, jw2_len, ih]; omega
theorem nmP_len (A : jA) (i : Int) (n : Nat) : (nmP A i n).length = 4 * n := by
  induction n with
  | zero => rfl
  | succ n ih => simp only [nmP, List.length_append, fN, jw2_len, ih]; omega
theorem tL_len (l : List (List Int)) (p : Int) (n : Nat) : (tL l p n).length = 5 * n := by
  induction n with
  | zero => rfl
  | succ n ih => simp only [tL, tR, List.length_append, jw2_len, ih, List.length_cons, List.length_nil]; omega
theorem xL_len (A : jA) (b : Int) (n : Nat) : (xL A b n).length = 2 * n := by
  induction n with
  | zero => rfl
  | succ n ih => simp only [xL, List.length_append, jw2_len, ih]; omega
theorem iR_len {A : jA} (T : TR A) {b : Int} (hb : b = 8 ∨ b = 16 ∨ b = 32) {k : Int} (k1 : 1 ≤ k) (k2 : k ≤ bN A) : ((iR A b k).length : Int) = (if A 3 (bd A k) = 1 then 12 else if A 3 (bd A k) = 2 then 12 + 2 * bW A b k else 6) ∧ 0 ≤ bW A b k ∧ bW A b k ≤ 12 := by
  obtain ⟨d0, d1, d2⟩ := bd_le T k1 k2
  obtain ⟨z1, z2, z3, z4, -⟩ := file_sz T hb d0 d1
  have bw : 0 ≤ bW A b k ∧ bW A b k ≤ 12 := ⟨z3, z4⟩
  refine ⟨?_, bw⟩
  unfold iR
  simp only [List.length_append, List.length_cons, List.length_nil, jw2_len]
  by_cases q : A 3 (bd A k) = 1
  · rw [if_pos q, if_pos q]; simp only [List.length_append, jw2_len]; rfl
  · rw [if_neg q, if_neg q]
    by_cases q2 : A 3 (bd A k) = 2
    · rw [if_pos q2, if_pos q2]; simp only [List.length_append, List.length_cons, List.length_nil, jw2_len, szL_len]; omega
    · rw [if_neg q2, if_neg q2]; rfl
theorem bd_1 {A : jA} (T : TR A) : bd A 1 = 0 ∧ A 3 (bd A 1) = 1 := ⟨(nU_NV T).1.2.2.1, by rw [show bd A 1 = 0 from (nU_NV T).1.2.2.1]; exact T.1.2.2.2.2.2.2.1⟩
theorem iL_le {A : jA} (T : TR A) {b : Int} (hb : b = 8 ∨ b = 16 ∨ b = 32) (k : Nat) (h1 : 1 ≤ k) (h2 : (k : Int) ≤ bN A) : ((iL A b k).length : Int) ≤ 12 + 36 * ((k : Int) - 1) := by
  induction k with
  | zero => omega
  | succ k ih =>
    have hr := iR_len T hb (k := (k : Int) + 1) (by omega) (by omega)
    simp only [iL, List.length_append]
    by_cases h0 : k = 0
    · subst h0
      have e1 : A 3 (bd A (((0 : Nat) : Int) + 1)) = 1 := (bd_1 T).2
      rw [if_pos e1] at hr
      simp only [iL, List.length_nil]
      omega
    · have := ih (by omega) (by omega)
      have : ((iR A b ((k : Int) + 1)).length : Int) ≤ 36 := by
        have h := hr.1
        split at h
        · omega
        · split at h <;> omega
      omega
theorem many_le {A : jA} (T : TR A) (x : Int) : 0 ≤ many A x ∧ many A x ≤ A 2 10 ∧ many A x ≤ 279 := by
  have hn := T.1.2.2.2.1
  have hn' := T.1.2.2.2.2.1
  have c := tF_ch hn (1000 * x)
  have d := tF_ch hn (1000 * (x + 1))
  have le := T.tfle (show 1000 * x ≤ 1000 * (x + 1) by omega)
  unfold many; omega
/-- what is no folder has no names -/
theorem many_0 {A : jA} (T : TR A) {x : Int} (hx : A 3 x ≠ 1) : many A x = 0 := by
  have h := many_le T x
  false_or_by_contra
  have hlt : tF A (1000 * x) < tF A (1000 * (x + 1)) := by unfold many at *; omega
  obtain ⟨r0, r1, r2, r3⟩ := T.range (Int.le_refl _) hlt
  obtain ⟨k, k0, k1, e1, e2, m1, m2, m3, m4, m5, -⟩ := T.name r0 r1
  have : A 55 k = x := by omega
  rw [this] at m3
  exact hx m3
theorem tF_0 {A : jA} (T : TR A) : tF A 0 = 0 := by
  have hn := T.1.2.2.2.1
  refine tF_eq hn (by omega) hn (fun j a b => by omega) (fun z => ?_)
  obtain ⟨k, k0, k1, e1, e2, m1, m2, m3, m4, m5, -⟩ := T.name (show (0 : Int) ≤ 0 by omega) z
  omega
def sumI (f : Int → Int) : Nat → Int
  | 0 => 0
  | n + 1 => sumI f n + f n
theorem sumI_one {f g : Int → Int} {z : Int} (n : Nat) (z0 : 0 ≤ z) (h : ∀ x, x ≠ z → g x = f x) : sumI g n = sumI f n + (if z < n then g z - f z else 0) := by
  induction n with
  | zero => simp only [sumI]; rw [if_neg (by omega)]; omega
  | succ n ih =>
    simp only [sumI]
    rw [ih]
    by_cases e : z = n
    · rw [if_neg (by omega), if_pos (by omega), e]; omega
    · rw [h n (by omega)]
      by_cases q : z < n
      · rw [if_pos q, if_pos (by omega)]; omega
      · rw [if_neg q, if_neg (by omega)]; omega
theorem sumI_le {f g : Int → Int} (n : Nat) (h : ∀ x : Int, 0 ≤ x → x < n → f x ≤ g x) : sumI f n ≤ sumI g n := by
  induction n with
  | zero => simp [sumI]
  | succ n ih =>
    simp only [sumI]
    have := ih (fun x a b => h x a (by omega))
    have := h n (by omega) (by omega)
    omega
theorem sumI_many {A : jA} (T : TR A) (n : Nat) : sumI (many A) n = tF A (1000 * n) := by
  induction n with
  | zero => simp only [sumI]; exact (tF_0 T).symm
  | succ n ih =>
    simp only [sumI]
    rw [ih]
    unfold many
    rw [show ((n + 1 : Nat) : Int) = (n : Int) + 1 by omega]
    omega
theorem bef_le {A : jA} (T : TR A) (k : Nat) (h2 : (k : Int) ≤ bN A) : 0 ≤ bef A k ∧ bef A k ≤ 279 ∧ ((fL A k).length : Int) = 4 * bef A k := by
  have nl := bN_le T
  have NVh := (nU_NV T).1
  have e : ∀ k : Nat, (k : Int) ≤ bN A → bef A k = sumI (fun x => if 1 ≤ bf A x ∧ bf A x ≤ k then many A x else 0) 32 := by
    intro k
    induction k with
    | zero =>
      intro _
      have h0 : (fun x => if 1 ≤ bf A x ∧ bf A x ≤ ((0 : Nat) : Int) then many A x else 0) = fun _ => (0 : Int) := by funext x; rw [if_neg (by omega)]
      rw [h0]; rfl
    | succ k ih =>
      intro hk
      obtain ⟨d0, d1, d2⟩ := bd_le T (show (1 : Int) ≤ (k : Int) + 1 by omega) (by omega)
      rw [sumI_one (f := fun x => if 1 ≤ bf A x ∧ bf A x ≤ k then many A x else 0) (z := bd A ((k : Int) + 1)) 32 d0 (fun x hx => ?_), ← ih (by omega), if_pos (by omega)]
      · simp only [bef]
        have hz := many_0 T (x := bd A ((k : Int) + 1))
        rw [d2, if_pos (show 1 ≤ (k : Int) + 1 ∧ (k : Int) + 1 ≤ ((k + 1 : Nat) : Int) by omega), if_neg (show ¬ (1 ≤ (k : Int) + 1 ∧ (k : Int) + 1 ≤ (k : Int)) by omega)]
        by_cases q : A 3 (bd A ((k : Int) + 1)) = 1
        · rw [if_pos q]; omega
        · rw [if_neg q, hz q]; omega
      · by_cases q : 1 ≤ bf A x ∧ bf A x ≤ k
        · rw [if_pos q, if_pos (by omega)]
        · rw [if_neg q]
          by_cases q2 : 1 ≤ bf A x ∧ bf A x ≤ ((k + 1 : Nat) : Int)
          · have e1 : bf A x = (k : Int) + 1 := by omega
            rcases NVh.2.2.2.2.2 x with z | ⟨z1, z2, z3⟩
            · have : bf A x = 0 := z; omega
            · have z3' : bd A (bf A x) = x := z3
              rw [e1] at z3'
              exact absurd z3'.symm hx
          · rw [if_neg q2]
  have hm : ∀ x, 0 ≤ many A x := fun x => (many_le T x).1
  have h1 : bef A k ≤ sumI (many A) 32 := by
    rw [e k h2]
    refine sumI_le 32 (fun x _ _ => ?_)
    have := hm x
    split <;> omega
  have h3 : 0 ≤ bef A k := by
    rw [e k h2]
    have := sumI_le (f := fun _ => 0) (g := fun x => if 1 ≤ bf A x ∧ bf A x ≤ k then many A x else 0) 32 (fun x _ _ => by have := hm x; split <;> omega)
    have z : sumI (fun _ => (0 : Int)) 32 = 0 := rfl
    omega
  have h4 := sumI_many T 32
  have h5 := (tF_ch T.1.2.2.2.1 (1000 * ((32 : Nat) : Int))).2.1
  have h6 := T.1.2.2.2.2.1
  refine ⟨h3, by omega, ?_⟩
  have l : ∀ k : Nat, ((fL A k).length : Int) = 4 * bef A k := by
    intro k
    induction k with
    | zero => rfl
    | succ k ih =>
      simp only [fL, bef, List.length_append, nmP_len]
      have h := hm (bd A ((k : Int) + 1))
      by_cases q : A 3 (bd A ((k : Int) + 1)) = 1
      · rw [if_pos q]; omega
      · rw [if_neg q, many_0 T q]; omega
  exact l k
