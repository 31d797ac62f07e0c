/-! FILES: TWINS, WHOLE BLOCKS, TAILS -/
def bd (A : jA) (k : Int) : Int := (nU A).2.1 k
def bf (A : jA) (x : Int) : Int := (nU A).1 x
def bN (A : jA) : Int := (nU A).2.2
theorem bd_le {A : jA} (T : TR A) {k : Int} (h1 : 1 ≤ k) (h2 : k ≤ bN A) : 0 ≤ bd A k ∧ bd A k < A 2 9 ∧ bf A (bd A k) = k := (nU_NV T).1.2.2.2.2.1 k h1 h2
theorem bN_le {A : jA} (T : TR A) : 1 ≤ bN A ∧ bN A ≤ A 2 9 ∧ A 2 9 ≤ 32 := ⟨(nU_NV T).1.1, (nU_NV T).1.2.1, T.1.2.1⟩
/-- the same bytes -/
def sEq (A : jA) (x y : Int) : Nat → Int
  | 0 => 1
  | n + 1 => if sEq A x y n = 1 ∧ A 9 (100 * x + n) = A 9 (100 * y + n) then 1 else 0
theorem sEq_iff {A : jA} {x y : Int} (n : Nat) : sEq A x y n = 1 ↔ ∀ i : Int, 0 ≤ i → i < n → A 9 (100 * x + i) = A 9 (100 * y + i) := by
  induction n with
  | zero => simp only [sEq, true_iff]; intro i a b; omega
  | succ n ih =>
    simp only [sEq]
    by_cases q : sEq A x y n = 1 ∧ A 9 (100 * x + n) = A 9 (100 * y + n)
    · rw [if_pos q]
      refine ⟨fun _ i a b => ?_, fun _ => rfl⟩
      by_cases e : i = n
      · rw [e]; exact q.2
      · exact ih.mp q.1 i a (by omega)
    · rw [if_neg q]
      exact ⟨fun z => absurd z (by decide), fun z => absurd ⟨ih.mpr (fun i a b => z i a (by omega)), z n (by omega) (by omega)⟩ q⟩
/-- y is a file like x -/
def LK (A : jA) (x y : Int) : Prop := A 3 y = 2 ∧ A 8 x = A 8 y ∧ sEq A x y (A 8 x).toNat = 1
def sTw (A : jA) (x : Int) : Nat → Int → Int
  | 0, _ => 0
  | f + 1, k => if A 3 (bd A k) = 2 ∧ A 8 x = A 8 (bd A k) ∧ sEq A x (bd A k) (A 8 x).toNat = 1 then k else sTw A x f (k + 1)
/-- the least number of a file with the same bytes, if that is less; else 0 -/
def tw (A : jA) (k : Int) : Int := if A 3 (bd A k) = 2 ∧ A 8 (bd A k) ≠ 0 then sTw A (bd A k) (k - 1).toNat 1 else 0
theorem sTw_le {A : jA} {x : Int} (f : Nat) (k : Int) (hk : 1 ≤ k) : sTw A x f k = 0 ∧ (∀ j, k ≤ j → j < k + f → ¬ LK A x (bd A j)) ∨ k ≤ sTw A x f k ∧ sTw A x f k < k + f ∧ LK A x (bd A (sTw A x f k)) ∧ ∀ j, k ≤ j → j < sTw A x f k → ¬ LK A x (bd A j) := by
  induction f generalizing k with
  | zero => left; exact ⟨rfl, fun j a b => by omega⟩
  | succ f ih =>
    simp only [sTw]
    by_cases q : A 3 (bd A k) = 2 ∧ A 8 x = A 8 (bd A k) ∧ sEq A x (bd A k) (A 8 x).toNat = 1
    · rw [if_pos q]; right; exact ⟨by omega, by omega, q, fun j a b => by omega⟩
    · rw [if_neg q]
      rcases ih (k + 1) (by omega) with ⟨a, b⟩ | ⟨a, b, c, d⟩
      · left
        refine ⟨a, fun j j0 j1 => ?_⟩
        by_cases e : j = k
        · rw [e]; exact q
        · exact b j (by omega) (by omega)
      · right
        refine ⟨by omega, by omega, c, fun j j0 j1 => ?_⟩
        by_cases e : j = k
        · rw [e]; exact q
        · exact d j (by omega) j1
theorem tw_le {A : jA} {k : Int} (hk : 1 ≤ k) : tw A k = 0 ∨ 1 ≤ tw A k ∧ tw A k < k ∧ A 3 (bd A k) = 2 ∧ A 8 (bd A k) ≠ 0 ∧ LK A (bd A k) (bd A (tw A k)) ∧ tw A (tw A k) = 0 := by
  by_cases q : A 3 (bd A k) = 2 ∧ A 8 (bd A k) ≠ 0
  · have et : tw A k = sTw A (bd A k) (k - 1).toNat 1 := by unfold tw; rw [if_pos q]
    rcases sTw_le (A := A) (x := bd A k) (k - 1).toNat 1 (by omega) with ⟨a, b⟩ | ⟨a, b, c, d⟩
    · left; rw [et]; exact a
    · right
      rw [← et] at a b c d
      refine ⟨a, by omega, q.1, q.2, c, ?_⟩
      by_cases q2 : A 3 (bd A (tw A k)) = 2 ∧ A 8 (bd A (tw A k)) ≠ 0
      · have et2 : tw A (tw A k) = sTw A (bd A (tw A k)) (tw A k - 1).toNat 1 := by
          generalize tw A k = j at q2 ⊢
          unfold tw; rw [if_pos q2]
        rcases sTw_le (A := A) (x := bd A (tw A k)) (tw A k - 1).toNat 1 (by omega) with ⟨a', b'⟩ | ⟨a', b', c', d'⟩
        · rw [et2]; exact a'
        · exfalso
          rw [← et2] at a' b' c' d'
          refine d (tw A (tw A k)) a' (by omega) ⟨c'.1, by rw [c.2.1]; exact c'.2.1, (sEq_iff _).mpr (fun i i0 i1 => ?_)⟩
          rw [(sEq_iff _).mp c.2.2 i i0 i1]
          exact (sEq_iff _).mp c'.2.2 i i0 (by rw [← c.2.1]; exact i1)
      · generalize tw A k = j at q2 ⊢
        unfold tw; rw [if_neg q2]
  · left; unfold tw; rw [if_neg q]
/-- how a file's bytes lie: the block j -/
def bG (A : jA) (b x j : Int) : Int → Int := fun i => A 9 (100 * x + j * b + i)
def fBl (A : jA) (b x : Int) : Nat → List Int
  | 0 => []
  | j + 1 => fBl A b x j ++ sBytes (bG A b x j) b
def bW (A : jA) (b k : Int) : Int := A 8 (bd A k) / b
/-- all whole blocks of the numbers up to k -/
def bL (A : jA) (b : Int) : Nat → List Int
  | 0 => []
  | k + 1 => bL A b k ++ (if A 3 (bd A ((k : Int) + 1)) = 2 ∧ tw A ((k : Int) + 1) = 0 then fBl A b (bd A ((k : Int) + 1)) (bW A b ((k : Int) + 1)).toNat else [])
theorem bL_at {A : jA} {b k : Int} (hk : 1 ≤ k) : bL A b k.toNat = bL A b (k - 1).toNat ++ (if A 3 (bd A k) = 2 ∧ tw A k = 0 then fBl A b (bd A k) (bW A b k).toNat else []) := by
  obtain ⟨n, rfl⟩ : ∃ n : Nat, k = n + 1 := ⟨(k - 1).toNat, by omega⟩
  rw [show ((n : Int) + 1).toNat = n + 1 by omega, show ((n : Int) + 1 - 1).toNat = n by omega]
  rfl
def tOf (A : jA) (b k : Int) : List Int := pSeg (fun i => A 9 (100 * bd A k + bW A b k * b + i)) 0 (A 8 (bd A k) % b).toNat
/-- the tails that are full, the one that is open -/
def tS (A : jA) (b : Int) : Nat → List (List Int) × List Int
  | 0 => ([], [])
  | k + 1 => if A 3 (bd A ((k : Int) + 1)) = 2 ∧ tw A ((k : Int) + 1) = 0 then (if b < (tS A b k).2.length + (tOf A b ((k : Int) + 1)).length then ((tS A b k).1 ++ [(tS A b k).2], tOf A b ((k : Int) + 1)) else ((tS A b k).1, (tS A b k).2 ++ tOf A b ((k : Int) + 1))) else tS A b k
theorem tS_at {A : jA} {b k : Int} (hk : 1 ≤ k) : tS A b k.toNat = if A 3 (bd A k) = 2 ∧ tw A k = 0 then (if b < (tS A b (k - 1).toNat).2.length + (tOf A b k).length then ((tS A b (k - 1).toNat).1 ++ [(tS A b (k - 1).toNat).2], tOf A b k) else ((tS A b (k - 1).toNat).1, (tS A b (k - 1).toNat).2 ++ tOf A b k)) else tS A b (k - 1).toNat := by
  obtain ⟨n, rfl⟩ : ∃ n : Nat, k = n + 1 := ⟨(k - 1).toNat, by omega⟩
  rw [show ((n : Int) + 1).toNat = n + 1 by omega, show ((n : Int) + 1 - 1).toNat = n by omega]
  rfl
def tLen : List (List Int) → Int
  | [] => 0
  | t :: r => t.length + tLen r
theorem tLen_app (l m : List (List Int)) : tLen (l ++ m) = tLen l + tLen m := by
  induction l with
  | nil => simp [tLen]
  | cons t r ih => simp only [List.cons_append, tLen, ih]; omega
def tB : List (List Int) → List Int
  | [] => []
  | t :: r => sBytes (fun i => t.getD i.toNat 0) t.length ++ tB r
theorem tB_app (l m : List (List Int)) : tB (l ++ m) = tB l ++ tB m := by
  induction l with
  | nil => rfl
  | cons t r ih => simp only [List.cons_append, tB, ih, List.append_assoc]
/-- sizes of a file -/
theorem file_sz {A : jA} (T : TR A) {b : Int} (hb : b = 8 ∨ b = 16 ∨ b = 32) {x : Int} (x0 : 0 ≤ x) (x1 : x < A 2 9) : 0 ≤ A 8 x ∧ A 8 x ≤ 100 ∧ 0 ≤ A 8 x / b ∧ A 8 x / b ≤ 12 ∧ A 8 x / b * b + A 8 x % b = A 8 x ∧ 0 ≤ A 8 x % b ∧ A 8 x % b < b ∧ 0 ≤ A 8 x / b * b := by
  have := T.2.1 x x0 x1
  rcases hb with rfl | rfl | rfl <;> omega
theorem fBl_len {A : jA} {b : Int} (hb : 0 ≤ b ∧ b ≤ 32) (x : Int) (n : Nat) : ((fBl A b x n).length : Int) ≤ n * b := by
  induction n with
  | zero => simp [fBl]
  | succ n ih =>
    simp only [fBl, List.length_append]
    have := (sBytes_len (g := bG A b x n) hb).1
    have e : ((n + 1 : Nat) : Int) * b = n * b + b := by rw [Int.natCast_add, Int.add_mul]; simp
    rw [e]
    omega
theorem tOf_len (A : jA) (b k : Int) : (tOf A b k).length = (A 8 (bd A k) % b).toNat := pSeg_len _ _ _
/-- where all stands within bounds -/
theorem bL_le {A : jA} (T : TR A) {b : Int} (hb : b = 8 ∨ b = 16 ∨ b = 32) (k : Nat) (h1 : 1 ≤ k) (h2 : (k : Int) ≤ bN A) : ((bL A b k).length : Int) + tLen (tS A b k).1 + (tS A b k).2.length ≤ 100 * ((k : Int) - 1) ∧ ((tS A b k).2.length : Int) ≤ b ∧ (∀ t ∈ (tS A b k).1, 1 ≤ t.length ∧ (t.length : Int) ≤ b) ∧ ((tS A b k).2 = [] → (tS A b k).1 = []) ∧ ((tS A b k).1.length : Int) + min 1 ((tS A b k).2.length : Int) ≤ (k : Int) - 1 := by
  induction k with
  | zero => omega
  | succ k ih =>
    obtain ⟨d0, d1, d2⟩ := bd_le T (show (1 : Int) ≤ (k : Int) + 1 by omega) (by omega)
    obtain ⟨f1, f2, f3, f4, f5, f6, f7, f8⟩ := file_sz T hb d0 d1
    have eB : bL A b (k + 1) = bL A b k ++ (if A 3 (bd A ((k : Int) + 1)) = 2 ∧ tw A ((k : Int) + 1) = 0 then fBl A b (bd A ((k : Int) + 1)) (bW A b ((k : Int) + 1)).toNat else []) := rfl
    have eT : tS A b (k + 1) = if A 3 (bd A ((k : Int) + 1)) = 2 ∧ tw A ((k : Int) + 1) = 0 then (if b < (tS A b k).2.length + (tOf A b ((k : Int) + 1)).length then ((tS A b k).1 ++ [(tS A b k).2], tOf A b ((k : Int) + 1)) else ((tS A b k).1, (tS A b k).2 ++ tOf A b ((k : Int) + 1))) else tS A b k := rfl
    by_cases hk0 : k = 0
    · subst hk0
      have e0 : bd A (((0 : Nat) : Int) + 1) = 0 := by show bd A 1 = 0; exact (nU_NV T).1.2.2.1
      have ek : A 3 0 = 1 := T.1.2.2.2.2.2.2.1
      rw [eB, eT, e0, ek, if_neg (by omega), if_neg (by omega)]
      exact ⟨by simp [bL, tS, tLen], by simp [tS]; omega, by simp [tS], by simp [tS], by simp [tS]; omega⟩
    · obtain ⟨i1, i2, i3, i4, i5⟩ := ih (by omega) (by omega)
      rw [eB, eT]
      by_cases q : A 3 (bd A ((k : Int) + 1)) = 2 ∧ tw A ((k : Int) + 1) = 0
      · rw [if_pos q, if_pos q]
        have fl := fBl_len (A := A) (b := b) (by omega) (bd A ((k : Int) + 1)) (bW A b ((k : Int) + 1)).toNat
        rw [Int.toNat_of_nonneg (by unfold bW; exact f3)] at fl
        have el := tOf_len A b ((k : Int) + 1)
        have fl' : bW A b ((k : Int) + 1) * b = A 8 (bd A ((k : Int) + 1)) / b * b := rfl
        rw [List.length_append]
        by_cases q2 : b < (tS A b k).2.length + (tOf A b ((k : Int) + 1)).length
        · rw [if_pos q2]
          dsimp only
          have ne : (tS A b k).2 ≠ [] := fun z => by rw [z] at q2; simp only [List.length_nil] at q2; omega
          have np := List.length_pos_iff.mpr ne
          rw [tLen_app, List.length_append]
          simp only [tLen, List.length_cons, List.length_nil]
          refine ⟨by omega, by omega, fun t ht => ?_, fun z => ?_, by omega⟩
          · rcases List.mem_append.mp ht with h | h
            · exact i3 t h
            · rw [List.mem_singleton.mp h]; exact ⟨np, i2⟩
          · rw [z] at q2; simp only [List.length_nil] at q2; omega
        · rw [if_neg q2]
          dsimp only
          rw [List.length_append]
          refine ⟨by omega, by omega, i3, fun z => i4 (List.append_eq_nil_iff.mp z).1, ?_⟩
          by_cases z : (tS A b k).2 = []
          · rw [i4 z]; simp only [List.length_nil]; omega
          · have np := List.length_pos_iff.mpr z
            omega
      · rw [if_neg q, if_neg q, List.append_nil]
        exact ⟨by omega, i2, i3, i4, by omega⟩
