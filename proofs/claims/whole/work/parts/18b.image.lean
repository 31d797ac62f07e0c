/-! WHAT A RIGHT IMAGE IS: bytes u, length n -/
def uw (u : Int → Int) (x : Int) : Int := u x * 256 + u (x + 1)
def uRow (u : Int → Int) (k : Int) : Int := uw u 6 + uw u (uw u 12 + 2 * (k - 1))
def uKind (u : Int → Int) (k : Int) : Int := u (uRow u k)
/-- a packed block of s bytes at p: how many bytes it opens to, -1 if its last packet lacks some -/
def uop (u : Int → Int) (p s : Int) : Nat → Int → Int → Int
  | 0, i, o => if i = s then o else -1
  | f + 1, i, o => if s ≤ i then (if i = s then o else -1) else uop u p s f (i + jpacket (u (p + i))) (o + jopens (u (p + i)))
/-- a block of l bytes can be stored there so -/
def UC (u : Int → Int) (p s l : Int) : Prop := s = 0 ∨ 18 ≤ p ∧ p + jlies s ≤ uw u 6 ∧ (32768 ≤ s → s = 32768 + l) ∧ (s < 32768 → uop u p s s.toNat 0 0 = l)
/-- where the block j of the file at row begins -/
def uPlace (u : Int → Int) (row : Int) : Nat → Int
  | 0 => uw u (row + 8)
  | j + 1 => uPlace u row j + jlies (uw u (row + 12 + 2 * j))
def VAh (u : Int → Int) (n : Int) : Prop := 18 ≤ n ∧ n ≤ 5581 ∧ (u 2 = 8 ∨ u 2 = 16 ∨ u 2 = 32) ∧ 18 ≤ uw u 6 ∧ uw u 6 ≤ uw u 8 ∧ uw u 8 ≤ uw u 10 ∧ uw u 10 ≤ uw u 12 ∧ 1 ≤ uw u 4 ∧ uw u 12 + 2 * uw u 4 = n
def VAt (u : Int → Int) : Prop := ∀ t, 0 ≤ t → t < (uw u 12 - uw u 10) / 5 → 1 ≤ u (uw u 10 + 5 * t + 4) ∧ u (uw u 10 + 5 * t + 4) ≤ u 2 ∧ UC u (uw u (uw u 10 + 5 * t)) (uw u (uw u 10 + 5 * t + 2)) (u (uw u 10 + 5 * t + 4))
/-- a file's row -/
def VAf (u : Int → Int) (row : Int) : Prop := (uw u (row + 6) % u 2 ≠ 0 → 1 ≤ u (row + 10) ∧ u (row + 10) ≤ (uw u 12 - uw u 10) / 5 ∧ u (row + 11) + uw u (row + 6) % u 2 ≤ u (uw u 10 + 5 * (u (row + 10) - 1) + 4)) ∧ ∀ j, 0 ≤ j → j < uw u (row + 6) / u 2 → UC u (uPlace u row j.toNat) (uw u (row + 12 + 2 * j)) (u 2)
def VAi (u : Int → Int) : Prop := ∀ k, 1 ≤ k → k ≤ uw u 4 → uw u 6 ≤ uRow u k ∧ (uKind u k = 1 ∧ uRow u k + 12 ≤ uw u 8 ∨ uKind u k = 2 ∧ uRow u k + 12 + 2 * (uw u (uRow u k + 6) / u 2) ≤ uw u 8 ∧ VAf u (uRow u k) ∨ uKind u k = 3 ∧ uRow u k + 6 ≤ uw u 8)
/-- the i-th name of a folder, and its number -/
def uName (u : Int → Int) (k i : Int) : Int := uw u (uw u 8 + uw u (uRow u k + 6) + 4 * i)
def uNum (u : Int → Int) (k i : Int) : Int := uw u (uw u 8 + uw u (uRow u k + 6) + 4 * i + 2)
def uMany (u : Int → Int) (k : Int) : Int := uw u (uRow u k + 8)
def VAd (u : Int → Int) : Prop := ∀ k, 1 ≤ k → k ≤ uw u 4 → uKind u k = 1 → uw u (uRow u k + 6) % 4 = 0 ∧ uw u 8 + uw u (uRow u k + 6) + 4 * uMany u k ≤ uw u 10 ∧ (∀ i, 0 ≤ i → i < uMany u k → 1 ≤ uName u k i ∧ uName u k i ≤ 999 ∧ 1 ≤ uNum u k i ∧ uNum u k i ≤ uw u 4) ∧ ∀ i j, 0 ≤ i → i < j → j < uMany u k → uName u k i < uName u k j
/-- each folder has one name at most, the first none -/
def VAr (u : Int → Int) : Prop := uKind u 1 = 1 ∧ ∀ f i g j, 1 ≤ f → f ≤ uw u 4 → uKind u f = 1 → 0 ≤ i → i < uMany u f → 1 ≤ g → g ≤ uw u 4 → uKind u g = 1 → 0 ≤ j → j < uMany u g → uNum u f i = uNum u g j → uKind u (uNum u f i) = 1 → uNum u f i ≠ 1 ∧ f = g ∧ i = j
def VA (u : Int → Int) (n : Int) : Prop := VAh u n ∧ VAt u ∧ VAi u ∧ VAd u ∧ VAr u
/-- bytes -/
def UB (u : Int → Int) : Prop := ∀ k, 0 ≤ u k ∧ u k ≤ 255
theorem uw_le {u : Int → Int} (h : UB u) (x : Int) : 0 ≤ uw u x ∧ uw u x ≤ 65535 := by
  unfold uw
  have := h x
  have := h (x + 1)
  omega
/-- the class's image c holds the bytes u, n of them -/
def CR (A : jA) (c : Nat) (u : Int → Int) (n : Int) : Prop := IM A c ∧ A c 1 = n ∧ (∀ x, 0 ≤ x → x < n → A (c + 1) x = u x) ∧ A c 2 = u 2 ∧ A c 3 = uw u 4 ∧ A c 4 = uw u 6 ∧ A c 5 = uw u 8 ∧ A c 6 = uw u 10 ∧ A c 7 = uw u 12
section CRs
variable {A : jA} {c : Nat} {u : Int → Int} {n : Int}
theorem CR.b (h : CR A c u n) {x : Int} (h0 : 0 ≤ x) (h1 : x < n) : cb A c x = u x := by
  rw [cb_in h0 (by rw [h.2.1]; exact h1)]
  exact h.2.2.1 x h0 h1
theorem CR.w (h : CR A c u n) {x : Int} (h0 : 0 ≤ x) (h1 : x + 1 < n) : cw A c x = uw u x := by
  rw [cw_in h0 (by rw [h.2.1]; exact h1)]
  unfold uw
  rw [h.2.2.1 x h0 (by omega), h.2.2.1 (x + 1) (by omega) h1]
theorem CR.row (h : CR A c u n) (hb : UB u) {k : Int} (hk : 1 ≤ k) (h1 : uw u 12 + 2 * k ≤ n) : cRow A c k = uRow u k := by
  have := uw_le hb 12
  unfold cRow uRow
  rw [h.2.2.2.2.2.1, h.2.2.2.2.2.2.2.2, h.w (by omega) (by omega)]
end CRs
/-- in a right image all that is asked of a number lies within -/
theorem VA.row {u : Int → Int} {n : Int} (V : VA u n) (hb : UB u) {k : Int} (h1 : 1 ≤ k) (h2 : k ≤ uw u 4) : 18 ≤ uRow u k ∧ uRow u k + 6 ≤ uw u 8 ∧ uw u 12 + 2 * k ≤ n ∧ uw u 8 ≤ n ∧ 1 ≤ uKind u k ∧ uKind u k ≤ 3 ∧ (uKind u k ≠ 3 → uRow u k + 12 ≤ uw u 8) := by
  obtain ⟨⟨a1, a2, a3, a4, a5, a6, a7, a8, a9⟩, -, Vi, -, -⟩ := V
  obtain ⟨b1, b2⟩ := Vi k h1 h2
  have q : 0 ≤ uw u (uRow u k + 6) / u 2 := Int.ediv_nonneg (uw_le hb _).1 (hb 2).1
  rcases b2 with b | b | b
  · refine ⟨by omega, by omega, by omega, by omega, by omega, by omega, fun _ => b.2⟩
  · refine ⟨by omega, by omega, by omega, by omega, by omega, by omega, fun _ => by omega⟩
  · refine ⟨by omega, by omega, by omega, by omega, by omega, by omega, fun q => absurd b.1 q⟩
