/-! THE TREE IN BYTES THAT COME -/
def uHome (u : Int → Int) (k : Int) : Int := uw u (uRow u k + 10)
/-- how often the folder k names t -/
def ucF (u : Int → Int) (t k : Int) : Int := if uKind u k = 1 then jcnt (uNum u k) t (uMany u k).toNat else 0
/-- how often the folders 1 .. k name t -/
def ucN (u : Int → Int) (t : Int) : Nat → Int
  | 0 => 0
  | k + 1 => ucN u t k + ucF u t ((k : Int) + 1)
/-- how often t's home among them names it -/
def ucT (u : Int → Int) (t : Int) : Nat → Int
  | 0 => 0
  | k + 1 => ucT u t k + (if uHome u t = (k : Int) + 1 then ucF u t ((k : Int) + 1) else 0)
def uhi (u : Int → Int) (k : Int) : Nat → Int
  | 0 => k
  | j + 1 => uHome u (uhi u k j)
theorem jcnt_pos {f : Int → Int} {x : Int} {n : Nat} (h : jcnt f x n ≠ 0) : ∃ i : Int, 0 ≤ i ∧ i < n ∧ f i = x := by
  induction n with
  | zero => exact absurd rfl h
  | succ n ih =>
    by_cases e : f n = x
    · exact ⟨n, by omega, by omega, e⟩
    · simp only [jcnt] at h
      rw [if_neg e] at h
      obtain ⟨i, a, b, c⟩ := ih (by omega)
      exact ⟨i, a, by omega, c⟩
theorem jcnt_one {f : Int → Int} {x : Int} {n : Nat} {i : Int} (h0 : 0 ≤ i) (h1 : i < n) (e : f i = x) : 1 ≤ jcnt f x n := by
  induction n with
  | zero => omega
  | succ n ih =>
    simp only [jcnt]
    have := jcnt_le f x n
    by_cases hi : i = n
    · subst hi; rw [if_pos e]; omega
    · have := ih (by omega)
      split <;> omega
theorem jcnt_two {f : Int → Int} {x : Int} {n : Nat} {i j : Int} (h0 : 0 ≤ i) (h1 : i < j) (h2 : j < n) (e : f i = x) (e2 : f j = x) : 2 ≤ jcnt f x n := by
  induction n with
  | zero => omega
  | succ n ih =>
    simp only [jcnt]
    by_cases hj : j = n
    · subst hj; rw [if_pos e2]
      have := jcnt_one (n := n) h0 h1 e
      omega
    · have := ih (by omega)
      split <;> omega
theorem ucF_le {u : Int → Int} (hb : UB u) (t k : Int) : 0 ≤ ucF u t k ∧ ucF u t k ≤ 65535 := by
  unfold ucF
  split
  · have := jcnt_le (uNum u k) t (uMany u k).toNat
    have hm : 0 ≤ uMany u k ∧ uMany u k ≤ 65535 := uw_le hb _
    omega
  · omega
theorem ucN_le {u : Int → Int} (hb : UB u) (t : Int) (k : Nat) : 0 ≤ ucN u t k ∧ ucN u t k ≤ 65535 * k ∧ 0 ≤ ucT u t k ∧ ucT u t k ≤ ucN u t k := by
  induction k with
  | zero => simp [ucN, ucT]
  | succ k ih =>
    have := ucF_le hb t ((k : Int) + 1)
    simp only [ucN, ucT]
    split <;> omega
/-- a folder that isn't its home names it: one more than at home -/
theorem ucN_other {u : Int → Int} (hb : UB u) {t f : Int} {n : Nat} (h1 : 1 ≤ f) (h2 : f ≤ n) (h : uHome u t ≠ f) : ucT u t n + ucF u t f ≤ ucN u t n := by
  induction n with
  | zero => omega
  | succ n ih =>
    have hF := ucF_le hb t ((n : Int) + 1)
    have hN := ucN_le hb t n
    simp only [ucN, ucT]
    by_cases e : f = (n : Int) + 1
    · subst e; rw [if_neg h]; omega
    · have := ih (by omega)
      split <;> omega
theorem ucN_ge {u : Int → Int} (hb : UB u) {t f : Int} {n : Nat} (h1 : 1 ≤ f) (h2 : f ≤ n) : ucF u t f ≤ ucN u t n := by
  induction n with
  | zero => omega
  | succ n ih =>
    have hF := ucF_le hb t ((n : Int) + 1)
    have hN := ucN_le hb t n
    simp only [ucN]
    by_cases e : f = (n : Int) + 1
    · subst e; omega
    · have := ih (by omega); omega
/-- named at home alone -/
theorem ucN_home {u : Int → Int} {t : Int} {n : Nat} (h : ∀ f : Int, 1 ≤ f → f ≤ n → uHome u t ≠ f → ucF u t f = 0) : ucN u t n = ucT u t n := by
  induction n with
  | zero => rfl
  | succ n ih =>
    simp only [ucN, ucT]
    rw [ih (fun f a b => h f a (by omega))]
    by_cases e : uHome u t = (n : Int) + 1
    · rw [if_pos e]
    · rw [if_neg e, h _ (by omega) (by omega) e]
theorem ucN_pos {u : Int → Int} {t : Int} {n : Nat} (h : ucN u t n ≠ 0) : ∃ f : Int, 1 ≤ f ∧ f ≤ n ∧ ucF u t f ≠ 0 := by
  induction n with
  | zero => exact absurd rfl h
  | succ n ih =>
    simp only [ucN] at h
    by_cases e : ucF u t ((n : Int) + 1) = 0
    · obtain ⟨f, a, b, c⟩ := ih (by omega)
      exact ⟨f, a, by omega, c⟩
    · exact ⟨_, by omega, by omega, e⟩
theorem ucT_pos {u : Int → Int} {t : Int} {n : Nat} (h : ucT u t n ≠ 0) : 1 ≤ uHome u t ∧ uHome u t ≤ n ∧ ucF u t (uHome u t) ≠ 0 := by
  induction n with
  | zero => exact absurd rfl h
  | succ n ih =>
    simp only [ucT] at h
    by_cases e : uHome u t = (n : Int) + 1
    · rw [if_pos e] at h
      by_cases e2 : ucF u t ((n : Int) + 1) = 0
      · have := ih (by omega); omega
      · rw [e]; exact ⟨by omega, by omega, e2⟩
    · rw [if_neg e] at h
      have := ih (by omega)
      exact ⟨this.1, by omega, this.2.2⟩
theorem ucF_pos {u : Int → Int} (hb : UB u) {t k : Int} (h : ucF u t k ≠ 0) : uKind u k = 1 ∧ ∃ i, 0 ≤ i ∧ i < uMany u k ∧ uNum u k i = t := by
  unfold ucF at h
  by_cases e : uKind u k = 1
  · rw [if_pos e] at h
    obtain ⟨i, a, b, c⟩ := jcnt_pos h
    exact ⟨e, i, a, by omega, c⟩
  · rw [if_neg e] at h; exact absurd rfl h
theorem ucF_one {u : Int → Int} {t k i : Int} (hk : uKind u k = 1) (i0 : 0 ≤ i) (i1 : i < uMany u k) (e : uNum u k i = t) : 1 ≤ ucF u t k := by
  unfold ucF; rw [if_pos hk]; exact jcnt_one i0 (by omega) e
/-- all folders are named at their homes alone -/
def AH (u : Int → Int) (n : Int) : Prop := ∀ k i, 1 ≤ k → k < n → uKind u k = 1 → 0 ≤ i → i < uMany u k → uKind u (uNum u k i) = 1 → uHome u (uNum u k i) = k
def T7 (u : Int → Int) : Prop := uKind u 1 = 1 ∧ u (uRow u 1 + 5) = 1 ∧ uHome u 1 = 1
def N7 (u : Int → Int) (k : Int) : Prop := ucN u k (uw u 4).toNat ≠ 0 ∧ ucN u k (uw u 4).toNat = u (uRow u k + 5) ∧ (uKind u k ≠ 2 → ucN u k (uw u 4).toNat ≤ 1)
def H7c (u : Int → Int) : Prop := T7 u ∧ AH u (uw u 4 + 1) ∧ ucN u 1 (uw u 4).toNat = 0 ∧ ∀ k, 2 ≤ k → k ≤ uw u 4 → N7 u k ∧ (uKind u k = 1 → ∃ j : Nat, (j : Int) ≤ uw u 4 ∧ uhi u k j = 1)
def H7m (u : Int → Int) : Prop := T7 u ∧ ucN u 1 (uw u 4).toNat ≤ 0 ∧ (∀ k, 2 ≤ k → k ≤ uw u 4 → N7 u k ∧ (uKind u k = 1 → ucT u k (uw u 4).toNat = 1)) ∧ ∀ k, 2 ≤ k → k ≤ uw u 4 → uKind u k = 1 → ∃ j : Nat, (j : Int) ≤ uw u 4 + 1 ∧ uhi u k j = 1
/-- the home of a folder is a folder -/
def GH (u : Int → Int) : Prop := ∀ k, 1 ≤ k → k ≤ uw u 4 → uKind u k = 1 → 1 ≤ uHome u k ∧ uHome u k ≤ uw u 4 ∧ uKind u (uHome u k) = 1
theorem GH.c {u : Int → Int} (hb : UB u) (hT : T7 u) (hA : AH u (uw u 4 + 1)) (hN : ∀ k, 2 ≤ k → k ≤ uw u 4 → ucN u k (uw u 4).toNat ≠ 0) : GH u := by
  intro k k1 k2 hk
  by_cases e : k = 1
  · subst e
    rw [hT.2.2]; exact ⟨by omega, by omega, hT.1⟩
  · obtain ⟨f, f1, f2, hF⟩ := ucN_pos (hN k (by omega) k2)
    obtain ⟨hf, i, i0, i1, ei⟩ := ucF_pos hb hF
    have := hA f i f1 (by omega) hf i0 i1 (by rw [ei]; exact hk)
    rw [ei] at this
    rw [this]; exact ⟨f1, by omega, hf⟩
theorem GH.m {u : Int → Int} (hb : UB u) (hT : T7 u) (hN : ∀ k, 2 ≤ k → k ≤ uw u 4 → uKind u k = 1 → ucT u k (uw u 4).toNat = 1) : GH u := by
  intro k k1 k2 hk
  by_cases e : k = 1
  · subst e
    rw [hT.2.2]; exact ⟨by omega, by omega, hT.1⟩
  · obtain ⟨a, b, c⟩ := ucT_pos (u := u) (t := k) (n := (uw u 4).toNat) (by rw [hN k (by omega) k2 hk]; decide)
    exact ⟨a, by omega, (ucF_pos hb c).1⟩
/-- as many different ones as there are -/
theorem php : ∀ (N m : Nat) (f : Nat → Int), (∀ i, i < m → 1 ≤ f i ∧ f i ≤ N) → (∀ i j, i < j → j < m → f i ≠ f j) → m ≤ N := by
  intro N
  induction N with
  | zero =>
    intro m f h1 _
    cases m with
    | zero => omega
    | succ m => have := h1 0 (by omega); omega
  | succ N ih =>
    intro m f h1 h2
    cases m with
    | zero => omega
    | succ m =>
      by_cases hx : ∃ i, i < m + 1 ∧ f i = (N : Int) + 1
      · obtain ⟨i0, hi0, hf⟩ := hx
        have := ih m (fun i => if i = i0 then f m else f i) (fun i hi => by
          by_cases e : i = i0
          · rw [if_pos e]
            have := h1 m (by omega)
            have := h2 i0 m (by omega) (by omega)
            omega
          · rw [if_neg e]
            have := h1 i (by omega)
            have : f i ≠ f i0 := by
              by_cases hlt : i < i0
              · exact h2 i i0 hlt hi0
              · exact fun z => h2 i0 i (by omega) (by omega) z.symm
            omega) (fun i j hij hj => by
          by_cases e : i = i0
          · rw [if_pos e, if_neg (by omega)]
            exact fun z => h2 j m hj (by omega) z.symm
          · rw [if_neg e]
            by_cases e2 : j = i0
            · rw [if_pos e2]; exact h2 i m (by omega) (by omega)
            · rw [if_neg e2]; exact h2 i j hij (by omega))
        omega
      · have := ih (m + 1) f (fun i hi => by
          have := h1 i hi
          have : f i ≠ (N : Int) + 1 := fun z => hx ⟨i, hi, z⟩
          omega) h2
        omega
theorem uhi_in {u : Int → Int} (hG : GH u) {k : Int} (k1 : 1 ≤ k) (k2 : k ≤ uw u 4) (hk : uKind u k = 1) (j : Nat) : 1 ≤ uhi u k j ∧ uhi u k j ≤ uw u 4 ∧ uKind u (uhi u k j) = 1 := by
  induction j with
  | zero => exact ⟨k1, k2, hk⟩
  | succ j ih => exact hG _ ih.1 ih.2.1 ih.2.2
theorem uhi_shift {u : Int → Int} {k : Int} {i j : Nat} (h : uhi u k i = uhi u k j) (d : Nat) : uhi u k (i + d) = uhi u k (j + d) := by
  induction d with
  | zero => exact h
  | succ d ih => show uHome u (uhi u k (i + d)) = uHome u (uhi u k (j + d)); rw [ih]
/-- who comes to the first comes there soon -/
theorem uhi_soon {u : Int → Int} (hG : GH u) {k : Int} (k1 : 1 ≤ k) (k2 : k ≤ uw u 4) (hk : uKind u k = 1) : ∀ j : Nat, uhi u k j = 1 → ∃ j' : Nat, (j' : Int) ≤ uw u 4 ∧ uhi u k j' = 1 := by
  intro j
  induction j using Nat.strongRecOn with
  | ind j ih =>
    intro hj
    by_cases hd : ∃ a b, a < b ∧ b ≤ j ∧ uhi u k a = uhi u k b
    · obtain ⟨a, b, ab, bj, e⟩ := hd
      have := uhi_shift e (j - b)
      rw [show b + (j - b) = j by omega, hj] at this
      exact ih (a + (j - b)) (by omega) this
    · have := php (uw u 4).toNat (j + 1) (fun i => uhi u k i) (fun i _ => by have := uhi_in hG k1 k2 hk i; omega) (fun a b ab bj e => hd ⟨a, b, ab, by omega, e⟩)
      exact ⟨j, by omega, hj⟩
theorem H7_iff {u : Int → Int} (hb : UB u) (hV : VAd u) : H7c u ↔ H7m u := by
  have h4 := uw_le hb 4
  constructor
  · rintro ⟨hT, hA, h1, hN⟩
    refine ⟨hT, by omega, fun k k2 k4 => ⟨(hN k k2 k4).1, fun hk => ?_⟩, fun k k2 k4 hk => ?_⟩
    · obtain ⟨⟨n1, n2, n3⟩, -⟩ := hN k k2 k4
      have e : ucN u k (uw u 4).toNat = ucT u k (uw u 4).toNat := ucN_home (fun f f1 f2 hf => by
        false_or_by_contra
        rename_i hz
        obtain ⟨hfk, i, i0, i1, ei⟩ := ucF_pos hb hz
        have := hA f i f1 (by omega) hfk i0 i1 (by rw [ei]; exact hk)
        rw [ei] at this
        exact hf this)
      have := ucN_le hb k (uw u 4).toNat
      have := n3 (by omega)
      omega
    · obtain ⟨j, a, b⟩ := (hN k k2 k4).2 hk
      exact ⟨j, by omega, b⟩
  · rintro ⟨hT, h1, hN, hC⟩
    have hG := GH.m hb hT (fun k k2 k4 hk => (hN k k2 k4).2 hk)
    refine ⟨hT, fun k i k1 k4 hk i0 i1 ht => ?_, by have := ucN_le hb 1 (uw u 4).toNat; omega, fun k k2 k4 => ⟨(hN k k2 k4).1, fun hk => ?_⟩⟩
    · have hu := (hV k k1 (by omega) hk).2.2.1 i i0 i1
      have hF := ucF_one hk i0 i1 rfl
      have hge := ucN_ge hb (t := uNum u k i) k1 (show k ≤ ((uw u 4).toNat : Int) by omega)
      by_cases e1 : uNum u k i = 1
      · rw [e1] at hge hF; omega
      · obtain ⟨⟨n1, n2, n3⟩, n4⟩ := hN (uNum u k i) (by omega) hu.2.2.2
        false_or_by_contra
        rename_i hz
        have := ucN_other hb (t := uNum u k i) k1 (show k ≤ ((uw u 4).toNat : Int) by omega) hz
        have := n3 (by omega)
        have := n4 ht
        omega
    · obtain ⟨j, a, b⟩ := hC k k2 k4 hk
      exact uhi_soon hG (by omega) k4 hk j b
/-- all that was judged right makes a right image -/
theorem VA_of {u : Int → Int} {n : Int} (hb : UB u) (hn : n ≤ 4000) (h1 : H1 u n) (h2 : H2 u n) (h4 : H4 u) (h5 : H5 u) (h6 : H6 u) (h7 : H7c u) : VA u n := by
  obtain ⟨a1, a2, a3, a4, a5⟩ := h1
  obtain ⟨b1, b2, b3, b4, b5, b6, b7⟩ := h2
  obtain ⟨hR, hR2⟩ := h5.rw hb a4
  have hV := h6.vd hb
  refine ⟨⟨a1, by omega, a4, b2, b3, b4, b5, b6, b7⟩, h4.2, fun k k1 k2 => ?_, hV, ?_⟩
  · obtain ⟨r1, r2, r3, r4⟩ := hR k k1 k2
    have hl := uLen_ge (n := 0) hb a4 (uRow u k)
    have hk3 := hl.2.1 r2
    refine ⟨r1, ?_⟩
    have ek : uKind u k = u (uRow u k) := rfl
    by_cases e1 : uKind u k = 1
    · left; exact ⟨e1, by have := hl.2.2.1 (by omega); omega⟩
    · by_cases e2 : uKind u k = 2
      · right; left
        have el : uLen u (uRow u k) = 12 + 2 * (uw u (uRow u k + 6) / u 2) := by unfold uLen; rw [if_neg (by omega), if_pos (by omega)]
        have hF := r4 e2
        refine ⟨e2, by omega, fun hz => ?_, hF.2⟩
        have := hF.1
        rw [if_neg hz] at this
        exact this
      · right; right
        exact ⟨by omega, by have := hl.2.2.2.2 (by omega); omega⟩
  · obtain ⟨hT, hA, hz, hN⟩ := h7
    refine ⟨hT.1, fun f i g j f1 f4 hf i0 i1 g1 g4 hg j0 j1 e ht => ?_⟩
    have hu := (hV f f1 f4 hf).2.2.1 i i0 i1
    have hF := ucF_one hf i0 i1 rfl
    have hge := ucN_ge hb (t := uNum u f i) f1 (show f ≤ ((uw u 4).toNat : Int) by omega)
    have ne1 : uNum u f i ≠ 1 := fun e1 => by rw [e1] at hge hF; omega
    have hf' := hA f i f1 (by omega) hf i0 i1 ht
    have hg' := hA g j g1 (by omega) hg j0 j1 (by rw [← e]; exact ht)
    rw [← e] at hg'
    have efg : f = g := by omega
    subst efg
    refine ⟨ne1, rfl, ?_⟩
    obtain ⟨⟨n1, n2, n3⟩, -⟩ := hN (uNum u f i) (by omega) hu.2.2.2
    have n3 := n3 (by omega)
    have hc : ucF u (uNum u f i) f = jcnt (uNum u f) (uNum u f i) (uMany u f).toNat := by unfold ucF; rw [if_pos hf]
    false_or_by_contra
    by_cases hlt : i < j
    · have := jcnt_two (f := uNum u f) (x := uNum u f i) (n := (uMany u f).toNat) i0 hlt (by omega) rfl e.symm
      omega
    · have := jcnt_two (f := uNum u f) (x := uNum u f i) (n := (uMany u f).toNat) j0 (show j < i by omega) (by omega) e.symm rfl
      omega
