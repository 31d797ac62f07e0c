/-! PATHS: what a view's uppermost layer and number tell -/
def vroot : Nat → List (Int × Int)
  | 0 => []
  | n + 1 => ((n : Int), 1) :: vroot n
/-- the names, the last one first, lead from R to st through folders alone -/
def VP (u : Int → Int → Int) (L : Int) (R : List (Int × Int)) : List Int → List (Int × Int) → Prop
  | [], st => st = R
  | a :: p, st => ∃ st0, VP u L R p st0 ∧ (∀ c ∈ st0, 0 ≤ c.1 ∧ c.1 < L ∧ 1 ≤ c.2 ∧ c.2 ≤ uw (u c.1) 4 ∧ uKind (u c.1) c.2 = 1) ∧ st = vstep u a st0 []
theorem vroot_mem {n : Nat} {c : Int × Int} (h : c ∈ vroot n) : c.2 = 1 ∧ 0 ≤ c.1 ∧ c.1 < n := by
  induction n with
  | zero => cases h
  | succ n ih =>
    simp only [vroot] at h
    rcases List.mem_cons.mp h with e | e
    · rw [e]; exact ⟨rfl, by omega, by show (n : Int) < ((n + 1 : Nat) : Int); omega⟩
    · have := ih e; omega
theorem vstep_mem {u : Int → Int → Int} {a : Int} {r F : List (Int × Int)} {c : Int × Int} (h : c ∈ vstep u a r F) : c ∈ F ∨ ∃ k, (c.1, k) ∈ r ∧ uChild (u c.1) k a = c.2 ∧ c.2 ≠ 0 := by
  induction r generalizing F with
  | nil => exact Or.inl h
  | cons p r ih =>
    obtain ⟨l, k⟩ := p
    simp only [vstep] at h
    have new : ∀ {F' : List (Int × Int)}, c ∈ F ++ [(l, uChild (u l) k a)] → ¬ uChild (u l) k a = 0 → c ∈ F ∨ ∃ k', (c.1, k') ∈ (l, k) :: r ∧ uChild (u c.1) k' a = c.2 ∧ c.2 ≠ 0 := by
      intro _ hm hz
      rcases List.mem_append.mp hm with q | q
      · exact Or.inl q
      · rw [List.mem_singleton] at q
        subst q
        exact Or.inr ⟨k, List.mem_cons_self, rfl, hz⟩
    split at h
    next h0 =>
      rcases ih h with q | ⟨k', q1, q2, q3⟩
      · exact Or.inl q
      · exact Or.inr ⟨k', List.mem_cons_of_mem _ q1, q2, q3⟩
    next h0 =>
      split at h
      next h1 =>
        rcases ih h with q | ⟨k', q1, q2, q3⟩
        · exact new (F' := F) q h0
        · exact Or.inr ⟨k', List.mem_cons_of_mem _ q1, q2, q3⟩
      next h1 =>
        split at h
        next h2 => exact new (F' := F) h h0
        next h2 => exact Or.inl h
/-- all found are folders, or one file alone -/
theorem vstep_kind {u : Int → Int → Int} {a : Int} {r F : List (Int × Int)} (hF : ∀ c ∈ F, uKind (u c.1) c.2 = 1) : (∀ c ∈ vstep u a r F, uKind (u c.1) c.2 = 1) ∨ ∃ c, vstep u a r F = [c] ∧ uKind (u c.1) c.2 = 2 := by
  induction r generalizing F with
  | nil => exact Or.inl hF
  | cons p r ih =>
    obtain ⟨l, k⟩ := p
    simp only [vstep]
    split
    next h0 => exact ih hF
    next h0 =>
      split
      next h1 =>
        refine ih (fun c hc => ?_)
        rcases List.mem_append.mp hc with q | q
        · exact hF c q
        · rw [List.mem_singleton] at q; subst q; exact h1
      next h1 =>
        split
        next h2 => exact Or.inr ⟨(l, uChild (u l) k a), by rw [h2.2]; rfl, h2.1⟩
        next h2 => exact Or.inl hF
theorem VP.det {u : Int → Int → Int} {L : Int} {R : List (Int × Int)} {p : List Int} {s t : List (Int × Int)} (h1 : VP u L R p s) (h2 : VP u L R p t) : s = t := by
  induction p generalizing s t with
  | nil => exact h1.trans h2.symm
  | cons a p ih =>
    obtain ⟨s0, a1, -, a3⟩ := h1
    obtain ⟨t0, b1, -, b3⟩ := h2
    rw [a3, b3, ih a1 b1]
/-- a folder stands on one path alone -/
theorem VP.one {u : Int → Int → Int} {L : Nat} (hu : ∀ l : Int, 0 ≤ l → l < L → VAd (u l) ∧ VAr (u l)) {p q : List Int} {s t : List (Int × Int)} (h1 : VP u L (vroot L) p s) (h2 : VP u L (vroot L) q t) {c : Int × Int} (hs : c ∈ s) (ht : c ∈ t) (hk : uKind (u c.1) c.2 = 1) : p = q := by
  -- a folder with a name is not the first
  have named : ∀ {l k a : Int}, 0 ≤ l → l < L → 1 ≤ k → k ≤ uw (u l) 4 → uKind (u l) k = 1 → uChild (u l) k a ≠ 0 → uKind (u l) (uChild (u l) k a) = 1 → uChild (u l) k a ≠ 1 := by
    intro l k a l0 l1 k0 k1 kk hc hck
    obtain ⟨i, i0, i1, e1, e2⟩ := uChild_of (hu l l0 l1).1 k0 k1 kk hc
    rw [← e2] at hck ⊢
    exact ((hu l l0 l1).2.2 k i k i k0 k1 kk i0 i1 k0 k1 kk i0 i1 rfl hck).1
  induction p generalizing q s t c with
  | nil =>
    have e1 : s = vroot L := h1
    subst e1
    have r := vroot_mem hs
    cases q with
    | nil => rfl
    | cons b q =>
      obtain ⟨t0, b1, b2, b3⟩ := h2
      subst b3
      rcases vstep_mem ht with z | ⟨k', z1, z2, z3⟩
      · cases z
      · obtain ⟨w1, w2, w3, w4, w5⟩ := b2 _ z1
        have := named w1 w2 w3 w4 w5 (a := b) (by rw [z2]; exact z3) (by rw [z2]; exact hk)
        rw [z2] at this
        exact absurd r.1 this
  | cons a p ih =>
    obtain ⟨s0, a1, a2, a3⟩ := h1
    subst a3
    rcases vstep_mem hs with z | ⟨k, z1, z2, z3⟩
    · cases z
    · obtain ⟨w1, w2, w3, w4, w5⟩ := a2 _ z1
      cases q with
      | nil =>
        have e2 : t = vroot L := h2
        subst e2
        have r := vroot_mem ht
        have := named w1 w2 w3 w4 w5 (a := a) (by rw [z2]; exact z3) (by rw [z2]; exact hk)
        rw [z2] at this
        exact absurd r.1 this
      | cons b q =>
        obtain ⟨t0, b1, b2, b3⟩ := h2
        subst b3
        rcases vstep_mem ht with y | ⟨k', y1, y2, y3⟩
        · cases y
        · obtain ⟨x1, x2, x3, x4, x5⟩ := b2 _ y1
          obtain ⟨i, i0, i1, e1, e2⟩ := uChild_of (hu _ w1 w2).1 w3 w4 w5 (a := a) (by rw [z2]; exact z3)
          obtain ⟨j, j0, j1, e3, e4⟩ := uChild_of (hu _ w1 w2).1 x3 x4 x5 (a := b) (by rw [y2]; exact y3)
          obtain ⟨-, f1, f2⟩ := (hu _ w1 w2).2.2 k i k' j w3 w4 w5 i0 i1 x3 x4 x5 j0 j1 (by rw [e2, e4, z2, y2]) (by rw [e2, z2]; exact hk)
          have fk : k = k' := f1
          subst fk
          subst f2
          have ab : a = b := e1.symm.trans e3
          subst ab
          rw [ih a1 b1 z1 y1 w5]
/-- two stacks on paths with the same uppermost layer and number are one -/
theorem VP.top {u : Int → Int → Int} {L : Nat} (hu : ∀ l : Int, 0 ≤ l → l < L → VAd (u l) ∧ VAr (u l)) (hr : ∀ l : Int, 0 ≤ l → l < L → uKind (u l) 1 = 1) {p q : List Int} {c : Int × Int} {s t : List (Int × Int)} (h1 : VP u L (vroot L) p (c :: s)) (h2 : VP u L (vroot L) q (c :: t)) (hc : uKind (u c.1) c.2 = 1 ∨ uKind (u c.1) c.2 = 2) : (c :: s) = (c :: t) := by
  rcases hc with hk | hk
  · have e := VP.one hu h1 h2 List.mem_cons_self List.mem_cons_self hk
    subst e
    exact h1.det h2
  · have alone : ∀ {p : List Int} {s : List (Int × Int)}, VP u L (vroot L) p (c :: s) → s = [] := by
      intro p s h
      cases p with
      | nil =>
        have e : (c :: s) = vroot L := h
        have r := vroot_mem (n := L) (c := c) (by rw [← e]; exact List.mem_cons_self)
        have := hr c.1 r.2.1 r.2.2
        rw [r.1] at hk
        omega
      | cons a p =>
        obtain ⟨s0, a1, a2, a3⟩ := h
        rcases vstep_kind (u := u) (a := a) (r := s0) (F := []) (fun c hc => by cases hc) with z | ⟨d, z1, z2⟩
        · have := z c (by rw [← a3]; exact List.mem_cons_self)
          omega
        · rw [z1] at a3
          exact (List.cons.inj a3).2
    rw [alone h1, alone h2]
