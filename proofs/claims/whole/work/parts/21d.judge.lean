section KM2
variable {E : jE} {A : jA} {m n : Int} {K : Int → jA → Prop}
theorem k_misFolder (h : MT A m n) (hR : RW (mb A m)) {k : Int} (h1 : 1 ≤ k) (h2 : k ≤ uw (mb A m) 4) (hy : uKind (mb A m) k = 1 → K 1 A) (hn : uKind (mb A m) k ≠ 1 → K 0 A) : jrI 164 0 [some (.ref 49), some (.int (jI m)), some (.int (jI k))] [] E A K := by
  obtain ⟨l1, l2, l3, l4, l5, l6, l7, l8⟩ := h.le
  obtain ⟨hb, hm, -⟩ := h
  have ra := hR.at (hb.u m) l8 h1 h2
  refine vd_X7_isFolder_0 m ⟨by omega, by omega⟩ k ⟨by omega, by omega⟩ E A K (k_inode hb hm ⟨h1, by rw [mw_eq]; omega⟩ ?_)
  rw [show mRow A m k = uRow (mb A m) k from rfl]
  exact k_mbyteAt hm (by omega) ⟨fun z => hn z, fun z => hy z⟩
theorem k_rmany (h : MT A m n) (hR : RW (mb A m)) {k : Int} (h1 : 1 ≤ k) (h2 : k ≤ uw (mb A m) 4) (hk : uKind (mb A m) k = 1) (hK : K (uMany (mb A m) k) A) : jrI 180 0 [some (.ref 49), some (.int (jI m)), some (.int (jI k))] [] E A K := by
  obtain ⟨l1, l2, l3, l4, l5, l6, l7, l8⟩ := h.le
  obtain ⟨hb, hm, -⟩ := h
  have ra := hR.at (hb.u m) l8 h1 h2
  have := ra.2.2.2.2 (by omega)
  refine vd_X7_manyOf_0 m ⟨by omega, by omega⟩ k ⟨by omega, by omega⟩ E A K (k_inode hb hm ⟨h1, by rw [mw_eq]; omega⟩ ?_)
  rw [show mRow A m k = uRow (mb A m) k from rfl]
  exact k_mword hb hm (by omega) hK
theorem k_mareFolders (h : MT A m n) (hR : RW (mb A m)) (h1 : H6 (mb A m) → K 1 A) (h0 : ¬ H6 (mb A m) → K 0 A) : jrI 138 0 [some (.ref 49), some (.int (jI m)), some (.int (jI (uw (mb A m) 4))), none, none, none, none, none, none] [] E A K := by
  obtain ⟨l1, l2, l3, l4, l5, l6, l7, l8⟩ := h.le
  have hMT := h
  obtain ⟨hb, hm, -⟩ := h
  have hu := hb.u m
  have rm : jW m := ⟨by omega, by omega⟩
  have r4 : jW (uw (mb A m) 4) := ⟨by omega, by omega⟩
  have re : jW (uw (mb A m) 10 - uw (mb A m) 8) := ⟨by omega, by omega⟩
  refine vd_X7_areFolders_0 m rm _ r4 E A K (k_mword hb hm (by omega) (k_mword hb hm (by omega) ?_))
  rw [mw_eq, mw_eq]
  have e0 : uw (mb A m) 8 = uw (mb A m) 8 + 4 * 0 := by omega
  refine j_loop (P := fun k => ∀ a, 1 ≤ k → k ≤ uw (mb A m) 4 + 1 → 0 ≤ a → uw (mb A m) 8 + 4 * a ≤ uw (mb A m) 10 → (uF (mb A m) (uw (mb A m) 4 - k + 1).toNat k (uw (mb A m) 8 + 4 * a) → K 1 A) → (¬ uF (mb A m) (uw (mb A m) 4 - k + 1).toNat k (uw (mb A m) 8 + 4 * a) → K 0 A) → jrI 138 22 [some (.ref 49), some (.int (jI m)), some (.int (jI (uw (mb A m) 4))), some (.int (jI (uw (mb A m) 10 - uw (mb A m) 8))), some (.int (jI a)), some (.int (jI k)), none, none, none] [] E A K) (uw (mb A m) 4 + 1) (fun k ih a k0 k1 a0 a1 g1 g0 => ?_) 1 0 (by omega) (by omega) (by omega) (by omega) (by rw [show (uw (mb A m) 4 - 1 + 1).toNat = (uw (mb A m) 4).toNat by omega, ← e0]; exact h1) (by rw [show (uw (mb A m) 4 - 1 + 1).toNat = (uw (mb A m) 4).toNat by omega, ← e0]; exact h0)
  have ra' : jW a := ⟨by omega, by omega⟩
  have rk : jW k := ⟨by omega, by omega⟩
  refine vd_X7_areFolders_22 m rm _ r4 _ re a ra' k rk E A K ⟨fun q => ?_, fun q => ?_⟩
  · rw [show (uw (mb A m) 4 - k + 1).toNat = 0 by omega] at g1 g0
    exact ⟨⟨by omega, by omega⟩, fun z => g0 (fun y => z (by have : uw (mb A m) 8 + 4 * a = uw (mb A m) 10 := y; omega)), fun z => g1 (by show uw (mb A m) 8 + 4 * a = uw (mb A m) 10; omega)⟩
  rw [show (uw (mb A m) 4 - k + 1).toNat = (uw (mb A m) 4 - (k + 1) + 1).toNat + 1 by omega] at g1 g0
  simp only [uF] at g1 g0
  have ra := hR.at hu l8 k0 q
  refine k_misFolder hMT hR k0 q (fun hk => ⟨fun _ => ?_, fun z => absurd z (by decide)⟩) (fun hk => ⟨fun z => absurd rfl z, fun _ => ?_⟩)
  · rw [if_pos hk] at g1 g0
    have r12 := ra.2.2.2.2 (by omega)
    have hw6 := uw_le hu (uRow (mb A m) k + 6)
    have hM : 0 ≤ uMany (mb A m) k ∧ uMany (mb A m) k ≤ 65535 := uw_le hu _
    refine k_inode hb hm ⟨k0, by rw [mw_eq]; omega⟩ ?_
    rw [show mRow A m k = uRow (mb A m) k from rfl]
    refine k_mword hb hm (by omega) ?_
    rw [mw_eq]
    refine ⟨⟨by omega, by omega⟩, fun q3 => g0 (fun z => q3 (by have := z.1; omega)), fun q3 => k_rmany hMT hR k0 q hk ⟨⟨by omega, by omega⟩, fun q4 => ?_, fun q4 => g0 (fun z => by have := z.2.1; omega)⟩⟩
    -- the names
    refine j_loop (P := fun i => ∀ last, 0 ≤ i → i ≤ uMany (mb A m) k → (i = 0 → last = 0) → (1 ≤ i → last = uw (mb A m) (uw (mb A m) 8 + 4 * a + 4 * (i - 1))) → NS (mb A m) (uw (mb A m) 8 + 4 * a) i → jrI 138 87 [some (.ref 49), some (.int (jI m)), some (.int (jI (uw (mb A m) 4))), some (.int (jI (uw (mb A m) 10 - uw (mb A m) 8))), some (.int (jI a)), some (.int (jI k)), some (.int (jI last)), some (.int (jI i)), none] [] E A K) (uMany (mb A m) k) (fun i ih2 last i0 i1 el0 el1 hN => ?_) 0 0 (by omega) hM.1 (fun _ => rfl) (fun z => by omega) ⟨fun i a b => by omega, fun i a b => by omega⟩
    have hl0 : 0 ≤ last ∧ last ≤ 65535 := by
      by_cases e : i = 0
      · rw [el0 e]; omega
      · have := uw_le hu (uw (mb A m) 8 + 4 * a + 4 * (i - 1)); rw [el1 (by omega)]; exact this
    refine vd_X7_areFolders_87 m rm _ r4 _ re a ra' k rk last ⟨by omega, by omega⟩ i ⟨by omega, by omega⟩ E A K (k_rmany hMT hR k0 q hk ⟨fun q5 => k_rmany hMT hR k0 q hk ?_, fun q5 => ?_⟩)
    · have eN : NS (mb A m) (uw (mb A m) 8 + 4 * a) (uMany (mb A m) k) := by rw [show uMany (mb A m) k = i by omega]; exact hN
      have e4 : uw (mb A m) 8 + 4 * (a + uMany (mb A m) k) = uw (mb A m) 8 + 4 * a + 4 * uMany (mb A m) k := by omega
      refine vd_X7_areFolders_172 m rm _ r4 _ re _ ⟨by omega, by omega⟩ k rk E A K (ih (by omega) _ (by omega) (by omega) (by omega) (by omega) (fun z => g1 ?_) (fun z => g0 (fun y => z ?_)))
      · rw [e4] at z; exact ⟨by omega, by omega, eN, z⟩
      · rw [e4]; exact y.2.2.2
    · have ep : uw (mb A m) 8 + 4 * (a + i) = uw (mb A m) 8 + 4 * a + 4 * i := by omega
      refine vd_X7_nameAt_0 m rm _ ⟨by omega, by omega⟩ E A _ (k_mword hb hm (by omega) ?_)
      rw [mw_eq, ep]
      refine k_mword hb hm (by omega) ?_
      rw [mw_eq]
      have hw := uw_le hu (uw (mb A m) 8 + 4 * a + 4 * i)
      have hw2 := uw_le hu (uw (mb A m) 8 + 4 * a + 4 * i + 2)
      have hlast : ∀ z : NS (mb A m) (uw (mb A m) 8 + 4 * a) (uMany (mb A m) k), last < uw (mb A m) (uw (mb A m) 8 + 4 * a + 4 * i) := fun z => by
        by_cases e : i = 0
        · have := (z.1 i i0 q5).1; rw [el0 e]; omega
        · have := z.2 (i - 1) (by omega) (by omega)
          rw [show i - 1 + 1 = i by omega] at this
          rw [el1 (by omega)]; exact this
      refine k_in ⟨by omega, by omega⟩ (by decide) (by decide) (fun b1 b2 => ⟨fun z => absurd z (by decide), fun _ => ⟨fun q6 => g0 (fun z => by have := hlast z.2.2.1; omega), fun q6 => ?_⟩⟩) (fun hno => ⟨fun _ => g0 (fun z => hno (by have := z.2.2.1.1 i i0 q5; exact ⟨this.1, this.2.1⟩)), fun z => absurd rfl z⟩)
      refine vd_X7_numberAt_0 m rm _ ⟨by omega, by omega⟩ E A _ (k_mword hb hm (by omega) ?_)
      rw [mw_eq, ep]
      refine k_mword hb hm (by omega) ?_
      rw [mw_eq]
      refine k_in ⟨by omega, by omega⟩ (by decide) r4 (fun c1 c2 => ⟨fun _ => ih2 q5 _ (by omega) (by omega) (fun z => by omega) (fun _ => by rw [show i + 1 - 1 = i by omega]) ⟨fun j j0 j1 => ?_, fun j j0 j1 => ?_⟩, fun z => absurd z (by decide)⟩) (fun hno => ⟨fun z => absurd rfl z, fun _ => g0 (fun z => hno (by have := z.2.2.1.1 i i0 q5; exact ⟨this.2.2.1, this.2.2.2⟩))⟩)
      · by_cases e : j = i
        · subst e; exact ⟨b1, b2, c1, c2⟩
        · exact hN.1 j j0 (by omega)
      · by_cases e : j + 1 = i
        · rw [e, show uw (mb A m) (uw (mb A m) 8 + 4 * a + 4 * j) = last by rw [el1 (by omega), show i - 1 = j by omega]]; exact q6
        · exact hN.2 j j0 (by omega)
  · rw [if_neg hk] at g1 g0
    exact vd_X7_areFolders_172 m rm _ r4 _ re a ra' k rk E A K (ih (by omega) a (by omega) (by omega) a0 a1 g1 g0)
end KM2
/-- what the folders told -/
theorem H6.vd {u : Int → Int} (hb : UB u) (h : H6 u) : VAd u := by
  have h4 := uw_le hb 4
  have key : ∀ (f : Nat) (k p : Int), (f : Int) = uw u 4 - k + 1 → 1 ≤ k → uw u 8 ≤ p → (p - uw u 8) % 4 = 0 → uF u f k p → ∀ k', k ≤ k' → k' ≤ uw u 4 → uKind u k' = 1 → uw u (uRow u k' + 6) % 4 = 0 ∧ uw u 8 + uw u (uRow u k' + 6) + 4 * uMany u k' ≤ uw u 10 ∧ NS u (uw u 8 + uw u (uRow u k' + 6)) (uMany u k') := by
    intro f
    induction f with
    | zero => intro k p ef k1 p0 p4 hF k' a b; omega
    | succ f ih =>
      intro k p ef k1 p0 p4 hF k' a b hk'
      simp only [uF] at hF
      by_cases hk : uKind u k = 1
      · rw [if_pos hk] at hF
        obtain ⟨a1, a2, a3, a4⟩ := hF
        have hm : 0 ≤ uMany u k := (uw_le hb _).1
        by_cases e : k' = k
        · subst e; rw [a1]; exact ⟨by omega, a2, a3⟩
        · exact ih (k + 1) _ (by omega) (by omega) (by omega) (by omega) a4 k' (by omega) b hk'
      · rw [if_neg hk] at hF
        by_cases e : k' = k
        · subst e; exact absurd hk' hk
        · exact ih (k + 1) p (by omega) (by omega) p0 p4 hF k' (by omega) b hk'
  intro k k1 k2 hk
  obtain ⟨a1, a2, a3⟩ := key (uw u 4).toNat 1 (uw u 8) (by omega) (by omega) (by omega) (by omega) h k k1 k2 hk
  refine ⟨a1, a2, fun i i0 i1 => a3.1 i i0 i1, fun i j i0 ij j1 => ?_⟩
  have st : ∀ d : Nat, i + 1 + d < uMany u k → uName u k i < uName u k (i + 1 + d) := by
    intro d
    induction d with
    | zero => intro hd; have := a3.2 i i0 (by omega); rw [show i + 1 + ((0 : Nat) : Int) = i + 1 by omega]; exact this
    | succ d ih =>
      intro hd
      have h1 := ih (by omega)
      have h2 := a3.2 (i + 1 + d) (by omega) (by omega)
      have h3 : uName u k (i + 1 + d) < uName u k (i + 1 + d + 1) := h2
      rw [show i + 1 + ((d + 1 : Nat) : Int) = i + 1 + d + 1 by omega]
      omega
  have := st (j - i - 1).toNat (by omega)
  rwa [show i + 1 + ((j - i - 1).toNat : Int) = j by omega] at this
