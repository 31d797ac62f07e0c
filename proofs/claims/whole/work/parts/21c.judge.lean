section KJ2
variable {E : jE} {A : jA} {u : Int → Int} {n : Int} {K : Int → jA → Prop}
theorem k_areNames (h : CT A u n) {p many : Int} (hp : uw u 8 ≤ p) (hm : 0 ≤ many) (hp2 : p + 4 * many ≤ uw u 10) (h1 : NS u p many → K 1 A) (h0 : ¬ NS u p many → K 0 A) : jrI 55 0 [some (.ref 19), some (.int (jI p)), some (.int (jI many)), none, none, none] [] E A K := by
  obtain ⟨l1, l2, l3, l4, l5, l6, l7, l8⟩ := h.le
  obtain ⟨f1, f2, f3, f4, f5, f6, f7⟩ := h.f
  have hb := h.2.1
  have hi := h.1.1
  refine vd_X2_areNamesRight_0 p ⟨by omega, by omega⟩ many ⟨by omega, by omega⟩ E A K ?_
  refine j_loop (P := fun i => ∀ last, 0 ≤ i → i ≤ many → (i = 0 → last = 0) → (1 ≤ i → last = uw u (p + 4 * (i - 1))) → NS u p i → jrI 55 5 [some (.ref 19), some (.int (jI p)), some (.int (jI many)), some (.int (jI last)), some (.int (jI i)), none] [] E A K) many (fun i ih last i0 i1 e0 e1 hN => ?_) 0 0 (by omega) hm (fun _ => rfl) (fun z => by omega) ⟨fun i a b => by omega, fun i a b => by omega⟩
  have rl : jW last := by
    by_cases e : i = 0
    · rw [e0 e]; decide
    · have := uw_le hb (p + 4 * (i - 1)); rw [e1 (by omega)]; exact ⟨by omega, by omega⟩
  refine vd_X2_areNamesRight_5 p ⟨by omega, by omega⟩ many ⟨by omega, by omega⟩ last rl i ⟨by omega, by omega⟩ E A K ⟨fun q => h1 (by rw [show many = i by omega]; exact hN), fun q => k_wordAt hi ⟨by omega, by omega⟩ ?_⟩
  rw [h.1.w (by omega) (by omega)]
  have hlast : ∀ z : NS u p many, last < uw u (p + 4 * i) := fun z => by
    by_cases e : i = 0
    · have := (z.1 i i0 q).1; rw [e0 e]; omega
    · have := z.2 (i - 1) (by omega) (by omega)
      rw [show i - 1 + 1 = i by omega] at this
      rw [e1 (by omega)]; exact this
  refine ⟨fun q2 => h0 (fun z => by have := hlast z; omega), fun q2 => ⟨fun q3 => h0 (fun z => by have := (z.1 i i0 q).2.1; omega), fun q3 => k_wordAt hi ⟨by omega, by omega⟩ ?_⟩⟩
  rw [h.1.w (by omega) (by omega)]
  have hw := uw_le hb (p + 4 * i + 2)
  refine k_hasNumber hi ⟨by omega, by omega⟩ (fun a1 a2 => ⟨fun _ => ih q _ (by omega) (by omega) (fun z => by omega) (fun _ => by rw [show i + 1 - 1 = i by omega]) ⟨fun j j0 j1 => ?_, fun j j0 j1 => ?_⟩, fun z => absurd z (by decide)⟩) (fun a => ⟨fun z => absurd rfl z, fun _ => h0 (fun z => a (by rw [f3]; exact (z.1 i i0 q).2.2))⟩)
  · by_cases e : j = i
    · subst e
      refine ⟨?_, q3, a1, by rw [← f3]; exact a2⟩
      have : 0 ≤ last := by
        by_cases e : j = 0
        · rw [e0 e]; omega
        · have := uw_le hb (p + 4 * (j - 1)); rw [e1 (by omega)]; omega
      omega
    · exact hN.1 j j0 (by omega)
  · by_cases e : j + 1 = i
    · rw [e, show uw u (p + 4 * j) = last by rw [e1 (by omega), show i - 1 = j by omega]]; exact q2
    · exact hN.2 j j0 (by omega)
/-- of what the rows told: each number's row lies before the folders -/
def RW (u : Int → Int) : Prop := ∀ k, 1 ≤ k → k ≤ uw u 4 → uw u 6 ≤ uRow u k ∧ uLen u (uRow u k) ≠ 0 ∧ uRow u k + uLen u (uRow u k) ≤ uw u 8 ∧ (uKind u k = 2 → FR u (uRow u k))
theorem uLen_ge {u : Int → Int} {n : Int} (hb : UB u) (l8 : u 2 = 8 ∨ u 2 = 16 ∨ u 2 = 32) (p : Int) : 0 ≤ uLen u p ∧ (uLen u p ≠ 0 → 6 ≤ uLen u p ∧ 1 ≤ u p ∧ u p ≤ 3) ∧ (u p = 1 → uLen u p = 12) ∧ (u p = 2 → 12 ≤ uLen u p) ∧ (u p = 3 → uLen u p = 6) := by
  have hs := uw_le hb (p + 6)
  obtain ⟨d1, d2, -⟩ := bdiv (b := u 2) l8 hs.1 hs.1
  unfold uLen
  split
  · omega
  · split
    · omega
    · split <;> omega
theorem H5.rw {u : Int → Int} (hb : UB u) (l8 : u 2 = 8 ∨ u 2 = 16 ∨ u 2 = 32) (h : H5 u) : RW u ∧ uw u 6 + 6 * uw u 4 ≤ uw u 8 := by
  have h4 := uw_le hb 4
  have key : ∀ (f : Nat) (k p : Int), (f : Int) = uw u 4 - k + 1 → 1 ≤ k → uw u 6 ≤ p → uI u f k p → (∀ k', k ≤ k' → k' ≤ uw u 4 → uw u 6 ≤ uRow u k' ∧ uLen u (uRow u k') ≠ 0 ∧ uRow u k' + uLen u (uRow u k') ≤ uw u 8 ∧ (uKind u k' = 2 → FR u (uRow u k'))) ∧ p + 6 * f ≤ uw u 8 := by
    intro f
    induction f with
    | zero =>
      intro k p ef k1 p0 hI
      exact ⟨fun k' a b => by omega, by have : p = uw u 8 := hI; omega⟩
    | succ f ih =>
      intro k p ef k1 p0 hI
      obtain ⟨a1, a2, a3, a4, a5⟩ := hI
      have hl := uLen_ge (n := 0) hb l8 p
      have hl2 := hl.2.1 a2
      obtain ⟨b1, b2⟩ := ih (k + 1) (p + uLen u p) (by omega) (by omega) (by omega) a5
      refine ⟨fun k' c d => ?_, by omega⟩
      by_cases e : k' = k
      · subst e
        unfold uKind
        rw [a1]
        exact ⟨p0, a2, a3, a4⟩
      · exact b1 k' (by omega) d
  have := key (uw u 4).toNat 1 (uw u 6) (by omega) (by omega) (by omega) h
  exact ⟨this.1, by omega⟩
theorem RW.at {u : Int → Int} (hb : UB u) (l8 : u 2 = 8 ∨ u 2 = 16 ∨ u 2 = 32) (h : RW u) {k : Int} (h1 : 1 ≤ k) (h2 : k ≤ uw u 4) : uw u 6 ≤ uRow u k ∧ uRow u k + 6 ≤ uw u 8 ∧ 1 ≤ uKind u k ∧ uKind u k ≤ 3 ∧ (uKind u k ≠ 3 → uRow u k + 12 ≤ uw u 8) := by
  obtain ⟨a1, a2, a3, -⟩ := h k h1 h2
  have hl := uLen_ge (n := 0) hb l8 (uRow u k)
  have := hl.2.1 a2
  unfold uKind
  omega
theorem k_areFolders (h : CT A u n) (hR : RW u) (h1 : H6 u → K 1 A) (h0 : ¬ H6 u → K 0 A) : jrI 53 0 [some (.ref 19), none, none, none] [] E A K := by
  obtain ⟨l1, l2, l3, l4, l5, l6, l7, l8⟩ := h.le
  obtain ⟨f1, f2, f3, f4, f5, f6, f7⟩ := h.f
  have hb := h.2.1
  have hi := h.1.1
  refine vd_X2_areFoldersRight_0 E A K ?_
  rw [f5]
  refine j_loop (P := fun k => ∀ p, 1 ≤ k → k ≤ uw u 4 + 1 → uw u 8 ≤ p → p ≤ uw u 10 → (uF u (uw u 4 - k + 1).toNat k p → K 1 A) → (¬ uF u (uw u 4 - k + 1).toNat k p → K 0 A) → jrI 53 7 [some (.ref 19), some (.int (jI p)), some (.int (jI k)), none] [] E A K) (uw u 4 + 1) (fun k ih p k0 k1 p0 p1 g1 g0 => ?_) 1 _ (by omega) (by omega) (by omega) l3 (by rw [show (uw u 4 - 1 + 1).toNat = (uw u 4).toNat by omega]; exact h1) (by rw [show (uw u 4 - 1 + 1).toNat = (uw u 4).toNat by omega]; exact h0)
  have rp : jW p := ⟨by omega, by omega⟩
  have rk : jW k := ⟨by omega, by omega⟩
  refine vd_X2_areFoldersRight_7 p rp k rk E A K ⟨fun q => ?_, fun q => ?_⟩
  · rw [show (uw u 4 - k + 1).toNat = 0 by omega] at g1 g0
    rw [f6]
    exact ⟨fun z => g0 z, fun z => g1 z⟩
  rw [f3] at q
  rw [show (uw u 4 - k + 1).toNat = (uw u 4 - (k + 1) + 1).toNat + 1 by omega] at g1 g0
  simp only [uF] at g1 g0
  have rr := h.1.row hb (k := k) k0 (by omega)
  have ra := hR.at hb l8 k0 q
  have sk : jS k := ⟨by omega, by omega⟩
  have ek : cKind A 19 k = uKind u k := by unfold cKind uKind; rw [rr, h.1.b (by omega) (by omega)]
  refine k_kindOf hi sk ?_
  rw [ek]
  refine ⟨fun q2 => ?_, fun q2 => ?_⟩
  · rw [if_neg q2] at g1 g0
    exact vd_X2_areFoldersRight_68 p rp k rk E A K (ih (by omega) p (by omega) (by omega) p0 p1 g1 g0)
  · rw [if_pos q2] at g1 g0
    have r12 := ra.2.2.2.2 (by omega)
    have em : cSize A 19 k = uMany u k := by
      unfold cSize; rw [ek, if_neg (by omega), if_pos q2, rr, h.1.w (by omega) (by omega)]; rfl
    have ef : cFirst A 19 k = uw u 8 + uw u (uRow u k + 6) := by
      unfold cFirst; rw [rr, h.1.w (by omega) (by omega), f5]
    have hm : 0 ≤ uMany u k ∧ uMany u k ≤ 65535 := uw_le hb _
    refine k_sizeOf hi sk (k_firstNamePlace hi sk ?_)
    rw [em, ef]
    refine ⟨fun q3 => g0 (fun z => q3 z.1), fun q3 => ⟨⟨by omega, by omega⟩, fun q4 => g0 (fun z => by have := z.2.1; omega), fun q4 => ?_⟩⟩
    rw [f6] at q4
    exact k_areNames h p0 hm.1 q4 (fun hN => ⟨fun _ => vd_X2_areFoldersRight_68 _ ⟨by omega, by omega⟩ k rk E A K (ih (by omega) _ (by omega) (by omega) (by omega) q4 (fun z => g1 ⟨q3, q4, hN, z⟩) (fun z => g0 (fun y => z y.2.2.2))), fun z => absurd z (by decide)⟩) (fun hN => ⟨fun z => absurd rfl z, fun _ => g0 (fun z => hN z.2.2.1)⟩)
end KJ2
section KM
variable {E : jE} {A : jA} {m n : Int} {K : Int → jA → Prop}
/-- the same bytes in the reference -/
def MT (A : jA) (m n : Int) : Prop := MB A ∧ (0 ≤ m ∧ m ≤ 2) ∧ A 59 m = n ∧ n ≤ 4000 ∧ H1 (mb A m) n ∧ H2 (mb A m) n
theorem MT.le (h : MT A m n) : 18 ≤ uw (mb A m) 6 ∧ uw (mb A m) 6 ≤ uw (mb A m) 8 ∧ uw (mb A m) 8 ≤ uw (mb A m) 10 ∧ uw (mb A m) 10 ≤ uw (mb A m) 12 ∧ uw (mb A m) 12 + 2 * uw (mb A m) 4 = n ∧ 1 ≤ uw (mb A m) 4 ∧ n ≤ 4000 ∧ (mb A m 2 = 8 ∨ mb A m 2 = 16 ∨ mb A m 2 = 32) := by
  obtain ⟨h1, h2, h3, h3', h4, h5⟩ := h
  exact ⟨h5.2.1, h5.2.2.1, h5.2.2.2.1, h5.2.2.2.2.1, h5.2.2.2.2.2.2, h5.2.2.2.2.2.1, h3', h4.2.2.2.1⟩
theorem mw_eq (A : jA) (m x : Int) : mw A m x = uw (mb A m) x := rfl
theorem k_mareTails (h : MT A m n) (h1 : H4 (mb A m) → K 1 A) (h0 : ¬ H4 (mb A m) → K 0 A) : jrI 140 0 [some (.ref 49), some (.int (jI m)), some (.int (jI (mb A m 2))), none, none, none, none, none] [] E A K := by
  obtain ⟨l1, l2, l3, l4, l5, l6, l7, l8⟩ := h.le
  obtain ⟨hb, hm, -⟩ := h
  have rm : jW m := ⟨by omega, by omega⟩
  have rb : jW (mb A m 2) := ⟨by omega, by omega⟩
  have r10 : jW (uw (mb A m) 10) := ⟨by omega, by omega⟩
  have r12 : jW (uw (mb A m) 12) := ⟨by omega, by omega⟩
  refine vd_X7_areTails_0 m rm _ rb E A K (k_mword hb hm (by omega) (k_mword hb hm (by omega) ?_))
  rw [mw_eq, mw_eq]
  have stop : ∀ x6, jW x6 → ¬ H4 (mb A m) → jrI 140 36 [some (.ref 49), some (.int (jI m)), some (.int (jI (mb A m 2))), none, some (.int (jI (uw (mb A m) 12))), some (.int (jI 0)), some (.int (jI x6)), none] [] E A K := fun x6 r6 hz => vd_X7_areTails_36 m rm _ rb _ r12 0 (by decide) x6 r6 E A K ⟨fun _ => ⟨.inl rfl, h0 hz⟩, fun _ => ⟨fun _ => ⟨.inl rfl, h0 hz⟩, fun z => absurd rfl z⟩⟩
  refine ⟨⟨by omega, by omega⟩, by omega, fun q => ?_, fun q => ?_⟩
  · exact vd_X7_areTails_31 m rm _ rb _ r10 _ r12 0 (by decide) E A K (stop _ r10 (fun z => q z.1))
  · refine vd_X7_areTails_31 m rm _ rb _ r10 _ r12 1 (by decide) E A K ?_
    have key := j_loop (P := fun t => 0 ≤ t → t ≤ (uw (mb A m) 12 - uw (mb A m) 10) / 5 → (∀ t', 0 ≤ t' → t' < t → 1 ≤ mb A m (uw (mb A m) 10 + 5 * t' + 4) ∧ mb A m (uw (mb A m) 10 + 5 * t' + 4) ≤ mb A m 2 ∧ UC (mb A m) (uw (mb A m) (uw (mb A m) 10 + 5 * t')) (uw (mb A m) (uw (mb A m) 10 + 5 * t' + 2)) (mb A m (uw (mb A m) 10 + 5 * t' + 4))) → jrI 140 36 [some (.ref 49), some (.int (jI m)), some (.int (jI (mb A m 2))), none, some (.int (jI (uw (mb A m) 12))), some (.int (jI 1)), some (.int (jI (uw (mb A m) 10 + 5 * t))), none] [] E A K) ((uw (mb A m) 12 - uw (mb A m) 10) / 5) (fun t ih t0 t1 hp => by
      have r6 : jW (uw (mb A m) 10 + 5 * t) := ⟨by omega, by omega⟩
      refine vd_X7_areTails_36 m rm _ rb _ r12 1 (by decide) _ r6 E A K ⟨fun q2 => ⟨.inr rfl, h1 ⟨by omega, fun t' a b => hp t' a (by omega)⟩⟩, fun q2 => ⟨fun z => absurd z (by decide), fun _ => k_mbyteAt hm (by omega) ?_⟩⟩
      have hb4 := hb.u m (uw (mb A m) 10 + 5 * t + 4)
      have bad : ¬ H4 (mb A m) → jrI 140 99 [some (.ref 49), some (.int (jI m)), some (.int (jI (mb A m 2))), none, some (.int (jI (uw (mb A m) 12))), none, some (.int (jI (uw (mb A m) 10 + 5 * t))), none] [] E A K := fun hz => vd_X7_areTails_99 m rm _ rb _ r12 _ r6 E A K (vd_X7_areTails_100 m rm _ rb _ r12 _ r6 0 (by decide) E A K (stop _ ⟨by omega, by omega⟩ hz))
      have q2' : t < (uw (mb A m) 12 - uw (mb A m) 10) / 5 := by omega
      refine k_in ⟨by omega, by omega⟩ (by decide) rb (fun a1 a2 => ⟨fun z => absurd z (by decide), fun _ => k_mword hb hm (by omega) (k_mword hb hm (by omega) ?_)⟩) (fun hn => ⟨fun _ => bad (fun z => hn (by have := z.2 t t0 q2'; exact ⟨this.1, this.2.1⟩)), fun z => absurd rfl z⟩)
      refine k_mcanBe hb hm (by omega) (uw_le (hb.u m) _) (uw_le (hb.u m) _) hb4 (fun hU => ⟨fun z => absurd z (by decide), fun _ => vd_X7_areTails_100 m rm _ rb _ r12 _ r6 1 (by decide) E A K ?_⟩) (fun hU => ⟨fun _ => bad (fun z => hU (z.2 t t0 q2').2.2), fun z => absurd rfl z⟩)
      have := ih (by omega) (by omega) (by omega) (fun t' a b => by
        by_cases e : t' = t
        · subst e; exact ⟨a1, a2, hU⟩
        · exact hp t' a (by omega))
      rwa [show uw (mb A m) 10 + 5 * (t + 1) = uw (mb A m) 10 + 5 * t + 5 by omega] at this) 0 (by omega) (by omega) (fun t' a b => by omega)
    rwa [Int.mul_zero, Int.add_zero] at key
theorem k_tailsIn (h : MT A m n) (hK : K ((uw (mb A m) 12 - uw (mb A m) 10) / 5) A) : jrI 202 0 [some (.ref 49), some (.int (jI m))] [] E A K := by
  obtain ⟨l1, l2, l3, l4, l5, l6, l7, l8⟩ := h.le
  obtain ⟨hb, hm, -⟩ := h
  refine vd_X7_tailsIn_0 m ⟨by omega, by omega⟩ E A K (k_mword hb hm (by omega) (k_mword hb hm (by omega) ?_))
  rw [mw_eq, mw_eq]
  exact ⟨⟨by omega, by omega⟩, by omega, ⟨by omega, by omega⟩, hK⟩
theorem k_misFile (h : MT A m n) {p : Int} (hp : uw (mb A m) 6 ≤ p) (hp2 : p + 12 + 2 * (uw (mb A m) (p + 6) / mb A m 2) ≤ uw (mb A m) 8) (h1 : FR (mb A m) p → K 1 A) (h0 : ¬ FR (mb A m) p → K 0 A) : jrI 163 0 [some (.ref 49), some (.int (jI m)), some (.int (jI p)), some (.int (jI (mb A m 2))), none, none, none, none, none, none, none, none, none] [] E A K := by
  obtain ⟨l1, l2, l3, l4, l5, l6, l7, l8⟩ := h.le
  have hMT := h
  obtain ⟨hb, hm, -⟩ := h
  have hu := hb.u m
  have rm : jW m := ⟨by omega, by omega⟩
  have rb : jW (mb A m 2) := ⟨by omega, by omega⟩
  have hs := uw_le hu (p + 6)
  obtain ⟨d1, d2, d3, d4, d5, -⟩ := bdiv (b := mb A m 2) l8 hs.1 hs.1
  have rp : jW p := ⟨by omega, by omega⟩
  have hb10 := hu (p + 10)
  have hb11 := hu (p + 11)
  have rw' : jW (uw (mb A m) (p + 6) / mb A m 2) := ⟨by omega, by omega⟩
  refine vd_X7_isFile_0 m rm p rp _ rb E A K (k_mword hb hm (by omega) ?_)
  rw [mw_eq]
  have blocks : (if uw (mb A m) (p + 6) % mb A m 2 = 0 then mb A m (p + 10) = 0 ∧ mb A m (p + 11) = 0 else 1 ≤ mb A m (p + 10) ∧ mb A m (p + 10) ≤ (uw (mb A m) 12 - uw (mb A m) 10) / 5 ∧ mb A m (p + 11) + uw (mb A m) (p + 6) % mb A m 2 ≤ mb A m (uw (mb A m) 10 + 5 * (mb A m (p + 10) - 1) + 4)) → jrI 163 116 [some (.ref 49), some (.int (jI m)), some (.int (jI p)), some (.int (jI (mb A m 2))), none, some (.int (jI (uw (mb A m) (p + 6) / mb A m 2))), none, none, none, none, none, none, none] [] E A K := fun ht => by
    refine vd_X7_isFile_116 m rm p rp _ rb _ rw' E A K (k_mword hb hm (by omega) ?_)
    rw [mw_eq]
    refine j_loop (P := fun j => 0 ≤ j → j ≤ uw (mb A m) (p + 6) / mb A m 2 → (∀ j', 0 ≤ j' → j' < j → UC (mb A m) (uPlace (mb A m) p j'.toNat) (uw (mb A m) (p + 12 + 2 * j')) (mb A m 2)) → 0 ≤ uPlace (mb A m) p j.toNat ∧ uPlace (mb A m) p j.toNat ≤ 65535 → jrI 163 133 [some (.ref 49), some (.int (jI m)), some (.int (jI p)), some (.int (jI (mb A m 2))), none, some (.int (jI (uw (mb A m) (p + 6) / mb A m 2))), none, none, none, some (.int (jI (uPlace (mb A m) p j.toNat))), some (.int (jI 1)), some (.int (jI j)), none] [] E A K) (uw (mb A m) (p + 6) / mb A m 2) (fun j ih j0 j1 hj pl => ?_) 0 (by omega) d1 (fun j' a b => by omega) (uw_le hu _)
    refine vd_X7_isFile_133 m rm p rp _ rb _ rw' _ ⟨by omega, by omega⟩ 1 (by decide) j ⟨by omega, by omega⟩ E A K ⟨fun q => ⟨.inr rfl, h1 ⟨ht, fun j' a b => hj j' a (by omega)⟩⟩, fun q => ⟨fun z => absurd z (by decide), fun _ => k_mword hb hm (by omega) ?_⟩⟩
    rw [mw_eq]
    have hw := uw_le hu (p + 12 + 2 * j)
    have hjl := jlies_le hw
    have es : uPlace (mb A m) p (j + 1).toNat = uPlace (mb A m) p j.toNat + jlies (uw (mb A m) (p + 12 + 2 * j)) := by
      rw [show (j + 1).toNat = j.toNat + 1 by omega]; simp only [uPlace]; rw [Int.toNat_of_nonneg j0]
    refine k_mcanBe hb hm (by omega) pl hw (by omega) (fun hU => k_lies hw ?_) (fun hU => k_lies hw ?_)
    · have := ih q (by omega) (by omega) (fun j' a b => by
        by_cases e : j' = j
        · subst e; exact hU
        · exact hj j' a (by omega)) (by
        rw [es]
        rcases hU with e | ⟨u1, u2, -⟩
        · rw [e]; simp only [jlies]; rw [if_neg (by decide)]; omega
        · omega)
      rwa [es] at this
    · have hz : ¬ FR (mb A m) p := fun z => hU (z.2 j j0 q)
      exact vd_X7_isFile_133 m rm p rp _ rb _ rw' _ ⟨by omega, by omega⟩ 0 (by decide) (j + 1) ⟨by omega, by omega⟩ E A K ⟨fun _ => ⟨.inl rfl, h0 hz⟩, fun _ => ⟨fun _ => ⟨.inl rfl, h0 hz⟩, fun z => absurd rfl z⟩⟩
  refine ⟨hs.1, by omega, hs.1, by omega, k_mbyteAt hm (by omega) (k_mbyteAt hm (by omega) (k_tailsIn hMT ⟨fun q => h0 (fun z => ?_), fun q => ⟨⟨by omega, by omega⟩, fun q2 => ?_, fun q2 => ⟨fun q3 => h0 (fun z => ?_), fun q3 => ⟨fun q4 => h0 (fun z => ?_), fun q4 => ?_⟩⟩⟩⟩))⟩
  · have := z.1
    split at this <;> omega
  · refine vd_X7_isFile_70 m rm p rp _ rb _ rw' _ ⟨by omega, by omega⟩ _ ⟨by omega, by omega⟩ _ ⟨by omega, by omega⟩ E A K ⟨fun z => by omega, fun _ => ⟨fun q3 => ?_, fun q3 => h0 (fun z => by have := z.1; rw [if_neg q2] at this; omega)⟩⟩
    refine vd_X7_isFile_82 m rm p rp _ rb _ rw' _ ⟨by omega, by omega⟩ _ ⟨by omega, by omega⟩ _ ⟨by omega, by omega⟩ E A K ⟨fun z => by omega, fun _ => k_mword hb hm (by omega) (k_mbyteAt hm (by rw [mw_eq]; omega) ?_)⟩
    rw [mw_eq, show uw (mb A m) 10 + 5 * mb A m (p + 10) - 1 = uw (mb A m) 10 + 5 * (mb A m (p + 10) - 1) + 4 by omega]
    exact ⟨⟨by omega, by omega⟩, fun q4 => blocks (by rw [if_neg q2]; exact ⟨by omega, q, q4⟩), fun q4 => h0 (fun z => by have := z.1; rw [if_neg q2] at this; omega)⟩
  · have := z.1
    rw [if_pos q2] at this; omega
  · have := z.1
    rw [if_pos q2] at this; omega
  · exact vd_X7_isFile_70 m rm p rp _ rb _ rw' _ ⟨by omega, by omega⟩ _ ⟨by omega, by omega⟩ _ ⟨by omega, by omega⟩ E A K ⟨fun _ => vd_X7_isFile_82 m rm p rp _ rb _ rw' _ ⟨by omega, by omega⟩ _ ⟨by omega, by omega⟩ _ ⟨by omega, by omega⟩ E A K ⟨fun _ => blocks (by rw [if_pos q2]; omega), fun z => by omega⟩, fun z => by omega⟩
theorem k_mareInodes (h : MT A m n) (h1 : H5 (mb A m) → K 1 A) (h0 : ¬ H5 (mb A m) → K 0 A) : jrI 139 0 [some (.ref 49), some (.int (jI m)), some (.int (jI (uw (mb A m) 4))), some (.int (jI (mb A m 2))), none, none, none, none, none, none] [] E A K := by
  obtain ⟨l1, l2, l3, l4, l5, l6, l7, l8⟩ := h.le
  have hMT := h
  obtain ⟨hb, hm, -⟩ := h
  have hu := hb.u m
  have rm : jW m := ⟨by omega, by omega⟩
  have rb : jW (mb A m 2) := ⟨by omega, by omega⟩
  have r4 : jW (uw (mb A m) 4) := ⟨by omega, by omega⟩
  have r8 : jW (uw (mb A m) 8) := ⟨by omega, by omega⟩
  refine vd_X7_areInodes_0 m rm _ r4 _ rb E A K (k_mword hb hm (by omega) (k_mword hb hm (by omega) ?_))
  rw [mw_eq, mw_eq]
  refine j_loop (P := fun k => ∀ p, 1 ≤ k → k ≤ uw (mb A m) 4 + 1 → uw (mb A m) 6 ≤ p → p ≤ uw (mb A m) 8 → (uI (mb A m) (uw (mb A m) 4 - k + 1).toNat k p → K 1 A) → (¬ uI (mb A m) (uw (mb A m) 4 - k + 1).toNat k p → K 0 A) → jrI 139 21 [some (.ref 49), some (.int (jI m)), some (.int (jI (uw (mb A m) 4))), some (.int (jI (mb A m 2))), some (.int (jI p)), some (.int (jI (uw (mb A m) 8))), some (.int (jI k)), none, none, none] [] E A K) (uw (mb A m) 4 + 1) (fun k ih p k0 k1 p0 p1 g1 g0 => ?_) 1 _ (by omega) (by omega) (by omega) l2 (by rw [show (uw (mb A m) 4 - 1 + 1).toNat = (uw (mb A m) 4).toNat by omega]; exact h1) (by rw [show (uw (mb A m) 4 - 1 + 1).toNat = (uw (mb A m) 4).toNat by omega]; exact h0)
  have rp : jW p := ⟨by omega, by omega⟩
  have rk : jW k := ⟨by omega, by omega⟩
  refine vd_X7_areInodes_21 m rm _ r4 _ rb p rp _ r8 k rk E A K ⟨fun q => ?_, fun q => ?_⟩
  · rw [show (uw (mb A m) 4 - k + 1).toNat = 0 by omega] at g1 g0
    exact ⟨fun z => g0 z, fun z => g1 z⟩
  rw [show (uw (mb A m) 4 - k + 1).toNat = (uw (mb A m) 4 - (k + 1) + 1).toNat + 1 by omega] at g1 g0
  simp only [uI] at g1 g0
  have hrb := uw_le hu (p + 6)
  obtain ⟨d1, d2, -⟩ := bdiv (b := mb A m 2) l8 hrb.1 hrb.1
  have hl := uLen_ge (n := 0) hu l8 p
  refine k_inode hb hm ⟨k0, by rw [mw_eq]; omega⟩ ?_
  rw [show mRow A m k = uRow (mb A m) k from rfl]
  refine ⟨fun q2 => g0 (fun z => q2 z.1), fun q2 => ⟨fun q3 => k_mbyteAt hm (by omega) ?_, fun q3 => g0 (fun z => by have := z.2.1; have := z.2.2.1; have := hl.2.1 z.2.1; omega)⟩⟩
  have next : (mb A m p = 2 → FR (mb A m) p) → ∀ b, b = uLen (mb A m) p → uLen (mb A m) p ≠ 0 → p + b ≤ uw (mb A m) 8 → jrI 139 157 [some (.ref 49), some (.int (jI m)), some (.int (jI (uw (mb A m) 4))), some (.int (jI (mb A m 2))), some (.int (jI p)), some (.int (jI (uw (mb A m) 8))), some (.int (jI k)), none, some (.int (jI b)), none] [] E A K := fun hF b eb hz hle => by
    have := hl.2.1 hz
    refine vd_X7_areInodes_157 m rm _ r4 _ rb p rp _ r8 k rk b ⟨by omega, by omega⟩ E A K (ih (by omega) (p + b) (by omega) (by omega) (by omega) hle (fun z => g1 ?_) (fun z => g0 (fun y => z ?_)))
    · rw [eb] at z hle; exact ⟨q2, hz, hle, hF, z⟩
    · rw [eb]; exact y.2.2.2.2
  have hbp := hu p
  have body : ∀ y, (mb A m p = 1 ∧ y = 12 ∨ mb A m p = 2 ∧ y = 12 ∨ mb A m p ≠ 1 ∧ mb A m p ≠ 2 ∧ y = 6) → jrI 139 81 [some (.ref 49), some (.int (jI m)), some (.int (jI (uw (mb A m) 4))), some (.int (jI (mb A m 2))), some (.int (jI p)), some (.int (jI (uw (mb A m) 8))), some (.int (jI k)), some (.int (jI (mb A m p))), none, none] [.int (jI y)] E A K := fun y hy => by
    refine vd_X7_areInodes_81 m rm _ r4 _ rb p rp _ r8 k rk _ ⟨by omega, by omega⟩ y ⟨by omega, by omega⟩ E A K (k_in ⟨by omega, by omega⟩ (by decide) (by decide) (fun a1 a2 => ⟨fun z => absurd z (by decide), fun _ => ⟨⟨by omega, by omega⟩, fun q4 => ?_, fun q4 => g0 (fun z => ?_)⟩⟩) (fun hno => ⟨fun _ => g0 (fun z => hno (by have := hl.2.1 z.2.1; omega)), fun z => absurd rfl z⟩))
    · refine ⟨fun q5 => ?_, fun q5 => ?_⟩
      · have ey : y = uLen (mb A m) p := by
          rcases hy with ⟨e1, e2⟩ | ⟨e1, e2⟩ | ⟨e1, e2, e3⟩
          · rw [hl.2.2.1 e1]; exact e2
          · exact absurd e1 q5
          · rw [hl.2.2.2.2 (by omega)]; exact e3
        exact next (fun z => absurd z q5) y ey (by omega) q4
      · have el : uLen (mb A m) p = 12 + 2 * (uw (mb A m) (p + 6) / mb A m 2) := by unfold uLen; rw [if_neg (by omega), if_pos q5]
        have ey : y = 12 := by omega
        subst ey
        refine k_mword hb hm (by omega) ?_
        rw [mw_eq]
        refine ⟨hrb.1, by omega, ⟨by omega, by omega⟩, fun q6 => g0 (fun z => by have := z.2.2.1; omega), fun q6 => ?_⟩
        exact k_misFile hMT p0 (by omega) (fun hF => ⟨fun _ => next (fun _ => hF) _ el.symm (by omega) q6, fun z => absurd z (by decide)⟩) (fun hF => ⟨fun z => absurd rfl z, fun _ => g0 (fun y => hF (y.2.2.2.1 q5))⟩)
    · have h2 := z.2.2.1
      have h3 := hl.2.1 z.2.1
      rcases hy with ⟨e1, e2⟩ | ⟨e1, e2⟩ | ⟨e1, e2, e3⟩
      · have := hl.2.2.1 e1; omega
      · have := hl.2.2.2.1 e1; omega
      · omega
  exact ⟨fun q4 => ⟨fun q5 => body 6 (.inr (.inr ⟨q4, q5, rfl⟩)), fun q5 => body 12 (.inr (.inl ⟨q5, rfl⟩))⟩, fun q4 => body 12 (.inl ⟨q4, rfl⟩)⟩
end KM
