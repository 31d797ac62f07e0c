section KT
variable {E : jE} {A : jA} {u : Int → Int} {n : Int} {K : Int → jA → Prop}
theorem CT.kind (h : CT A u n) (hR : RW u) {k : Int} (h1 : 1 ≤ k) (h2 : k ≤ uw u 4) : cKind A 19 k = uKind u k := by
  obtain ⟨l1, l2, l3, l4, l5, l6, l7, l8⟩ := h.le
  have ra := hR.at h.2.1 l8 h1 h2
  unfold cKind uKind; rw [h.1.row h.2.1 h1 (by omega), h.1.b (by omega) (by omega)]
theorem CT.many (h : CT A u n) (hR : RW u) {k : Int} (h1 : 1 ≤ k) (h2 : k ≤ uw u 4) (hk : uKind u k = 1) : cSize A 19 k = uMany u k := by
  obtain ⟨l1, l2, l3, l4, l5, l6, l7, l8⟩ := h.le
  have ra := hR.at h.2.1 l8 h1 h2
  have r12 := ra.2.2.2.2 (by omega)
  unfold cSize; rw [h.kind hR h1 h2, if_neg (by omega), if_pos hk, h.1.row h.2.1 h1 (by omega), h.1.w (by omega) (by omega)]; rfl
theorem CT.first (h : CT A u n) (hR : RW u) {k : Int} (h1 : 1 ≤ k) (h2 : k ≤ uw u 4) (hk : uKind u k = 1) : cFirst A 19 k = uw u 8 + uw u (uRow u k + 6) := by
  obtain ⟨l1, l2, l3, l4, l5, l6, l7, l8⟩ := h.le
  have ra := hR.at h.2.1 l8 h1 h2
  have r12 := ra.2.2.2.2 (by omega)
  unfold cFirst; rw [h.1.row h.2.1 h1 (by omega), h.1.w (by omega) (by omega), h.f.2.2.2.2.1]
theorem CT.home (h : CT A u n) (hR : RW u) {k : Int} (h1 : 1 ≤ k) (h2 : k ≤ uw u 4) (hk : uKind u k = 1) : cHome A 19 k = uHome u k := by
  obtain ⟨l1, l2, l3, l4, l5, l6, l7, l8⟩ := h.le
  have ra := hR.at h.2.1 l8 h1 h2
  have r12 := ra.2.2.2.2 (by omega)
  unfold cHome uHome; rw [h.1.row h.2.1 h1 (by omega), h.1.w (by omega) (by omega)]
theorem CT.nam (h : CT A u n) (hR : RW u) {k : Int} (h1 : 1 ≤ k) (h2 : k ≤ uw u 4) : cb A 19 (cRow A 19 k + 5) = u (uRow u k + 5) := by
  obtain ⟨l1, l2, l3, l4, l5, l6, l7, l8⟩ := h.le
  have ra := hR.at h.2.1 l8 h1 h2
  rw [h.1.row h.2.1 h1 (by omega), h.1.b (by omega) (by omega)]
/-- the class's counts -/
def nset (A : jA) (f : Int → Int) : jA := fun o j => if o = 37 then f j else A o j
theorem nset_row {f : Int → Int} {o : Nat} (h : o ≠ 37) : nset A f o = A o := by funext j; exact if_neg h
theorem nset_37 {f : Int → Int} : nset A f 37 = f := by funext j; exact if_pos rfl
theorem CT.ns {f : Int → Int} (h : CT A u n) : CT (nset A f) u n := by
  obtain ⟨h1, h2⟩ := h
  refine ⟨?_, h2⟩
  unfold CR IM at h1 ⊢
  rw [nset_row (show (19 : Nat) ≠ 37 by decide), nset_row (show (19 + 1 : Nat) ≠ 37 by decide)]
  exact h1
theorem k_namedAtHome (h : CT A u n) (hR : RW u) (hV : VAd u) (h497 : uw u 4 ≤ 497) (h1 : ∀ f, (∀ t, 0 ≤ t → t < 498 → f t = ucN u t (uw u 4).toNat) → AH u (uw u 4 + 1) → K 1 (nset A f)) (h0 : ∀ f, ¬ AH u (uw u 4 + 1) → K 0 (nset A f)) : jrI 52 0 [some (.ref 36), some (.ref 19), none, none, none, none, none] [] E A K := by
  obtain ⟨l1, l2, l3, l4, l5, l6, l7, l8⟩ := h.le
  have hb := h.2.1
  refine vd_X2_areFoldersNamedAtHome_0 E A K (k_fill (c := 37) rfl (by decide) ?_)
  have e0 : jfill A 37 0 (jN 37) 0 = nset A (fun j => if 0 ≤ j ∧ j < 498 then 0 else A 37 j) := by
    funext o j; simp only [jfill, nset]
    have hN : (jN 37 : Int) = 498 := rfl
    rw [hN]
    by_cases ho : o = 37
    · rw [if_pos ho]
      by_cases hj : 0 ≤ j ∧ j < 498
      · rw [if_pos ⟨ho, hj⟩, if_pos hj]
      · rw [if_neg (fun z => hj z.2), if_neg hj, ho]
    · rw [if_neg ho, if_neg (fun z => ho z.1)]
  rw [e0]
  refine j_loop (P := fun k => ∀ f : Int → Int, 1 ≤ k → k ≤ uw u 4 + 1 → (∀ t, 0 ≤ t → t < 498 → f t = ucN u t (k - 1).toNat) → AH u k → jrI 52 10 [some (.ref 36), some (.ref 19), some (.int (jI k)), none, none, none, none] [] E (nset A f) K) (uw u 4 + 1) (fun k ih f k0 k1 hf hA => ?_) 1 _ (by omega) (by omega) (fun t t0 t1 => if_pos ⟨t0, t1⟩) (fun k i a b => by omega)
  have hB := h.ns (f := f)
  have hi := hB.1.1
  have f3 : nset A f 19 3 = uw u 4 := hB.f.2.2.1
  have rk : jW k := ⟨by omega, by omega⟩
  have sk : jS k := ⟨by omega, by omega⟩
  refine vd_X2_areFoldersNamedAtHome_10 k rk E _ K ⟨fun q => ?_, fun q => ?_⟩
  · rw [f3] at q
    have ek : k = uw u 4 + 1 := by omega
    subst ek
    refine h1 f (fun t a b => ?_) hA
    rw [hf t a b, show (uw u 4 + 1 - 1).toNat = (uw u 4).toNat by omega]
  rw [f3] at q
  have hs : ∀ t, ucN u t (k + 1 - 1).toNat = ucN u t (k - 1).toNat + ucF u t k := fun t => by
    rw [show (k + 1 - 1).toNat = (k - 1).toNat + 1 by omega]
    simp only [ucN]
    rw [show (((k - 1).toNat : Nat) : Int) + 1 = k by omega]
  refine k_kindOf hi sk ?_
  rw [hB.kind hR k0 q]
  refine ⟨fun q2 => ?_, fun q2 => ?_⟩
  · refine vd_X2_areFoldersNamedAtHome_36 k rk 0 (by decide) E _ K ⟨fun z => absurd rfl z, fun _ => vd_X2_areFoldersNamedAtHome_50 k rk 0 (by decide) 0 (by decide) E _ K (vd_X2_areFoldersNamedAtHome_55 k rk 0 (by decide) 0 (by decide) 0 (by decide) E _ K ⟨fun _ => ih (by omega) f (by omega) (by omega) (fun t a b => ?_) (fun k' i a b c => ?_), fun z => absurd z (by decide)⟩)⟩
    · rw [hs, hf t a b]; unfold ucF; rw [if_neg q2]; omega
    · by_cases e : k' = k
      · subst e; exact absurd c q2
      · exact hA k' i a (by omega) c
  · have hM : 0 ≤ uMany u k ∧ uMany u k ≤ 65535 := uw_le hb _
    have hw := uw_le hb (uRow u k + 6)
    have hw8 := uw_le hb 8
    obtain ⟨dd1, dd2, dd3, dd4⟩ := hV k k0 q q2
    refine k_sizeOf hi sk ?_
    rw [hB.many hR k0 q q2]
    have hcF : ∀ t, ucF u t k = jcnt (uNum u k) t (uMany u k).toNat := fun t => by unfold ucF; rw [if_pos q2]
    -- the folder's names
    have inner : ∀ y, jW y → (uMany u k ≠ 0 → y = uw u 8 + uw u (uRow u k + 6)) → jrI 52 50 [some (.ref 36), some (.ref 19), some (.int (jI k)), some (.int (jI (uMany u k))), none, none, none] [.int (jI y)] E (nset A f) K := fun y ry hy => by
      refine vd_X2_areFoldersNamedAtHome_50 k rk _ ⟨by omega, by omega⟩ y ry E _ K ?_
      refine j_loop (P := fun i => ∀ g : Int → Int, 0 ≤ i → i ≤ uMany u k → (∀ t, 0 ≤ t → t < 498 → g t = ucN u t (k - 1).toNat + jcnt (uNum u k) t i.toNat) → (∀ i', 0 ≤ i' → i' < i → uKind u (uNum u k i') = 1 → uHome u (uNum u k i') = k) → jrI 52 55 [some (.ref 36), some (.ref 19), some (.int (jI k)), some (.int (jI (uMany u k))), some (.int (jI y)), some (.int (jI i)), none] [] E (nset A g) K) (uMany u k) (fun i ih2 g i0 i1 hg hh => ?_) 0 f (by omega) hM.1 (fun t a b => by rw [hf t a b]; show _ = _ + 0; omega) (fun i' a b => by omega)
      have hC := h.ns (f := g)
      have hic := hC.1.1
      have ri : jW i := ⟨by omega, by omega⟩
      refine vd_X2_areFoldersNamedAtHome_55 k rk _ ⟨by omega, by omega⟩ y ry i ri E _ K ⟨fun q3 => ih (by omega) g (by omega) (by omega) (fun t a b => ?_) (fun k' i' a b c d e => ?_), fun q3 => ?_⟩
      · rw [hs, hg t a b, hcF, show i = uMany u k by omega]
      · by_cases e' : k' = k
        · subst e'; exact hh i' d (by omega)
        · exact hA k' i' a (by omega) c d e
      have ey := hy (by omega)
      refine k_wordAt hic ⟨by omega, by omega⟩ ?_
      have en : cw (nset A g) 19 (y + 4 * i + 2) = uNum u k i := by rw [ey, hC.1.w (by omega) (by omega)]; rfl
      rw [en]
      obtain ⟨n1, n2, n3, n4⟩ := dd3 i i0 q3
      have st : jS (uNum u k i) := ⟨by omega, by omega⟩
      refine k_kindOf hic st ?_
      rw [hC.kind hR n3 n4]
      have next : (uKind u (uNum u k i) = 1 → uHome u (uNum u k i) = k) → jrI 52 98 [some (.ref 36), some (.ref 19), some (.int (jI k)), some (.int (jI (uMany u k))), some (.int (jI y)), some (.int (jI i)), some (.int (jI (uNum u k i)))] [] E (nset A g) K := fun hq => by
        refine vd_X2_areFoldersNamedAtHome_98 k rk _ ⟨by omega, by omega⟩ y ry i ri _ ⟨by omega, by omega⟩ E _ K ⟨fun z => by omega, fun _ => ?_⟩
        rw [nset_37]
        have gle := hg (uNum u k i) (by omega) (by omega)
        have nle := ucN_le hb (uNum u k i) (k - 1).toNat
        have jle := jcnt_le (uNum u k) (uNum u k i) i.toNat
        refine ⟨by omega, ⟨by omega, by omega⟩, by omega, fun A4 e4 => ?_⟩
        have eA : A4 = nset A (fun j => if j = uNum u k i then g (uNum u k i) + 1 else g j) := by
          rw [e4]; funext o j; simp only [jup, nset]
          by_cases ho : o = 37
          · rw [if_pos ho, if_pos ho]
            by_cases hj : j = uNum u k i
            · rw [if_pos ⟨ho, hj⟩, if_pos hj]
            · rw [if_neg (fun z => hj z.2), if_neg hj]
          · rw [if_neg ho, if_neg ho, if_neg (fun z => ho z.1)]
        rw [eA]
        refine vd_X2_areFoldersNamedAtHome_119 k rk _ ⟨by omega, by omega⟩ y ry i ri E _ K (ih2 q3 _ (by omega) (by omega) (fun t a b => ?_) (fun i' a b => ?_))
        · rw [show (i + 1).toNat = i.toNat + 1 by omega]
          simp only [jcnt]
          rw [Int.toNat_of_nonneg i0]
          by_cases e : t = uNum u k i
          · rw [if_pos e, if_pos e.symm, e]; omega
          · rw [if_neg e, if_neg (fun z => e z.symm), hg t a b]; omega
        · by_cases e : i' = i
          · subst e; exact hq
          · exact hh i' a (by omega)
      refine ⟨fun q4 => next (fun z => absurd z q4), fun q4 => k_homeOf hic st ?_⟩
      rw [hC.home hR n3 n4 q4]
      exact ⟨fun q5 => next (fun _ => q5), fun q5 => h0 g (fun z => q5 (z k i k0 (by omega) q2 i0 q3 q4))⟩
    refine vd_X2_areFoldersNamedAtHome_36 k rk _ ⟨by omega, by omega⟩ E _ K ⟨fun z => k_firstNamePlace hi sk ?_, fun z => inner 0 (by decide) (fun y => absurd z y)⟩
    rw [hB.first hR k0 q q2]
    exact inner _ ⟨by omega, by omega⟩ (fun _ => rfl)
theorem k_comesToFirst (h : CT A u n) (hR : RW u) {k : Int} (k1 : 1 ≤ k) (k2 : k ≤ uw u 4) (hk : uKind u k = 1) (h1 : (GH u → ∃ j : Nat, (j : Int) ≤ uw u 4 ∧ uhi u k j = 1) → K 1 A) (h0 : (GH u → ¬ ∃ j : Nat, (j : Int) ≤ uw u 4 ∧ uhi u k j = 1) → K 0 A) : jrI 58 0 [some (.ref 19), some (.int (jI k)), none, none] [] E A K := by
  obtain ⟨l1, l2, l3, l4, l5, l6, l7, l8⟩ := h.le
  have hb := h.2.1
  have hi := h.1.1
  have f3 := h.f.2.2.1
  refine vd_X2_comesToFirst_0 k ⟨by omega, by omega⟩ E A K ?_
  refine j_loop (P := fun s => ∀ a, 0 ≤ s → s ≤ uw u 4 → 0 ≤ a → a ≤ 65535 → (GH u → a = uhi u k s.toNat ∧ ∀ j : Nat, (j : Int) < s → uhi u k j ≠ 1) → jrI 58 4 [some (.ref 19), none, some (.int (jI a)), some (.int (jI s))] [] E A K) (uw u 4) (fun s ih a s0 s1 a0 a1 ha => ?_) 0 k (by omega) (by omega) (by omega) (by omega) (fun _ => ⟨rfl, fun j z => by omega⟩)
  have ra : jW a := ⟨by omega, by omega⟩
  have fin1 : a = 1 → jrI 58 29 [none, none, some (.int (jI a)), none] [] E A K := fun e => vd_X2_comesToFirst_29 a ra E A K ⟨fun z => absurd e z, fun _ => h1 (fun g => ⟨s.toNat, by omega, by rw [← (ha g).1]; exact e⟩)⟩
  refine vd_X2_comesToFirst_4 a ra s ⟨by omega, by omega⟩ E A K ⟨fun q => ?_, fun q => ⟨fin1, fun q2 => k_homeOf hi ⟨by omega, by omega⟩ ?_⟩⟩
  · rw [f3] at q
    by_cases e : a = 1
    · exact fin1 e
    · refine vd_X2_comesToFirst_29 a ra E A K ⟨fun _ => h0 (fun g => ?_), fun z => absurd z e⟩
      rintro ⟨j, j1, j2⟩
      obtain ⟨c1, c2⟩ := ha g
      by_cases ej : (j : Int) = s
      · rw [show j = s.toNat by omega] at j2; omega
      · exact c2 j (by omega) j2
  · rw [f3] at q
    have hw := cw_le hi (cRow A 19 a + 10)
    refine ih q _ (by omega) (by omega) hw.1 hw.2 (fun g => ?_)
    obtain ⟨c1, c2⟩ := ha g
    obtain ⟨d1, d2, d3⟩ := uhi_in g k1 k2 hk s.toNat
    rw [← c1] at d1 d2 d3
    refine ⟨?_, fun j hj => ?_⟩
    · rw [show (s + 1).toNat = s.toNat + 1 by omega]
      show cHome A 19 a = uHome u (uhi u k s.toNat)
      rw [← c1]; exact h.home hR d1 d2 d3
    · by_cases ej : (j : Int) = s
      · rw [show j = s.toNat by omega, ← c1]; exact q2
      · exact c2 j (by omega)
theorem k_isTree (h : CT A u n) (hR : RW u) (hV : VAd u) (h497 : uw u 4 ≤ 497) (h1 : ∀ f, H7c u → K 1 (nset A f)) (h0 : ∀ f, ¬ H7c u → K 0 (nset A f)) : jrI 64 0 [some (.ref 36), some (.ref 19), none, none] [] E A K := by
  obtain ⟨l1, l2, l3, l4, l5, l6, l7, l8⟩ := h.le
  have hb := h.2.1
  have hi := h.1.1
  have f3 := h.f.2.2.1
  have h0' : ¬ H7c u → K 0 A := fun z => by
    have := h0 (A 37) z
    rwa [show nset A (A 37) = A by funext o j; simp only [nset]; by_cases e : o = 37; rw [if_pos e, e]; rw [if_neg e]] at this
  have s1 : jS 1 := ⟨by decide, by decide⟩
  refine vd_X2_isTreeRight_0 E A K (k_kindOf hi s1 ?_)
  rw [h.kind hR (by omega) l6]
  refine ⟨fun q => h0' (fun z => q z.1.1), fun q1 => k_inamesOf hi s1 ?_⟩
  rw [h.nam hR (by omega) l6]
  refine ⟨fun q => h0' (fun z => q z.1.2.1), fun q2 => k_homeOf hi s1 ?_⟩
  rw [h.home hR (by omega) l6 q1]
  refine ⟨fun q3 => ⟨fun q => by omega, fun _ => ?_⟩, fun q => h0' (fun z => q z.1.2.2)⟩
  have hT : T7 u := ⟨q1, q2, q3⟩
  refine k_namedAtHome h hR hV h497 (fun f hf hA => ⟨fun z => absurd z (by decide), fun _ => ?_⟩) (fun f hA => ⟨fun _ => h0 f (fun z => hA z.2.1), fun z => absurd rfl z⟩)
  rw [nset_37, hf 1 (by omega) (by omega)]
  refine ⟨fun q4 => ?_, fun q4 => h0 f (fun z => q4 z.2.2.1)⟩
  have hB := h.ns (f := f)
  have hib := hB.1.1
  refine j_loop (P := fun k => 2 ≤ k → k ≤ uw u 4 + 1 → (∀ k', 2 ≤ k' → k' < k → N7 u k' ∧ (uKind u k' = 1 → GH u → ∃ j : Nat, (j : Int) ≤ uw u 4 ∧ uhi u k' j = 1)) → jrI 64 60 [some (.ref 36), some (.ref 19), some (.int (jI k)), none] [] E (nset A f) K) (uw u 4 + 1) (fun k ih k0 k1 hN => ?_) 2 (by omega) (by omega) (fun k' a b => by omega)
  have rk : jW k := ⟨by omega, by omega⟩
  have sk : jS k := ⟨by omega, by omega⟩
  refine vd_X2_isTreeRight_60 k rk E _ K ⟨fun q5 => h1 f ⟨hT, hA, q4, ?_⟩, fun q5 => k_kindOf hib sk ?_⟩
  · rw [hB.f.2.2.1] at q5
    have hG : GH u := GH.c hb hT hA (fun k' a b => (hN k' a (by omega)).1.1)
    exact fun k' a b => ⟨(hN k' a (by omega)).1, fun c => (hN k' a (by omega)).2 c hG⟩
  rw [hB.f.2.2.1] at q5
  rw [hB.kind hR (by omega) q5, nset_37, hf k (by omega) (by omega)]
  have hkk := hR.at hb l8 (show 1 ≤ k by omega) q5
  have r3 : jW (uKind u k) := ⟨by omega, by omega⟩
  refine ⟨by omega, fun q6 => h0 f (fun z => (z.2.2.2 k k0 q5).1.1 q6), fun q6 => ⟨by omega, k_inamesOf hib sk ?_⟩⟩
  rw [hB.nam hR (by omega) q5]
  refine ⟨fun q7 => h0 f (fun z => q7 (z.2.2.2 k k0 q5).1.2.1), fun q7 => ?_⟩
  have next : (uKind u k ≠ 2 → ucN u k (uw u 4).toNat ≤ 1) → (uKind u k = 1 → GH u → ∃ j : Nat, (j : Int) ≤ uw u 4 ∧ uhi u k j = 1) → jrI 64 127 [some (.ref 36), some (.ref 19), some (.int (jI k)), none] [] E (nset A f) K := fun ha hc => by
    refine vd_X2_isTreeRight_127 k rk E _ K (ih (by omega) (by omega) (by omega) (fun k' a b => ?_))
    by_cases e : k' = k
    · subst e; exact ⟨⟨q6, q7, ha⟩, hc⟩
    · exact hN k' a (by omega)
  have tail : (uKind u k ≠ 2 → ucN u k (uw u 4).toNat ≤ 1) → jrI 64 112 [some (.ref 36), some (.ref 19), some (.int (jI k)), some (.int (jI (uKind u k)))] [] E (nset A f) K := fun ha => by
    refine vd_X2_isTreeRight_112 k rk _ r3 E _ K ⟨fun q8 => next ha (fun z => absurd z q8), fun q8 => k_comesToFirst hB hR (by omega) q5 q8 (fun hc => ⟨fun _ => next ha (fun _ => hc), fun z => absurd z (by decide)⟩) (fun hc => ⟨fun z => absurd rfl z, fun _ => h0 f (fun z => ?_)⟩)⟩
    exact hc (GH.c hb hT hA (fun k' a b => (z.2.2.2 k' a b).1.1)) ((z.2.2.2 k k0 q5).2 q8)
  have e37 : nset A f 37 k = ucN u k (uw u 4).toNat := by rw [nset_37, hf k (by omega) (by omega)]
  rw [e37]
  refine ⟨fun q8 => tail (fun z => absurd q8 z), fun q8 => ⟨by omega, fun q9 => h0 f (fun z => ?_), fun q9 => tail (fun _ => q9)⟩⟩
  have := (z.2.2.2 k k0 q5).1.2.2 q8
  omega
end KT
