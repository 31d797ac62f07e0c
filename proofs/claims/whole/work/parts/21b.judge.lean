/-! THE STEPS OF THE JUDGE: head, places, tails, rows, folders -/
def H1 (u : Int → Int) (n : Int) : Prop := 18 ≤ n ∧ u 0 = 84 ∧ u 1 = 73 ∧ (u 2 = 8 ∨ u 2 = 16 ∨ u 2 = 32) ∧ u 3 = 0
def H2 (u : Int → Int) (n : Int) : Prop := uw u 14 = n ∧ 18 ≤ uw u 6 ∧ uw u 6 ≤ uw u 8 ∧ uw u 8 ≤ uw u 10 ∧ uw u 10 ≤ uw u 12 ∧ 1 ≤ uw u 4 ∧ uw u 12 + 2 * uw u 4 = n
def H3 (u : Int → Int) (n : Int) : Prop := uw u 16 = usum u n.toNat % 65521
def H4 (u : Int → Int) : Prop := (uw u 12 - uw u 10) % 5 = 0 ∧ VAt u
/-- a file's row is right -/
def FR (u : Int → Int) (p : Int) : Prop := (if uw u (p + 6) % u 2 = 0 then u (p + 10) = 0 ∧ u (p + 11) = 0 else 1 ≤ u (p + 10) ∧ u (p + 10) ≤ (uw u 12 - uw u 10) / 5 ∧ u (p + 11) + uw u (p + 6) % u 2 ≤ u (uw u 10 + 5 * (u (p + 10) - 1) + 4)) ∧ ∀ j, 0 ≤ j → j < uw u (p + 6) / u 2 → UC u (uPlace u p j.toNat) (uw u (p + 12 + 2 * j)) (u 2)
/-- how long the row at p is, 0 if there is no such kind -/
def uLen (u : Int → Int) (p : Int) : Int := if u p = 1 then 12 else if u p = 2 then 12 + 2 * (uw u (p + 6) / u 2) else if u p = 3 then 6 else 0
/-- the rows from number k on, which lies at p -/
def uI (u : Int → Int) : Nat → Int → Int → Prop
  | 0, _, p => p = uw u 8
  | f + 1, k, p => uRow u k = p ∧ uLen u p ≠ 0 ∧ p + uLen u p ≤ uw u 8 ∧ (u p = 2 → FR u p) ∧ uI u f (k + 1) (p + uLen u p)
def H5 (u : Int → Int) : Prop := uI u (uw u 4).toNat 1 (uw u 6)
/-- the names of a folder, many of them at p -/
def NS (u : Int → Int) (p many : Int) : Prop := (∀ i, 0 ≤ i → i < many → 1 ≤ uw u (p + 4 * i) ∧ uw u (p + 4 * i) ≤ 999 ∧ 1 ≤ uw u (p + 4 * i + 2) ∧ uw u (p + 4 * i + 2) ≤ uw u 4) ∧ ∀ i, 0 ≤ i → i + 1 < many → uw u (p + 4 * i) < uw u (p + 4 * (i + 1))
def uF (u : Int → Int) : Nat → Int → Int → Prop
  | 0, _, p => p = uw u 10
  | f + 1, k, p => if uKind u k = 1 then uw u 8 + uw u (uRow u k + 6) = p ∧ p + 4 * uMany u k ≤ uw u 10 ∧ NS u p (uMany u k) ∧ uF u f (k + 1) (p + 4 * uMany u k) else uF u f (k + 1) p
def H6 (u : Int → Int) : Prop := uF u (uw u 4).toNat 1 (uw u 8)
section KJ
variable {E : jE} {A : jA} {u : Int → Int} {n : Int} {K : Int → jA → Prop}
/-- bytes of the tape, its head read -/
def CT (A : jA) (u : Int → Int) (n : Int) : Prop := CR A 19 u n ∧ UB u ∧ n ≤ 4000 ∧ H1 u n ∧ H2 u n
theorem CT.le (h : CT A u n) : 18 ≤ uw u 6 ∧ uw u 6 ≤ uw u 8 ∧ uw u 8 ≤ uw u 10 ∧ uw u 10 ≤ uw u 12 ∧ uw u 12 + 2 * uw u 4 = n ∧ 1 ≤ uw u 4 ∧ n ≤ 4000 ∧ (u 2 = 8 ∨ u 2 = 16 ∨ u 2 = 32) := by
  obtain ⟨h1, h2, h3, h4, h5⟩ := h
  exact ⟨h5.2.1, h5.2.2.1, h5.2.2.2.1, h5.2.2.2.2.1, h5.2.2.2.2.2.2, h5.2.2.2.2.2.1, h3, h4.2.2.2.1⟩
theorem CT.f (h : CT A u n) : A 19 1 = n ∧ A 19 2 = u 2 ∧ A 19 3 = uw u 4 ∧ A 19 4 = uw u 6 ∧ A 19 5 = uw u 8 ∧ A 19 6 = uw u 10 ∧ A 19 7 = uw u 12 := ⟨h.1.2.1, h.1.2.2.2⟩
theorem k_areTails (h : CT A u n) (h1 : H4 u → K 1 A) (h0 : ¬ H4 u → K 0 A) : jrI 57 0 [some (.ref 19), none, none, none, none] [] E A K := by
  obtain ⟨l1, l2, l3, l4, l5, l6, l7, l8⟩ := h.le
  obtain ⟨f1, f2, f3, f4, f5, f6, f7⟩ := h.f
  have hb := h.2.1
  have hi := h.1.1
  refine vd_X2_areTailsRight_0 E A K (k_tailBlocks hi (by omega) (k_tailRow hi ⟨by omega, by omega⟩ ?_))
  rw [f6, f7]
  refine ⟨fun q => ?_, fun q => h0 (fun z => q (by have := z.1; omega))⟩
  have key := j_loop (P := fun t => 0 ≤ t → t ≤ (uw u 12 - uw u 10) / 5 → (∀ t', 0 ≤ t' → t' < t → 1 ≤ u (uw u 10 + 5 * t' + 4) ∧ u (uw u 10 + 5 * t' + 4) ≤ u 2 ∧ UC u (uw u (uw u 10 + 5 * t')) (uw u (uw u 10 + 5 * t' + 2)) (u (uw u 10 + 5 * t' + 4))) → jrI 57 21 [some (.ref 19), some (.int (jI ((uw u 12 - uw u 10) / 5))), some (.int (jI t)), none, none] [] E A K) ((uw u 12 - uw u 10) / 5) (fun t ih t0 t1 hp => by
    refine vd_X2_areTailsRight_21 _ ⟨by omega, by omega⟩ t ⟨by omega, by omega⟩ E A K ⟨fun q2 => h1 ⟨by omega, fun t' a b => hp t' a (by omega)⟩, fun q2 => k_tailRow hi ⟨by omega, by omega⟩ ?_⟩
    rw [f6]
    refine k_byteAt hi ⟨by omega, by omega⟩ ?_
    rw [h.1.b (by omega) (by omega), f2]
    have hb4 := hb (uw u 10 + 5 * t + 4)
    refine ⟨fun q3 => h0 (fun z => by have := z.2 t t0 q2; omega), fun q3 => ⟨fun q4 => h0 (fun z => by have := z.2 t t0 q2; omega), fun q4 => k_wordAt hi ⟨by omega, by omega⟩ ?_⟩⟩
    rw [h.1.w (by omega) (by omega)]
    refine k_wordAt hi ⟨by omega, by omega⟩ ?_
    rw [h.1.w (by omega) (by omega)]
    refine k_canBeBlock h.1 hb (by omega) (by omega) (uw_le hb _) (uw_le hb _) hb4 (fun hU => ⟨fun _ => ih q2 (by omega) (by omega) (fun t' a b => ?_), fun z => absurd z (by decide)⟩) (fun hU => ⟨fun z => absurd rfl z, fun _ => h0 (fun z => hU (z.2 t t0 q2).2.2)⟩)
    by_cases e : t' = t
    · subst e; exact ⟨q3, q4, hU⟩
    · exact hp t' a (by omega)) 0 (by omega) (by omega) (fun t' a b => by omega)
  exact key
theorem k_isFileRight (h : CT A u n) {p : Int} (hp : uw u 6 ≤ p) (hp2 : p + 12 + 2 * (uw u (p + 6) / u 2) ≤ uw u 8) (h1 : FR u p → K 1 A) (h0 : ¬ FR u p → K 0 A) : jrI 61 0 [some (.ref 19), some (.int (jI p)), none, none, none, none, none] [] E A K := by
  obtain ⟨l1, l2, l3, l4, l5, l6, l7, l8⟩ := h.le
  obtain ⟨f1, f2, f3, f4, f5, f6, f7⟩ := h.f
  have hb := h.2.1
  have hi := h.1.1
  have hs := uw_le hb (p + 6)
  obtain ⟨d1, d2, d3, d4, d5, -⟩ := bdiv (b := u 2) l8 hs.1 hs.1
  refine vd_X2_isFileRight_0 p ⟨by omega, by omega⟩ E A K (k_wordAt hi ⟨by omega, by omega⟩ ?_)
  rw [h.1.w (by omega) (by omega)]
  refine k_wholeBlocks hi (by omega) ⟨hs.1, by omega⟩ ?_
  rw [f2, d3]
  have hb10 := hb (p + 10)
  have hb11 := hb (p + 11)
  -- the blocks, once the tail is right
  have blocks : (if uw u (p + 6) % u 2 = 0 then u (p + 10) = 0 ∧ u (p + 11) = 0 else 1 ≤ u (p + 10) ∧ u (p + 10) ≤ (uw u 12 - uw u 10) / 5 ∧ u (p + 11) + uw u (p + 6) % u 2 ≤ u (uw u 10 + 5 * (u (p + 10) - 1) + 4)) → jrI 61 46 [some (.ref 19), some (.int (jI p)), none, some (.int (jI (uw u (p + 6) / u 2))), some (.int (jI (uw u (p + 8)))), some (.int (jI 0)), none] [] E A K := fun ht => by
    refine j_loop (P := fun j => 0 ≤ j → j ≤ uw u (p + 6) / u 2 → (∀ j', 0 ≤ j' → j' < j → UC u (uPlace u p j'.toNat) (uw u (p + 12 + 2 * j')) (u 2)) → 0 ≤ uPlace u p j.toNat ∧ uPlace u p j.toNat ≤ 65535 → jrI 61 46 [some (.ref 19), some (.int (jI p)), none, some (.int (jI (uw u (p + 6) / u 2))), some (.int (jI (uPlace u p j.toNat))), some (.int (jI j)), none] [] E A K) (uw u (p + 6) / u 2) (fun j ih j0 j1 hj pl => ?_) 0 (by omega) d1 (fun j' a b => by omega) (uw_le hb _)
    refine vd_X2_isFileRight_46 p ⟨by omega, by omega⟩ _ ⟨by omega, by omega⟩ _ ⟨by omega, by omega⟩ j ⟨by omega, by omega⟩ E A K ⟨fun q => h1 ⟨ht, fun j' a b => hj j' a (by omega)⟩, fun q => k_wordAt hi ⟨by omega, by omega⟩ ?_⟩
    rw [h.1.w (by omega) (by omega), f2]
    have hw := uw_le hb (p + 12 + 2 * j)
    refine k_canBeBlock h.1 hb (by omega) (by omega) pl hw (by omega) (fun hU => ⟨fun _ => k_storedBytes hw ?_, fun z => absurd z (by decide)⟩) (fun hU => ⟨fun z => absurd rfl z, fun _ => h0 (fun z => hU (z.2 j j0 q))⟩)
    have es : uPlace u p (j + 1).toNat = uPlace u p j.toNat + jlies (uw u (p + 12 + 2 * j)) := by
      rw [show (j + 1).toNat = j.toNat + 1 by omega]; simp only [uPlace]; rw [Int.toNat_of_nonneg j0]
    have hjl := jlies_le hw
    have := ih q (by omega) (by omega) (fun j' a b => by
      by_cases e : j' = j
      · subst e; exact hU
      · exact hj j' a (by omega)) (by
      rw [es]
      rcases hU with e | ⟨u1, u2, -⟩
      · rw [e]; simp only [jlies]; rw [if_neg (by decide)]; omega
      · omega)
    rwa [es] at this
  -- the tail
  refine vd_X2_isTailRight_0 p ⟨by omega, by omega⟩ _ ⟨by omega, by omega⟩ E A _ (k_byteAt hi ⟨by omega, by omega⟩ ?_)
  rw [h.1.b (by omega) (by omega)]
  refine k_byteAt hi ⟨by omega, by omega⟩ ?_
  rw [h.1.b (by omega) (by omega)]
  have bad : ¬ (if uw u (p + 6) % u 2 = 0 then u (p + 10) = 0 ∧ u (p + 11) = 0 else 1 ≤ u (p + 10) ∧ u (p + 10) ≤ (uw u 12 - uw u 10) / 5 ∧ u (p + 11) + uw u (p + 6) % u 2 ≤ u (uw u 10 + 5 * (u (p + 10) - 1) + 4)) → (¬ (0 : Int) = 0 → jrI 51 0 [some (.ref 19), some (.int (jI (p + 8)))] [] E A (fun v15 A13 => jrI 61 46 [some (.ref 19), some (.int (jI p)), none, some (.int (jI (uw u (p + 6) / u 2))), some (.int (jI v15)), some (.int (jI 0)), none] [] E A13 K)) ∧ ((0 : Int) = 0 → K 0 A) := fun hz => ⟨fun z => absurd rfl z, fun _ => h0 (fun z => hz z.1)⟩
  have good : (if uw u (p + 6) % u 2 = 0 then u (p + 10) = 0 ∧ u (p + 11) = 0 else 1 ≤ u (p + 10) ∧ u (p + 10) ≤ (uw u 12 - uw u 10) / 5 ∧ u (p + 11) + uw u (p + 6) % u 2 ≤ u (uw u 10 + 5 * (u (p + 10) - 1) + 4)) → (¬ (1 : Int) = 0 → jrI 51 0 [some (.ref 19), some (.int (jI (p + 8)))] [] E A (fun v15 A13 => jrI 61 46 [some (.ref 19), some (.int (jI p)), none, some (.int (jI (uw u (p + 6) / u 2))), some (.int (jI v15)), some (.int (jI 0)), none] [] E A13 K)) ∧ ((1 : Int) = 0 → K 0 A) := fun hz => ⟨fun _ => k_wordAt hi ⟨by omega, by omega⟩ (by rw [h.1.w (by omega) (by omega)]; exact blocks hz), fun z => absurd z (by decide)⟩
  refine ⟨fun q => ⟨fun q2 => bad ?_, fun q2 => k_tailBlocks hi (by omega) ?_⟩, fun q => ⟨fun q2 => bad ?_, fun q2 => ⟨fun q3 => bad ?_, fun q3 => good ?_⟩⟩⟩
  · rw [if_neg q]; omega
  · rw [f6, f7]
    refine ⟨fun q3 => bad (by rw [if_neg q]; omega), fun q3 => k_tailRow hi ⟨by omega, by omega⟩ ?_⟩
    rw [f6]
    refine k_byteAt hi ⟨by omega, by omega⟩ ?_
    rw [h.1.b (by omega) (by omega)]
    exact ⟨⟨by omega, by omega⟩, fun q4 => bad (by rw [if_neg q]; omega), fun q4 => good (by rw [if_neg q]; exact ⟨q2, q3, q4⟩)⟩
  · rw [if_pos q]; omega
  · rw [if_pos q]; omega
  · rw [if_pos q]; exact ⟨q2, q3⟩
theorem k_areInodes (h : CT A u n) (h1 : H5 u → K 1 A) (h0 : ¬ H5 u → K 0 A) : jrI 54 0 [some (.ref 19), none, none, none] [] E A K := by
  obtain ⟨l1, l2, l3, l4, l5, l6, l7, l8⟩ := h.le
  obtain ⟨f1, f2, f3, f4, f5, f6, f7⟩ := h.f
  have hb := h.2.1
  have hi := h.1.1
  refine vd_X2_areInodesRight_0 E A K ?_
  rw [f4]
  refine j_loop (P := fun k => ∀ p, 1 ≤ k → k ≤ uw u 4 + 1 → uw u 6 ≤ p → p ≤ uw u 8 → (uI u (uw u 4 - k + 1).toNat k p → K 1 A) → (¬ uI u (uw u 4 - k + 1).toNat k p → K 0 A) → jrI 54 7 [some (.ref 19), some (.int (jI p)), some (.int (jI k)), none] [] E A K) (uw u 4 + 1) (fun k ih p k0 k1 p0 p1 g1 g0 => ?_) 1 _ (by omega) (by omega) (by omega) l2 (by rw [show (uw u 4 - 1 + 1).toNat = (uw u 4).toNat by omega]; exact h1) (by rw [show (uw u 4 - 1 + 1).toNat = (uw u 4).toNat by omega]; exact h0)
  have rp : jW p := ⟨by omega, by omega⟩
  have rk : jW k := ⟨by omega, by omega⟩
  refine vd_X2_areInodesRight_7 p rp k rk E A K ⟨fun q => ?_, fun q => ?_⟩
  · rw [show (uw u 4 - k + 1).toNat = 0 by omega] at g1 g0
    rw [f5]
    exact ⟨fun z => g0 z, fun z => g1 z⟩
  rw [show (uw u 4 - k + 1).toNat = (uw u 4 - (k + 1) + 1).toNat + 1 by omega] at g1 g0
  simp only [uI] at g1 g0
  have rr := h.1.row hb (k := k) k0 (by omega)
  have hrb := uw_le hb (p + 6)
  obtain ⟨d1, d2, -⟩ := bdiv (b := u 2) l8 hrb.1 hrb.1
  -- what stands behind the row's length
  have body : ∀ b, 0 ≤ b → b ≤ 140000 → (b = uLen u p ∨ 12 ≤ b ∧ u p = 2 ∧ uw u 8 < p + 12) → jrI 42 0 [some (.ref 19), some (.int (jI k))] [] E A (fun v7 A5 => ((¬ v7 = p → K 0 A5) ∧ (v7 = p → ((b = (0 : Int) → K 0 A5) ∧ (¬ b = (0 : Int) → jW (p + b) ∧ (((p + b) ≤ (A5 19 5) → jrI 21 0 [some (.ref 19), some (.int (jI p))] [] E A5 (fun v12 A10 => ((¬ v12 = (2 : Int) → jrI 54 65 [some (.ref 19), some (.int (jI p)), some (.int (jI k)), some (.int (jI b))] [] E A10 K) ∧ (v12 = (2 : Int) → jrI 61 0 [some (.ref 19), some (.int (jI p)), none, none, none, none, none] [] E A10 (fun v16 A14 => ((¬ v16 = (0 : Int) → jrI 54 65 [some (.ref 19), some (.int (jI p)), some (.int (jI k)), some (.int (jI b))] [] E A14 K) ∧ (v16 = (0 : Int) → K 0 A14))))))) ∧ ((A5 19 5) < (p + b) → K 0 A5))))))) := fun b b0 b1 hbb => by
    refine k_rowOf hi ⟨by omega, by omega⟩ ?_
    rw [rr]
    refine ⟨fun q2 => g0 (fun z => q2 z.1), fun q2 => ⟨fun q3 => g0 (fun z => ?_), fun q3 => ⟨⟨by omega, by omega⟩, fun q4 => ?_, fun q4 => g0 (fun z => ?_)⟩⟩⟩
    · rcases hbb with e | ⟨e, -⟩
      · exact z.2.1 (by omega)
      · omega
    · rw [f5] at q4
      have eb : b = uLen u p := by
        rcases hbb with e | ⟨e1, e2, e3⟩
        · exact e
        · omega
      refine k_byteAt hi ⟨by omega, by omega⟩ ?_
      rw [h.1.b (by omega) (by omega)]
      have next : (u p = 2 → FR u p) → jrI 54 65 [some (.ref 19), some (.int (jI p)), some (.int (jI k)), some (.int (jI b))] [] E A K := fun hF => by
        refine vd_X2_areInodesRight_65 p rp k rk b ⟨by omega, by omega⟩ E A K (ih (by omega) (p + b) (by omega) (by omega) (by omega) q4 (fun z => g1 ?_) (fun z => g0 (fun y => z ?_)))
        · rw [eb] at z q4; exact ⟨q2, by omega, q4, hF, z⟩
        · rw [eb]; exact y.2.2.2.2
      refine ⟨fun q5 => next (fun z => absurd z q5), fun q5 => ?_⟩
      have el : uLen u p = 12 + 2 * (uw u (p + 6) / u 2) := by unfold uLen; rw [if_neg (by omega), if_pos q5]
      exact k_isFileRight h p0 (by omega) (fun hF => ⟨fun _ => next (fun _ => hF), fun z => absurd z (by decide)⟩) (fun hF => ⟨fun z => absurd rfl z, fun _ => g0 (fun y => hF (y.2.2.2.1 q5))⟩)
    · rw [f5] at q4
      rcases hbb with e | ⟨e1, e2, e3⟩
      · have := z.2.2.1; omega
      · have el : uLen u p = 12 + 2 * (uw u (p + 6) / u 2) := by unfold uLen; rw [if_neg (by omega), if_pos e2]
        have := z.2.2.1
        omega
  refine vd_X2_rowBytes_0 p rp E A _ (k_byteAt hi rp ?_)
  rw [h.1.b (by omega) (by omega)]
  refine ⟨fun q2 => body 12 (by omega) (by omega) (.inl (by unfold uLen; rw [if_pos q2])), fun q2 => ⟨fun q3 => k_wordAt hi ⟨by omega, by omega⟩ ?_, fun q3 => ⟨fun q4 => body 6 (by omega) (by omega) (.inl (by unfold uLen; rw [if_neg q2, if_neg q3, if_pos q4])), fun q4 => body 0 (by omega) (by omega) (.inl (by unfold uLen; rw [if_neg q2, if_neg q3, if_neg q4]))⟩⟩⟩
  have hcw := cw_le hi (p + 6)
  obtain ⟨e1, e2, -⟩ := bdiv (b := u 2) l8 hcw.1 hcw.1
  refine k_wholeBlocks hi (by omega) ⟨hcw.1, by omega⟩ ?_
  rw [f2]
  refine ⟨⟨by omega, by omega⟩, body _ (by omega) (by omega) ?_⟩
  by_cases hin : p + 12 ≤ uw u 8
  · left
    rw [h.1.w (by omega) (by omega)]
    unfold uLen; rw [if_neg q2, if_pos q3]
  · right
    exact ⟨by omega, q3, by omega⟩
end KJ
