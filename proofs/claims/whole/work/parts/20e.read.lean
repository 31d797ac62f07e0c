/-! READ, COUNT, OUT ON BOTH SIDES -/
/-- byte i of a packed block at p -/
def uob (u : Int → Int) (p i : Int) : Nat → Int → Int → Int
  | 0, _, _ => 0
  | f + 1, a, o => if i < o + jopens (u (p + a)) then u (p + a + 1 + (if u (p + a) < 128 then i - o else 0)) else uob u p i f (a + jpacket (u (p + a))) (o + jopens (u (p + a)))
/-- byte i of a block at p -/
def uBlk (u : Int → Int) (p s i : Int) : Int := if s = 0 then 0 else if 32768 ≤ s then u (p + i) else uob u p i s.toNat 0 0
theorem uop_end {u : Int → Int} {p s : Int} {f : Nat} {a o l : Int} (h : uop u p s f a o = l) (hl : 0 ≤ l) (ha : s ≤ a) : a = s ∧ o = l := by
  cases f with
  | zero => simp only [uop] at h; split at h <;> omega
  | succ f => simp only [uop] at h; rw [if_pos ha] at h; split at h <;> omega
theorem uop_step {u : Int → Int} {p s : Int} {f : Nat} {a o l : Int} (h : uop u p s f a o = l) (hl : 0 ≤ l) (ha : a < s) : ∃ f', f = f' + 1 ∧ uop u p s f' (a + jpacket (u (p + a))) (o + jopens (u (p + a))) = l ∧ a + jpacket (u (p + a)) ≤ s := by
  cases f with
  | zero => simp only [uop] at h; rw [if_neg (by omega)] at h; omega
  | succ f =>
    simp only [uop] at h
    rw [if_neg (by omega)] at h
    refine ⟨f, rfl, h, ?_⟩
    by_cases q : s ≤ a + jpacket (u (p + a))
    · have := uop_end h hl q; omega
    · omega
theorem jpk {x : Int} (h : 0 ≤ x ∧ x ≤ 255) : 1 ≤ jpacket x ∧ jpacket x ≤ 129 ∧ 0 ≤ jopens x ∧ jopens x ≤ 128 ∧ (x < 128 → jpacket x = x + 2 ∧ jopens x = x + 1) ∧ (x = 128 → jpacket x = 1 ∧ jopens x = 0) ∧ (128 < x → jpacket x = 2 ∧ jopens x = 257 - x) := by
  unfold jpacket jopens
  by_cases a : x < 128
  · rw [if_pos a, if_pos a]; omega
  · rw [if_neg a, if_neg a]
    by_cases b : x = 128
    · rw [if_pos b, if_pos b]; omega
    · rw [if_neg b, if_neg b]; omega
theorem k_openedByte {E : jE} {A : jA} {c : Nat} {u : Int → Int} {n p s l i : Int} {K : Int → jA → Prop} (h : IV A c u n) (hp : 18 ≤ p) (hps : p + s ≤ n) (hs : 0 < s ∧ s < 32768) (hu : uop u p s s.toNat 0 0 = l) (hi : 0 ≤ i ∧ i < l) (hl : l ≤ 1000) (hK : K (uob u p i s.toNat 0 0) A) : jrI 33 0 [some (.ref c), some (.int (jI p)), some (.int (jI s)), some (.int (jI i)), none, none, none, none] [] E A K := by
  have hc := h.1.1.1
  have hn := h.2.1.1.2.1
  have rp : jW p := ⟨by omega, by omega⟩
  have rs : jW s := ⟨by omega, by omega⟩
  have ri : jW i := ⟨by omega, by omega⟩
  refine vd_X1_openedByte_0 c hc p rp s rs i ri E A K ?_
  refine j_loop (P := fun t => ∀ a o, 0 ≤ t → t ≤ a → t ≤ s → a ≤ s → 0 ≤ o → o ≤ i → uop u p s (s - t).toNat a o = l → K (uob u p i (s - t).toNat a o) A → jrI 33 9 [some (.ref c), some (.int (jI p)), some (.int (jI s)), some (.int (jI i)), some (.int (jI o)), some (.int (jI a)), some (.int (jI t)), none] [] E A K) s (fun t ih a o t0 ta ts as o0 oi hu hK => ?_) 0 0 0 (by omega) (by omega) (by omega) (by omega) (by omega) (by omega) (by rw [Int.sub_zero]; exact hu) (by rw [Int.sub_zero]; exact hK)
  have ha : a < s := by
    false_or_by_contra
    have := uop_end hu (by omega) (by omega)
    omega
  obtain ⟨f', ef, hu', hle⟩ := uop_step hu (by omega) ha
  have hb := h.2.2 (p + a)
  obtain ⟨j1, j2, j3, j4, j5, j6, j7⟩ := jpk hb
  have ef' : f' = (s - (t + 1)).toNat := by omega
  rw [ef] at hK
  simp only [uob] at hK
  refine vd_X1_openedByte_9 c hc p rp s rs i ri o ⟨by omega, by omega⟩ a ⟨by omega, by omega⟩ t ⟨by omega, by omega⟩ E A K ⟨fun q => by omega, fun q => ⟨fun q2 => by omega, fun q2 => ?_⟩⟩
  refine k_byteAt h.1.1 ⟨by omega, by omega⟩ ?_
  rw [h.1.b (by omega) (by omega)]
  refine k_opensTo hb ⟨⟨by omega, by omega⟩, fun q3 => ?_, fun q3 => ?_⟩
  · rw [if_neg (by omega)] at hK
    refine k_opensTo hb (k_packetBytes hb ?_)
    rw [ef'] at hu' hK
    exact ih q _ _ (by omega) (by omega) (by omega) hle (by omega) (by omega) hu' hK
  · rw [if_pos q3] at hK
    refine ⟨fun q4 => ?_, fun q4 => ?_⟩
    · rw [if_neg (by omega)] at hK
      refine vd_X1_openedByte_66 0 (by decide) _ ⟨by omega, by omega⟩ c hc E A K (k_byteAt h.1.1 ⟨by omega, by omega⟩ ?_)
      rw [h.1.b (by omega) (by omega)]; exact hK
    · rw [if_pos q4] at hK
      refine vd_X1_openedByte_66 _ ⟨by omega, by omega⟩ _ ⟨by omega, by omega⟩ c hc E A K (k_byteAt h.1.1 ⟨by omega, by omega⟩ ?_)
      rw [h.1.b (by omega) (by omega)]; exact hK
theorem VA.lens {u : Int → Int} {n : Int} (V : VA u n) : uw u 6 ≤ n ∧ uw u 8 ≤ n ∧ uw u 10 ≤ n ∧ uw u 12 ≤ n ∧ n ≤ 5581 := by
  obtain ⟨v1, v2, v3, v4, v5, v6, v7, v8, v9⟩ := V.1
  omega
theorem k_blockByte {E : jE} {A : jA} {c : Nat} {u : Int → Int} {n p s l i : Int} {K : Int → jA → Prop} (h : IV A c u n) (hU : UC u p s l) (hp : 0 ≤ p ∧ p ≤ 65535) (hs : 0 ≤ s ∧ s ≤ 65535) (hi : 0 ≤ i ∧ i < l) (hl : l ≤ 1000) (hK : K (uBlk u p s i) A) : jrI 20 0 [some (.ref c), some (.int (jI p)), some (.int (jI s)), some (.int (jI i))] [] E A K := by
  have hc := h.1.1.1
  have hn := h.2.1.lens
  unfold uBlk at hK
  refine vd_X1_blockByte_0 c hc p ⟨by omega, by omega⟩ s ⟨by omega, by omega⟩ i ⟨by omega, by omega⟩ E A K ⟨fun q => ?_, fun q => by rwa [if_pos q] at hK⟩
  rw [if_neg q] at hK
  rcases hU with hU | ⟨u1, u2, u3, u4⟩
  · exact absurd hU q
  refine ⟨fun q2 => ?_, fun q2 => ?_⟩
  · rw [if_neg (by omega)] at hK
    have e : jlies s = s := if_neg (by omega)
    exact k_openedByte h u1 (by omega) ⟨by omega, q2⟩ (u4 q2) hi hl hK
  · rw [if_pos q2] at hK
    have e : jlies s = s - 32768 := if_pos q2
    have := u3 q2
    refine k_byteAt h.1.1 ⟨by omega, by omega⟩ ?_
    rw [h.1.b (by omega) (by omega)]; exact hK
/-- the same of the reference -/
theorem k_opened {E : jE} {A : jA} {m n p s l i : Int} {K : Int → jA → Prop} (hb : MB A) (hm : 0 ≤ m ∧ m ≤ 2) (V : VA (mb A m) n) (hU : UC (mb A m) p s l) (hp : 0 ≤ p ∧ p ≤ 65535) (hs : 0 ≤ s ∧ s ≤ 65535) (hi : 0 ≤ i ∧ i < l) (hl : l ≤ 1000) (hK : K (uBlk (mb A m) p s i) A) : jrI 192 0 [some (.ref 49), some (.int (jI m)), some (.int (jI p)), some (.int (jI s)), some (.int (jI i)), none, none, none] [] E A K := by
  have hn := V.lens
  have rm : jW m := ⟨by omega, by omega⟩
  have ri : jW i := ⟨by omega, by omega⟩
  unfold uBlk at hK
  refine vd_X7_opened_0 m rm p ⟨by omega, by omega⟩ s ⟨by omega, by omega⟩ i ri E A K ⟨fun q => ?_, fun q => by rwa [if_pos q] at hK⟩
  rw [if_neg q] at hK
  rcases hU with hU | ⟨u1, u2, u3, u4⟩
  · exact absurd hU q
  refine ⟨fun q2 => ?_, fun q2 => ?_⟩
  · rw [if_neg (by omega)] at hK
    have e : jlies s = s := if_neg (by omega)
    have key : ∀ (f : Nat) (a o : Int), 0 ≤ a → a ≤ s → 0 ≤ o → o ≤ i → uop (mb A m) p s f a o = l → K (uob (mb A m) p i f a o) A → jrI 192 28 [some (.ref 49), some (.int (jI m)), none, none, some (.int (jI i)), some (.int (jI (p + a))), some (.int (jI o)), none] [] E A K := by
      intro f
      induction f with
      | zero =>
        intro a o a0 as o0 oi hu _
        by_cases ha : a < s
        · obtain ⟨f', ef, _⟩ := uop_step hu (by omega) ha
          omega
        · have := uop_end hu (by omega) (by omega)
          omega
      | succ f ih =>
        intro a o a0 as o0 oi hu hK
        have ha : a < s := by
          false_or_by_contra
          have := uop_end hu (by omega) (by omega)
          omega
        obtain ⟨f', ef, hu', hle⟩ := uop_step hu (by omega) ha
        have ef' : f' = f := by omega
        subst ef'
        have hb' := hb.u m (p + a)
        obtain ⟨j1, j2, j3, j4, j5, j6, j7⟩ := jpk hb'
        simp only [uob] at hK
        have next : ∀ y z, i ≥ o + jopens (mb A m (p + a)) → y = p + (a + jpacket (mb A m (p + a))) → z = o + jopens (mb A m (p + a)) → jrI 192 146 [some (.ref 49), some (.int (jI m)), none, none, some (.int (jI i)), some (.int (jI y)), some (.int (jI z)), none] [] E A K := fun y z h1 ey ez => by
          rw [if_neg (by omega)] at hK
          subst ey ez
          exact vd_X7_opened_146 m rm i ri _ ⟨by omega, by omega⟩ _ ⟨by omega, by omega⟩ E A K (ih _ _ (by omega) hle (by omega) (by omega) hu' hK)
        refine vd_X7_opened_28 m rm i ri _ ⟨by omega, by omega⟩ o ⟨by omega, by omega⟩ E A K (k_mbyteAt hm (by omega) ⟨fun q => ⟨fun q2 => ?_, fun q2 => ⟨⟨by omega, by omega⟩, fun q3 => ?_, fun q3 => ?_⟩⟩, fun q => ⟨⟨by omega, by omega⟩, fun q3 => ?_, fun q3 => ?_⟩⟩)
        · exact next _ _ (by omega) (by omega) (by omega)
        · exact next _ _ (by omega) (by omega) (by omega)
        · rw [if_pos (by omega), if_neg (by omega), Int.add_zero] at hK
          exact k_mbyteAt hm (by omega) hK
        · exact next _ _ (by omega) (by omega) (by omega)
        · rw [if_pos (by omega), if_pos q] at hK
          have e2 : p + a + 1 + i - o = p + a + 1 + (i - o) := by omega
          rw [e2]
          exact k_mbyteAt hm (by omega) hK
    have := key s.toNat 0 0 (by omega) (by omega) (by omega) (by omega) (u4 q2) hK
    rwa [Int.add_zero] at this
  · rw [if_pos q2] at hK
    have e : jlies s = s - 32768 := if_pos q2
    have := u3 q2
    exact k_mbyteAt hm (by omega) hK
theorem bdiv {b i s : Int} (hb : b = 8 ∨ b = 16 ∨ b = 32) (i0 : 0 ≤ i) (s0 : 0 ≤ s) : 0 ≤ i / b ∧ i / b ≤ i ∧ i - i / b * b = i % b ∧ 0 ≤ i % b ∧ i % b < b ∧ (s / b * b ≤ i ↔ s / b ≤ i / b) ∧ (i < s → s / b ≤ i / b → i % b < s % b) ∧ 0 ≤ s / b * b ∧ s / b * b ≤ s := by
  rcases hb with rfl | rfl | rfl <;> omega
theorem jlies_le {s : Int} (hs : 0 ≤ s ∧ s ≤ 65535) : 0 ≤ jlies s ∧ jlies s ≤ 32767 := by
  unfold jlies; split <;> omega
theorem uPlace_le {u : Int → Int} {n row : Int} (V : VA u n) (hb : UB u) (hf : VAf u row) (j : Nat) (hj : (j : Int) ≤ uw u (row + 6) / u 2) : 0 ≤ uPlace u row j ∧ uPlace u row j ≤ 65535 := by
  induction j with
  | zero => exact uw_le hb _
  | succ j ih =>
    have ih := ih (by omega)
    have hU := hf.2 j (by omega) (by omega)
    rw [Int.toNat_natCast] at hU
    have hw := uw_le hb (row + 12 + 2 * j)
    have hl := jlies_le hw
    have h6 := uw_le hb 6
    simp only [uPlace]
    rcases hU with e | ⟨u1, u2, u3, u4⟩
    · rw [e]; simp only [jlies]; rw [if_neg (by decide)]; omega
    · omega
/-- byte i of the file at row -/
def uRead (u : Int → Int) (row i : Int) : Int := if i / u 2 < uw u (row + 6) / u 2 then uBlk u (uPlace u row (i / u 2).toNat) (uw u (row + 12 + 2 * (i / u 2))) (i % u 2) else uBlk u (uw u (uw u 10 + 5 * (u (row + 10) - 1))) (uw u (uw u 10 + 5 * (u (row + 10) - 1) + 2)) (u (row + 11) + i % u 2)
/-- what both sides need of the file -/
theorem read_of {u : Int → Int} {n k i : Int} (V : VA u n) (hb : UB u) (h1 : 1 ≤ k) (h2 : k ≤ uw u 4) (hk : uKind u k = 2) (i0 : 0 ≤ i) (i1 : i < uw u (uRow u k + 6)) : VAf u (uRow u k) ∧ 18 ≤ uRow u k ∧ uRow u k + 12 + 2 * (uw u (uRow u k + 6) / u 2) ≤ uw u 8 ∧ (i / u 2 < uw u (uRow u k + 6) / u 2 → UC u (uPlace u (uRow u k) (i / u 2).toNat) (uw u (uRow u k + 12 + 2 * (i / u 2))) (u 2) ∧ uRow u k + 12 + 2 * (i / u 2) + 2 ≤ uw u 8) ∧ (uw u (uRow u k + 6) / u 2 ≤ i / u 2 → uw u 10 ≤ uw u 10 + 5 * (u (uRow u k + 10) - 1) ∧ uw u 10 + 5 * (u (uRow u k + 10) - 1) + 5 ≤ n ∧ u (uw u 10 + 5 * (u (uRow u k + 10) - 1) + 4) ≤ 255 ∧ u (uRow u k + 11) + i % u 2 < u (uw u 10 + 5 * (u (uRow u k + 10) - 1) + 4) ∧ UC u (uw u (uw u 10 + 5 * (u (uRow u k + 10) - 1))) (uw u (uw u 10 + 5 * (u (uRow u k + 10) - 1) + 2)) (u (uw u 10 + 5 * (u (uRow u k + 10) - 1) + 4))) := by
  have hr := V.row hb h1 h2
  have ln := V.lens
  have h3 := V.1.2.2.1
  have hs := uw_le hb (uRow u k + 6)
  obtain ⟨d1, d2, d3, d4, d5, d6, d7, d8, d9⟩ := bdiv (b := u 2) h3 i0 hs.1
  have hi := V.2.2.1 k h1 h2
  have hf : VAf u (uRow u k) ∧ uRow u k + 12 + 2 * (uw u (uRow u k + 6) / u 2) ≤ uw u 8 := by
    rcases hi with ⟨_, ⟨e, _⟩ | ⟨e, a, b⟩ | ⟨e, _⟩⟩
    · omega
    · exact ⟨b, a⟩
    · omega
  refine ⟨hf.1, hr.1, hf.2, fun q => ⟨hf.1.2 (i / u 2) d1 q, by omega⟩, fun q => ?_⟩
  have d7' := d7 i1 q
  obtain ⟨t1, t2, t3⟩ := hf.1.1 (by omega)
  have tt := V.2.1 (u (uRow u k + 10) - 1) (by omega) (by omega)
  have hb4 := hb (uw u 10 + 5 * (u (uRow u k + 10) - 1) + 4)
  exact ⟨by omega, by omega, hb4.2, by omega, tt.2.2⟩
theorem k_fileByte {E : jE} {A : jA} {c : Nat} {u : Int → Int} {n k i : Int} {K : Int → jA → Prop} (h : IV A c u n) (h1 : 1 ≤ k) (h2 : k ≤ uw u 4) (hk : uKind u k = 2) (i0 : 0 ≤ i) (i1 : i < uw u (uRow u k + 6)) (hK : K (uRead u (uRow u k) i) A) : jrI 24 0 [some (.ref c), some (.int (jI k)), some (.int (jI i)), none, none, none, none, none] [] E A K := by
  have hc := h.1.1.1
  have hi := h.1.1
  have V := h.2.1
  have hb := h.2.2
  have w4 := uw_le hb 4
  have hr := V.row hb h1 h2
  have ln := V.lens
  have h3 := V.1.2.2.1
  have e2 : A c 2 = u 2 := h.1.2.2.2.1
  have e6 : A c 6 = uw u 10 := h.1.2.2.2.2.2.2.2.1
  obtain ⟨hf, r18, hrow, hblk, htl⟩ := read_of V hb h1 h2 hk i0 i1
  have hs := uw_le hb (uRow u k + 6)
  obtain ⟨d1, d2, d3, d4, d5, d6, d7, d8, d9⟩ := bdiv (b := u 2) h3 i0 hs.1
  obtain ⟨s1, s2, -⟩ := bdiv (b := u 2) h3 hs.1 hs.1
  have rr := h.row h1 h2
  unfold uRead at hK
  refine vd_X1_fileByte_0 c hc k ⟨by omega, by omega⟩ i ⟨by omega, by omega⟩ E A K (k_rowOf hi ⟨by omega, by omega⟩ (k_wholeBlocks hi (by omega) ⟨i0, by omega⟩ ?_))
  rw [rr]
  refine k_wordAt hi ⟨by omega, by omega⟩ ?_
  rw [h.1.w (by omega) (by omega)]
  refine k_wholeBlocks hi (by omega) ⟨hs.1, by omega⟩ ?_
  rw [e2]
  refine ⟨fun q => ?_, fun q => ?_⟩
  · rw [if_pos q] at hK
    obtain ⟨hU, hlt⟩ := hblk q
    refine k_wordAt hi ⟨by omega, by omega⟩ ?_
    rw [h.1.w (by omega) (by omega), d3]
    refine j_loop (P := fun j => 0 ≤ j → j ≤ i / u 2 → jrI 24 100 [some (.ref c), none, none, some (.int (jI (uRow u k))), some (.int (jI (i / u 2))), some (.int (jI (i % u 2))), some (.int (jI (uPlace u (uRow u k) j.toNat))), some (.int (jI j))] [] E A K) (i / u 2) (fun j ih j0 j1 => ?_) 0 (by omega) d1
    have pl := uPlace_le V hb hf j.toNat (by omega)
    refine vd_X1_fileByte_100 c hc _ ⟨by omega, by omega⟩ _ ⟨by omega, by omega⟩ _ ⟨by omega, by omega⟩ _ ⟨by omega, by omega⟩ j ⟨by omega, by omega⟩ E A K ⟨fun q2 => ?_, fun q2 => ?_⟩
    · have ej : j = i / u 2 := by omega
      rw [ej] at pl ⊢
      refine k_wordAt hi ⟨by omega, by omega⟩ ?_
      rw [h.1.w (by omega) (by omega)]
      exact k_blockByte h hU pl (uw_le hb _) ⟨d4, d5⟩ (by omega) hK
    · refine k_wordAt hi ⟨by omega, by omega⟩ ?_
      rw [h.1.w (by omega) (by omega)]
      refine k_storedBytes (uw_le hb _) ?_
      have := ih q2 (by omega) (by omega)
      rw [show (j + 1).toNat = j.toNat + 1 by omega] at this
      simp only [uPlace] at this
      rwa [Int.toNat_of_nonneg j0] at this
  · rw [if_neg (by omega)] at hK
    obtain ⟨t1, t2, t3, t4, t5⟩ := htl q
    have w10 := uw_le hb 10
    have b10 := hb (uRow u k + 10)
    have b11 := hb (uRow u k + 11)
    refine k_byteAt hi ⟨by omega, by omega⟩ ?_
    rw [h.1.b (by omega) (by omega)]
    refine k_tailRow hi ⟨by omega, by omega⟩ ?_
    rw [e6]
    refine k_wordAt hi ⟨by omega, by omega⟩ ?_
    rw [h.1.w (by omega) (by omega)]
    refine k_wordAt hi ⟨by omega, by omega⟩ ?_
    rw [h.1.w (by omega) (by omega)]
    refine k_byteAt hi ⟨by omega, by omega⟩ ?_
    rw [h.1.b (by omega) (by omega), d3]
    exact k_blockByte h t5 (uw_le hb _) (uw_le hb _) ⟨by omega, t4⟩ (by omega) hK
