/-! CONTRACTS: what an image tells, on both sides -/
/-- an image of the class: its length, its bytes, its head's numbers are what they can be -/
def IM (A : jA) (c : Nat) : Prop := jim c ∧ 0 ≤ A c 1 ∧ A c 1 ≤ jN (c + 1) ∧ (∀ k, 0 ≤ A (c + 1) k ∧ A (c + 1) k ≤ 255) ∧ ∀ f, 2 ≤ f → f ≤ 7 → 0 ≤ A c f ∧ A c f ≤ 65535
/-- byte and word as the class reads them -/
def cb (A : jA) (c : Nat) (x : Int) : Int := if 0 ≤ x ∧ x < A c 1 then A (c + 1) x else 0
def cw (A : jA) (c : Nat) (x : Int) : Int := if 0 ≤ x ∧ x < A c 1 - 1 then A (c + 1) x * 256 + A (c + 1) (x + 1) else 0
theorem cb_le {A : jA} {c : Nat} (h : IM A c) (x : Int) : 0 ≤ cb A c x ∧ cb A c x ≤ 255 := by
  unfold cb
  have := h.2.2.2.1 x
  split <;> omega
theorem cw_le {A : jA} {c : Nat} (h : IM A c) (x : Int) : 0 ≤ cw A c x ∧ cw A c x ≤ 65535 := by
  unfold cw
  have h1 := h.2.2.2.1 x
  have h2 := h.2.2.2.1 (x + 1)
  split <;> omega
theorem cb_in {A : jA} {c : Nat} {x : Int} (h0 : 0 ≤ x) (h1 : x < A c 1) : cb A c x = A (c + 1) x := if_pos ⟨h0, h1⟩
theorem cw_in {A : jA} {c : Nat} {x : Int} (h0 : 0 ≤ x) (h1 : x + 1 < A c 1) : cw A c x = A (c + 1) x * 256 + A (c + 1) (x + 1) := if_pos ⟨h0, by omega⟩
theorem IM.len {A : jA} {c : Nat} (h : IM A c) : 0 ≤ A c 1 ∧ A c 1 ≤ 18000 := by
  have := jN_le (c + 1)
  have := h.2.1
  have := h.2.2.1
  omega
section KI
variable {E : jE} {A : jA} {c : Nat} {K : Int → jA → Prop}
theorem k_byteAt (h : IM A c) {x : Int} (rx : jW x) (hK : K (cb A c x) A) : jrI 21 0 [some (.ref c), some (.int (jI x))] [] E A K := by
  have := h.2.2.1
  refine vd_X1_byteAt_0 c h.1 x rx E A K ⟨fun q => ?_, fun q => ⟨fun q2 => ⟨by omega, ?_⟩, fun q2 => ?_⟩⟩
  · unfold cb at hK; rwa [if_neg (by omega)] at hK
  · rwa [cb_in q q2] at hK
  · unfold cb at hK; rwa [if_neg (by omega)] at hK
theorem k_wordAt (h : IM A c) {x : Int} (rx : jW x) (hK : K (cw A c x) A) : jrI 51 0 [some (.ref c), some (.int (jI x))] [] E A K := by
  have h1 := h.2.2.1
  have h2 := h.len
  have b1 := h.2.2.2.1 x
  have b2 := h.2.2.2.1 (x + 1)
  refine vd_X1_wordAt_0 c h.1 x rx E A K ⟨fun q => ?_, fun q => ⟨⟨by omega, by omega⟩, fun q2 => ⟨by omega, by omega, ⟨by omega, by omega⟩, ?_⟩, fun q2 => ?_⟩⟩
  · unfold cw at hK; rwa [if_neg (by omega)] at hK
  · rwa [cw_in q (by omega)] at hK
  · unfold cw at hK; rwa [if_neg (by omega)] at hK
/-- a number that may be asked for -/
abbrev jS (x : Int) : Prop := -1000000 ≤ x ∧ x ≤ 1000000
def cRow (A : jA) (c : Nat) (k : Int) : Int := A c 4 + cw A c (A c 7 + 2 * (k - 1))
theorem cRow_le (h : IM A c) (k : Int) : 0 ≤ cRow A c k ∧ cRow A c k ≤ 131070 := by
  unfold cRow
  have := cw_le h (A c 7 + 2 * (k - 1))
  have := h.2.2.2.2 4 (by decide) (by decide)
  omega
theorem k_rowOf (h : IM A c) {k : Int} (rk : jS k) (hK : K (cRow A c k) A) : jrI 42 0 [some (.ref c), some (.int (jI k))] [] E A K := by
  have h4 := h.2.2.2.2 4 (by decide) (by decide)
  have h7 := h.2.2.2.2 7 (by decide) (by decide)
  have hw := cw_le h (A c 7 + 2 * (k - 1))
  exact vd_X1_rowOf_0 c h.1 k ⟨by omega, by omega⟩ E A K (k_wordAt h ⟨by omega, by omega⟩ ⟨⟨by omega, by omega⟩, hK⟩)
def cKind (A : jA) (c : Nat) (k : Int) : Int := cb A c (cRow A c k)
theorem k_kindOf (h : IM A c) {k : Int} (rk : jS k) (hK : K (cKind A c k) A) : jrI 30 0 [some (.ref c), some (.int (jI k))] [] E A K := by
  have := cRow_le h k
  exact vd_X1_kindOf_0 c h.1 k ⟨by omega, by omega⟩ E A K (k_rowOf h rk (k_byteAt h ⟨by omega, by omega⟩ hK))
theorem k_modeOf (h : IM A c) {k : Int} (rk : jS k) (hK : K (cw A c (cRow A c k + 1)) A) : jrI 31 0 [some (.ref c), some (.int (jI k))] [] E A K := by
  have := cRow_le h k
  exact vd_X1_modeOf_0 c h.1 k ⟨by omega, by omega⟩ E A K (k_rowOf h rk (k_wordAt h ⟨by omega, by omega⟩ hK))
theorem k_ownerOf (h : IM A c) {k : Int} (rk : jS k) (hK : K (cw A c (cRow A c k + 3)) A) : jrI 36 0 [some (.ref c), some (.int (jI k))] [] E A K := by
  have := cRow_le h k
  exact vd_X1_ownerOf_0 c h.1 k ⟨by omega, by omega⟩ E A K (k_rowOf h rk (k_wordAt h ⟨by omega, by omega⟩ hK))
theorem k_inamesOf (h : IM A c) {k : Int} (rk : jS k) (hK : K (cb A c (cRow A c k + 5)) A) : jrI 32 0 [some (.ref c), some (.int (jI k))] [] E A K := by
  have := cRow_le h k
  exact vd_X1_namesOf_0 c h.1 k ⟨by omega, by omega⟩ E A K (k_rowOf h rk (k_byteAt h ⟨by omega, by omega⟩ hK))
def cSize (A : jA) (c : Nat) (k : Int) : Int := if cKind A c k = 2 then cw A c (cRow A c k + 6) else if cKind A c k = 1 then cw A c (cRow A c k + 8) else 0
theorem cSize_le (h : IM A c) (k : Int) : 0 ≤ cSize A c k ∧ cSize A c k ≤ 65535 := by
  unfold cSize
  have := cw_le h (cRow A c k + 6)
  have := cw_le h (cRow A c k + 8)
  split
  · omega
  · split <;> omega
theorem k_sizeOf (h : IM A c) {k : Int} (rk : jS k) (hK : K (cSize A c k) A) : jrI 44 0 [some (.ref c), some (.int (jI k)), none, none] [] E A K := by
  have := cRow_le h k
  refine vd_X1_sizeOf_0 c h.1 k ⟨by omega, by omega⟩ E A K (k_rowOf h rk (k_byteAt h ⟨by omega, by omega⟩ ⟨fun q => ⟨fun q2 => ?_, fun q2 => k_wordAt h ⟨by omega, by omega⟩ ?_⟩, fun q => k_wordAt h ⟨by omega, by omega⟩ ?_⟩))
  · unfold cSize cKind at hK; rwa [if_neg q, if_neg q2] at hK
  · unfold cSize cKind at hK; rwa [if_neg q, if_pos q2] at hK
  · unfold cSize cKind at hK; rwa [if_pos q] at hK
def cFirst (A : jA) (c : Nat) (k : Int) : Int := A c 5 + cw A c (cRow A c k + 6)
theorem cFirst_le (h : IM A c) (k : Int) : 0 ≤ cFirst A c k ∧ cFirst A c k ≤ 131070 := by
  unfold cFirst
  have := cw_le h (cRow A c k + 6)
  have := h.2.2.2.2 5 (by decide) (by decide)
  omega
theorem k_firstNamePlace (h : IM A c) {k : Int} (rk : jS k) (hK : K (cFirst A c k) A) : jrI 25 0 [some (.ref c), some (.int (jI k))] [] E A K := by
  have := cRow_le h k
  have := cw_le h (cRow A c k + 6)
  have := h.2.2.2.2 5 (by decide) (by decide)
  exact vd_X1_firstNamePlace_0 c h.1 k ⟨by omega, by omega⟩ E A K (k_rowOf h rk (k_wordAt h ⟨by omega, by omega⟩ ⟨⟨by omega, by omega⟩, hK⟩))
def cHome (A : jA) (c : Nat) (k : Int) : Int := cw A c (cRow A c k + 10)
theorem k_homeOf (h : IM A c) {k : Int} (rk : jS k) (hK : K (cHome A c k) A) : jrI 28 0 [some (.ref c), some (.int (jI k))] [] E A K := by
  have := cRow_le h k
  exact vd_X1_homeOf_0 c h.1 k ⟨by omega, by omega⟩ E A K (k_rowOf h rk (k_wordAt h ⟨by omega, by omega⟩ hK))
theorem k_hasNumber (h : IM A c) {k : Int} (rk : jW k) (h1 : 1 ≤ k → k ≤ A c 3 → K 1 A) (h0 : ¬ (1 ≤ k ∧ k ≤ A c 3) → K 0 A) : jrI 27 0 [some (.ref c), some (.int (jI k))] [] E A K := vd_X1_hasNumber_0 c h.1 k rk E A K (by grind)
theorem k_tailBlocks (h : IM A c) (h1 : A c 6 ≤ A c 7) (hK : K ((A c 7 - A c 6) / 5) A) : jrI 47 0 [some (.ref c)] [] E A K := by
  have := h.2.2.2.2 6 (by decide) (by decide)
  have := h.2.2.2.2 7 (by decide) (by decide)
  exact vd_X1_tailBlocks_0 c h.1 E A K ⟨⟨by omega, by omega⟩, by omega, ⟨by omega, by omega⟩, hK⟩
theorem k_tailRow (h : IM A c) {t : Int} (rt : jS t) (hK : K (A c 6 + 5 * t) A) : jrI 48 0 [some (.ref c), some (.int (jI t))] [] E A K := by
  have := h.2.2.2.2 6 (by decide) (by decide)
  exact vd_X1_tailRow_0 c h.1 t ⟨by omega, by omega⟩ E A K ⟨⟨by omega, by omega⟩, hK⟩
theorem k_wholeBlocks (h : IM A c) (h2 : 1 ≤ A c 2) {s : Int} (hs : 0 ≤ s ∧ s ≤ 1000000) (hK : K (s / A c 2) A) : jrI 50 0 [some (.ref c), some (.int (jI s))] [] E A K := by
  have q1 := Int.ediv_le_self (A c 2) hs.1
  have q2 := Int.ediv_nonneg hs.1 (show 0 ≤ A c 2 by omega)
  exact vd_X1_wholeBlocks_0 c h.1 s ⟨by omega, by omega⟩ E A K ⟨fun _ => ⟨hs.1, by omega, ⟨by omega, by omega⟩, hK⟩, fun q => by omega⟩
def jlies (s : Int) : Int := if 32768 ≤ s then s - 32768 else s
theorem k_storedBytes {s : Int} (hs : 0 ≤ s ∧ s ≤ 65535) (hK : K (jlies s) A) : jrI 45 0 [some (.int (jI s))] [] E A K := by
  unfold jlies at hK
  refine vd_X1_storedBytes_0 s ⟨by omega, by omega⟩ E A K ⟨fun q => ?_, fun q => ⟨⟨by omega, by omega⟩, ?_⟩⟩
  · rwa [if_neg (by omega)] at hK
  · rwa [if_pos q] at hK
theorem k_lies {s : Int} (hs : 0 ≤ s ∧ s ≤ 65535) (hK : K (jlies s) A) : jrI 175 0 [some (.int (jI s))] [] E A K := by
  unfold jlies at hK
  refine vd_X7_lies_0 s ⟨by omega, by omega⟩ E A K ⟨fun q => ?_, fun q => ⟨⟨by omega, by omega⟩, ?_⟩⟩
  · rwa [if_neg (by omega)] at hK
  · rwa [if_pos q] at hK
def jopens (l : Int) : Int := if l < 128 then l + 1 else if l = 128 then 0 else 257 - l
def jpacket (l : Int) : Int := if l < 128 then l + 2 else if l = 128 then 1 else 2
theorem k_opensTo {l : Int} (hl : 0 ≤ l ∧ l ≤ 255) (hK : K (jopens l) A) : jrI 35 0 [some (.int (jI l))] [] E A K := by
  unfold jopens at hK
  refine vd_X1_opensTo_0 l ⟨by omega, by omega⟩ E A K ⟨fun q => ⟨fun q2 => ⟨⟨by omega, by omega⟩, ?_⟩, fun q2 => ?_⟩, fun q => ⟨⟨by omega, by omega⟩, ?_⟩⟩
  · rwa [if_neg (by omega), if_neg q2] at hK
  · rwa [if_neg (by omega), if_pos q2] at hK
  · rwa [if_pos q] at hK
theorem k_packetBytes {l : Int} (hl : 0 ≤ l ∧ l ≤ 255) (hK : K (jpacket l) A) : jrI 37 0 [some (.int (jI l))] [] E A K := by
  unfold jpacket at hK
  refine vd_X1_packetBytes_0 l ⟨by omega, by omega⟩ E A K ⟨fun q => ⟨fun q2 => ?_, fun q2 => ?_⟩, fun q => ⟨⟨by omega, by omega⟩, ?_⟩⟩
  · rwa [if_neg (by omega), if_neg q2] at hK
  · rwa [if_neg (by omega), if_pos q2] at hK
  · rwa [if_pos q] at hK
/-- the class reads the head anew -/
def cHead (A : jA) (c : Nat) : jA := fun a j => if a = c ∧ j = 2 then cb A c 2 else if a = c ∧ j = 3 then cw A c 4 else if a = c ∧ j = 4 then cw A c 6 else if a = c ∧ j = 5 then cw A c 8 else if a = c ∧ j = 6 then cw A c 10 else if a = c ∧ j = 7 then cw A c 12 else A a j
end KI
/-! the reference -/
/-- all the reference's bytes are bytes -/
def MB (A : jA) : Prop := ∀ k, 0 ≤ A 58 k ∧ A 58 k ≤ 255
def mb (A : jA) (m x : Int) : Int := if 0 ≤ x ∧ x < 6000 then A 58 (6000 * m + x) else 0
def mw (A : jA) (m x : Int) : Int := mb A m x * 256 + mb A m (x + 1)
theorem mw_le {A : jA} (h : MB A) (m x : Int) : 0 ≤ mw A m x ∧ mw A m x ≤ 65535 := by
  unfold mw mb
  have := h (6000 * m + x)
  have := h (6000 * m + (x + 1))
  omega
section KM
variable {E : jE} {A : jA} {m : Int} {K : Int → jA → Prop}
theorem k_mbyteAt (hm : 0 ≤ m ∧ m ≤ 2) {x : Int} (hx : 0 ≤ x ∧ x < 6000) (hK : K (mb A m x) A) : jrI 143 0 [some (.ref 49), some (.int (jI m)), some (.int (jI x))] [] E A K :=
  vd_X7_byteAt_0 m ⟨by omega, by omega⟩ x ⟨by omega, by omega⟩ E A K ⟨⟨by omega, by omega⟩, by unfold mb at hK; rwa [if_pos hx] at hK⟩
theorem k_mword (h : MB A) (hm : 0 ≤ m ∧ m ≤ 2) {x : Int} (hx : 0 ≤ x ∧ x < 5999) (hK : K (mw A m x) A) : jrI 210 0 [some (.ref 49), some (.int (jI m)), some (.int (jI x))] [] E A K := by
  have := mw_le h m x
  unfold mw at this hK
  refine vd_X7_word_0 m ⟨by omega, by omega⟩ x ⟨by omega, by omega⟩ E A K (k_mbyteAt hm (by omega) (k_mbyteAt hm (by omega) ?_))
  rw [show 256 * mb A m x + mb A m (x + 1) = mb A m x * 256 + mb A m (x + 1) by omega]
  exact ⟨⟨by omega, by omega⟩, hK⟩
def mRow (A : jA) (m k : Int) : Int := mw A m 6 + mw A m (mw A m 12 + 2 * (k - 1))
theorem k_inode (h : MB A) (hm : 0 ≤ m ∧ m ≤ 2) {k : Int} (hk : 1 ≤ k ∧ mw A m 12 + 2 * (k - 1) < 5999) (hK : K (mRow A m k) A) : jrI 162 0 [some (.ref 49), some (.int (jI m)), some (.int (jI k))] [] E A K := by
  have h1 := mw_le h m 12
  have h2 := mw_le h m 6
  refine vd_X7_inode_0 m ⟨by omega, by omega⟩ k ⟨by omega, by omega⟩ E A K (k_mword h hm (by omega) (k_mword h hm (by omega) ?_))
  rw [show mw A m 12 + 2 * k - 2 = mw A m 12 + 2 * (k - 1) by omega]
  have h3 := mw_le h m (mw A m 12 + 2 * (k - 1))
  refine k_mword h hm (by omega) ⟨⟨by omega, by omega⟩, hK⟩
end KM
