/-! THE CHILD OF A FOLDER BY A NAME, ON BOTH SIDES -/
def uch (u : Int → Int) (k a : Int) : Nat → Int
  | 0 => 0
  | i + 1 => if uName u k i = a then uNum u k i else uch u k a i
def uChild (u : Int → Int) (k a : Int) : Int := uch u k a (uMany u k).toNat
theorem uch_none {u : Int → Int} {k a : Int} {n : Nat} (h : ∀ i : Int, 0 ≤ i → i < n → uName u k i ≠ a) : uch u k a n = 0 := by
  induction n with
  | zero => rfl
  | succ n ih => simp only [uch]; rw [if_neg (h n (by omega) (by omega))]; exact ih (fun i a b => h i a (by omega))
theorem uch_at {u : Int → Int} {k a : Int} {n : Nat} {i : Int} (h0 : 0 ≤ i) (h1 : i < n) (he : uName u k i = a) (h : ∀ j : Int, 0 ≤ j → j < n → uName u k j = a → j = i) : uch u k a n = uNum u k i := by
  induction n with
  | zero => omega
  | succ n ih =>
    simp only [uch]
    by_cases e : i = n
    · rw [← e, if_pos he]
    · rw [if_neg (fun q => e (h n (by omega) (by omega) q).symm)]
      exact ih (by omega) (fun j a b => h j a (by omega))
/-- a name that is there is there once -/
theorem VAd.one {u : Int → Int} (V : VAd u) {k : Int} (h1 : 1 ≤ k) (h2 : k ≤ uw u 4) (hk : uKind u k = 1) {i j : Int} (i0 : 0 ≤ i) (i1 : i < uMany u k) (j0 : 0 ≤ j) (j1 : j < uMany u k) (e : uName u k i = uName u k j) : i = j := by
  have := (V k h1 h2 hk).2.2.2
  rcases Int.lt_trichotomy i j with h | h | h
  · have := this i j i0 h j1; omega
  · exact h
  · have := this j i j0 h i1; omega
theorem uChild_at {u : Int → Int} (V : VAd u) {k a : Int} (h1 : 1 ≤ k) (h2 : k ≤ uw u 4) (hk : uKind u k = 1) {i : Int} (i0 : 0 ≤ i) (i1 : i < uMany u k) (e : uName u k i = a) : uChild u k a = uNum u k i :=
  uch_at i0 (by omega) e (fun j j0 j1 q => V.one h1 h2 hk j0 (by omega) i0 i1 (q.trans e.symm))
theorem uChild_no {u : Int → Int} {k a : Int} (h : ∀ i, 0 ≤ i → i < uMany u k → uName u k i ≠ a) : uChild u k a = 0 := uch_none (fun i i0 i1 => h i i0 (by omega))
/-- what a child is -/
theorem uChild_of {u : Int → Int} (V : VAd u) {k a : Int} (h1 : 1 ≤ k) (h2 : k ≤ uw u 4) (hk : uKind u k = 1) (hc : uChild u k a ≠ 0) : ∃ i, 0 ≤ i ∧ i < uMany u k ∧ uName u k i = a ∧ uNum u k i = uChild u k a := by
  by_cases h : ∃ i, 0 ≤ i ∧ i < uMany u k ∧ uName u k i = a
  · obtain ⟨i, i0, i1, e⟩ := h
    exact ⟨i, i0, i1, e, (uChild_at V h1 h2 hk i0 i1 e).symm⟩
  · exact absurd (uChild_no (fun i i0 i1 e => h ⟨i, i0, i1, e⟩)) hc
theorem uChild_le {u : Int → Int} (V : VAd u) {k a : Int} (h1 : 1 ≤ k) (h2 : k ≤ uw u 4) (hk : uKind u k = 1) : 0 ≤ uChild u k a ∧ uChild u k a ≤ max (uw u 4) 0 := by
  by_cases hc : uChild u k a = 0
  · omega
  · obtain ⟨i, i0, i1, e, e2⟩ := uChild_of V h1 h2 hk hc
    have := (V k h1 h2 hk).2.2.1 i i0 i1
    omega
/-- all that is needed of one image -/
def IV (A : jA) (c : Nat) (u : Int → Int) (n : Int) : Prop := CR A c u n ∧ VA u n ∧ UB u
section K19
variable {E : jE} {A : jA} {c : Nat} {u : Int → Int} {n : Int} {K : Int → jA → Prop}
theorem IV.row (h : IV A c u n) {k : Int} (h1 : 1 ≤ k) (h2 : k ≤ uw u 4) : cRow A c k = uRow u k := h.1.row h.2.2 h1 (h.2.1.row h.2.2 h1 h2).2.2.1
theorem IV.kind (h : IV A c u n) {k : Int} (h1 : 1 ≤ k) (h2 : k ≤ uw u 4) : cKind A c k = uKind u k := by
  have := h.2.1.row h.2.2 h1 h2
  unfold cKind uKind
  rw [h.row h1 h2]
  exact h.1.b (by omega) (by omega)
theorem IV.size (h : IV A c u n) {k : Int} (h1 : 1 ≤ k) (h2 : k ≤ uw u 4) : cSize A c k = if uKind u k = 2 then uw u (uRow u k + 6) else if uKind u k = 1 then uMany u k else 0 := by
  obtain ⟨b1, b2, b3, b4, b5, b6, b7⟩ := h.2.1.row h.2.2 h1 h2
  unfold cSize uMany
  rw [h.kind h1 h2, h.row h1 h2]
  by_cases e2 : uKind u k = 2
  · rw [if_pos e2, if_pos e2]
    have := b7 (by omega)
    exact h.1.w (by omega) (by omega)
  · rw [if_neg e2, if_neg e2]
    by_cases e1 : uKind u k = 1
    · rw [if_pos e1, if_pos e1]
      have := b7 (by omega)
      exact h.1.w (by omega) (by omega)
    · rw [if_neg e1, if_neg e1]
theorem IV.first (h : IV A c u n) {k : Int} (h1 : 1 ≤ k) (h2 : k ≤ uw u 4) (hk : uKind u k = 1) : cFirst A c k = uw u 8 + uw u (uRow u k + 6) := by
  obtain ⟨b1, b2, b3, b4, b5, b6, b7⟩ := h.2.1.row h.2.2 h1 h2
  have := b7 (by omega)
  unfold cFirst
  rw [h.row h1 h2, h.1.2.2.2.2.2.2.1, h.1.w (by omega) (by omega)]
theorem IV.name (h : IV A c u n) {k i : Int} (h1 : 1 ≤ k) (h2 : k ≤ uw u 4) (hk : uKind u k = 1) (i0 : 0 ≤ i) (i1 : i < uMany u k) : cw A c (cFirst A c k + 4 * i) = uName u k i ∧ cw A c (cFirst A c k + 4 * i + 2) = uNum u k i := by
  obtain ⟨b1, b2, b3, b4, b5, b6, b7⟩ := h.2.1.row h.2.2 h1 h2
  obtain ⟨d1, d2, d3, d4⟩ := h.2.1.2.2.2.1 k h1 h2 hk
  have w := uw_le h.2.2 (uRow u k + 6)
  obtain ⟨v1, v2, v3, v4, v5, v6, v7, v8, v9⟩ := h.2.1.1
  rw [h.first h1 h2 hk]
  exact ⟨h.1.w (by omega) (by omega), h.1.w (by omega) (by omega)⟩
theorem k_targetOf (h : IV A c u n) {k a : Int} (h1 : 1 ≤ k) (h2 : k ≤ uw u 4) (hk : uKind u k = 1) (ra : jW a) (hK : K (uChild u k a) A) : jrI 49 0 [some (.ref c), some (.int (jI k)), some (.int (jI a)), none, none, none, none] [] E A K := by
  have hi := h.1.1
  have w4 := uw_le h.2.2 4
  have sk : jS k := ⟨by omega, by omega⟩
  have fl := cFirst_le hi k
  have Vd := h.2.1.2.2.2.1
  have hm := uw_le h.2.2 (uRow u k + 8)
  have hM : uMany u k = uw u (uRow u k + 8) := rfl
  refine vd_X1_targetOf_0 c hi.1 k ⟨by omega, by omega⟩ a ra E A K (k_firstNamePlace hi sk (k_sizeOf hi sk ?_))
  rw [h.size h1 h2, if_neg (by omega), if_pos hk]
  refine j_loop (P := fun i => 0 ≤ i → i ≤ uMany u k → (∀ j, 0 ≤ j → j < i → uName u k j ≠ a) → jrI 49 16 [some (.ref c), none, some (.int (jI a)), some (.int (jI (cFirst A c k))), some (.int (jI (uMany u k))), some (.int (jI i)), none] [] E A K) (uMany u k) (fun i ih i0 i1 hj => ?_) 0 (by omega) (by omega) (fun j a b => by omega)
  refine vd_X1_targetOf_16 c hi.1 a ra _ ⟨by omega, by omega⟩ _ ⟨by omega, by omega⟩ i ⟨by omega, by omega⟩ E A K ⟨fun q => ?_, fun q => k_wordAt hi ⟨by omega, by omega⟩ ⟨fun q2 => ih q (by omega) (by omega) (fun j j0 j1 => ?_), fun q2 => k_wordAt hi ⟨by omega, by omega⟩ ?_⟩⟩
  · rwa [uChild_no (fun j j0 j1 => hj j j0 (by omega))] at hK
  · rw [(h.name h1 h2 hk i0 q).1] at q2
    by_cases e : j = i
    · rw [e]; exact q2
    · exact hj j j0 (by omega)
  · rw [(h.name h1 h2 hk i0 q).1] at q2
    rw [(h.name h1 h2 hk i0 q).2]
    rwa [uChild_at Vd h1 h2 hk i0 q q2] at hK
/-- the reference -/
theorem k_manyOf (hb : MB A) {m k : Int} (hm : 0 ≤ m ∧ m ≤ 2) {n : Int} (V : VA (mb A m) n) (h1 : 1 ≤ k) (h2 : k ≤ uw (mb A m) 4) (hk : uKind (mb A m) k = 1) (hK : K (uMany (mb A m) k) A) : jrI 180 0 [some (.ref 49), some (.int (jI m)), some (.int (jI k))] [] E A K := by
  obtain ⟨b1, b2, b3, b4, b5, b6, b7⟩ := V.row (hb.u m) h1 h2
  have := b7 (by omega)
  have hn := V.1.2.1
  have w12 : mw A m 12 = uw (mb A m) 12 := rfl
  have rr : mRow A m k = uRow (mb A m) k := rfl
  exact vd_X7_manyOf_0 m ⟨by omega, by omega⟩ k ⟨by have := uw_le (hb.u m) 4; omega, by have := uw_le (hb.u m) 4; omega⟩ E A K (k_inode hb hm ⟨h1, by omega⟩ (k_mword hb hm (by omega) hK))
theorem k_firstOf (hb : MB A) {m k : Int} (hm : 0 ≤ m ∧ m ≤ 2) {n : Int} (V : VA (mb A m) n) (h1 : 1 ≤ k) (h2 : k ≤ uw (mb A m) 4) (hk : uKind (mb A m) k = 1) (hK : K (uw (mb A m) (uRow (mb A m) k + 6) / 4) A) : jrI 156 0 [some (.ref 49), some (.int (jI m)), some (.int (jI k))] [] E A K := by
  obtain ⟨b1, b2, b3, b4, b5, b6, b7⟩ := V.row (hb.u m) h1 h2
  have := b7 (by omega)
  have hn := V.1.2.1
  have w12 : mw A m 12 = uw (mb A m) 12 := rfl
  have rr : mRow A m k = uRow (mb A m) k := rfl
  have w := uw_le (hb.u m) (uRow (mb A m) k + 6)
  have ww : mw A m (uRow (mb A m) k + 6) = uw (mb A m) (uRow (mb A m) k + 6) := rfl
  refine vd_X7_firstOf_0 m ⟨by omega, by omega⟩ k ⟨by have := uw_le (hb.u m) 4; omega, by have := uw_le (hb.u m) 4; omega⟩ E A K (k_inode hb hm ⟨h1, by omega⟩ (k_mword hb hm (by omega) ?_))
  exact ⟨by rw [rr, ww]; omega, ⟨by rw [rr, ww]; omega, by rw [rr, ww]; omega⟩, hK⟩
theorem k_nameAt (hb : MB A) {m k i : Int} (hm : 0 ≤ m ∧ m ≤ 2) {n : Int} (V : VA (mb A m) n) (h1 : 1 ≤ k) (h2 : k ≤ uw (mb A m) 4) (hk : uKind (mb A m) k = 1) (i0 : 0 ≤ i) (i1 : i < uMany (mb A m) k) (hK : K (uName (mb A m) k i) A) : jrI 181 0 [some (.ref 49), some (.int (jI m)), some (.int (jI (uw (mb A m) (uRow (mb A m) k + 6) / 4 + i)))] [] E A K := by
  obtain ⟨b1, b2, b3, b4, b5, b6, b7⟩ := V.row (hb.u m) h1 h2
  obtain ⟨d1, d2, d3, d4⟩ := V.2.2.2.1 k h1 h2 hk
  have w := uw_le (hb.u m) (uRow (mb A m) k + 6)
  have w8 := uw_le (hb.u m) 8
  obtain ⟨v1, v2, v3, v4, v5, v6, v7, v8, v9⟩ := V.1
  refine vd_X7_nameAt_0 m ⟨by omega, by omega⟩ _ ⟨by omega, by omega⟩ E A K (k_mword hb hm (by omega) ?_)
  have e : mw A m 8 + 4 * (uw (mb A m) (uRow (mb A m) k + 6) / 4 + i) = uw (mb A m) 8 + uw (mb A m) (uRow (mb A m) k + 6) + 4 * i := by
    have : mw A m 8 = uw (mb A m) 8 := rfl
    omega
  rw [e]
  exact k_mword hb hm (by omega) hK
theorem k_numberAt (hb : MB A) {m k i : Int} (hm : 0 ≤ m ∧ m ≤ 2) {n : Int} (V : VA (mb A m) n) (h1 : 1 ≤ k) (h2 : k ≤ uw (mb A m) 4) (hk : uKind (mb A m) k = 1) (i0 : 0 ≤ i) (i1 : i < uMany (mb A m) k) (hK : K (uNum (mb A m) k i) A) : jrI 190 0 [some (.ref 49), some (.int (jI m)), some (.int (jI (uw (mb A m) (uRow (mb A m) k + 6) / 4 + i)))] [] E A K := by
  obtain ⟨b1, b2, b3, b4, b5, b6, b7⟩ := V.row (hb.u m) h1 h2
  obtain ⟨d1, d2, d3, d4⟩ := V.2.2.2.1 k h1 h2 hk
  have w := uw_le (hb.u m) (uRow (mb A m) k + 6)
  have w8 := uw_le (hb.u m) 8
  obtain ⟨v1, v2, v3, v4, v5, v6, v7, v8, v9⟩ := V.1
  refine vd_X7_numberAt_0 m ⟨by omega, by omega⟩ _ ⟨by omega, by omega⟩ E A K (k_mword hb hm (by omega) ?_)
  have e : mw A m 8 + 4 * (uw (mb A m) (uRow (mb A m) k + 6) / 4 + i) + 2 = uw (mb A m) 8 + uw (mb A m) (uRow (mb A m) k + 6) + 4 * i + 2 := by
    have : mw A m 8 = uw (mb A m) 8 := rfl
    omega
  rw [e]
  exact k_mword hb hm (by omega) hK
theorem k_child (hb : MB A) {m k a : Int} (hm : 0 ≤ m ∧ m ≤ 2) {n : Int} (V : VA (mb A m) n) (h1 : 1 ≤ k) (h2 : k ≤ uw (mb A m) 4) (hk : uKind (mb A m) k = 1) (ra : jW a) (hK : K (uChild (mb A m) k a) A) : jrI 145 0 [some (.ref 49), some (.int (jI m)), some (.int (jI k)), some (.int (jI a)), none, none] [] E A K := by
  have w4 := uw_le (hb.u m) 4
  have rm : jW m := ⟨by omega, by omega⟩
  have rk : jW k := ⟨by omega, by omega⟩
  have hM := uw_le (hb.u m) (uRow (mb A m) k + 8)
  have hMM : uMany (mb A m) k = uw (mb A m) (uRow (mb A m) k + 8) := rfl
  have Vd := V.2.2.2.1
  have hnum := (Vd k h1 h2 hk).2.2.1
  refine vd_X7_child_0 m rm k rk a ra E A K ?_
  refine j_loop (P := fun i => ∀ b : Int, 0 ≤ i → i ≤ uMany (mb A m) k → b = uch (mb A m) k a i.toNat → 0 ≤ b → b ≤ 65535 → jrI 145 6 [some (.ref 49), some (.int (jI m)), some (.int (jI k)), some (.int (jI a)), some (.int (jI b)), some (.int (jI i))] [] E A K) (uMany (mb A m) k) (fun i ih b i0 i1 hbb b0 b1 => ?_) 0 0 (by omega) (by omega) rfl (by omega) (by omega)
  have ri : jW i := ⟨by omega, by omega⟩
  have rb : jW b := ⟨by omega, by omega⟩
  have step : i < uMany (mb A m) k → ∀ c : Int, 0 ≤ c → c ≤ 65535 → c = (if uName (mb A m) k i = a then uNum (mb A m) k i else uch (mb A m) k a i.toNat) → jrI 145 54 [some (.ref 49), some (.int (jI m)), some (.int (jI k)), some (.int (jI a)), none, some (.int (jI i))] [.int (jI c)] E A K := by
    intro q c c0 c1 hc
    refine vd_X7_child_54 m rm k rk a ra i ri c ⟨by omega, by omega⟩ E A K (ih q c (by omega) (by omega) ?_ c0 c1)
    rw [show (i + 1).toNat = i.toNat + 1 by omega, hc]
    simp only [uch]
    rw [Int.toNat_of_nonneg i0]
  refine vd_X7_child_6 m rm k rk a ra b rb i ri E A K (k_manyOf hb hm V h1 h2 hk ⟨fun q => ?_, fun q => k_firstOf hb hm V h1 h2 hk (k_nameAt hb hm V h1 h2 hk i0 q ⟨fun q2 => step q b b0 b1 (by rw [if_neg q2]; exact hbb), fun q2 => k_firstOf hb hm V h1 h2 hk (k_numberAt hb hm V h1 h2 hk i0 q (step q _ ?_ ?_ (by rw [if_pos q2])))⟩)⟩)
  · have e : i = uMany (mb A m) k := by omega
    rw [hbb, e]
    exact hK
  · have := hnum i i0 q; omega
  · have := hnum i i0 q; omega
end K19
