/-! BLOCKS ARE STORED, ON BOTH SIDES -/
def pRn (g : Int → Int) (l i : Int) : Nat → Int → Int
  | 0, r => r
  | f + 1, r => if i + r < l ∧ g (i + r) = g i then pRn g l i f (r + 1) else r
/-- how many like bytes stand side by side from i on -/
def pRun (g : Int → Int) (l i : Int) : Int := pRn g l i (l - i).toNat 1
/-- where the next three like bytes stand, l without -/
def pNx (g : Int → Int) (l : Int) : Nat → Int → Int
  | 0, _ => l
  | f + 1, i => if l < i + 3 then l else if g i = g (i + 1) ∧ g i = g (i + 2) then i else pNx g l f (i + 1)
def pNext (g : Int → Int) (l i : Int) : Int := pNx g l (l - i).toNat (i + 1)
def pSeg (g : Int → Int) (i : Int) (n : Nat) : List Int := (List.range n).map (fun k : Nat => g (i + (k : Int)))
def pPk (g : Int → Int) (l : Int) : Nat → Int → List Int
  | 0, _ => []
  | f + 1, i => if l ≤ i then [] else if 3 ≤ pRun g l i then (257 - pRun g l i) :: g i :: pPk g l f (i + pRun g l i) else (pNext g l i - i - 1) :: (pSeg g i (pNext g l i - i).toNat ++ pPk g l f (pNext g l i))
theorem pRn_le {g : Int → Int} {l i : Int} (f : Nat) (r : Int) (h1 : 1 ≤ r) (h2 : i + r ≤ l) (h3 : ∀ j, 0 ≤ j → j < r → g (i + j) = g i) : r ≤ pRn g l i f r ∧ i + pRn g l i f r ≤ l ∧ (∀ j, 0 ≤ j → j < pRn g l i f r → g (i + j) = g i) ∧ (l - i - r ≤ f → i + pRn g l i f r < l → g (i + pRn g l i f r) ≠ g i) := by
  induction f generalizing r with
  | zero => simp only [pRn]; exact ⟨by omega, h2, h3, fun a b => by omega⟩
  | succ f ih =>
    simp only [pRn]
    by_cases q : i + r < l ∧ g (i + r) = g i
    · rw [if_pos q]
      have := ih (r + 1) (by omega) (by omega) (fun j j0 j1 => by
        by_cases e : j = r
        · rw [e]; exact q.2
        · exact h3 j j0 (by omega))
      exact ⟨by omega, this.2.1, this.2.2.1, fun a b => this.2.2.2 (by omega) b⟩
    · rw [if_neg q]
      exact ⟨by omega, h2, h3, fun a b c => q ⟨b, c⟩⟩
theorem pRun_le {g : Int → Int} {l i : Int} (h : i < l) : 1 ≤ pRun g l i ∧ i + pRun g l i ≤ l ∧ (∀ j, 0 ≤ j → j < pRun g l i → g (i + j) = g i) ∧ (i + pRun g l i < l → g (i + pRun g l i) ≠ g i) := by
  have := pRn_le (g := g) (l := l) (i := i) (l - i).toNat 1 (by omega) (by omega) (fun j a b => by rw [show j = 0 by omega, Int.add_zero])
  exact ⟨this.1, this.2.1, this.2.2.1, this.2.2.2 (by omega)⟩
theorem pRun_3 {g : Int → Int} {l i : Int} (h : i < l) : 3 ≤ pRun g l i ↔ (i + 3 ≤ l ∧ g i = g (i + 1) ∧ g i = g (i + 2)) := by
  obtain ⟨a1, a2, a3, a4⟩ := pRun_le (g := g) h
  constructor
  · intro q
    exact ⟨by omega, (a3 1 (by omega) (by omega)).symm, (a3 2 (by omega) (by omega)).symm⟩
  · rintro ⟨b1, b2, b3⟩
    false_or_by_contra
    have : pRun g l i = 1 ∨ pRun g l i = 2 := by omega
    rcases this with e | e
    · rw [e] at a4; exact a4 (by omega) b2.symm
    · rw [e] at a4; exact a4 (by omega) b3.symm
theorem pNx_le {g : Int → Int} {l : Int} (f : Nat) (i : Int) (h : i ≤ l) (hf : l - i ≤ f) : i ≤ pNx g l f i ∧ pNx g l f i ≤ l ∧ (pNx g l f i < l → 3 ≤ pRun g l (pNx g l f i)) := by
  induction f generalizing i with
  | zero => simp only [pNx]; exact ⟨h, by omega, fun z => by omega⟩
  | succ f ih =>
    simp only [pNx]
    by_cases q : l < i + 3
    · rw [if_pos q]; exact ⟨h, by omega, fun z => by omega⟩
    · rw [if_neg q]
      by_cases q2 : g i = g (i + 1) ∧ g i = g (i + 2)
      · rw [if_pos q2]; exact ⟨by omega, h, fun z => (pRun_3 z).mpr ⟨by omega, q2⟩⟩
      · rw [if_neg q2]
        have := ih (i + 1) (by omega) (by omega)
        exact ⟨by omega, this.2⟩
theorem pNext_le {g : Int → Int} {l i : Int} (h : i < l) : i < pNext g l i ∧ pNext g l i ≤ l ∧ (pNext g l i < l → 3 ≤ pRun g l (pNext g l i)) := by
  have := pNx_le (g := g) (l := l) (l - i).toNat (i + 1) (by omega) (by omega)
  exact ⟨by unfold pNext; omega, this.2⟩
theorem pSeg_len (g : Int → Int) (i : Int) (n : Nat) : (pSeg g i n).length = n := by simp [pSeg]
theorem pSeg_get {g : Int → Int} {i : Int} {n k : Nat} (h : k < n) : (pSeg g i n).getD k 0 = g (i + k) := by
  simp [pSeg, List.getD_eq_getElem?_getD, h]
theorem pSeg_succ (g : Int → Int) (i : Int) (n : Nat) : pSeg g i (n + 1) = pSeg g i n ++ [g (i + n)] := by
  simp [pSeg, List.range_succ]
theorem pPk_len {g : Int → Int} {l : Int} (f : Nat) (i : Int) (h : i ≤ l) (hf : l - i ≤ f) : ((pPk g l f i).length : Int) ≤ l - i + 1 ∧ (i < l → 3 ≤ pRun g l i → ((pPk g l f i).length : Int) ≤ l - i) ∧ (i = l → pPk g l f i = []) := by
  induction f generalizing i with
  | zero => simp only [pPk, List.length_nil]; exact ⟨by omega, fun a => by omega, fun _ => trivial⟩
  | succ f ih =>
    simp only [pPk]
    by_cases q : l ≤ i
    · rw [if_pos q]; simp only [List.length_nil]; exact ⟨by omega, fun a => by omega, fun _ => trivial⟩
    · rw [if_neg q]
      obtain ⟨a1, a2, a3, a4⟩ := pRun_le (g := g) (l := l) (i := i) (by omega)
      by_cases q2 : 3 ≤ pRun g l i
      · rw [if_pos q2]
        have := ih (i + pRun g l i) (by omega) (by omega)
        simp only [List.length_cons]
        exact ⟨by omega, fun _ _ => by omega, fun z => by omega⟩
      · rw [if_neg q2]
        obtain ⟨b1, b2, b3⟩ := pNext_le (g := g) (l := l) (i := i) (by omega)
        obtain ⟨c1, c2, c3⟩ := ih (pNext g l i) b2 (by omega)
        simp only [List.length_cons, List.length_append, pSeg_len]
        refine ⟨?_, fun _ z => absurd z q2, fun z => by omega⟩
        by_cases e : pNext g l i = l
        · rw [c3 e]; simp only [List.length_nil]; omega
        · have := c2 (by omega) (b3 (by omega)); omega
/-- all that is packed is bytes -/
theorem pPk_b {g : Int → Int} {l : Int} (hl : l ≤ 32) (hg : ∀ i, 0 ≤ i → i < l → 0 ≤ g i ∧ g i ≤ 255) (f : Nat) (i : Int) (i0 : 0 ≤ i) : ∀ x ∈ pPk g l f i, 0 ≤ x ∧ x ≤ 255 := by
  induction f generalizing i with
  | zero => intro x hx; simp [pPk] at hx
  | succ f ih =>
    intro x hx
    simp only [pPk] at hx
    by_cases q : l ≤ i
    · rw [if_pos q] at hx; cases hx
    · rw [if_neg q] at hx
      obtain ⟨a1, a2, a3, a4⟩ := pRun_le (g := g) (l := l) (i := i) (by omega)
      by_cases q2 : 3 ≤ pRun g l i
      · rw [if_pos q2] at hx
        rcases List.mem_cons.mp hx with e | hx
        · omega
        · rcases List.mem_cons.mp hx with e | hx
          · rw [e]; exact hg i i0 (by omega)
          · exact ih _ (by omega) x hx
      · rw [if_neg q2] at hx
        obtain ⟨b1, b2, b3⟩ := pNext_le (g := g) (l := l) (i := i) (by omega)
        rcases List.mem_cons.mp hx with e | hx
        · omega
        · rcases List.mem_append.mp hx with hx | hx
          · simp only [pSeg, List.mem_map, List.mem_range] at hx
            obtain ⟨k, hk, e⟩ := hx
            rw [← e]; exact hg _ (by omega) (by omega)
          · exact ih _ (by omega) x hx
def sZ (g : Int → Int) : Nat → Int
  | 0 => 1
  | n + 1 => if sZ g n = 1 ∧ g n = 0 then 1 else 0
theorem sZ_iff {g : Int → Int} (n : Nat) : sZ g n = 1 ↔ ∀ i : Int, 0 ≤ i → i < n → g i = 0 := by
  induction n with
  | zero => simp only [sZ, true_iff]; intro i a b; omega
  | succ n ih =>
    simp only [sZ]
    by_cases q : sZ g n = 1 ∧ g n = 0
    · rw [if_pos q]
      refine ⟨fun _ i a b => ?_, fun _ => rfl⟩
      by_cases e : i = n
      · rw [e]; exact q.2
      · exact ih.mp q.1 i a (by omega)
    · rw [if_neg q]
      refine ⟨fun z => absurd z (by decide), fun z => absurd ⟨ih.mpr (fun i a b => z i a (by omega)), z n (by omega) (by omega)⟩ q⟩
def sPk (g : Int → Int) (l : Int) : List Int := pPk g l l.toNat 0
/-- the SIZE of a stored block, its bytes -/
def sSize (g : Int → Int) (l : Int) : Int := if sZ g l.toNat = 1 then 0 else if ((sPk g l).length : Int) < l then (sPk g l).length else 32768 + l
def sBytes (g : Int → Int) (l : Int) : List Int := if sZ g l.toNat = 1 then [] else if ((sPk g l).length : Int) < l then sPk g l else pSeg g 0 l.toNat
theorem sBytes_len {g : Int → Int} {l : Int} (hl : 0 ≤ l ∧ l ≤ 32) : ((sBytes g l).length : Int) ≤ l ∧ ((sBytes g l).length : Int) = jlies (sSize g l) := by
  unfold sBytes sSize jlies
  by_cases q : sZ g l.toNat = 1
  · rw [if_pos q, if_pos q]; simp; omega
  · rw [if_neg q, if_neg q]
    by_cases q2 : ((sPk g l).length : Int) < l
    · rw [if_pos q2, if_pos q2, if_neg (by omega)]; omega
    · rw [if_neg q2, if_neg q2, if_pos (by omega), pSeg_len]; omega
theorem sSize_le {g : Int → Int} {l : Int} (hl : 0 ≤ l ∧ l ≤ 32) : 0 ≤ sSize g l ∧ sSize g l ≤ 32800 := by
  unfold sSize
  split
  · omega
  · split <;> omega
theorem sBytes_b {g : Int → Int} {l : Int} (hl : 0 ≤ l ∧ l ≤ 32) (hg : ∀ i, 0 ≤ i → i < l → 0 ≤ g i ∧ g i ≤ 255) : ∀ x ∈ sBytes g l, 0 ≤ x ∧ x ≤ 255 := by
  intro x hx
  unfold sBytes at hx
  split at hx
  · cases hx
  · split at hx
    · exact pPk_b hl.2 hg _ 0 (by omega) x hx
    · simp only [pSeg, List.mem_map, List.mem_range] at hx
      obtain ⟨k, hk, e⟩ := hx
      rw [← e]; exact hg _ (by omega) (by omega)
/-- a list of bytes stands at p -/
def AT (u : Int → Int) (p : Int) (L : List Int) : Prop := ∀ k : Int, 0 ≤ k → k < L.length → u (p + k) = L.getD k.toNat 0
theorem AT.l {u : Int → Int} {p : Int} {L M : List Int} (h : AT u p (L ++ M)) : AT u p L := fun k k0 k1 => by
  rw [h k k0 (by rw [List.length_append]; omega), jgetD_l (by omega)]
theorem AT.r {u : Int → Int} {p : Int} {L M : List Int} (h : AT u p (L ++ M)) : AT u (p + L.length) M := fun k k0 k1 => by
  have := h (L.length + k) (by omega) (by rw [List.length_append]; omega)
  rw [Int.add_assoc, this, jgetD_r (by omega)]
  congr 1; omega
theorem AT.hd {u : Int → Int} {p x : Int} {L : List Int} (h : AT u p (x :: L)) : u p = x := by
  have := h 0 (by omega) (by simp)
  rw [Int.add_zero] at this
  rw [this]; rfl
theorem AT.tl {u : Int → Int} {p x : Int} {L : List Int} (h : AT u p (x :: L)) : AT u (p + 1) L := AT.r (L := [x]) (M := L) h
theorem uop_pk {u : Int → Int} {g : Int → Int} {l p s : Int} (hl : l ≤ 32) (F : Nat) (i a o : Int) (f : Nat) (hi : 0 ≤ i) (il : i ≤ l) (hF : l - i ≤ F) (h : AT u (p + a) (pPk g l F i)) (hs : a + (pPk g l F i).length = s) (hf : s - a ≤ f) : uop u p s f a o = o + (l - i) := by
  induction F generalizing i a o f with
  | zero =>
    simp only [pPk, List.length_nil] at hs
    have : a = s := by omega
    cases f with
    | zero => simp only [uop]; rw [if_pos this]; omega
    | succ f => simp only [uop]; rw [if_pos (by omega), if_pos this]; omega
  | succ F ih =>
    simp only [pPk] at h hs
    by_cases q : l ≤ i
    · rw [if_pos q] at hs
      have : a = s := by simp only [List.length_nil] at hs; omega
      cases f with
      | zero => simp only [uop]; rw [if_pos this]; omega
      | succ f => simp only [uop]; rw [if_pos (by omega), if_pos this]; omega
    · rw [if_neg q] at h hs
      obtain ⟨a1, a2, a3, a4⟩ := pRun_le (g := g) (l := l) (i := i) (by omega)
      by_cases q2 : 3 ≤ pRun g l i
      · rw [if_pos q2] at h hs
        simp only [List.length_cons] at hs
        obtain ⟨f', rfl⟩ : ∃ f', f = f' + 1 := ⟨f - 1, by omega⟩
        simp only [uop]
        have hh := h.hd
        have e1 : jpacket (u (p + a)) = 2 := by rw [hh]; unfold jpacket; rw [if_neg (by omega), if_neg (by omega)]
        have e2 : jopens (u (p + a)) = pRun g l i := by rw [hh]; unfold jopens; rw [if_neg (by omega), if_neg (by omega)]; omega
        rw [if_neg (by omega), e1, e2, ih (i + pRun g l i) (a + 2) (o + pRun g l i) f' (by omega) (by omega) (by omega) (by have := h.tl.tl; rwa [show p + a + 1 + 1 = p + (a + 2) by omega] at this) (by omega) (by omega)]
        omega
      · rw [if_neg q2] at h hs
        obtain ⟨b1, b2, b3⟩ := pNext_le (g := g) (l := l) (i := i) (by omega)
        simp only [List.length_cons, List.length_append, pSeg_len] at hs
        obtain ⟨f', rfl⟩ : ∃ f', f = f' + 1 := ⟨f - 1, by omega⟩
        simp only [uop]
        have hh := h.hd
        have e1 : jpacket (u (p + a)) = pNext g l i - i + 1 := by rw [hh]; unfold jpacket; rw [if_pos (by omega)]; omega
        have e2 : jopens (u (p + a)) = pNext g l i - i := by rw [hh]; unfold jopens; rw [if_pos (by omega)]; omega
        have h' := h.tl.r
        rw [pSeg_len] at h'
        rw [if_neg (by omega), e1, e2, ih (pNext g l i) (a + (pNext g l i - i + 1)) (o + (pNext g l i - i)) f' (by omega) b2 (by omega) (by rwa [show p + a + 1 + (((pNext g l i - i).toNat : Nat) : Int) = p + (a + (pNext g l i - i + 1)) by omega] at h') (by omega) (by omega)]
        omega
/-- what was stored can be opened -/
theorem UC_store {u : Int → Int} {g : Int → Int} {l p : Int} (hl : 0 ≤ l ∧ l ≤ 32) (hp : 18 ≤ p) (h6 : p + (sBytes g l).length ≤ uw u 6) (h : AT u p (sBytes g l)) : UC u p (sSize g l) l := by
  have hln := (sBytes_len (g := g) hl).2
  by_cases q : sZ g l.toNat = 1
  · left; unfold sSize; rw [if_pos q]
  · right
    refine ⟨hp, by omega, fun z => ?_, fun z => ?_⟩
    · unfold sSize at z ⊢
      rw [if_neg q] at z ⊢
      by_cases q2 : ((sPk g l).length : Int) < l
      · rw [if_pos q2] at z; omega
      · rw [if_neg q2]
    · by_cases q2 : ((sPk g l).length : Int) < l
      · have e : sSize g l = (sPk g l).length := by unfold sSize; rw [if_neg q, if_pos q2]
        have e2 : sBytes g l = sPk g l := by unfold sBytes; rw [if_neg q, if_pos q2]
        rw [e2] at h
        rw [e]
        have := uop_pk (u := u) (g := g) (l := l) (p := p) (s := (sPk g l).length) hl.2 l.toNat 0 0 0 (((sPk g l).length : Int)).toNat (by omega) hl.1 (by omega) (by rw [Int.add_zero]; exact h) (by show 0 + ((sPk g l).length : Int) = _; omega) (by omega)
        rw [this]; omega
      · unfold sSize at z
        rw [if_neg q, if_neg q2] at z; omega
