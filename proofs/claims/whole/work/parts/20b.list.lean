/-! THE NAMES BELOW A VIEW, ON BOTH SIDES -/
/-- the kind of what the name is in the uppermost layer that has it -/
def vtop (u : Int → Int → Int) (a : Int) : List (Int × Int) → Int
  | [] => 0
  | (l, k) :: r => if uChild (u l) k a = 0 then vtop u a r else uKind (u l) (uChild (u l) k a)
theorem vtop_pos {u : Int → Int → Int} {a : Int} (r : List (Int × Int)) : 0 < (vstep u a r []).length ↔ (vtop u a r = 1 ∨ vtop u a r = 2) := by
  induction r with
  | nil => simp [vstep, vtop]
  | cons c r ih =>
    obtain ⟨l, k⟩ := c
    simp only [vstep, vtop]
    by_cases h0 : uChild (u l) k a = 0
    · rw [if_pos h0, if_pos h0]; exact ih
    · rw [if_neg h0, if_neg h0]
      by_cases h1 : uKind (u l) (uChild (u l) k a) = 1
      · rw [if_pos h1]
        have := (vstep_len (u := u) (a := a) r ([] ++ [(l, uChild (u l) k a)])).2
        simp only [List.nil_append, List.length_cons, List.length_nil] at this
        exact ⟨fun _ => .inl h1, fun _ => this⟩
      · rw [if_neg h1]
        by_cases h2 : uKind (u l) (uChild (u l) k a) = 2
        · rw [if_pos ⟨h2, trivial⟩]; simp [h2]
        · rw [if_neg (fun z => h2 z.1)]
          simp only [List.length_nil]
          omega
/-- how many of the names 1 .. n lead to something -/
def vcnt (g : Int → Int) : Nat → Int
  | 0 => 0
  | n + 1 => vcnt g n + (if 0 < g ((n : Int) + 1) then 1 else 0)
theorem vcnt_mono {g : Int → Int} {m n : Nat} (h : m ≤ n) : vcnt g m ≤ vcnt g n := by
  induction n with
  | zero => rw [show m = 0 by omega]; omega
  | succ n ih =>
    by_cases e : m = n + 1
    · rw [e]; omega
    · have := ih (by omega)
      simp only [vcnt]
      split <;> omega
theorem vcnt_same {g : Int → Int} {m n : Nat} (h : m ≤ n) (hg : ∀ a : Int, m < a → a ≤ n → ¬ 0 < g a) : vcnt g n = vcnt g m := by
  induction n with
  | zero => rw [show m = 0 by omega]
  | succ n ih =>
    by_cases e : m = n + 1
    · rw [e]
    · simp only [vcnt]
      rw [if_neg (hg _ (by omega) (by omega)), ih (by omega) (fun a h1 h2 => hg a h1 (by omega))]
      omega
theorem vcnt_le (g : Int → Int) (n : Nat) : 0 ≤ vcnt g n ∧ vcnt g n ≤ n := by
  induction n with
  | zero => simp [vcnt]
  | succ n ih => simp only [vcnt]; split <;> omega
theorem vcnt_at {g : Int → Int} {w : Int} (h : 1 ≤ w) : vcnt g w.toNat = vcnt g (w - 1).toNat + (if 0 < g w then 1 else 0) := by
  obtain ⟨n, rfl⟩ : ∃ n : Nat, w = n + 1 := ⟨(w - 1).toNat, by omega⟩
  rw [show ((n : Int) + 1).toNat = n + 1 by omega, show ((n : Int) + 1 - 1).toNat = n by omega]
  rfl
/-- the x-th name that leads to something is w; 0 where there is none -/
def vLS (g : Int → Int) (x w : Int) : Prop := 1 ≤ w ∧ w ≤ 999 ∧ 0 < g w ∧ vcnt g (w - 1).toNat = x ∨ w = 0 ∧ ∀ a, 1 ≤ a → a ≤ 999 → 0 < g a → vcnt g (a - 1).toNat ≠ x
theorem vLS.one {g : Int → Int} {x w z : Int} (h1 : vLS g x w) (h2 : vLS g x z) : w = z := by
  rcases h1 with ⟨a1, a2, a3, a4⟩ | ⟨a1, a2⟩
  · rcases h2 with ⟨b1, b2, b3, b4⟩ | ⟨b1, b2⟩
    · have p := vcnt_at (g := g) a1
      have q := vcnt_at (g := g) b1
      rw [if_pos a3] at p
      rw [if_pos b3] at q
      by_cases hw : w < z
      · have := vcnt_mono (g := g) (show w.toNat ≤ (z - 1).toNat by omega); omega
      · by_cases hz : z < w
        · have := vcnt_mono (g := g) (show z.toNat ≤ (w - 1).toNat by omega); omega
        · omega
    · exact absurd a4 (b2 w a1 a2 a3)
  · rcases h2 with ⟨b1, b2, b3, b4⟩ | ⟨b1, b2⟩
    · exact absurd b4 (a2 z b1 b2 b3)
    · omega
def vg (A : jA) (v : Int) (a : Int) : Int := (vstep (lu A) a (vstk A v) []).length
/-- the class's walk: what it has passed, how many it has counted -/
def pset (A : jA) (f : Int → Int) (n : Int) : jA := fun o j => if o = 46 then f j else if o = 38 ∧ j = 9 then n else A o j
theorem pset_row {A : jA} {f : Int → Int} {n : Int} {o : Nat} (h : o ≠ 46) (h1 : o ≠ 38) : pset A f n o = A o := by
  funext j; simp only [pset]; rw [if_neg h, if_neg (fun q => h1 q.1)]
theorem pset_38 {A : jA} {f : Int → Int} {n j : Int} (h : j ≠ 9) : pset A f n 38 j = A 38 j := by
  simp only [pset]; rw [if_neg (by decide), if_neg (fun q => h q.2)]
theorem pset_46 (A : jA) (f : Int → Int) (n : Int) : pset A f n 46 = f := by funext j; simp [pset]
theorem pset_9 (A : jA) (f : Int → Int) (n : Int) : pset A f n 38 9 = n := by simp [pset]
theorem pset_IV {A : jA} {f : Int → Int} {m : Int} {c : Nat} {u : Int → Int} {n : Int} (h : IV A c u n) : IV (pset A f m) c u n := by
  have hc := h.1.1.1
  refine h.fr (pset_row ?_ ?_) (pset_row ?_ ?_) <;> (rcases hc with h | h | h | h | h <;> omega)
/-- all names up to t are passed, no others -/
def PW (A : jA) (v : Int) (f : Int → Int) (t : Int) : Prop := ∀ i, 0 ≤ i → i < A 41 v → 0 ≤ f i ∧ f i ≤ uMany (lu A (A 42 (v * 3 + i))) (A 43 (v * 3 + i)) ∧ (∀ j, 0 ≤ j → j < f i → uName (lu A (A 42 (v * 3 + i))) (A 43 (v * 3 + i)) j ≤ t) ∧ (∀ j, f i ≤ j → j < uMany (lu A (A 42 (v * 3 + i))) (A 43 (v * 3 + i)) → t < uName (lu A (A 42 (v * 3 + i))) (A 43 (v * 3 + i)) j)
/-- the next name behind t -/
def NX (A : jA) (v t d w : Int) : Prop := w = 0 ∧ (∀ i j, 0 ≤ i → i < d → 0 ≤ j → j < uMany (lu A (A 42 (v * 3 + i))) (A 43 (v * 3 + i)) → uName (lu A (A 42 (v * 3 + i))) (A 43 (v * 3 + i)) j ≤ t) ∨ t < w ∧ w ≤ 999 ∧ (∃ i j, 0 ≤ i ∧ i < d ∧ 0 ≤ j ∧ j < uMany (lu A (A 42 (v * 3 + i))) (A 43 (v * 3 + i)) ∧ uName (lu A (A 42 (v * 3 + i))) (A 43 (v * 3 + i)) j = w) ∧ (∀ i j, 0 ≤ i → i < d → 0 ≤ j → j < uMany (lu A (A 42 (v * 3 + i))) (A 43 (v * 3 + i)) → t < uName (lu A (A 42 (v * 3 + i))) (A 43 (v * 3 + i)) j → w ≤ uName (lu A (A 42 (v * 3 + i))) (A 43 (v * 3 + i)) j)
theorem k_nextName {v t n : Int} {f : Int → Int} (hv : 0 ≤ v ∧ v < 60) (ht : 0 ≤ t) {E : jE} {A : jA} (G : GI A) (hl : LR E A) (W : VF A v) (P : PW A v f t) {K : Int → jA → Prop} (h : ∀ w, NX A v t (A 41 v) w → K w (pset A f n)) : jrI 80 0 [some (.ref 38), some (.int (jI v)), none, none, none, none, none] [] E (pset A f n) K := by
  have rv : jW v := ⟨by omega, by omega⟩
  obtain ⟨d0, d3, W⟩ := W
  have hE := hl.2.2.2.2.2
  have p41 : pset A f n 41 = A 41 := pset_row (by decide) (by decide)
  have p42 : pset A f n 42 = A 42 := pset_row (by decide) (by decide)
  have p43 : pset A f n 43 = A 43 := pset_row (by decide) (by decide)
  have p46 := pset_46 A f n
  refine vd_X3_nextName_0 v rv E _ K (j_loop (P := fun i => ∀ x, 0 ≤ i → i ≤ A 41 v → NX A v t i x → jrI 80 4 [some (.ref 38), some (.int (jI v)), some (.int (jI x)), some (.int (jI i)), none, none, none] [] E (pset A f n) K) (A 41 v) (fun i ih x i0 i1 hx => ?_) 0 0 (by omega) d0 (Or.inl ⟨rfl, fun i j a b => by omega⟩))
  have ri : jW i := ⟨by omega, by omega⟩
  have rx : jW x := by rcases hx with h | h <;> exact ⟨by omega, by omega⟩
  refine vd_X3_nextName_4 v rv x rx i ri E hE _ K ?_
  rw [p41, p42, p43, p46]
  refine ⟨hv, fun q => ?_, fun q => ?_⟩
  · rw [show i = A 41 v by omega] at hx; exact h x hx
  obtain ⟨w1, w2, w3, w4, w5⟩ := W i i0 q
  obtain ⟨hI, m0, m2, l3⟩ := hl.img G w1 w2
  have hI2 := pset_IV (f := f) (m := n) hI
  obtain ⟨P1, P2, P3, P4⟩ := P i i0 q
  have w4' := uw_le hI.2.2 4
  have sk : jS (A 43 (v * 3 + i)) := ⟨by omega, by omega⟩
  have hm : 0 ≤ uMany (lu A (A 42 (v * 3 + i))) (A 43 (v * 3 + i)) ∧ uMany (lu A (A 42 (v * 3 + i))) (A 43 (v * 3 + i)) ≤ 65535 := uw_le hI.2.2 (uRow (lu A (A 42 (v * 3 + i))) (A 43 (v * 3 + i)) + 8)
  obtain ⟨dd1, dd2, dd3, dd4⟩ := hI.2.1.2.2.2.1 _ w3 w4 w5
  have eM : uMany (lu A (A 42 (v * 3 + i))) (A 43 (v * 3 + i)) = uMany (lu A (A 42 (v * 3 + i))) (A 43 (v * 3 + i)) := rfl
  have eR : uw (lu A (A 42 (v * 3 + i))) (uRow (lu A (A 42 (v * 3 + i))) (A 43 (v * 3 + i)) + 8) = uMany (lu A (A 42 (v * 3 + i))) (A 43 (v * 3 + i)) := rfl
  have eN : ∀ j, uName (lu A (A 42 (v * 3 + i))) (A 43 (v * 3 + i)) j = uName (lu A (A 42 (v * 3 + i))) (A 43 (v * 3 + i)) j := fun _ => rfl
  have next : ∀ y, jW y → NX A v t (i + 1) y → jrI 80 99 [some (.ref 38), some (.int (jI v)), some (.int (jI y)), some (.int (jI i)), none, none, none] [] E (pset A f n) K := fun y ry hy => vd_X3_nextName_99 v rv y ry i ri E _ K (ih q y (by omega) (by omega) hy)
  refine ⟨by omega, by omega, by omega, by omega, k_sizeOf hI2.1.1 sk ?_⟩
  rw [hI2.size w3 w4, if_neg (by omega), if_pos w5]
  refine ⟨fun q2 => next x rx ?_, fun q2 => ?_⟩
  · -- all are passed
    have all : ∀ j, 0 ≤ j → j < uMany (lu A (A 42 (v * 3 + i))) (A 43 (v * 3 + i)) → uName (lu A (A 42 (v * 3 + i))) (A 43 (v * 3 + i)) j ≤ t := fun j j0 j1 => P3 j j0 (by omega)
    rcases hx with ⟨e, hx⟩ | ⟨x1, x2, ⟨xi, xj, y1, y2, y3, y4, y5⟩, hx⟩
    · refine .inl ⟨e, fun i' j a b c d => ?_⟩
      by_cases e' : i' = i
      · subst e'; exact all j c d
      · exact hx i' j a (by omega) c d
    · refine .inr ⟨x1, x2, ⟨xi, xj, y1, by omega, y3, y4, y5⟩, fun i' j a b c d k => ?_⟩
      by_cases e' : i' = i
      · subst e'; have := all j c d; have h9 := k; omega
      · exact hx i' j a (by omega) c d k
  · have fl := cFirst_le hI2.1.1 (A 43 (v * 3 + i))
    refine k_firstNamePlace hI2.1.1 sk ⟨by omega, ?_⟩
    rw [p46]
    refine k_wordAt hI2.1.1 ⟨by omega, by omega⟩ ?_
    rw [(hI2.name w3 w4 w5 P1 q2).1]
    have hn := dd3 (f i) P1 q2
    have hp4 := P4 (f i) (by omega) q2
    have low : ∀ j, 0 ≤ j → j < uMany (lu A (A 42 (v * 3 + i))) (A 43 (v * 3 + i)) → t < uName (lu A (A 42 (v * 3 + i))) (A 43 (v * 3 + i)) j → uName (lu A (A 42 (v * 3 + i))) (A 43 (v * 3 + i)) (f i) ≤ uName (lu A (A 42 (v * 3 + i))) (A 43 (v * 3 + i)) j := fun j j0 j1 j2 => by
      by_cases h1 : j < f i
      · have := P3 j j0 h1; omega
      · by_cases h2 : j = f i
        · rw [h2]; exact Int.le_refl _
        · have := dd4 (f i) j P1 (by omega) j1; exact Int.le_of_lt this
    have rn : jW (uName (lu A (A 42 (v * 3 + i))) (A 43 (v * 3 + i)) (f i)) := ⟨by omega, by omega⟩
    have take : (∀ i' j, 0 ≤ i' → i' < i → 0 ≤ j → j < uMany (lu A (A 42 (v * 3 + i'))) (A 43 (v * 3 + i')) → t < uName (lu A (A 42 (v * 3 + i'))) (A 43 (v * 3 + i')) j → uName (lu A (A 42 (v * 3 + i))) (A 43 (v * 3 + i)) (f i) ≤ uName (lu A (A 42 (v * 3 + i'))) (A 43 (v * 3 + i')) j) → jrI 80 92 [some (.ref 38), some (.int (jI v)), none, some (.int (jI i)), none, none, some (.int (jI (uName (lu A (A 42 (v * 3 + i))) (A 43 (v * 3 + i)) (f i))))] [] E (pset A f n) K := fun hh => vd_X3_nextName_92 v rv i ri _ rn E _ K (vd_X3_nextName_98 v rv i ri _ rn E _ K (next _ rn (.inr ⟨hp4, by omega, ⟨i, f i, i0, by omega, P1, q2, rfl⟩, fun i' j a b c d k => by
        by_cases e' : i' = i
        · subst e'; exact low j c d k
        · exact hh i' j a (by omega) c d k⟩)))
    refine ⟨fun q3 => take (fun i' j a b c d k => ?_), fun q3 => ⟨fun q4 => ?_, fun q4 => take (fun i' j a b c d k => ?_)⟩⟩
    · rcases hx with ⟨e, hx⟩ | ⟨x1, x2, ⟨xi, xj, y1, y2, y3, y4, y5⟩, hx⟩
      · have := hx i' j a b c d; omega
      · omega
    · refine vd_X3_nextName_98 v rv i ri _ rx E _ K (next x rx ?_)
      rcases hx with ⟨e, hx⟩ | ⟨x1, x2, ⟨xi, xj, y1, y2, y3, y4, y5⟩, hx⟩
      · exact absurd e q3
      · refine .inr ⟨x1, x2, ⟨xi, xj, y1, by omega, y3, y4, y5⟩, fun i' j a b c d k => ?_⟩
        by_cases e' : i' = i
        · subst e'; have := low j c d k; omega
        · exact hx i' j a (by omega) c d k
    · rcases hx with ⟨e, hx⟩ | ⟨x1, x2, ⟨xi, xj, y1, y2, y3, y4, y5⟩, hx⟩
      · exact absurd e q3
      · have := hx i' j a b c d k; omega
/-- the walk passes one name -/
theorem k_passName {v t w n : Int} {f : Int → Int} (hv : 0 ≤ v ∧ v < 60) (hw : t < w) (rw' : jW w) {E : jE} {A : jA} (G : GI A) (hl : LR E A) (W : VF A v) (P : PW A v f t) (hN : ∀ i j, 0 ≤ i → i < A 41 v → 0 ≤ j → j < uMany (lu A (A 42 (v * 3 + i))) (A 43 (v * 3 + i)) → t < uName (lu A (A 42 (v * 3 + i))) (A 43 (v * 3 + i)) j → w ≤ uName (lu A (A 42 (v * 3 + i))) (A 43 (v * 3 + i)) j) {K : Int → jA → Prop} (h : ∀ f', PW A v f' w → K (vtop (lu A) w (vstk A v)) (pset A f' n)) : jrI 83 0 [some (.ref 38), some (.int (jI v)), some (.int (jI w)), none, none, none, none, none] [] E (pset A f n) K := by
  have rv : jW v := ⟨by omega, by omega⟩
  obtain ⟨d0, d3, W⟩ := W
  have hE := hl.2.2.2.2.2
  refine vd_X3_passName_0 v rv w rw' E _ K (j_loop (P := fun i => ∀ x f1, 0 ≤ i → i ≤ A 41 v → 0 ≤ x → x ≤ 255 → (∀ j, i ≤ j → f1 j = f j) → (∀ i', 0 ≤ i' → i' < i → 0 ≤ f1 i' ∧ f1 i' ≤ uMany (lu A (A 42 (v * 3 + i'))) (A 43 (v * 3 + i')) ∧ (∀ j, 0 ≤ j → j < f1 i' → uName (lu A (A 42 (v * 3 + i'))) (A 43 (v * 3 + i')) j ≤ w) ∧ (∀ j, f1 i' ≤ j → j < uMany (lu A (A 42 (v * 3 + i'))) (A 43 (v * 3 + i')) → w < uName (lu A (A 42 (v * 3 + i'))) (A 43 (v * 3 + i')) j)) → (if x = 0 then vtop (lu A) w (vfr A v (A 41 v - i).toNat i) else x) = vtop (lu A) w (vstk A v) → jrI 83 5 [some (.ref 38), some (.int (jI v)), some (.int (jI w)), some (.int (jI x)), some (.int (jI i)), none, none, none] [] E (pset A f1 n) K) (A 41 v) (fun i ih x f1 i0 i1 x0 x1 hf hp hx => ?_) 0 0 f (by omega) d0 (by omega) (by omega) (fun _ _ => rfl) (fun i' a b => by omega) (by rw [if_pos rfl, Int.sub_zero]; rfl))
  have p41 : pset A f1 n 41 = A 41 := pset_row (by decide) (by decide)
  have p42 : pset A f1 n 42 = A 42 := pset_row (by decide) (by decide)
  have p43 : pset A f1 n 43 = A 43 := pset_row (by decide) (by decide)
  have p46 := pset_46 A f1 n
  have ri : jW i := ⟨by omega, by omega⟩
  have rx : jW x := ⟨by omega, by omega⟩
  refine vd_X3_passName_5 v rv w rw' x rx i ri E hE _ K ?_
  rw [p41, p42, p43]
  refine ⟨hv, fun q => ?_, fun q => ?_⟩
  · rw [show (A 41 v - i).toNat = 0 by omega] at hx
    have e : vtop (lu A) w (vstk A v) = x := by
      rw [← hx]; by_cases e : x = 0
      · rw [if_pos e, e]; rfl
      · rw [if_neg e]
    rw [← e]
    exact h f1 (fun i' a b => hp i' a (by omega))
  obtain ⟨w1, w2, w3, w4, w5⟩ := W i i0 q
  obtain ⟨hI, m0, m2, l3⟩ := hl.img G w1 w2
  have hI2 := pset_IV (f := f1) (m := n) hI
  obtain ⟨P1, P2, P3, P4⟩ := P i i0 q
  rw [← hf i (by omega)] at P1 P2 P3 P4
  have w4' := uw_le hI.2.2 4
  have sk : jS (A 43 (v * 3 + i)) := ⟨by omega, by omega⟩
  have hm : 0 ≤ uMany (lu A (A 42 (v * 3 + i))) (A 43 (v * 3 + i)) ∧ uMany (lu A (A 42 (v * 3 + i))) (A 43 (v * 3 + i)) ≤ 65535 := uw_le hI.2.2 (uRow (lu A (A 42 (v * 3 + i))) (A 43 (v * 3 + i)) + 8)
  obtain ⟨dd1, dd2, dd3, dd4⟩ := hI.2.1.2.2.2.1 _ w3 w4 w5
  have eM : uMany (lu A (A 42 (v * 3 + i))) (A 43 (v * 3 + i)) = uMany (lu A (A 42 (v * 3 + i))) (A 43 (v * 3 + i)) := rfl
  have eR : uw (lu A (A 42 (v * 3 + i))) (uRow (lu A (A 42 (v * 3 + i))) (A 43 (v * 3 + i)) + 8) = uMany (lu A (A 42 (v * 3 + i))) (A 43 (v * 3 + i)) := rfl
  have eN : ∀ j, uName (lu A (A 42 (v * 3 + i))) (A 43 (v * 3 + i)) j = uName (lu A (A 42 (v * 3 + i))) (A 43 (v * 3 + i)) j := fun _ => rfl
  have fl := cFirst_le hI2.1.1 (A 43 (v * 3 + i))
  rw [show (A 41 v - i).toNat = (A 41 v - (i + 1)).toNat + 1 by omega] at hx
  simp only [vfr, vtop] at hx
  -- not here
  have skip : (∀ j, f1 i ≤ j → j < uMany (lu A (A 42 (v * 3 + i))) (A 43 (v * 3 + i)) → w < uName (lu A (A 42 (v * 3 + i))) (A 43 (v * 3 + i)) j) → jrI 83 128 [some (.ref 38), some (.int (jI v)), some (.int (jI w)), some (.int (jI x)), some (.int (jI i)), none, none, none] [] E (pset A f1 n) K := fun hh => by
    have hc : uChild (lu A (A 42 (v * 3 + i))) (A 43 (v * 3 + i)) w = 0 := uChild_no (fun j j0 j1 e => by
      by_cases hj : j < f1 i
      · have := P3 j j0 hj; have e' : uName (lu A (A 42 (v * 3 + i))) (A 43 (v * 3 + i)) j = w := e; omega
      · have := hh j (by omega) j1; have e' : uName (lu A (A 42 (v * 3 + i))) (A 43 (v * 3 + i)) j = w := e; omega)
    rw [if_pos hc] at hx
    refine vd_X3_passName_128 v rv w rw' x rx i ri E _ K (ih q x f1 (by omega) (by omega) x0 x1 (fun j hj => hf j (by omega)) (fun i' a b => ?_) hx)
    by_cases e' : i' = i
    · subst e'; exact ⟨P1, P2, fun j j0 j1 => by have := P3 j j0 j1; omega, hh⟩
    · exact hp i' a (by omega)
  refine ⟨by omega, by omega, by omega, k_firstNamePlace hI2.1.1 sk ⟨by omega, by omega, k_sizeOf hI2.1.1 sk ?_⟩⟩
  rw [hI2.size w3 w4, if_neg (by omega), if_pos w5, p46]
  refine ⟨fun q2 => skip (fun j a b => by omega), fun q2 => k_wordAt hI2.1.1 ⟨by omega, by omega⟩ ?_⟩
  rw [(hI2.name w3 w4 w5 P1 q2).1]
  have hp4 := P4 (f1 i) (by omega) q2
  have hge := hN i (f1 i) i0 q P1 q2 hp4
  refine ⟨fun q3 => skip (fun j a b => ?_), fun q3 => ?_⟩
  · by_cases e : j = f1 i
    · rw [e]; have q3' : ¬ uName (lu A (A 42 (v * 3 + i))) (A 43 (v * 3 + i)) (f1 i) = w := q3; omega
    · have := dd4 (f1 i) j P1 (by omega) b; have e' : uName (lu A (A 42 (v * 3 + i))) (A 43 (v * 3 + i)) (f1 i) = uName (lu A (A 42 (v * 3 + i))) (A 43 (v * 3 + i)) (f1 i) := rfl; have e2 : uName (lu A (A 42 (v * 3 + i))) (A 43 (v * 3 + i)) j = uName (lu A (A 42 (v * 3 + i))) (A 43 (v * 3 + i)) j := rfl; omega
  · rw [p46]
    refine ⟨by omega, ⟨by omega, by omega⟩, by omega, fun A2 e2 => ?_⟩
    have eA : A2 = pset A (fun j => if j = i then f1 i + 1 else f1 j) n := by
      rw [e2]; funext o j; simp only [jup, pset]
      by_cases ho : o = 46
      · rw [if_pos ho, if_pos ho]
        by_cases hj : j = i
        · rw [if_pos ⟨ho, hj⟩, if_pos hj]
        · rw [if_neg (fun z => hj z.2), if_neg hj]
      · rw [if_neg ho, if_neg ho, if_neg (fun z => ho z.1)]
    have hc : uChild (lu A (A 42 (v * 3 + i))) (A 43 (v * 3 + i)) w = uNum (lu A (A 42 (v * 3 + i))) (A 43 (v * 3 + i)) (f1 i) := uChild_at hI.2.1.2.2.2.1 w3 w4 w5 P1 q2 q3
    have hu := dd3 (f1 i) P1 q2
    have kk := hI.2.1.row hI.2.2 hu.2.2.1 hu.2.2.2
    have hI3 := pset_IV (f := (fun j => if j = i then f1 i + 1 else f1 j)) (m := n) hI
    have on : ∀ y, 0 ≤ y → y ≤ 255 → y ≠ 0 → y = vtop (lu A) w (vstk A v) → jrI 83 127 [some (.ref 38), some (.int (jI v)), some (.int (jI w)), none, some (.int (jI i)), none, none, none] [.int (jI y)] E A2 K := fun y y0 y1 y2 hy => by
      rw [eA]
      refine vd_X3_passName_127 v rv w rw' i ri y ⟨by omega, by omega⟩ E _ K (vd_X3_passName_128 v rv w rw' y ⟨by omega, by omega⟩ i ri E _ K (ih q y _ (by omega) (by omega) y0 y1 (fun j hj => ?_) (fun i' a b => ?_) (by rw [if_neg y2]; exact hy)))
      · show (if j = i then f1 i + 1 else f1 j) = f j
        rw [if_neg (by omega)]; exact hf j (by omega)
      · by_cases e' : i' = i
        · subst e'
          rw [if_pos rfl]
          refine ⟨by omega, by omega, fun j j0 j1 => ?_, fun j j0 j1 => ?_⟩
          · by_cases e : j = f1 i'
            · rw [e]; have q3' : uName (lu A (A 42 (v * 3 + i'))) (A 43 (v * 3 + i')) (f1 i') = w := q3; omega
            · have := P3 j j0 (by omega); omega
          · have := dd4 (f1 i') j P1 (by omega) j1; have q3' : uName (lu A (A 42 (v * 3 + i'))) (A 43 (v * 3 + i')) (f1 i') = w := q3; have e' : uName (lu A (A 42 (v * 3 + i'))) (A 43 (v * 3 + i')) (f1 i') = uName (lu A (A 42 (v * 3 + i'))) (A 43 (v * 3 + i')) (f1 i') := rfl; have e2 : uName (lu A (A 42 (v * 3 + i'))) (A 43 (v * 3 + i')) j = uName (lu A (A 42 (v * 3 + i'))) (A 43 (v * 3 + i')) j := rfl; omega
        · rw [if_neg e']; exact hp i' a (by omega)
    rw [hc, if_neg (show ¬ uNum (lu A (A 42 (v * 3 + i))) (A 43 (v * 3 + i)) (f1 i) = 0 by omega)] at hx
    refine ⟨fun q4 => on x x0 x1 q4 (by rw [if_neg q4] at hx; exact hx), fun q4 => ?_⟩
    rw [if_pos q4] at hx
    rw [eA]
    refine k_wordAt hI3.1.1 ⟨by omega, by omega⟩ ?_
    rw [hI2.first w3 w4 w5, ← hI3.first w3 w4 w5, (hI3.name w3 w4 w5 P1 q2).2]
    have hu1 : 1 ≤ uNum (lu A (A 42 (v * 3 + i))) (A 43 (v * 3 + i)) (f1 i) := hu.2.2.1
    have hu2 : uNum (lu A (A 42 (v * 3 + i))) (A 43 (v * 3 + i)) (f1 i) ≤ uw (lu A (A 42 (v * 3 + i))) 4 := hu.2.2.2
    refine k_kindOf hI3.1.1 ⟨by omega, by omega⟩ ?_
    rw [hI3.kind hu1 hu2, ← eA]
    exact on _ (by omega) (by omega) (by omega) hx
