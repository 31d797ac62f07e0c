/-! THE REFERENCE'S NAMES BELOW A VIEW; LIST AND VIEW ON BOTH SIDES -/
/-- what the reference writes while it looks for names: behind its views -/
def LB (A B : jA) : Prop := (∀ a, ¬ (75 ≤ a ∧ a ≤ 77) → B a = A a) ∧ (∀ j, j < A 49 37 → B 75 j = A 75 j) ∧ (∀ j, j < 3 * A 49 37 → B 76 j = A 76 j ∧ B 77 j = A 77 j)
theorem LB.rfl (A : jA) : LB A A := ⟨fun _ _ => Eq.refl _, fun _ _ => Eq.refl _, fun _ _ => ⟨Eq.refl _, Eq.refl _⟩⟩
theorem LB.next {A B : jA} (h : LB A B) (F : List (Int × Int)) (n : Int) : LB A (jup (mset B (B 49 37) F) 75 (B 49 37) n) := by
  obtain ⟨h1, h2, h3⟩ := h
  have e : B 49 37 = A 49 37 := by rw [h1 49 (by decide)]
  rw [e]
  refine ⟨fun a ha => ?_, fun j hj => ?_, fun j hj => ?_⟩
  · rw [jup_row (by omega), mset_row (by omega) (by omega), h1 a ha]
  · rw [jup_ne (by omega), mset_row (by decide) (by decide), h2 j hj]
  · rw [jup_row (by decide), jup_row (by decide), mset_lo hj, mset_lo hj]; exact h3 j hj
theorem LR.fr {E : jE} {A B : jA} (h10 : B 38 10 = A 38 10) (h39 : B 39 = A 39) (h74 : B 74 = A 74) (h1 : B 1 = A 1) (h35 : B 49 35 = A 49 35) (hl : LR E A) : LR E B := by
  unfold LR at hl ⊢
  rw [h10, h39, h74, h1, h35]; exact hl
theorem LB.gi {A B : jA} (h : LB A B) (G : GI A) : GI B := G.fr (fun a ha => h.1 a (by omega)) (by rw [h.1 49 (by decide)])
theorem LB.lr {E : jE} {A B : jA} (h : LB A B) (hl : LR E A) : LR E B := hl.fr (by rw [h.1 38 (by decide)]) (h.1 39 (by decide)) (h.1 74 (by decide)) (h.1 1 (by decide)) (by rw [h.1 49 (by decide)])
theorem LB.lu {A B : jA} (h : LB A B) : lu B = lu A := lu_eq (h.1 39 (by decide)) (h.1 58 (by decide))
theorem LB.vf {A B : jA} {v : Int} (h : LB A B) (W : VF A v) : VF B v := by
  unfold VF at W ⊢
  rw [h.1 41 (by decide), h.1 42 (by decide), h.1 43 (by decide), h.1 38 (by decide), h.lu]; exact W
theorem vfr_eq {A B : jA} (h42 : B 42 = A 42) (h43 : B 43 = A 43) (v : Int) (n : Nat) (i : Int) : vfr B v n i = vfr A v n i := vfr_congr (fun j _ _ => by rw [h42, h43]; exact ⟨rfl, rfl⟩)
theorem LB.veq {A B : jA} {v : Int} (h : LB A B) : vg B v = vg A v := by
  funext a; unfold vg vstk
  rw [h.lu, h.1 41 (by decide), vfr_eq (h.1 42 (by decide)) (h.1 43 (by decide))]
theorem LB.vm {A B : jA} {v : Int} (h : LB A B) (hv : 0 ≤ v ∧ v < A 49 37) (W : VF A v) (M : VM A v) : VM B v := by
  obtain ⟨M1, M2⟩ := M
  have d3 := W.2.1
  refine ⟨?_, fun i i0 i1 => ?_⟩
  · rw [h.2.1 v hv.2, h.1 41 (by decide)]; exact M1
  · rw [h.1 41 (by decide)] at i1
    have := h.2.2 (3 * v + i) (by omega)
    rw [this.1, this.2, h.1 39 (by decide), h.1 42 (by decide), h.1 43 (by decide)]
    exact M2 i i0 i1
/-- the reference's next name -/
def NR (g : Int → Int) (t w : Int) : Prop := t < w ∧ (∀ a, t < a → a < w → ¬ 0 < g a) ∧ (w = 1000 ∨ w < 1000 ∧ 0 < g w)
theorem k_nextIn {v t : Int} {E : jE} {A B : jA} (ht : 0 ≤ t ∧ t ≤ 999) (G : GI A) (hl : LR E A) (hV : 0 ≤ A 49 37 ∧ A 49 37 ≤ 60) (hv : 0 ≤ v ∧ v < A 49 37) (W : VF A v) (M : VM A v) (hB : LB A B) {K : Int → jA → Prop} (h : ∀ w C, NR (vg A v) t w → LB A C → K w C) : jrI 186 0 [some (.ref 49), some (.int (jI v)), some (.int (jI t)), none] [] E B K := by
  have rv : jW v := ⟨by omega, by omega⟩
  refine vd_X7_nextIn_0 v rv t ⟨by omega, by omega⟩ E B K ?_
  refine j_loop (P := fun i => ∀ B, LB A B → t < i → i ≤ 1000 → (∀ a, t < a → a < i → ¬ 0 < vg A v a) → jrI 186 4 [some (.ref 49), some (.int (jI v)), none, some (.int (jI i))] [] E B K) 1000 (fun i ih B hB i0 i1 hz => ?_) (t + 1) B hB (by omega) (by omega) (fun a a1 a2 => by omega)
  have e37 : B 49 37 = A 49 37 := by rw [hB.1 49 (by decide)]
  refine vd_X7_nextIn_4 v rv i ⟨by omega, by omega⟩ E B K ⟨fun q => ?_, fun q => ?_⟩
  · exact h 1000 B ⟨by omega, fun a a1 a2 => hz a a1 (by omega), .inl rfl⟩ hB
  · refine k_leads ⟨by omega, by omega⟩ (hB.gi G) (hB.lr hl) (by omega) (by omega) (hB.vf W) (hB.vm hv W M) ?_
    have e : ((vstep (lu B) i (vstk B v) []).length : Int) = vg A v i := by rw [← hB.veq]; rfl
    have hC := hB.next (vstep (lu B) i (vstk B v) []) (vstep (lu B) i (vstk B v) []).length
    rw [e] at hC ⊢
    refine ⟨fun q2 => ih q _ hC (by omega) (by omega) (fun a a1 a2 => ?_), fun q2 => h i _ ⟨i0, hz, .inr ⟨q, q2⟩⟩ hC⟩
    by_cases ha : a = i
    · subst ha; omega
    · exact hz a a1 (by omega)
/-- the name w has k leading ones before it; 1000: there are k -/
def NI (g : Int → Int) (k w : Int) : Prop := 1 ≤ w ∧ w < 1000 ∧ 0 < g w ∧ vcnt g (w - 1).toNat = k ∨ w = 1000 ∧ vcnt g 999 = k
theorem NI.first {g : Int → Int} {w : Int} (h : NR g 0 w) : NI g 0 w := by
  obtain ⟨h1, h2, h3⟩ := h
  rcases h3 with rfl | ⟨h3, h4⟩
  · exact .inr ⟨rfl, vcnt_same (m := 0) (by omega) (fun a a1 a2 => h2 a (by omega) (by omega))⟩
  · exact .inl ⟨by omega, h3, h4, vcnt_same (m := 0) (by omega) (fun a a1 a2 => h2 a (by omega) (by omega))⟩
theorem NI.next {g : Int → Int} {k w z : Int} (h : NI g k w) (hw : w < 1000) (hz : NR g w z) : NI g (k + 1) z := by
  rcases h with ⟨a1, a2, a3, a4⟩ | ⟨a1, a2⟩
  · have e := vcnt_at (g := g) a1
    rw [if_pos a3] at e
    obtain ⟨h1, h2, h3⟩ := hz
    rcases h3 with rfl | ⟨h3, h4⟩
    · refine .inr ⟨rfl, ?_⟩
      rw [vcnt_same (m := w.toNat) (n := 999) (by omega) (fun a a1 a2 => h2 a (by omega) (by omega))]; omega
    · refine .inl ⟨by omega, h3, h4, ?_⟩
      rw [vcnt_same (m := w.toNat) (n := (z - 1).toNat) (by omega) (fun a a1 a2 => h2 a (by omega) (by omega))]; omega
  · omega
theorem NI.le {g : Int → Int} {k w : Int} (h : NI g k w) : 1 ≤ w ∧ w ≤ 1000 ∧ 0 ≤ k ∧ k ≤ 999 := by
  have e := vcnt_le g (w - 1).toNat
  have e9 := vcnt_le g 999
  rcases h with h | h <;> omega
theorem k_list44 {v x : Int} {E : jE} {A : jA} (rx : jW x) (hx : 0 ≤ x) (G : GI A) (hl : LR E A) (hV : 0 ≤ A 49 37 ∧ A 49 37 ≤ 60) (hv : 0 ≤ v ∧ v < A 49 37) (W : VF A v) (M : VM A v) {K : Int → jA → Prop} (h : ∀ w C, vLS (vg A v) x w → LB A C → K w C) {w : Int} {B : jA} (hB : LB A B) (hw : NI (vg A v) 0 w) : jrI 177 44 [some (.ref 49), some (.int (jI v)), some (.int (jI x)), some (.int (jI w)), some (.int (jI 0))] [] E B K := by
  have rv : jW v := ⟨by omega, by omega⟩
  refine j_loop (P := fun i => ∀ B w, LB A B → 0 ≤ i → i ≤ x → NI (vg A v) i w → jrI 177 44 [some (.ref 49), some (.int (jI v)), some (.int (jI x)), some (.int (jI w)), some (.int (jI i))] [] E B K) x (fun i ih B w hB i0 i1 N => ?_) 0 B w hB (by omega) hx hw
  have nl := N.le
  have rw' : jW w := ⟨by omega, by omega⟩
  refine vd_X7_list_44 v rv x rx w rw' i ⟨by omega, by omega⟩ E B K ⟨fun q => ?_, fun q => ⟨fun q2 => ?_, fun q2 => ?_⟩⟩
  · have ei : i = x := by omega
    subst ei
    refine vd_X7_list_70 w rw' E B K ⟨fun q2 => h 0 B ?_ hB, fun q2 => h w B ?_ hB⟩
    · rcases N with ⟨a1, a2, a3, a4⟩ | ⟨a1, a2⟩
      · omega
      · refine .inr ⟨rfl, fun a b1 b2 b3 e => ?_⟩
        have p := vcnt_at (g := vg A v) b1
        rw [if_pos b3] at p
        have := vcnt_mono (g := vg A v) (show a.toNat ≤ 999 by omega)
        omega
    · rcases N with ⟨a1, a2, a3, a4⟩ | ⟨a1, a2⟩
      · exact .inl ⟨a1, by omega, a3, a4⟩
      · omega
  · refine vd_X7_list_70 w rw' E B K ⟨fun _ => h 0 B ?_ hB, fun z => by omega⟩
    rcases N with ⟨a1, a2, a3, a4⟩ | ⟨a1, a2⟩
    · omega
    · refine .inr ⟨rfl, fun a b1 b2 b3 e => ?_⟩
      have p := vcnt_at (g := vg A v) b1
      rw [if_pos b3] at p
      have := vcnt_mono (g := vg A v) (show a.toNat ≤ 999 by omega)
      omega
  · exact k_nextIn (by omega) G hl hV hv W M hB (fun z C hz hC => ih q C z hC (by omega) (by omega) (N.next q2 hz))
theorem k_namesIn {v : Int} {E : jE} {A : jA} (G : GI A) (hl : LR E A) (hV : 0 ≤ A 49 37 ∧ A 49 37 ≤ 60) (hv : 0 ≤ v ∧ v < A 49 37) (W : VF A v) (M : VM A v) {K : Int → jA → Prop} (h : ∀ C, LB A C → K (vcnt (vg A v) 999) C) : jrI 184 0 [some (.ref 49), some (.int (jI v)), none, none] [] E A K := by
  have rv : jW v := ⟨by omega, by omega⟩
  refine vd_X7_namesIn_0 v rv E A K (k_nextIn (by omega) G hl hV hv W M (LB.rfl A) (fun w B N hB => ?_))
  refine j_loop (P := fun i => ∀ B w, LB A B → 0 ≤ i → NI (vg A v) i w → jrI 184 9 [some (.ref 49), some (.int (jI v)), some (.int (jI i)), some (.int (jI w))] [] E B K) 1000 (fun i ih B w hB i0 N => ?_) 0 B w hB (by omega) (NI.first N)
  have nl := N.le
  refine vd_X7_namesIn_9 v rv i ⟨by omega, by omega⟩ w ⟨by omega, by omega⟩ E B K ⟨fun q => ?_, fun q => ?_⟩
  · rcases N with ⟨a1, a2, a3, a4⟩ | ⟨a1, a2⟩
    · omega
    · rw [← a2]; exact h B hB
  · exact k_nextIn (by omega) G hl hV hv W M hB (fun z C hz hC => ih (by omega) C z hC (by omega) (N.next q hz))
/-- after both have walked: the views stand -/
theorem walked {E : jE} {A B C : jA} {f : Int → Int} {n : Int} (hl : LR E A) (W : VW A) (hB : B = jup (pset A f n) 49 0 0) (hC : LB B C) : VW C ∧ FV A C := by
  have b : ∀ o, o ≠ 49 → o ≠ 46 → o ≠ 38 → B o = A o := fun o h1 h2 h3 => by rw [hB, jup_row h1, pset_row h2 h3]
  have b38 : ∀ k, k ≠ 9 → B 38 k = A 38 k := fun k hk => by rw [hB, jup_row (by decide), pset_38 hk]
  have b49 : ∀ k, k ≠ 0 → B 49 k = A 49 k := fun k hk => by rw [hB, jup_ne hk, pset_row (by decide) (by decide)]
  have b0 : B 49 0 = 0 := by rw [hB, jup_at]
  obtain ⟨c1, c2, c3⟩ := hC
  have w37 := W.1
  rw [b49 37 (by decide), w37] at c2 c3
  refine ⟨W.keep ?_ ?_ ?_ ?_ ?_ (fun j hj => ⟨?_, ?_⟩) (fun j hj => ⟨?_, ?_, ?_, ?_⟩), ⟨fun a h1 h2 h3 h4 => ?_, ?_, fun k h0 h1 => ?_, ?_⟩⟩
  · rw [c1 39 (by decide), b 39 (by decide) (by decide) (by decide)]
  · rw [c1 58 (by decide), b 58 (by decide) (by decide) (by decide)]
  · rw [c1 38 (by decide), b38 _ (by decide)]
  · rw [c1 38 (by decide), b38 _ (by decide)]
  · rw [c1 49 (by decide), b49 _ (by decide)]
  · rw [c1 41 (by decide), b 41 (by decide) (by decide) (by decide)]
  · rw [c2 j hj, b 75 (by decide) (by decide) (by decide)]
  · rw [c1 42 (by decide), b 42 (by decide) (by decide) (by decide)]
  · rw [c1 43 (by decide), b 43 (by decide) (by decide) (by decide)]
  · rw [(c3 j hj).1, b 76 (by decide) (by decide) (by decide)]
  · rw [(c3 j hj).2, b 77 (by decide) (by decide) (by decide)]
  · rw [c1 a h4, b a h3 (by omega) h1]
  · rw [c1 38 (by decide), b38 _ (by decide)]
  · rw [c1 49 (by decide), b49 k h0]
  · rw [c1 49 (by decide), b0]
/-- what a table has in common with A as far as the views are read -/
theorem same_vg {A B : jA} (h39 : B 39 = A 39) (h58 : B 58 = A 58) (h41 : B 41 = A 41) (h42 : B 42 = A 42) (h43 : B 43 = A 43) (v : Int) : vg B v = vg A v := by
  funext a; unfold vg vstk
  rw [lu_eq h39 h58, h41, vfr_eq h42 h43]
theorem same_vf {A B : jA} {v : Int} (h39 : B 39 = A 39) (h58 : B 58 = A 58) (h41 : B 41 = A 41) (h42 : B 42 = A 42) (h43 : B 43 = A 43) (h10 : B 38 10 = A 38 10) (W : VF A v) : VF B v := by
  unfold VF at W ⊢
  rw [h41, h42, h43, h10, lu_eq h39 h58]; exact W
theorem same_vm {A B : jA} {v : Int} (h39 : B 39 = A 39) (h41 : B 41 = A 41) (h42 : B 42 = A 42) (h43 : B 43 = A 43) (h75 : B 75 = A 75) (h76 : B 76 = A 76) (h77 : B 77 = A 77) (M : VM A v) : VM B v := by
  unfold VM at M ⊢
  rw [h41, h42, h43, h39, h75, h76, h77]; exact M
theorem same_vs {A B : jA} {v : Int} (h39 : B 39 = A 39) (h58 : B 58 = A 58) (h41 : B 41 = A 41) (h42 : B 42 = A 42) (h43 : B 43 = A 43) (h10 : B 38 10 = A 38 10) (W : VS A v) : VS B v := by
  unfold VS at W ⊢
  rw [h41, h42, h43, h10, lu_eq h39 h58]; exact W
theorem pset_self (A : jA) : pset A (A 46) (A 38 9) = A := by
  funext o j; simp only [pset]
  by_cases ho : o = 46
  · rw [if_pos ho, ho]
  · rw [if_neg ho]
    by_cases hj : o = 38 ∧ j = 9
    · rw [if_pos hj, hj.1, hj.2]
    · rw [if_neg hj]
theorem GI.pset {A : jA} {f : Int → Int} {n : Int} (G : GI A) : GI (pset A f n) := G.fr (fun a h => pset_row (by omega) (by omega)) (by rw [pset_row (by decide) (by decide)])
theorem LR.pset {E : jE} {A : jA} {f : Int → Int} {n : Int} (hl : LR E A) : LR E (pset A f n) := hl.fr (pset_38 (by decide)) (pset_row (by decide) (by decide)) (pset_row (by decide) (by decide)) (pset_row (by decide) (by decide)) (by rw [pset_row (by decide) (by decide)])
theorem VW.pset {A : jA} {f : Int → Int} {n : Int} (W : VW A) : VW (pset A f n) := W.keep (pset_row (by decide) (by decide)) (pset_row (by decide) (by decide)) (pset_38 (by decide)) (pset_38 (by decide)) (by rw [pset_row (by decide) (by decide)]) (fun j _ => ⟨by rw [pset_row (by decide) (by decide)], by rw [pset_row (by decide) (by decide)]⟩) (fun j _ => ⟨by rw [pset_row (by decide) (by decide)], by rw [pset_row (by decide) (by decide)], by rw [pset_row (by decide) (by decide)], by rw [pset_row (by decide) (by decide)]⟩)
theorem LR.thr {E : jE} {A : jA} (hl : LR E A) : LR E (jup A 49 0 0) := hl.fr (by rw [jup_row (by decide)]) (jup_row (by decide)) (jup_row (by decide)) (jup_row (by decide)) (jup_ne (by decide))
/-- the kind of a view -/
def vK (A : jA) (v : Int) : Int := uKind (lu A (A 42 (v * 3))) (A 43 (v * 3))
theorem VS.kind {A : jA} {v : Int} (h : VS A v) : vK A v = 1 ∨ vK A v = 2 := by
  obtain ⟨h1, h2, h3, h4 | ⟨h4, h5⟩⟩ := h
  · have := h4 0 (by omega) (by omega)
    rw [Int.add_zero] at this
    exact .inl this
  · exact .inr h5
theorem vK_pset {A : jA} {f : Int → Int} {n v : Int} : vK (pset A f n) v = vK A v := by
  unfold vK
  rw [lu_eq (pset_row (by decide) (by decide)) (pset_row (by decide) (by decide)), pset_row (by decide) (by decide), pset_row (by decide) (by decide)]
theorem vg_pset {A : jA} {f : Int → Int} {n v : Int} : vg (pset A f n) v = vg A v := same_vg (pset_row (by decide) (by decide)) (pset_row (by decide) (by decide)) (pset_row (by decide) (by decide)) (pset_row (by decide) (by decide)) (pset_row (by decide) (by decide)) v
/-- what list answers -/
def ML (A : jA) (v x z : Int) : Prop := ¬ (0 ≤ v ∧ v < A 38 11) ∧ z = -1 ∨ (0 ≤ v ∧ v < A 38 11) ∧ x < 0 ∧ z = -2 ∨ (0 ≤ v ∧ v < A 38 11) ∧ 0 ≤ x ∧ vK A v ≠ 1 ∧ z = -3 ∨ (0 ≤ v ∧ v < A 38 11) ∧ 0 ≤ x ∧ vK A v = 1 ∧ vLS (vg A v) x z
theorem ML.one {A : jA} {v x y z : Int} (h1 : ML A v x y) (h2 : ML A v x z) : y = z := by
  rcases h1 with ⟨a, e⟩ | ⟨a, b, e⟩ | ⟨a, b, c, e⟩ | ⟨a, b, c, e⟩ <;> rcases h2 with ⟨a', e'⟩ | ⟨a', b', e'⟩ | ⟨a', b', c', e'⟩ | ⟨a', b', c', e'⟩
  all_goals first | omega | exact absurd a a' | exact absurd a' a | exact e.one e'
theorem ML_pset {A : jA} {f : Int → Int} {n v x z : Int} : ML (pset A f n) v x z ↔ ML A v x z := by
  unfold ML
  rw [vK_pset, vg_pset, pset_38 (by decide)]
theorem c_list {v x : Int} (rv : jW v) (rx : jW x) {E : jE} {A : jA} (G : GI A) (hl : LR E A) (W : VW A) {K : Int → jA → Prop} (h : ∀ y f n, ML A v x y → K y (pset A f n)) : jrI 127 0 [some (.ref 1), some (.int (jI v)), some (.int (jI x))] [] E A K := by
  have h' : ∀ y, ML A v x y → K y A := fun y hy => by have := h y (A 46) (A 38 9) hy; rwa [pset_self] at this
  refine vd_X6_list_0 v rv x rx E A K (k_hasView rv (fun v0 v1 => ⟨fun _ => ⟨fun x0 => ?_, fun x0 => h' _ (.inr (.inl ⟨⟨v0, v1⟩, x0, rfl⟩))⟩, fun z => absurd z (by decide)⟩) (fun hno => ⟨fun z => absurd rfl z, fun _ => h' _ (.inl ⟨hno, rfl⟩)⟩))
  obtain ⟨hS, hM, hP⟩ := W.2.2.2 v v0 v1
  have h60 := W.2.2.1
  refine k_vkindOf hl G ⟨v0, by omega⟩ hS ⟨fun q => ?_, fun q => h' _ (.inr (.inr (.inl ⟨⟨v0, v1⟩, x0, q, rfl⟩)))⟩
  exact k_nameBelow ⟨v0, by omega⟩ rx G hl (hS.vf q) (fun w f n w1 w9 wg wc => h w f n (.inr (.inr (.inr ⟨⟨v0, v1⟩, x0, q, .inl ⟨w1, w9, wg, wc⟩⟩)))) (fun f hf => h 0 f _ (.inr (.inr (.inr ⟨⟨v0, v1⟩, x0, q, .inr ⟨rfl, hf⟩⟩))))
theorem m_list {v x : Int} (rv : jW v) (rx : jW x) {E : jE} {A : jA} (G : GI A) (hl : LR E A) (W : VW A) {K : Int → jA → Prop} (h : ∀ z C, ML A v x z → LB (jup A 49 0 0) C → K z C) : jrI 177 0 [some (.ref 49), some (.int (jI v)), some (.int (jI x)), none, none] [] E A K := by
  have w37 := W.1
  have W2 := W.2.1
  have h60 := W.2.2.1
  have t37 : jup A 49 0 0 49 37 = A 38 11 := by rw [jup_ne (by decide)]; exact w37
  have t11 : jup A 49 0 0 38 11 = A 38 11 := by rw [jup_row (by decide)]
  have tK : vK (jup A 49 0 0) v = vK A v := by
    unfold vK; rw [lu_eq (jup_row (by decide)) (jup_row (by decide)), jup_row (by decide), jup_row (by decide)]
  have tg : vg (jup A 49 0 0) v = vg A v := same_vg (jup_row (by decide)) (jup_row (by decide)) (jup_row (by decide)) (jup_row (by decide)) (jup_row (by decide)) v
  have G1 := G.thr
  have l1 := hl.thr
  have W1 := W.thr
  refine vd_X7_list_0 v rv x rx E A K (fun A1 e1 => ?_)
  subst e1
  refine k_isView rv (by omega) (fun v0 v1 => ⟨fun _ => ⟨fun x0 => ?_, fun x0 => h _ _ (.inr (.inl ⟨⟨v0, by omega⟩, x0, rfl⟩)) (LB.rfl _)⟩, fun z => absurd z (by decide)⟩) (fun hno => ⟨fun z => absurd rfl z, fun _ => h _ _ (.inl ⟨by omega, rfl⟩) (LB.rfl _)⟩)
  obtain ⟨hS, hM, hP⟩ := W1.2.2.2 v v0 (by omega)
  refine k_mkindOf l1 G1 ⟨v0, by omega⟩ hS hM ⟨fun q => ?_, fun q => h _ _ (.inr (.inr (.inl ⟨⟨v0, by omega⟩, x0, by rw [← tK]; exact q, rfl⟩))) (LB.rfl _)⟩
  have WF := hS.vf q
  refine k_nextIn (by omega) G1 l1 (by omega) ⟨v0, v1⟩ WF hM (LB.rfl _) (fun w B N hB => ?_)
  exact k_list44 rx x0 G1 l1 (by omega) ⟨v0, v1⟩ WF hM (fun w C hw hC => h w C (.inr (.inr (.inr ⟨⟨v0, by omega⟩, x0, by rw [← tK]; exact q, by rw [← tg]; exact hw⟩))) hC) hB (NI.first N)
theorem p_list {v x : Int} (rv : jW v) (rx : jW x) {E : jE} {A : jA} (G : GI A) (hl : LR E A) (W : VW A) : jrI 127 0 [some (.ref 1), some (.int (jI v)), some (.int (jI x))] [] E A (fun y B => jrI 177 0 [some (.ref 49), some (.int (jI v)), some (.int (jI x)), none, none] [] E B (fun z C => y = z ∧ VW C ∧ FV A C)) :=
  c_list rv rx G hl W (fun _ _ _ hy => m_list rv rx G.pset hl.pset W.pset (fun _ _ hz hC => ⟨hy.one (ML_pset.mp hz), walked hl W rfl hC⟩))
/-- what view answers -/
def MV (A : jA) (v x : Int) : Int := if ¬ (0 ≤ v ∧ v < A 38 11) then -1 else if x = 0 then vK A v else if x = 1 then A 39 (A 42 (v * 3)) else if x = 2 then A 43 (v * 3) else if x = 3 then (if vK A v = 2 then uw (lu A (A 42 (v * 3))) (uRow (lu A (A 42 (v * 3))) (A 43 (v * 3)) + 6) else vcnt (vg A v) 999) else if x = 4 then uw (lu A (A 42 (v * 3))) (uRow (lu A (A 42 (v * 3))) (A 43 (v * 3)) + 1) else if x = 5 then uw (lu A (A 42 (v * 3))) (uRow (lu A (A 42 (v * 3))) (A 43 (v * 3)) + 3) else if x = 6 then A 41 v else -2
theorem MV_same {A B : jA} {v x : Int} (h39 : B 39 = A 39) (h58 : B 58 = A 58) (h41 : B 41 = A 41) (h42 : B 42 = A 42) (h43 : B 43 = A 43) (h11 : B 38 11 = A 38 11) : MV B v x = MV A v x := by
  unfold MV vK
  rw [same_vg h39 h58 h41 h42 h43, lu_eq h39 h58, h39, h41, h42, h43, h11]
theorem k_told4 {E : jE} {A : jA} (hb : MB A) {m k y : Int} (hy : y = 1 ∨ y = 2 ∨ y = 4) (hm : 0 ≤ m ∧ m ≤ 2) {n : Int} (V : VA (mb A m) n) (h1 : 1 ≤ k) (h2 : k ≤ uw (mb A m) 4) (h4 : y = 4 → uKind (mb A m) k = 2) {K : Int → jA → Prop} (hK : K (uw (mb A m) (uRow (mb A m) k + (if y = 1 then 1 else if y = 2 then 3 else 6))) A) : jrI 208 0 [some (.ref 49), some (.int (jI m)), some (.int (jI k)), some (.int (jI y)), none, none] [] E A K := by
  obtain ⟨b1, b2, b3, b4, b5, b6, b7⟩ := V.row (hb.u m) h1 h2
  have hn := V.1.2.1
  have w12 : mw A m 12 = uw (mb A m) 12 := rfl
  have rr : mRow A m k = uRow (mb A m) k := rfl
  have w4 := uw_le (hb.u m) 4
  have kk : mb A m (mRow A m k) = uKind (mb A m) k := rfl
  refine vd_X7_told_0 m ⟨by omega, by omega⟩ k ⟨by omega, by omega⟩ y ⟨by omega, by omega⟩ E A K (k_inode hb hm ⟨h1, by omega⟩ (k_mbyteAt hm (by omega) ?_))
  rw [kk]
  rcases hy with rfl | rfl | rfl
  · exact ⟨fun z => absurd z (by decide), fun _ => ⟨fun _ => k_mword hb hm (by omega) hK, fun z => absurd rfl z⟩⟩
  · exact ⟨fun z => absurd z (by decide), fun _ => ⟨fun z => absurd z (by decide), fun _ => ⟨fun _ => k_mword hb hm (by omega) hK, fun z => absurd rfl z⟩⟩⟩
  · have e2 := h4 rfl
    have := b7 (by omega)
    exact ⟨fun z => absurd z (by decide), fun _ => ⟨fun z => absurd z (by decide), fun _ => ⟨fun z => absurd z (by decide), fun _ => ⟨fun z => absurd z (by decide), fun _ => ⟨fun _ => ⟨fun z => absurd e2 z, fun _ => k_mword hb hm (by omega) hK⟩, fun z => by omega⟩⟩⟩⟩⟩
theorem k_upper {E : jE} {A : jA} {v : Int} (hv : 0 ≤ v ∧ v < 60) (h42 : 0 ≤ A 42 (v * 3) ∧ A 42 (v * 3) < 3) {K : Nat → jA → Prop} (h : K (E.2.1 (A 42 (v * 3)).toNat) A) : jrR 87 0 [some (.ref 38), some (.int (jI v))] [] E A K := vd_X3_upperImage_0 v ⟨by omega, by omega⟩ E A K ⟨by omega, h42, h⟩
theorem k_vnumberOf {E : jE} {A : jA} {v : Int} (hv : 0 ≤ v ∧ v < 60) {K : Int → jA → Prop} (h : K (A 43 (v * 3)) A) : jrI 81 0 [some (.ref 38), some (.int (jI v))] [] E A K := vd_X3_numberOf_0 v ⟨by omega, by omega⟩ E A K ⟨by omega, h⟩
theorem c_view {v x : Int} (rv : jW v) (rx : jW x) {E : jE} {A : jA} (G : GI A) (hl : LR E A) (W : VW A) {K : Int → jA → Prop} (h : ∀ f n, K (MV A v x) (pset A f n)) : jrI 136 0 [some (.ref 1), some (.int (jI v)), some (.int (jI x))] [] E A K := by
  have h' : K (MV A v x) A := by have := h (A 46) (A 38 9); rwa [pset_self] at this
  have hE := hl.2.2.2.2.2
  refine vd_X6_view_0 v rv x rx E A K (k_hasView rv (fun v0 v1 => ⟨fun _ => ?_, fun z => absurd z (by decide)⟩) (fun hno => ⟨fun z => absurd rfl z, fun _ => by unfold MV at h'; rw [if_pos hno] at h'; exact h'⟩))
  obtain ⟨hS, hM, hP⟩ := W.2.2.2 v v0 v1
  have h60 := W.2.2.1
  obtain ⟨hI, m0, m2, l0, l3, k1, k4⟩ := hS.img hl G
  have hr := hI.2.1.row hI.2.2 k1 k4
  have w4 := uw_le hI.2.2 4
  have sk : jS (A 43 (v * 3)) := ⟨by omega, by omega⟩
  have hv : 0 ≤ v ∧ v < 60 := ⟨v0, by omega⟩
  unfold MV at h h'
  rw [if_neg (fun z => z ⟨v0, v1⟩)] at h h'
  refine ⟨fun q => ?_, fun n0 => ⟨fun q => ?_, fun n1 => ⟨fun q => ?_, fun n2 => ⟨fun q => ?_, fun n3 => ⟨fun q => ?_, fun n4 => ⟨fun q => ?_, fun n5 => ⟨fun q => ?_, fun n6 => ?_⟩⟩⟩⟩⟩⟩⟩
  · rw [if_pos q] at h'
    exact k_vkindOf hl G hv hS h'
  · rw [if_neg n0, if_pos q] at h'
    exact vd_X3_imageOf_0 v rv E A K ⟨by omega, ⟨l0, l3⟩, h'⟩
  · rw [if_neg n0, if_neg n1, if_pos q] at h'
    exact k_vnumberOf hv h'
  · rw [if_neg n0, if_neg n1, if_neg n2, if_pos q] at h h'
    refine vd_X3_sizeOf_0 v rv E A K (k_vkindOf hl G hv hS ⟨fun q2 => ?_, fun q2 => ?_⟩)
    · have hk1 : vK A v = 1 := by rcases hS.kind with e | e; exact e; exact absurd e q2
      refine k_nameBelow hv (by decide) G hl (hS.vf hk1) (fun w f n w1 w9 wg wc => ?_) (fun f hf => ?_)
      · have := vcnt_le (vg A v) (w - 1).toNat
        omega
      · rw [pset_9]
        have := h f (vcnt (vg A v) 999)
        rwa [if_neg (by omega)] at this
    · have q2' : vK A v = 2 := q2
      rw [if_pos q2'] at h'
      refine k_upper hv ⟨l0, l3⟩ ⟨hE _ (by omega), k_vnumberOf hv (k_sizeOf hI.1.1 sk ?_)⟩
      rw [hI.size k1 k4, if_pos q2]; exact h'
  · rw [if_neg n0, if_neg n1, if_neg n2, if_neg n3, if_pos q] at h'
    refine vd_X3_modeOf_0 v rv E A K (k_upper hv ⟨l0, l3⟩ ⟨hE _ (by omega), k_vnumberOf hv (k_modeOf hI.1.1 sk ?_)⟩)
    rw [hI.row k1 k4, hI.1.w (by omega) (by omega)]; exact h'
  · rw [if_neg n0, if_neg n1, if_neg n2, if_neg n3, if_neg n4, if_pos q] at h'
    refine vd_X3_ownerOf_0 v rv E A K (k_upper hv ⟨l0, l3⟩ ⟨hE _ (by omega), k_vnumberOf hv (k_ownerOf hI.1.1 sk ?_)⟩)
    rw [hI.row k1 k4, hI.1.w (by omega) (by omega)]; exact h'
  · rw [if_neg n0, if_neg n1, if_neg n2, if_neg n3, if_neg n4, if_neg n5, if_pos q] at h'
    exact vd_X3_depthOf_0 v rv E A K ⟨hv, h'⟩
  · rw [if_neg n0, if_neg n1, if_neg n2, if_neg n3, if_neg n4, if_neg n5, if_neg n6] at h'
    exact h'
theorem m_view {v x : Int} (rv : jW v) (rx : jW x) {E : jE} {A : jA} (G : GI A) (hl : LR E A) (W : VW A) {K : Int → jA → Prop} (h : ∀ C, LB (jup A 49 0 0) C → K (MV A v x) C) : jrI 209 0 [some (.ref 49), some (.int (jI v)), some (.int (jI x)), none, none] [] E A K := by
  rw [← MV_same (A := A) (B := jup A 49 0 0) (v := v) (x := x) (jup_row (by decide)) (jup_row (by decide)) (jup_row (by decide)) (jup_row (by decide)) (jup_row (by decide)) (by rw [jup_row (by decide)])] at h
  have G1 := G.thr
  have l1 := hl.thr
  have W1 := W.thr
  refine vd_X7_view_0 v rv x rx E A K (fun A1 e1 => ?_)
  subst e1
  generalize jup A 49 0 0 = B at *
  clear G hl W A
  have w37 := W1.1
  have W2 := W1.2.1
  have h60 := W1.2.2.1
  have h' : K (MV B v x) B := h B (LB.rfl _)
  refine k_isView rv (by omega) (fun v0 v1 => ⟨fun _ => ⟨by omega, by omega, ?_⟩, fun z => absurd z (by decide)⟩) (fun hno => ⟨fun z => absurd rfl z, fun _ => by unfold MV at h'; rw [if_pos (by omega)] at h'; exact h'⟩)
  obtain ⟨hS, hM, hP⟩ := W1.2.2.2 v v0 (by omega)
  obtain ⟨hI, m0, m2, l0, l3, k1, k4⟩ := hS.img l1 G1
  have hv : 0 ≤ v ∧ v < 60 := ⟨v0, by omega⟩
  have e76 : B 76 (3 * v) = B 39 (B 42 (v * 3)) := by have := (hM.2 0 (by omega) (by have := hS.1; omega)).1; rwa [Int.add_zero, Int.add_zero] at this
  have e77 : B 77 (3 * v) = B 43 (v * 3) := by have := (hM.2 0 (by omega) (by have := hS.1; omega)).2; rwa [Int.add_zero, Int.add_zero] at this
  have el : lu B (B 42 (v * 3)) = mb B (B 39 (B 42 (v * 3))) := rfl
  rw [e76, e77]
  unfold MV at h h'
  rw [if_neg (fun z => z ⟨v0, by omega⟩)] at h h'
  refine ⟨fun q => ?_, fun n0 => ⟨fun q => ?_, fun n1 => ⟨fun q => ?_, fun n2 => ⟨fun q => ?_, fun n3 => ⟨fun q => ?_, fun n4 => ⟨fun q => ?_, fun n5 => ⟨fun q => ?_, fun n6 => ?_⟩⟩⟩⟩⟩⟩⟩
  · rw [if_pos q] at h'
    exact k_mkindOf l1 G1 hv hS hM h'
  · rw [if_neg n0, if_pos q] at h'; exact h'
  · rw [if_neg n0, if_neg n1, if_pos q] at h'; exact h'
  · rw [if_neg n0, if_neg n1, if_neg n2, if_pos q] at h h'
    refine k_mkindOf l1 G1 hv hS hM ⟨fun q2 => ?_, fun q2 => ?_⟩
    · have hk2 : vK B v = 2 := by rcases hS.kind with e | e; exact absurd e q2; exact e
      rw [if_pos hk2] at h'
      exact k_told4 G1.2.2.2.1 (.inr (.inr rfl)) ⟨m0, m2⟩ hI.2.1 k1 k4 (fun _ => hk2) h'
    · have q2' : vK B v = 1 := q2
      refine k_namesIn G1 l1 (by omega) ⟨v0, v1⟩ (hS.vf q2) hM (fun C hC => ?_)
      have := h C hC
      rwa [if_neg (by omega)] at this
  · rw [if_neg n0, if_neg n1, if_neg n2, if_neg n3, if_pos q] at h'
    exact k_told4 G1.2.2.2.1 (.inl rfl) ⟨m0, m2⟩ hI.2.1 k1 k4 (fun z => by omega) h'
  · rw [if_neg n0, if_neg n1, if_neg n2, if_neg n3, if_neg n4, if_pos q] at h'
    exact k_told4 G1.2.2.2.1 (.inr (.inl rfl)) ⟨m0, m2⟩ hI.2.1 k1 k4 (fun z => by omega) h'
  · rw [if_neg n0, if_neg n1, if_neg n2, if_neg n3, if_neg n4, if_neg n5, if_pos q] at h'
    rw [hM.1]; exact ⟨by omega, h'⟩
  · rw [if_neg n0, if_neg n1, if_neg n2, if_neg n3, if_neg n4, if_neg n5, if_neg n6] at h'
    exact h'
theorem p_view {v x : Int} (rv : jW v) (rx : jW x) {E : jE} {A : jA} (G : GI A) (hl : LR E A) (W : VW A) : jrI 136 0 [some (.ref 1), some (.int (jI v)), some (.int (jI x))] [] E A (fun y B => jrI 209 0 [some (.ref 49), some (.int (jI v)), some (.int (jI x)), none, none] [] E B (fun z C => y = z ∧ VW C ∧ FV A C)) :=
  c_view rv rx G hl W (fun f n => m_view rv rx G.pset hl.pset W.pset (fun _ hC => ⟨(MV_same (pset_row (by decide) (by decide)) (pset_row (by decide) (by decide)) (pset_row (by decide) (by decide)) (pset_row (by decide) (by decide)) (pset_row (by decide) (by decide)) (pset_38 (by decide))).symm, walked hl W rfl hC⟩))
