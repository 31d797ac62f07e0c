/-! THE VIEWS ON BOTH SIDES: look, the whole of it -/
def FV (A C : jA) : Prop := (∀ a, a ≠ 38 → ¬ (41 ≤ a ∧ a ≤ 46) → a ≠ 49 → ¬ (75 ≤ a ∧ a ≤ 77) → C a = A a) ∧ C 38 10 = A 38 10 ∧ (∀ k, k ≠ 0 → k ≠ 37 → C 49 k = A 49 k) ∧ C 49 0 = 0
theorem lu_eq {A C : jA} (h39 : C 39 = A 39) (h58 : C 58 = A 58) : lu C = lu A := by
  funext l x
  unfold lu mb
  rw [h39, h58]
/-- one view, in a table that tells the same of it -/
theorem view_keep {A C : jA} {v : Int} (hv : 0 ≤ v) (h39 : C 39 = A 39) (h58 : C 58 = A 58) (h10 : C 38 10 = A 38 10) (e41 : C 41 v = A 41 v) (e75 : C 75 v = A 75 v) (e : ∀ i, 0 ≤ i → i < 3 → C 42 (v * 3 + i) = A 42 (v * 3 + i) ∧ C 43 (v * 3 + i) = A 43 (v * 3 + i) ∧ C 76 (3 * v + i) = A 76 (3 * v + i) ∧ C 77 (3 * v + i) = A 77 (3 * v + i)) (hS : VS A v) (hM : VM A v) (hP : ∃ p, VP (lu A) (A 38 10) (vroot (A 38 10).toNat) p (vstk A v)) : VS C v ∧ VM C v ∧ ∃ p, VP (lu C) (C 38 10) (vroot (C 38 10).toNat) p (vstk C v) := by
  obtain ⟨d1, d3, s1, s2⟩ := hS
  obtain ⟨m1, m2⟩ := hM
  have el := lu_eq h39 h58
  have e0 := e 0 (by omega) (by omega)
  rw [Int.add_zero] at e0
  refine ⟨⟨by omega, by omega, fun i i0 i1 => ?_, ?_⟩, ⟨by omega, fun i i0 i1 => ?_⟩, ?_⟩
  · rw [(e i i0 (by omega)).1, (e i i0 (by omega)).2.1, el, h10]
    exact s1 i i0 (by omega)
  · rcases s2 with h | h
    · refine Or.inl (fun i i0 i1 => ?_)
      rw [(e i i0 (by omega)).1, (e i i0 (by omega)).2.1, el]
      exact h i i0 (by omega)
    · refine Or.inr ⟨by omega, ?_⟩
      rw [e0.1, e0.2.1, el]
      exact h.2
  · rw [(e i i0 (by omega)).1, (e i i0 (by omega)).2.1, (e i i0 (by omega)).2.2.1, (e i i0 (by omega)).2.2.2, h39]
    exact m2 i i0 (by omega)
  · rw [el, h10]
    have : vstk C v = vstk A v := by
      unfold vstk
      rw [e41]
      exact vfr_congr (fun j j0 j1 => ⟨(e j j0 (by omega)).1, (e j j0 (by omega)).2.1⟩)
    rw [this]
    exact hP
theorem VW.keep {A C : jA} (W : VW A) (h39 : C 39 = A 39) (h58 : C 58 = A 58) (h10 : C 38 10 = A 38 10) (h11 : C 38 11 = A 38 11) (h37 : C 49 37 = A 49 37) (e41 : ∀ j, j < A 38 11 → C 41 j = A 41 j ∧ C 75 j = A 75 j) (e42 : ∀ j, j < 3 * A 38 11 → C 42 j = A 42 j ∧ C 43 j = A 43 j ∧ C 76 j = A 76 j ∧ C 77 j = A 77 j) : VW C := by
  obtain ⟨w1, w2, w3, w4⟩ := W
  refine ⟨by omega, by omega, by omega, fun v v0 v1 => ?_⟩
  obtain ⟨a1, a2, a3⟩ := w4 v v0 (by omega)
  exact view_keep v0 h39 h58 h10 (e41 v (by omega)).1 (e41 v (by omega)).2 (fun i i0 i1 => ⟨(e42 _ (by omega)).1, (e42 _ (by omega)).2.1, (e42 _ (by omega)).2.2.1, (e42 _ (by omega)).2.2.2⟩) a1 a2 a3
theorem VW.thr {A : jA} (W : VW A) : VW (jup A 49 0 0) := W.keep (jup_row (by decide)) (jup_row (by decide)) (by rw [jup_row (by decide)]) (by rw [jup_row (by decide)]) (jup_ne (by decide)) (fun j _ => ⟨by rw [jup_row (by decide)], by rw [jup_row (by decide)]⟩) (fun j _ => ⟨by rw [jup_row (by decide)], by rw [jup_row (by decide)], by rw [jup_row (by decide)], by rw [jup_row (by decide)]⟩)
theorem FV.thr (A : jA) : FV A (jup A 49 0 0) := ⟨fun a _ _ h _ => jup_row h, by rw [jup_row (by decide)], fun k h _ => jup_ne h, jup_at _ _ _ _⟩
theorem k_hasView {x : Int} (r : jW x) {E : jE} {A : jA} {K : Int → jA → Prop} (h1 : 0 ≤ x → x < A 38 11 → K 1 A) (h0 : ¬ (0 ≤ x ∧ x < A 38 11) → K 0 A) : jrI 71 0 [some (.ref 38), some (.int (jI x))] [] E A K := vd_X3_hasView_0 x r E A K (by grind)
theorem k_isView {x : Int} (r : jW x) {E : jE} {A : jA} (hn : 0 ≤ A 49 37) {K : Int → jA → Prop} (h1 : 0 ≤ x → x < A 49 37 → K 1 A) (h0 : ¬ (0 ≤ x ∧ x < A 49 37) → K 0 A) : jrI 171 0 [some (.ref 49), some (.int (jI x))] [] E A K := by
  refine jrI.ok fun hA => vd_X7_isView_0 x r E A K ?_
  have := hA 49 37
  refine k_in r (by decide) ⟨by omega, by omega⟩ ?_ ?_
  · grind
  · grind
/-- the image of a view, and its number -/
theorem VS.img {E : jE} {A : jA} (hl : LR E A) (G : GI A) {v : Int} (h : VS A v) : IV A (E.2.1 (A 42 (v * 3)).toNat) (lu A (A 42 (v * 3))) (A 59 (A 39 (A 42 (v * 3)))) ∧ 0 ≤ A 39 (A 42 (v * 3)) ∧ A 39 (A 42 (v * 3)) ≤ 2 ∧ 0 ≤ A 42 (v * 3) ∧ A 42 (v * 3) < 3 ∧ 1 ≤ A 43 (v * 3) ∧ A 43 (v * 3) ≤ uw (lu A (A 42 (v * 3))) 4 := by
  obtain ⟨d1, d3, s1, -⟩ := h
  have a := s1 0 (by omega) (by omega)
  rw [Int.add_zero] at a
  obtain ⟨b1, b2, b3, b4⟩ := hl.img G a.1 a.2.1
  exact ⟨b1, b2, b3, a.1, b4, a.2.2.1, a.2.2.2⟩
theorem k_vkindOf {E : jE} {A : jA} (hl : LR E A) (G : GI A) {v : Int} (hv : 0 ≤ v ∧ v < 60) (h : VS A v) {K : Int → jA → Prop} (hK : K (uKind (lu A (A 42 (v * 3))) (A 43 (v * 3))) A) : jrI 75 0 [some (.ref 38), some (.int (jI v))] [] E A K := by
  obtain ⟨hI, m0, m2, l0, l3, k1, k2⟩ := h.img hl G
  have w4 := uw_le hI.2.2 4
  have rv : jW v := ⟨by omega, by omega⟩
  refine vd_X3_kindOf_0 v rv E A K (vd_X3_upperImage_0 v rv E A _ ⟨by omega, by omega, hI.1.1.1, vd_X3_numberOf_0 v rv E A _ ⟨by omega, k_kindOf hI.1.1 ⟨by omega, by omega⟩ ?_⟩⟩)
  rw [hI.kind k1 k2]
  exact hK
theorem k_mkindOf {E : jE} {A : jA} (hl : LR E A) (G : GI A) {v : Int} (hv : 0 ≤ v ∧ v < 60) (h : VS A v) (hm : VM A v) {K : Int → jA → Prop} (hK : K (uKind (lu A (A 42 (v * 3))) (A 43 (v * 3))) A) : jrI 173 0 [some (.ref 49), some (.int (jI v))] [] E A K := by
  obtain ⟨hI, m0, m2, l0, l3, k1, k2⟩ := h.img hl G
  have d1 := h.1
  have e := hm.2 0 (by omega) (by omega)
  rw [Int.add_zero, Int.add_zero] at e
  have rv : jW v := ⟨by omega, by omega⟩
  refine vd_X7_kindOf_0 v rv E A K ?_
  rw [e.1, e.2]
  exact ⟨by omega, by omega, k_told0 G.2.2.2.1 ⟨m0, m2⟩ hI.2.1 k1 k2 hK⟩
theorem vadd_row {A : jA} {F : List (Int × Int)} {o : Nat} (h1 : o ≠ 38) (h2 : ¬ (41 ≤ o ∧ o ≤ 46)) : vadd A F o = A o := by
  funext j
  simp only [vadd]
  rw [if_neg (by omega), if_neg (by omega), if_neg (by omega), if_neg (by omega), fset_row h1 (by omega) (by omega)]
theorem vadd_41 {A : jA} {F : List (Int × Int)} {j : Int} (h : j < A 38 11) : vadd A F 41 j = A 41 j := by
  simp only [vadd]
  rw [if_neg (by omega), if_neg (by omega), if_neg (by omega), if_neg (by omega), fset_row (by decide) (by decide) (by decide)]
theorem vadd_42 {A : jA} {F : List (Int × Int)} {j : Int} (h : j < 3 * A 38 11) : vadd A F 42 j = A 42 j ∧ vadd A F 43 j = A 43 j := by
  simp only [vadd]
  constructor
  · rw [if_neg (by omega), if_neg (by omega), if_neg (by omega), if_neg (by omega), fset_row (by decide) (by decide) (by decide)]
  · rw [if_neg (by omega), if_neg (by omega), if_neg (by omega), if_neg (by omega), fset_row (by decide) (by decide) (by decide)]
theorem vadd_new {A : jA} {F : List (Int × Int)} {i : Int} (h0 : 0 ≤ i) (h1 : i < F.length) : vadd A F 42 (A 38 11 * 3 + i) = (F.getD i.toNat (0, 0)).1 ∧ vadd A F 43 (A 38 11 * 3 + i) = (F.getD i.toNat (0, 0)).2 := by
  have e : (A 38 11 * 3 + i - A 38 11 * 3).toNat = i.toNat := by omega
  constructor
  · have : A 38 11 * 3 ≤ A 38 11 * 3 + i ∧ A 38 11 * 3 + i < A 38 11 * 3 + F.length := by omega
    simp [vadd, this, e]
  · have : A 38 11 * 3 ≤ A 38 11 * 3 + i ∧ A 38 11 * 3 + i < A 38 11 * 3 + F.length := by omega
    simp [vadd, this, e]
theorem vfr_len (A : jA) (v : Int) (n : Nat) (i : Int) : (vfr A v n i).length = n := by
  induction n generalizing i with
  | zero => rfl
  | succ n ih => simp only [vfr, List.length_cons, ih]
theorem vfr_get {A : jA} {v : Int} {n : Nat} {i j : Int} (h0 : 0 ≤ j) (h1 : j < n) : (vfr A v n i).getD j.toNat (0, 0) = (A 42 (v * 3 + (i + j)), A 43 (v * 3 + (i + j))) := by
  induction n generalizing i j with
  | zero => omega
  | succ n ih =>
    simp only [vfr]
    by_cases e : j = 0
    · subst e; simp
    · rw [show j.toNat = (j - 1).toNat + 1 by omega, List.getD_cons_succ, ih (by omega) (by omega), show i + 1 + (j - 1) = i + j by omega]
theorem p_look {v a : Int} (rv : jW v) (ra : jW a) {E : jE} {A : jA} (G : GI A) (hl : LR E A) (W : VW A) : jrI 129 0 [some (.ref 1), some (.int (jI v)), some (.int (jI a))] [] E A (fun x B => jrI 179 0 [some (.ref 49), some (.int (jI v)), some (.int (jI a)), none, none, none, none] [] E B (fun y C => x = y ∧ VW C ∧ FV A C)) := by
  obtain ⟨w1, w2, w3, w4⟩ := id W
  have G0 := G.thr
  have W0 := W.thr
  have F0 := FV.thr A
  obtain ⟨D, hD⟩ : ∃ D, D = jup A 49 0 0 := ⟨_, rfl⟩
  rw [← hD] at G0 W0 F0
  have dr : ∀ o, o ≠ 49 → D o = A o := fun o ho => by rw [hD]; exact jup_row ho
  have d37 : D 49 37 = A 38 11 := by rw [hD, jup_ne (by decide)]; exact w1
  have l0 : LR E D := by
    obtain ⟨l1, l2⟩ := hl
    unfold LR
    rw [dr 38 (by decide), dr 39 (by decide), dr 74 (by decide), dr 1 (by decide), hD, jup_ne (by decide)]
    exact ⟨l1, l2⟩
  refine vd_X6_look_0 v rv a ra E A _ (k_hasView rv (fun p1 p2 => ⟨fun _ => ?_, fun q => by omega⟩) (fun q => ⟨fun z => absurd rfl z, fun _ => ?_⟩))
  · obtain ⟨vs, vm, pp, vp⟩ := w4 v p1 p2
    obtain ⟨vs0, vm0, -⟩ := W0.2.2.2 v p1 (by rw [dr 38 (by decide)]; exact p2)
    have luD : lu D = lu A := lu_eq (dr 39 (by decide)) (dr 58 (by decide))
    have kD : uKind (lu D (D 42 (v * 3))) (D 43 (v * 3)) = uKind (lu A (A 42 (v * 3))) (A 43 (v * 3)) := by rw [luD, dr 42 (by decide), dr 43 (by decide)]
    refine k_isName ra (fun a1 a2 => ⟨fun _ => ?_, fun q => by omega⟩) (fun q => ⟨fun z => absurd rfl z, fun _ => ?_⟩)
    · refine k_vkindOf hl G ⟨p1, by omega⟩ vs ⟨fun hk => ?_, fun hk => ?_⟩
      · -- a folder: both look
        have vf := vs.vf hk
        refine vd_X3_lead_0 v rv a ra E A _ (k_find ⟨p1, by omega⟩ ra G hl vf ?_)
        obtain ⟨F, hF⟩ : ∃ F, F = vstep (lu A) a (vstk A v) [] := ⟨_, rfl⟩
        rw [← hF]
        have lF : F.length ≤ 3 := by
          have h9 : ∀ (n : Nat) (i : Int), (vfr A v n i).length = n := by
            intro n
            induction n with
            | zero => intro i; rfl
            | succ n ih => intro i; simp only [vfr, List.length_cons, ih]
          have := (vstep_len (u := lu A) (a := a) (vstk A v) []).1
          rw [← hF] at this
          unfold vstk at this
          rw [h9] at this
          have := vs.2.1
          simp only [List.length_nil] at *
          omega
        -- what the reference does from a table S that the class left
        have ref : ∀ (S : jA), (∀ o, o ≠ 38 → ¬ (41 ≤ o ∧ o ≤ 46) → S o = A o) → S 38 10 = A 38 10 → (∀ j, j < A 38 11 → S 41 j = A 41 j) → (∀ j, j < 3 * A 38 11 → S 42 j = A 42 j ∧ S 43 j = A 43 j) → ∀ K : Int → jA → Prop, (∀ T, T = jup (mset (jup S 49 0 0) (A 38 11) F) 75 (A 38 11) F.length → (F.length = 0 → K 0 T) ∧ (F.length ≠ 0 → jrI 179 57 [some (.ref 49), none, none, some (.int (jI F.length)), some (.int (jI 0)), none, none] [] E T K)) → jrI 179 0 [some (.ref 49), some (.int (jI v)), some (.int (jI a)), none, none, none, none] [] E S K := by
          intro S so s10 s41 s42 K hK
          refine vd_X7_look_0 v rv a ra E S K (fun A1 e1 => ?_)
          obtain ⟨S1, hS1⟩ : ∃ S1, S1 = jup S 49 0 0 := ⟨_, rfl⟩
          rw [← hS1] at hK e1
          rw [e1]
          have t : ∀ o, o ≠ 38 → ¬ (41 ≤ o ∧ o ≤ 46) → o ≠ 49 → S1 o = A o := fun o h1 h2 h3 => by rw [hS1, jup_row h3]; exact so o h1 h2
          have t38 : S1 38 10 = A 38 10 := by rw [hS1, jup_row (by decide)]; exact s10
          have t37 : S1 49 37 = A 38 11 := by rw [hS1, jup_ne (by decide), so 49 (by decide) (by decide)]; exact w1
          have GS : GI S1 := G.fr (fun o ho => t o (by omega) (by omega) (by omega)) (by rw [hS1, jup_ne (by decide), so 49 (by decide) (by decide)])
          have lS : LR E S1 := by
            obtain ⟨l1, l2⟩ := hl
            unfold LR
            rw [t38, t 39 (by decide) (by decide) (by decide), t 74 (by decide) (by decide) (by decide), t 1 (by decide) (by decide) (by decide), hS1, jup_ne (by decide), so 49 (by decide) (by decide)]
            exact ⟨l1, l2⟩
          have r41 : S1 41 v = A 41 v := by rw [hS1, jup_row (by decide)]; exact s41 v p2
          have r42 : ∀ i, 0 ≤ i → i < 3 → S1 42 (v * 3 + i) = A 42 (v * 3 + i) ∧ S1 43 (v * 3 + i) = A 43 (v * 3 + i) := fun i i0 i1 => by rw [hS1, jup_row (by decide), jup_row (by decide)]; exact s42 _ (by omega)
          obtain ⟨vsS, vmS, -⟩ := view_keep (C := S1) p1 (t 39 (by decide) (by decide) (by decide)) (t 58 (by decide) (by decide) (by decide)) t38 r41 (by rw [t 75 (by decide) (by decide) (by decide)]) (fun i i0 i1 => ⟨(r42 i i0 i1).1, (r42 i i0 i1).2, by rw [t 76 (by decide) (by decide) (by decide)], by rw [t 77 (by decide) (by decide) (by decide)]⟩) vs vm ⟨pp, vp⟩
          have luS : lu S1 = lu A := lu_eq (t 39 (by decide) (by decide) (by decide)) (t 58 (by decide) (by decide) (by decide))
          have r0 := r42 0 (by omega) (by omega)
          rw [Int.add_zero] at r0
          have kS : uKind (lu S1 (S1 42 (v * 3))) (S1 43 (v * 3)) = 1 := by rw [luS, r0.1, r0.2]; exact hk
          have stS : vstk S1 v = vstk A v := by
            unfold vstk
            rw [r41]
            have := vs.2.1
            exact vfr_congr (fun j j0 j1 => r42 j j0 (by omega))
          refine k_isView rv (by omega) (fun _ _ => ⟨fun _ => ?_, fun q => by omega⟩) (fun q => by exfalso; omega)
          refine k_in ra (by decide) (by decide) (fun _ _ => ⟨fun _ => ?_, fun q => by omega⟩) (fun q => by exfalso; omega)
          refine k_mkindOf lS GS ⟨p1, by omega⟩ vsS vmS ⟨fun _ => ?_, fun q => absurd kS q⟩
          refine k_leads ra GS lS (by omega) (by omega) (vsS.vf kS) vmS ?_
          rw [luS, stS, ← hF, t37]
          obtain ⟨z1, z2⟩ := hK _ rfl
          exact ⟨fun q => z2 (fun z => q (by rw [z]; rfl)), fun q => z1 (by omega)⟩
        have tbl : ∀ (S : jA), (∀ o, o ≠ 38 → ¬ (41 ≤ o ∧ o ≤ 46) → S o = A o) → S 38 10 = A 38 10 → S 38 11 = A 38 11 → (∀ j, j < A 38 11 → S 41 j = A 41 j) → (∀ j, j < 3 * A 38 11 → S 42 j = A 42 j ∧ S 43 j = A 43 j) → ∀ T, T = jup (mset (jup S 49 0 0) (A 38 11) F) 75 (A 38 11) F.length → VW T ∧ FV A T := by
          intro S so s10 s11 s41 s42 T hT
          have t : ∀ o, o ≠ 49 → ¬ (75 ≤ o ∧ o ≤ 77) → T o = S o := fun o h1 h2 => by rw [hT, jup_row (by omega), mset_row (by omega) (by omega), jup_row h1]
          have t49 : ∀ k, k ≠ 0 → T 49 k = A 49 k := fun k hk => by rw [hT, jup_row (by decide), mset_row (by decide) (by decide), jup_ne hk, so 49 (by decide) (by decide)]
          refine ⟨W.keep (by rw [t 39 (by decide) (by decide)]; exact so 39 (by decide) (by decide)) (by rw [t 58 (by decide) (by decide)]; exact so 58 (by decide) (by decide)) (by rw [t 38 (by decide) (by decide)]; exact s10) (by rw [t 38 (by decide) (by decide)]; exact s11) (t49 37 (by decide)) (fun j hj => ⟨by rw [t 41 (by decide) (by decide)]; exact s41 j hj, ?_⟩) (fun j hj => ⟨by rw [t 42 (by decide) (by decide)]; exact (s42 j hj).1, by rw [t 43 (by decide) (by decide)]; exact (s42 j hj).2, ?_, ?_⟩), ⟨fun o h1 h2 h3 h4 => by rw [t o h3 h4]; exact so o h1 h2, by rw [t 38 (by decide) (by decide)]; exact s10, fun k h1 _ => t49 k h1, ?_⟩⟩
          · rw [hT, jup_ne (by omega), mset_row (by decide) (by decide), jup_row (by decide), so 75 (by decide) (by decide)]
          · rw [hT, jup_row (by decide), mset_lo hj, jup_row (by decide), so 76 (by decide) (by decide)]
          · rw [hT, jup_row (by decide), mset_lo hj, jup_row (by decide), so 77 (by decide) (by decide)]
          · rw [hT, jup_row (by decide), mset_row (by decide) (by decide), jup_at]
        have fo : ∀ o, o ≠ 38 → ¬ (41 ≤ o ∧ o ≤ 46) → fset A F o = A o := fun o h1 h2 => fset_row h1 (by omega) (by omega)
        have f10 : fset A F 38 10 = A 38 10 := fset_38 (by decide)
        have f11 : fset A F 38 11 = A 38 11 := fset_38 (by decide)
        have f41 : ∀ j, j < A 38 11 → fset A F 41 j = A 41 j := fun j _ => by rw [fset_row (by decide) (by decide) (by decide)]
        have f42 : ∀ j, j < 3 * A 38 11 → fset A F 42 j = A 42 j ∧ fset A F 43 j = A 43 j := fun j _ => ⟨by rw [fset_row (by decide) (by decide) (by decide)], by rw [fset_row (by decide) (by decide) (by decide)]⟩
        rw [fset_d]
        refine ⟨fun q => ?_, fun q => ref _ fo f10 f41 f42 _ (fun T hT => ⟨fun _ => ⟨rfl, tbl _ fo f10 f11 f41 f42 T hT⟩, fun z => absurd q (by omega)⟩)⟩
        obtain ⟨c, r, hcr⟩ : ∃ c r, F = c :: r := by
          cases F with
          | nil => exact absurd rfl q
          | cons c r => exact ⟨c, r, rfl⟩
        have lp : 1 ≤ F.length := by rw [hcr]; simp
        have L0 := hl.2.1
        have L3 := hl.2.2.1
        have eL : ((A 38 10).toNat : Int) = A 38 10 := Int.toNat_of_nonneg L0
        have hu : ∀ l : Int, 0 ≤ l → l < ((A 38 10).toNat : Nat) → VAd (lu A l) ∧ VAr (lu A l) := fun l l0 l1 => by
          obtain ⟨hI, -⟩ := hl.img G l0 (by omega)
          exact ⟨hI.2.1.2.2.2.1, hI.2.1.2.2.2.2⟩
        have hr : ∀ l : Int, 0 ≤ l → l < ((A 38 10).toNat : Nat) → uKind (lu A l) 1 = 1 := fun l l0 l1 => (hu l l0 l1).2.1
        have stf : ∀ d ∈ vstk A v, 0 ≤ d.1 ∧ d.1 < A 38 10 ∧ 1 ≤ d.2 ∧ d.2 ≤ uw (lu A d.1) 4 ∧ uKind (lu A d.1) d.2 = 1 := by
          intro d hd
          obtain ⟨j, j0, j1, e⟩ := vfr_mem hd
          subst e
          exact vf.2.2 j j0 (by omega)
        have vpF : VP (lu A) ((A 38 10).toNat : Nat) (vroot (A 38 10).toNat) (a :: pp) F := by
          rw [eL]
          exact ⟨vstk A v, vp, stf, hF⟩
        have mF : ∀ d ∈ F, 0 ≤ d.1 ∧ d.1 < A 38 10 ∧ 1 ≤ d.2 ∧ d.2 ≤ uw (lu A d.1) 4 := by
          intro d hd
          rw [hF] at hd
          rcases vstep_mem hd with z | ⟨k, z1, z2, z3⟩
          · cases z
          · obtain ⟨y1, y2, y3, y4, y5⟩ := stf _ z1
            have := uChild_le (hu d.1 y1 (by rw [eL]; exact y2)).1 y3 y4 y5 (a := a)
            have w := (hl.img G y1 y2).1.2.1.1.2.2.2.2.2.2.2.1
            have y1' : 0 ≤ d.1 := y1
            have y2' : d.1 < A 38 10 := y2
            have w' : 1 ≤ uw (lu A d.1) 4 := w
            have this' : 0 ≤ uChild (lu A d.1) k a ∧ uChild (lu A d.1) k a ≤ max (uw (lu A d.1) 4) 0 := this
            omega
        have kF : (∀ d ∈ F, uKind (lu A d.1) d.2 = 1) ∨ ∃ d, F = [d] ∧ uKind (lu A d.1) d.2 = 2 := by
          rw [hF]
          exact vstep_kind (fun c hc => by cases hc)
        have kc : uKind (lu A c.1) c.2 = 1 ∨ uKind (lu A c.1) c.2 = 2 := by
          rcases kF with z | ⟨d, z1, z2⟩
          · exact Or.inl (z c (by rw [hcr]; exact List.mem_cons_self))
          · rw [z1] at hcr
            rw [← (List.cons.inj hcr).1]
            exact Or.inr z2
        -- the same top is the same view
        have topF : ∀ z, 0 ≤ z → z < A 38 11 → A 42 (z * 3) = c.1 → A 43 (z * 3) = c.2 → vstk A z = F := by
          intro z z0 z1 e1 e2
          obtain ⟨vsz, -, pz, vpz⟩ := w4 z z0 z1
          have ez := vstk_cons vsz.1
          have ec : (A 42 (z * 3), A 43 (z * 3)) = c := by rw [e1, e2]
          rw [ec] at ez
          rw [ez, ← eL] at vpz
          rw [hcr] at vpF
          rw [ez, hcr]
          exact VP.top hu hr vpz vpF kc
        have getF : ∀ k : Int, 0 ≤ k → k < F.length → F.getD k.toNat (0, 0) ∈ F := fun k k0 k1 => by
          rw [List.getD_eq_getElem?_getD, List.getElem?_eq_getElem (by omega)]
          exact List.getElem_mem _
        have same : ∀ T : jA, T 39 = A 39 → (∀ z, z < A 38 11 → T 75 z = A 75 z) → (∀ j, j < 3 * A 38 11 → T 76 j = A 76 j ∧ T 77 j = A 77 j) → (∀ k : Int, 0 ≤ k → k < F.length → T 76 (3 * A 38 11 + k) = A 39 (F.getD k.toNat (0, 0)).1 ∧ T 77 (3 * A 38 11 + k) = (F.getD k.toNat (0, 0)).2) → ∀ z, 0 ≤ z → z < A 38 11 → ((T 75 z = F.length ∧ ∀ k, 0 ≤ k → k < (F.length : Int) → T 76 (3 * z + k) = T 76 (3 * A 38 11 + k) ∧ T 77 (3 * z + k) = T 77 (3 * A 38 11 + k)) ↔ (A 42 (z * 3) = c.1 ∧ A 43 (z * 3) = c.2)) := by
          intro T t39 t75 t76 tF z z0 z1
          obtain ⟨vsz, vmz, -⟩ := w4 z z0 z1
          constructor
          · rintro ⟨e1, e2⟩
            have k0 := e2 0 (by omega) (by omega)
            have f0 := tF 0 (by omega) (by omega)
            have m0 := vmz.2 0 (by omega) (by have := vsz.1; omega)
            have g0 : F.getD (0 : Int).toNat (0, 0) = c := by rw [hcr]; rfl
            rw [g0] at f0
            rw [Int.add_zero] at k0 f0 m0
            rw [Int.add_zero] at k0 m0
            have i1 := t76 (3 * z) (by omega)
            have s0 := vsz.2.2.1 0 (by omega) (by have := vsz.1; omega)
            rw [Int.add_zero] at s0
            have c0 := mF c (by rw [hcr]; exact List.mem_cons_self)
            have inj : A 39 (A 42 (z * 3)) = A 39 c.1 := by rw [← m0.1, ← i1.1, k0.1, f0.1]
            refine ⟨?_, by rw [← m0.2, ← i1.2, k0.2, f0.2]⟩
            have di := hl.2.2.2.2.1
            rcases Int.lt_trichotomy (A 42 (z * 3)) c.1 with h | h | h
            · exact absurd inj (di _ _ s0.1 h c0.2.1)
            · exact h
            · exact absurd inj.symm (di _ _ c0.1 h s0.2.1)
          · rintro ⟨e1, e2⟩
            have ez := topF z z0 z1 e1 e2
            have ll : A 41 z = F.length := by
              rw [← ez]
              unfold vstk
              rw [vfr_len]
              have := vsz.1
              omega
            refine ⟨by rw [t75 z z1, vmz.1]; exact ll, fun k k0 k1 => ?_⟩
            have g : F.getD k.toNat (0, 0) = (A 42 (z * 3 + k), A 43 (z * 3 + k)) := by
              rw [← ez]
              unfold vstk
              rw [vfr_get k0 (by have := vsz.1; omega), Int.zero_add]
            have d3 := vsz.2.1
            have i1 := t76 (3 * z + k) (by omega)
            have m1 := vmz.2 k k0 (by omega)
            have f1 := tF k k0 k1
            rw [g] at f1
            exact ⟨by rw [i1.1, m1.1, f1.1], by rw [i1.2, m1.2, f1.2]⟩
        have tab : ∀ (S T : jA), (∀ o, o ≠ 38 → ¬ (41 ≤ o ∧ o ≤ 46) → S o = A o) → T = jup (mset (jup S 49 0 0) (A 38 11) F) 75 (A 38 11) F.length → T 49 37 = A 38 11 ∧ T 39 = A 39 ∧ (∀ z, z < A 38 11 → T 75 z = A 75 z) ∧ (∀ j, j < 3 * A 38 11 → T 76 j = A 76 j ∧ T 77 j = A 77 j) ∧ (∀ k : Int, 0 ≤ k → k < F.length → T 76 (3 * A 38 11 + k) = A 39 (F.getD k.toNat (0, 0)).1 ∧ T 77 (3 * A 38 11 + k) = (F.getD k.toNat (0, 0)).2) := by
          intro S T so hT
          have s39 : jup S 49 0 0 39 = A 39 := by rw [jup_row (by decide)]; exact so 39 (by decide) (by decide)
          refine ⟨?_, ?_, fun z hz => ?_, fun j hj => ⟨?_, ?_⟩, fun k k0 k1 => ⟨?_, ?_⟩⟩
          · rw [hT, jup_row (by decide), mset_row (by decide) (by decide), jup_ne (by decide), so 49 (by decide) (by decide)]; exact w1
          · rw [hT, jup_row (by decide), mset_row (by decide) (by decide)]; exact s39
          · rw [hT, jup_ne (by omega), mset_row (by decide) (by decide), jup_row (by decide), so 75 (by decide) (by decide)]
          · rw [hT, jup_row (by decide), mset_lo hj, jup_row (by decide), so 76 (by decide) (by decide)]
          · rw [hT, jup_row (by decide), mset_lo hj, jup_row (by decide), so 77 (by decide) (by decide)]
          · have : 3 * A 38 11 ≤ 3 * A 38 11 + k ∧ 3 * A 38 11 + k < 3 * A 38 11 + F.length := by omega
            have e : (3 * A 38 11 + k - 3 * A 38 11).toNat = k.toNat := by omega
            rw [hT, jup_row (by decide), ← s39]
            simp [mset, this, e]
          · have : 3 * A 38 11 ≤ 3 * A 38 11 + k ∧ 3 * A 38 11 + k < 3 * A 38 11 + F.length := by omega
            have e : (3 * A 38 11 + k - 3 * A 38 11).toNat = k.toNat := by omega
            rw [hT, jup_row (by decide)]
            simp [mset, this, e]
        refine k_lead17 hcr lF ⟨w2, w3⟩ (fun w z0 z1 no e1 e2 => ?_) (fun no e60 => ?_) (fun no l60 => ?_)
        · refine ref _ fo f10 f41 f42 _ (fun T hT => ⟨fun z => by omega, fun _ => ?_⟩)
          obtain ⟨t37, t39, t75, t76, tF⟩ := tab _ T fo hT
          have sm := same T t39 t75 t76 tF
          refine k_look57 (by omega) (by omega) (fun y y0 y1 ny hy => ?_) (fun ny _ => ?_) (fun ny _ => ?_)
          · rw [t37] at y1 ny hy
            have hy2 := (sm y y0 y1).mp hy
            refine ⟨?_, tbl _ fo f10 f11 f41 f42 T hT⟩
            rcases Int.lt_trichotomy w y with h | h | h
            · exact absurd ((sm w z0 z1).mpr ⟨e1, e2⟩) (ny w z0 h)
            · exact h
            · exact absurd hy2 (no y y0 h)
          · rw [t37] at ny
            exact absurd ((sm w z0 z1).mpr ⟨e1, e2⟩) (ny w z0 z1)
          · rw [t37] at ny
            exact absurd ((sm w z0 z1).mpr ⟨e1, e2⟩) (ny w z0 z1)
        · refine ref _ fo f10 f41 f42 _ (fun T hT => ⟨fun z => by omega, fun _ => ?_⟩)
          obtain ⟨t37, t39, t75, t76, tF⟩ := tab _ T fo hT
          have sm := same T t39 t75 t76 tF
          refine k_look57 (by omega) (by omega) (fun y y0 y1 ny hy => ?_) (fun ny _ => ⟨rfl, tbl _ fo f10 f11 f41 f42 T hT⟩) (fun ny h => by omega)
          rw [t37] at y1 hy
          exact absurd ((sm y y0 y1).mp hy) (no y y0 y1)
        · have ao : ∀ o, o ≠ 38 → ¬ (41 ≤ o ∧ o ≤ 46) → vadd A F o = A o := fun o h1 h2 => vadd_row h1 h2
          have a10 : vadd A F 38 10 = A 38 10 := by simp [vadd, fset]
          have a11 : vadd A F 38 11 = A 38 11 + 1 := by simp [vadd]
          refine ref _ ao a10 (fun j hj => vadd_41 hj) (fun j hj => vadd_42 hj) _ (fun T hT => ⟨fun z => by omega, fun _ => ?_⟩)
          obtain ⟨t37, t39, t75, t76, tF⟩ := tab _ T ao hT
          have sm := same T t39 t75 t76 tF
          refine k_look57 (by omega) (by omega) (fun y y0 y1 ny hy => ?_) (fun ny h => by omega) (fun ny _ => ?_)
          · rw [t37] at y1 hy
            exact absurd ((sm y y0 y1).mp hy) (no y y0 y1)
          · rw [t37]
            obtain ⟨C, hC⟩ : ∃ C, C = jup T 49 37 (A 38 11 + 1) := ⟨_, rfl⟩
            rw [← hC]
            have cr : ∀ o, o ≠ 49 → C o = T o := fun o h => by rw [hC]; exact jup_row h
            have tr : ∀ o, o ≠ 49 → ¬ (75 ≤ o ∧ o ≤ 77) → T o = vadd A F o := fun o h1 h2 => by rw [hT, jup_row (by omega), mset_row (by omega) (by omega), jup_row h1]
            have c39 : C 39 = A 39 := by rw [cr 39 (by decide)]; exact t39
            have c58 : C 58 = A 58 := by rw [cr 58 (by decide), tr 58 (by decide) (by decide)]; exact ao 58 (by decide) (by decide)
            have c10 : C 38 10 = A 38 10 := by rw [cr 38 (by decide), tr 38 (by decide) (by decide)]; exact a10
            have c11 : C 38 11 = A 38 11 + 1 := by rw [cr 38 (by decide), tr 38 (by decide) (by decide)]; exact a11
            have luC : lu C = lu A := lu_eq c39 c58
            refine ⟨rfl, ⟨by rw [c11, hC, jup_at], by omega, by omega, fun z z0 z1 => ?_⟩, ⟨fun o h1 h2 h3 h4 => by rw [cr o h3, tr o h3 h4]; exact ao o h1 h2, c10, fun k h1 h2 => by rw [hC, jup_ne h2, hT, jup_row (by decide), mset_row (by decide) (by decide), jup_ne h1, ao 49 (by decide) (by decide)], by rw [hC, jup_ne (by decide), hT, jup_row (by decide), mset_row (by decide) (by decide), jup_at]⟩⟩
            rw [c11] at z1
            by_cases ez : z = A 38 11
            · subst ez
              have c41 : C 41 (A 38 11) = F.length := by
                rw [cr 41 (by decide), tr 41 (by decide) (by decide)]
                simp [vadd]
              have c75 : C 75 (A 38 11) = F.length := by rw [cr 75 (by decide), hT, jup_at]
              have cn : ∀ i : Int, 0 ≤ i → i < F.length → C 42 (A 38 11 * 3 + i) = (F.getD i.toNat (0, 0)).1 ∧ C 43 (A 38 11 * 3 + i) = (F.getD i.toNat (0, 0)).2 := fun i i0 i1 => by
                rw [cr 42 (by decide), cr 43 (by decide), tr 42 (by decide) (by decide), tr 43 (by decide) (by decide)]
                exact vadd_new i0 i1
              have stC : vstk C (A 38 11) = F := by
                unfold vstk
                rw [c41, Int.toNat_natCast]
                refine vfr_of (fun j j0 j1 => ?_)
                rw [Int.zero_add]
                exact cn j j0 j1
              have c0 := cn 0 (by omega) (by omega)
              rw [Int.add_zero] at c0
              refine ⟨⟨by omega, by omega, fun i i0 i1 => ?_, ?_⟩, ⟨by omega, fun i i0 i1 => ?_⟩, a :: pp, ?_⟩
              · rw [c41] at i1
                rw [(cn i i0 i1).1, (cn i i0 i1).2, luC, c10]
                exact mF _ (getF i i0 i1)
              · rcases kF with k | ⟨d, k1, k2⟩
                · refine Or.inl (fun i i0 i1 => ?_)
                  rw [c41] at i1
                  rw [(cn i i0 i1).1, (cn i i0 i1).2, luC]
                  exact k _ (getF i i0 i1)
                · refine Or.inr ⟨by rw [c41, k1]; rfl, ?_⟩
                  have g0 : F.getD (0 : Int).toNat (0, 0) = d := by rw [k1]; rfl
                  rw [c0.1, c0.2, luC, g0]
                  exact k2
              · rw [c41] at i1
                rw [(cn i i0 i1).1, (cn i i0 i1).2, cr 76 (by decide), cr 77 (by decide), c39]
                exact tF i i0 i1
              · rw [luC, c10, stC, ← eL]
                rw [Int.toNat_natCast]
                exact vpF
            · obtain ⟨y1, y2, y3⟩ := w4 z z0 (by omega)
              refine view_keep z0 c39 c58 c10 (by rw [cr 41 (by decide), tr 41 (by decide) (by decide)]; exact vadd_41 (by omega)) (by rw [cr 75 (by decide)]; exact t75 z (by omega)) (fun i i0 i1 => ?_) y1 y2 y3
              rw [cr 42 (by decide), cr 43 (by decide), cr 76 (by decide), cr 77 (by decide), tr 42 (by decide) (by decide), tr 43 (by decide) (by decide)]
              exact ⟨(vadd_42 (by omega)).1, (vadd_42 (by omega)).2, (t76 _ (by omega)).1, (t76 _ (by omega)).2⟩
      · -- no folder
        refine vd_X7_look_0 v rv a ra E A _ (fun A1 e1 => ?_)
        rw [← hD] at e1
        subst e1
        refine k_isView rv (by omega) (fun _ _ => ⟨fun _ => ?_, fun q => by omega⟩) (fun q => by exfalso; omega)
        refine k_in ra (by decide) (by decide) (fun _ _ => ⟨fun _ => ?_, fun q => by omega⟩) (fun q => by exfalso; omega)
        exact k_mkindOf l0 G0 ⟨p1, by omega⟩ vs0 vm0 ⟨fun q => absurd (kD.symm.trans q) hk, fun _ => ⟨rfl, W0, F0⟩⟩
    · refine vd_X7_look_0 v rv a ra E A _ (fun A1 e1 => ?_)
      rw [← hD] at e1
      subst e1
      refine k_isView rv (by omega) (fun _ _ => ⟨fun _ => ?_, fun q => by omega⟩) (fun q => by exfalso; omega)
      exact k_in ra (by decide) (by decide) (fun _ _ => by exfalso; omega) (fun _ => ⟨fun z => absurd rfl z, fun _ => ⟨rfl, W0, F0⟩⟩)
  · refine vd_X7_look_0 v rv a ra E A _ (fun A1 e1 => ?_)
    rw [← hD] at e1
    subst e1
    exact k_isView rv (by omega) (fun _ _ => by exfalso; omega) (fun _ => ⟨fun z => absurd rfl z, fun _ => ⟨rfl, W0, F0⟩⟩)
