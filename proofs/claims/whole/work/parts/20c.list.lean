theorem vg_none {A : jA} {v t : Int} {E : jE} (G : GI A) (hl : LR E A) (W : VF A v) {a : Int} (h : ∀ i j, 0 ≤ i → i < A 41 v → 0 ≤ j → j < uMany (lu A (A 42 (v * 3 + i))) (A 43 (v * 3 + i)) → uName (lu A (A 42 (v * 3 + i))) (A 43 (v * 3 + i)) j ≠ a) : vtop (lu A) a (vstk A v) = 0 := by
  have key : ∀ (n : Nat) (i : Int), 0 ≤ i → i + n = A 41 v → vtop (lu A) a (vfr A v n i) = 0 := by
    intro n
    induction n with
    | zero => intro i _ _; rfl
    | succ n ih =>
      intro i i0 i1
      simp only [vfr, vtop]
      rw [if_pos (uChild_no (fun j j0 j1 => h i j i0 (by omega) j0 j1))]
      exact ih (i + 1) (by omega) (by omega)
  have d0 := W.1
  exact key _ 0 (by omega) (by omega)
theorem vtop_some {A : jA} {v : Int} {E : jE} (G : GI A) (hl : LR E A) (W : VF A v) {a i j : Int} (i0 : 0 ≤ i) (i1 : i < A 41 v) (j0 : 0 ≤ j) (j1 : j < uMany (lu A (A 42 (v * 3 + i))) (A 43 (v * 3 + i))) (e : uName (lu A (A 42 (v * 3 + i))) (A 43 (v * 3 + i)) j = a) : vtop (lu A) a (vstk A v) ≠ 0 := by
  obtain ⟨d0, d3, W⟩ := W
  have key : ∀ (n : Nat) (k : Int), 0 ≤ k → k + n = A 41 v → k ≤ i → vtop (lu A) a (vfr A v n k) ≠ 0 := by
    intro n
    induction n with
    | zero => intro k _ _ _; omega
    | succ n ih =>
      intro k k0 k1 k2
      simp only [vfr, vtop]
      obtain ⟨w1, w2, w3, w4, w5⟩ := W k k0 (by omega)
      obtain ⟨hI, m0, m2, l3⟩ := hl.img G w1 w2
      by_cases h0 : uChild (lu A (A 42 (v * 3 + k))) (A 43 (v * 3 + k)) a = 0
      · rw [if_pos h0]
        by_cases hk : k = i
        · subst hk
          have := uChild_at hI.2.1.2.2.2.1 w3 w4 w5 j0 j1 e
          have hu := (hI.2.1.2.2.2.1 _ w3 w4 w5).2.2.1 j j0 j1
          omega
        · exact ih (k + 1) (by omega) (by omega) (by omega)
      · rw [if_neg h0]
        obtain ⟨c0, cN⟩ := uChild_le hI.2.1.2.2.2.1 w3 w4 w5 (a := a)
        have hk := hI.2.1.row hI.2.2 (show 1 ≤ uChild (lu A (A 42 (v * 3 + k))) (A 43 (v * 3 + k)) a by omega) (by omega)
        omega
  exact key _ 0 (by omega) (by omega) i0
theorem vtop_le {A : jA} {v : Int} {E : jE} (G : GI A) (hl : LR E A) (W : VF A v) (a : Int) : 0 ≤ vtop (lu A) a (vstk A v) ∧ vtop (lu A) a (vstk A v) ≤ 3 := by
  obtain ⟨d0, d3, W⟩ := W
  have key : ∀ (n : Nat) (i : Int), 0 ≤ i → i + n = A 41 v → 0 ≤ vtop (lu A) a (vfr A v n i) ∧ vtop (lu A) a (vfr A v n i) ≤ 3 := by
    intro n
    induction n with
    | zero => intro i _ _; simp only [vfr, vtop]; omega
    | succ n ih =>
      intro i i0 i1
      simp only [vfr, vtop]
      by_cases h0 : uChild (lu A (A 42 (v * 3 + i))) (A 43 (v * 3 + i)) a = 0
      · rw [if_pos h0]; exact ih (i + 1) (by omega) (by omega)
      · rw [if_neg h0]
        obtain ⟨w1, w2, w3, w4, w5⟩ := W i i0 (by omega)
        obtain ⟨hI, m0, m2, l3⟩ := hl.img G w1 w2
        obtain ⟨c0, cN⟩ := uChild_le hI.2.1.2.2.2.1 w3 w4 w5 (a := a)
        have hk := hI.2.1.row hI.2.2 (show 1 ≤ uChild (lu A (A 42 (v * 3 + i))) (A 43 (v * 3 + i)) a by omega) (by omega)
        omega
  exact key _ 0 (by omega) (by omega)
theorem k_nameBelow {v x : Int} (hv : 0 ≤ v ∧ v < 60) (rx : jW x) {E : jE} {A : jA} (G : GI A) (hl : LR E A) (W : VF A v) {K : Int → jA → Prop} (h1 : ∀ w f n, 1 ≤ w → w ≤ 999 → 0 < vg A v w → vcnt (vg A v) (w - 1).toNat = x → K w (pset A f n)) (h0 : ∀ f, (∀ a, 1 ≤ a → a ≤ 999 → 0 < vg A v a → vcnt (vg A v) (a - 1).toNat ≠ x) → K 0 (pset A f (vcnt (vg A v) 999))) : jrI 79 0 [some (.ref 38), some (.int (jI v)), some (.int (jI x)), none, none] [] E A K := by
  have rv : jW v := ⟨by omega, by omega⟩
  have hpos : ∀ a, 0 < vg A v a ↔ (vtop (lu A) a (vstk A v) = 1 ∨ vtop (lu A) a (vstk A v) = 2) := fun a => by
    rw [← vtop_pos]; unfold vg; omega
  have main : ∀ (m : Nat) (t w turn : Int) (f : Int → Int), (999 - t).toNat ≤ m → 0 ≤ t → t ≤ 999 → 0 ≤ turn → turn ≤ t → PW A v f t → NX A v t (A 41 v) w → (∀ a, 1 ≤ a → a ≤ t → 0 < vg A v a → vcnt (vg A v) (a - 1).toNat ≠ x) → jrI 79 22 [some (.ref 38), some (.int (jI v)), some (.int (jI x)), some (.int (jI w)), some (.int (jI turn))] [] E (pset A f (vcnt (vg A v) t.toNat)) K := by
    intro m
    induction m with
    | zero =>
      intro t w turn f hm t0 t9 u0 ut P N hx
      have et : t = 999 := by omega
      have ew : w = 0 := by rcases N with ⟨e, _⟩ | ⟨a, b, _, _⟩ <;> omega
      subst et ew
      refine vd_X3_nameBelow_22 v rv x rx 0 (by decide) turn ⟨by omega, by omega⟩ E _ K ⟨fun _ => h0 f (fun a a1 a2 => hx a a1 a2), fun _ => ⟨fun _ => h0 f (fun a a1 a2 => hx a a1 a2), fun z => absurd rfl z⟩⟩
    | succ m ih =>
      intro t w turn f hm t0 t9 u0 ut P N hx
      have rw' : jW w := by rcases N with ⟨e, _⟩ | ⟨a, b, _, _⟩ <;> exact ⟨by omega, by omega⟩
      refine vd_X3_nameBelow_22 v rv x rx w rw' turn ⟨by omega, by omega⟩ E _ K ⟨fun q => ?_, fun q => ⟨fun q2 => ?_, fun q2 => ?_⟩⟩
      · have et : t = 999 := by omega
        subst et
        exact h0 f (fun a a1 a2 => hx a a1 a2)
      · -- no name is left
        rcases N with ⟨e, N⟩ | ⟨a, b, _, _⟩
        · have hz : ∀ a, t < a → ¬ 0 < vg A v a := fun a ha => by
            have := vg_none (t := t) G hl W (a := a) (fun i j b1 b2 b3 b4 => by have := N i j b1 b2 b3 b4; omega)
            rw [hpos]; omega
          have hc : vcnt (vg A v) 999 = vcnt (vg A v) t.toNat := vcnt_same (by omega) (fun a a1 a2 => hz a (by omega))
          rw [← hc]
          refine h0 f (fun a a1 a2 a3 => ?_)
          by_cases ht : a ≤ t
          · exact hx a a1 ht a3
          · exact absurd a3 (hz a (by omega))
        · omega
      · rcases N with ⟨e, N⟩ | ⟨wt, w9, ⟨xi, xj, y1, y2, y3, y4, y5⟩, N⟩
        · exact absurd e q2
        · have hz : ∀ a, t < a → a < w → ¬ 0 < vg A v a := fun a ha hb => by
            have := vg_none (t := t) G hl W (a := a) (fun i j b1 b2 b3 b4 e => by have := N i j b1 b2 b3 b4 (by omega); omega)
            rw [hpos]; omega
          have hc : vcnt (vg A v) (w - 1).toNat = vcnt (vg A v) t.toNat := vcnt_same (by omega) (fun a a1 a2 => hz a (by omega) (by omega))
          have hw := vcnt_at (g := vg A v) (w := w) (by omega)
          have bc := vcnt_le (vg A v) t.toNat
          refine k_passName hv wt rw' G hl W P N (fun f' P' => ?_)
          have go : ∀ n, n = vcnt (vg A v) w.toNat → (0 < vg A v w → vcnt (vg A v) (w - 1).toNat ≠ x) → jrI 79 64 [some (.ref 38), some (.int (jI v)), some (.int (jI x)), none, some (.int (jI turn))] [] E (pset A f' n) K := fun n hn hnx => by
            subst hn
            refine vd_X3_nameBelow_64 v rv x rx turn ⟨by omega, by omega⟩ E _ K (k_nextName hv (by omega) G hl W P' (fun w' N' => ih w w' (turn + 1) f' (by omega) (by omega) w9 (by omega) (by omega) P' N' (fun a a1 a2 a3 => ?_)))
            by_cases ha : a = w
            · subst ha; exact hnx a3
            · by_cases hb : a ≤ t
              · exact hx a a1 hb a3
              · exact absurd a3 (hz a (by omega) (by omega))
          have hk := vtop_le G hl W w
          have hnz := vtop_some G hl W y1 y2 y3 y4 y5
          refine ⟨fun q3 => ?_, fun q3 => ?_⟩
          · have hg : ¬ 0 < vg A v w := by rw [hpos]; omega
            rw [if_neg hg] at hw
            have e : vcnt (vg A v) t.toNat = vcnt (vg A v) w.toNat := by omega
            rw [e]
            exact go _ rfl (fun z => absurd z hg)
          · have hg : 0 < vg A v w := by rw [hpos]; omega
            rw [if_pos hg] at hw
            have hc9 := pset_9 A f' (vcnt (vg A v) t.toNat)
            rw [hc9]
            refine ⟨fun q4 => ⟨⟨by omega, by omega⟩, fun A6 e6 => ?_⟩, fun q4 => h1 w f' _ (by omega) w9 hg (by omega)⟩
            have e : A6 = pset A f' (vcnt (vg A v) t.toNat + 1) := by
              rw [e6]; funext o j; simp only [jup, pset]
              by_cases ho : o = 46
              · rw [if_neg (by omega), if_pos ho, if_pos ho]
              · rw [if_neg ho, if_neg ho]
                by_cases hj : o = 38 ∧ j = 9
                · rw [if_pos hj, if_pos hj]
                · rw [if_neg hj, if_neg hj, if_neg hj]
            rw [e]
            exact go _ (by omega) (fun _ => by omega)
  refine vd_X3_nameBelow_0 v rv x rx E A K (k_fill (c := 46) rfl (by decide) (fun A3 e3 => ?_))
  have e : A3 = pset A (fun j => if 0 ≤ j ∧ j < 3 then 0 else A 46 j) (vcnt (vg A v) (0 : Int).toNat) := by
    rw [e3]; funext o j; simp only [jup, jfill, pset]
    have hN : (jN 46 : Int) = 3 := rfl
    rw [hN]
    by_cases ho : o = 46
    · subst ho
      rw [if_neg (by omega), if_pos rfl]
      by_cases hj : 0 ≤ j ∧ j < 3
      · rw [if_pos ⟨rfl, hj⟩, if_pos hj]
      · rw [if_neg (fun z => hj z.2), if_neg hj]
    · rw [if_neg ho]
      by_cases hj : o = 38 ∧ j = 9
      · rw [if_pos hj, if_pos hj]; rfl
      · rw [if_neg hj, if_neg hj, if_neg (fun z => ho z.1)]
  rw [e]
  have P0 : PW A v (fun j => if 0 ≤ j ∧ j < 3 then 0 else A 46 j) 0 := fun i i0 i1 => by
    obtain ⟨w1, w2, w3, w4, w5⟩ := W.2.2 i i0 i1
    obtain ⟨hI, m0, m2, l3⟩ := hl.img G w1 w2
    have d3 := W.2.1
    dsimp only
    rw [if_pos ⟨i0, by omega⟩]
    have hm : 0 ≤ uMany (lu A (A 42 (v * 3 + i))) (A 43 (v * 3 + i)) := (uw_le hI.2.2 _).1
    refine ⟨by omega, hm, fun j a b => by omega, fun j a b => ?_⟩
    have := (hI.2.1.2.2.2.1 _ w3 w4 w5).2.2.1 j a b
    omega
  exact k_nextName hv (by omega) G hl W P0 (fun w N => main 999 0 w 0 _ (by omega) (by omega) (by omega) (by omega) (by omega) P0 N (fun a a1 a2 => by omega))
