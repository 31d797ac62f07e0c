/-- the class holds the numbers s; all else is as in A -/
def NR1 (A B : jA) (s : nSt) : Prop := (∀ o, o ≠ 21 → o ≠ 24 → o ≠ 25 → B o = A o) ∧ (∀ k, k ≠ 13 → B 21 k = A 21 k) ∧ B 21 13 = s.2.2 ∧ (∀ x, 0 ≤ x → x < 32 → B 24 x = s.1 x) ∧ ∀ k, 1 ≤ k → k ≤ s.2.2 → B 25 k = s.2.1 k
theorem NR1.add {A B C : jA} {s : nSt} (h : NR1 A B s) (hv : NV A s) {x : Int} (hz : s.1 x = 0) (x0 : 0 ≤ x) (x1 : x < 32) (e : C = jup (jup (jup B 21 13 (s.2.2 + 1)) 24 x (s.2.2 + 1)) 25 (s.2.2 + 1) x) : NR1 A C (nAdd s x) := by
  obtain ⟨h1, h2, h3, h4, h5⟩ := h
  unfold nAdd
  rw [if_pos hz]
  refine ⟨fun o a b c => by rw [e, jup_row c, jup_row b, jup_row a, h1 o a b c], fun k hk => by rw [e, jup_row (by decide), jup_row (by decide), jup_ne hk, h2 k hk], by rw [e, jup_row (by decide), jup_row (by decide), jup_at], fun y y0 y1 => ?_, fun k k1 k2 => ?_⟩
  · rw [e, jup_row (by decide)]
    dsimp only
    by_cases q : y = x
    · rw [q, jup_at, if_pos rfl]
    · rw [jup_ne q, if_neg q, jup_row (by decide), h4 y y0 y1]
  · rw [e]
    dsimp only at k2 ⊢
    by_cases q : k = s.2.2 + 1
    · rw [q, jup_at, if_pos rfl]
    · rw [jup_ne q, if_neg q, jup_row (by decide), jup_row (by decide), h5 k k1 (by omega)]
theorem k_giveBelow {E : jE} {A B : jA} (T : TR A) {s : nSt} (h : NR1 A B s) (hv : NV A s) {x : Int} (x0 : 0 ≤ x) (x1 : x < A 2 9) (hk : A 3 x = 1) {K : jA → Prop} (hK : ∀ C, NR1 A C (nIn A x s) → K C) : jrV 7 0 [some (.ref 21), some (.ref 2), some (.int (jI x)), none, none, none] [] E B K := by
  have n32 := T.1.2.1
  have hn := T.1.2.2.2.1
  have hn' := T.1.2.2.2.2.1
  have c := tF_ch hn (1000 * x)
  have d := tF_ch hn (1000 * (x + 1))
  have le := T.tfle (show 1000 * x ≤ 1000 * (x + 1) by omega)
  have e10 : B 10 = A 10 := h.1 10 (by decide) (by decide) (by decide)
  have e2 : B 2 = A 2 := h.1 2 (by decide) (by decide) (by decide)
  have hnB : 0 ≤ B 2 10 ∧ B 2 10 ≤ 279 := by rw [e2]; exact ⟨hn, hn'⟩
  have etf : ∀ y, tF B y = tF A y := fun y => tF_same e10 (by rw [e2]) y
  refine vd_X0_giveNumbersBelow_0 x ⟨by omega, by omega⟩ E B K (k_firstNameOf (by omega) hnB (k_firstNameOf (by omega) hnB ?_))
  rw [etf, etf]
  unfold nIn at hK
  rw [if_pos hk] at hK
  have r3 : jW (tF A (1000 * (x + 1))) := ⟨by omega, by omega⟩
  refine j_loop (P := fun i => ∀ B s, NR1 A B s → NV A s → 0 ≤ i → i ≤ tF A (1000 * (x + 1)) → (∀ C, NR1 A C (nB A (tF A (1000 * (x + 1)) - i).toNat i s) → K C) → jrV 7 15 [some (.ref 21), some (.ref 2), none, some (.int (jI (tF A (1000 * (x + 1))))), some (.int (jI i)), none] [] E B K) (tF A (1000 * (x + 1))) (fun i ih B s h hv i0 i1 hK => ?_) (tF A (1000 * x)) B s h hv (by omega) le hK
  have ri : jW i := ⟨by omega, by omega⟩
  refine vd_X0_giveNumbersBelow_15 _ r3 i ri E B K ⟨fun q => ?_, fun q => ?_⟩
  · rw [show (tF A (1000 * (x + 1)) - i).toNat = 0 by omega] at hK; exact hK B h
  obtain ⟨k, k0, k1, e1, e3, m1, m2, m3, m4, m5, m6, m7, m8⟩ := T.name i0 (show i < A 2 10 by omega)
  rw [show (tF A (1000 * (x + 1)) - i).toNat = (tF A (1000 * (x + 1)) - (i + 1)).toNat + 1 by omega] at hK
  simp only [nB] at hK
  have e11 : B 11 i = A 11 i := by rw [h.1 11 (by decide) (by decide) (by decide)]
  rw [e11, h.2.2.2.1 (A 11 i) (by omega) (by omega), h.2.2.1]
  have next : ∀ C, NR1 A C (nAdd s (A 11 i)) → jrV 7 81 [some (.ref 21), some (.ref 2), none, some (.int (jI (tF A (1000 * (x + 1))))), some (.int (jI i)), none] [] E C K := fun C hC => vd_X0_giveNumbersBelow_81 _ r3 i ri E C K (ih q C _ hC (hv.add n32 (by omega) (by omega)).1 (by omega) (by omega) hK)
  have vle := hv.2.1
  have vge := hv.1
  refine ⟨by omega, by omega, fun q2 => next B (by unfold nAdd; rw [if_neg q2]; exact h), fun q2 => ?_⟩
  have hr := hv.room n32 (x := A 11 i) (by omega) (by omega) q2
  refine ⟨fun z => by omega, fun _ => ⟨⟨by omega, by omega⟩, fun A4 e4 => ⟨by omega, fun A8 e8 => ?_⟩⟩⟩
  have f13 : A4 21 13 = s.2.2 + 1 := by rw [e4, jup_at]
  rw [f13] at e8
  have g13 : A8 21 13 = s.2.2 + 1 := by rw [e8, jup_row (by decide)]; exact f13
  rw [g13]
  refine ⟨by omega, fun A12 e12 => next A12 (h.add hv q2 (by omega) (by omega) ?_)⟩
  rw [e12, e8, e4]
theorem k_giveNumbers {E : jE} {A : jA} (T : TR A) {K : jA → Prop} (hK : ∀ C, NR1 A C (nU A) → K C) : jrV 6 0 [some (.ref 21), some (.ref 2), none, none] [] E A K := by
  have n32 := T.1.2.1
  have n1 := T.1.1
  refine vd_X0_giveNumbers_0 E A K (k_fill (c := 24) rfl (by decide) (fun A4 e4 A8 e8 A11 e11 => ?_))
  have h0 : NR1 A A11 nS0 := by
    refine ⟨fun o a b c => by rw [e11, jup_row a, e8, jup_row c, e4, jup_row b]; funext j; simp only [jfill]; rw [if_neg (by omega)], fun k hk => by rw [e11, jup_ne hk, e8, jup_row (by decide), e4, jup_row (by decide)]; simp only [jfill]; rw [if_neg (by omega)], by rw [e11, jup_at]; rfl, fun x x0 x1 => ?_, fun k k1 k2 => ?_⟩
    · rw [e11, jup_row (by decide), e8, jup_row (by decide), e4]
      show _ = if x = 0 then (1 : Int) else 0
      by_cases q : x = 0
      · rw [q, jup_at, if_pos rfl]
      · rw [jup_ne q, if_neg q]
        simp only [jfill]
        exact if_pos ⟨trivial, x0, by show x < 32; omega⟩
    · have : k = 1 := by have : k ≤ 1 := k2; omega
      rw [this, e11, jup_row (by decide), e8, jup_at]; rfl
  have v0 : NV A nS0 := by
    refine ⟨by show (1 : Int) ≤ 1; omega, by show (1 : Int) ≤ A 2 9; omega, rfl, rfl, fun k k1 k2 => ?_, fun x => ?_⟩
    · have : k = 1 := by have : k ≤ 1 := k2; omega
      subst this
      exact ⟨by show (0 : Int) ≤ 0; omega, by show (0 : Int) < A 2 9; omega, rfl⟩
    · by_cases e : x = 0
      · right; subst e; exact ⟨by decide, by decide, rfl⟩
      · left; exact if_neg e
  have key : ∀ (f : Nat) (k : Int) (B : jA) (s : nSt), NR1 A B s → NV A s → 1 ≤ k → k ≤ s.2.2 + 1 → 33 - k < f → (∀ C, NR1 A C (nO A f k s) → K C) → jrV 6 29 [some (.ref 21), some (.ref 2), some (.int (jI k)), none] [] E B K := by
    intro f
    induction f with
    | zero => intro k B s h hv k1 k2 kf hK; have := hv.2.1; omega
    | succ f ih =>
      intro k B s h hv k1 k2 kf hK
      simp only [nO] at hK
      have vle := hv.2.1
      have rk : jW k := ⟨by omega, by omega⟩
      refine vd_X0_giveNumbers_29 k rk E B K ?_
      rw [h.2.2.1]
      refine ⟨fun q => by rw [if_pos q] at hK; exact hK B h, fun q => ⟨fun z => by omega, fun _ => ?_⟩⟩
      rw [if_neg (by omega)] at hK
      obtain ⟨d0, d1, d2⟩ := hv.2.2.2.2.1 k k1 q
      rw [h.2.2.2.2 k k1 q, h.1 3 (by decide) (by decide) (by decide)]
      have hi := hv.i T (x := s.2.1 k)
      have next : ∀ C, NR1 A C (nIn A (s.2.1 k) s) → jrV 6 66 [some (.ref 21), some (.ref 2), some (.int (jI k)), none] [] E C K := fun C hC => vd_X0_giveNumbers_66 k rk E C K (ih (k + 1) C _ hC hi.1 (by omega) (by have := hi.2.2.2.1; omega) (by omega) hK)
      refine ⟨by omega, by omega, fun q2 => next B (by unfold nIn; rw [if_neg q2]; exact h), fun q2 => k_giveBelow T h hv d0 d1 q2 next⟩
  exact key 40 1 A11 nS0 h0 v0 (by omega) (by show (1 : Int) ≤ 1 + 1; omega) (by omega) hK
/-- the reference holds them -/
def NR2 (A B : jA) (s : nSt) : Prop := (∀ o, o ≠ 49 → o ≠ 60 → o ≠ 61 → B o = A o) ∧ (∀ k, k ≠ 18 → k ≠ 19 → B 49 k = A 49 k) ∧ B 49 18 = s.2.2 ∧ (∀ x, 0 ≤ x → x < 32 → B 60 x = s.1 x) ∧ ∀ k, 1 ≤ k → k ≤ s.2.2 → B 61 k = s.2.1 k
theorem NR2.f {A B : jA} {s : nSt} (h : NR2 A B s) (k : Int) : NR2 A (jup B 49 19 k) s := by
  obtain ⟨h1, h2, h3, h4, h5⟩ := h
  exact ⟨fun o a b c => by rw [jup_row a, h1 o a b c], fun j a b => by rw [jup_ne b, h2 j a b], by rw [jup_ne (by decide)]; exact h3, fun x a b => by rw [jup_row (by decide)]; exact h4 x a b, fun j a b => by rw [jup_row (by decide)]; exact h5 j a b⟩
theorem NR2.add {A B C : jA} {s : nSt} (h : NR2 A B s) {x : Int} (hz : s.1 x = 0) (e : C = jup (jup (jup B 49 18 (s.2.2 + 1)) 60 x (s.2.2 + 1)) 61 (s.2.2 + 1) x) : NR2 A C (nAdd s x) := by
  obtain ⟨h1, h2, h3, h4, h5⟩ := h
  unfold nAdd
  rw [if_pos hz]
  refine ⟨fun o a b c => by rw [e, jup_row c, jup_row b, jup_row a, h1 o a b c], fun k hk hk' => by rw [e, jup_row (by decide), jup_row (by decide), jup_ne hk, h2 k hk hk'], by rw [e, jup_row (by decide), jup_row (by decide), jup_at], fun y y0 y1 => ?_, fun k k1 k2 => ?_⟩
  · rw [e, jup_row (by decide)]
    dsimp only
    by_cases q : y = x
    · rw [q, jup_at, if_pos rfl]
    · rw [jup_ne q, if_neg q, jup_row (by decide), h4 y y0 y1]
  · rw [e]
    dsimp only at k2 ⊢
    by_cases q : k = s.2.2 + 1
    · rw [q, jup_at, if_pos rfl]
    · rw [jup_ne q, if_neg q, jup_row (by decide), jup_row (by decide), h5 k k1 (by omega)]
theorem k_mnumber {E : jE} {A A0 : jA} (T : TR A) (hB0 : ∀ o, 50 ≤ o → o ≤ 57 → A0 o = A o) (h70 : A0 49 7 = A 49 7) {K : jA → Prop} (hK : ∀ C, NR2 A0 C (nU A) → K C) : jrV 189 0 [some (.ref 49), none, none, none, none] [] E A0 K := by
  have n32 := T.1.2.1
  have n1 := T.1.1
  have hn := T.1.2.2.2.1
  have hn' := T.1.2.2.2.2.1
  refine vd_X7_number_0 E A0 K ?_
  have e0 : jfill A0 60 0 0 0 = A0 := jfill_0 A0 60 0 0 0 (by omega)
  refine j_loop (P := fun i => 0 ≤ i → i ≤ 32 → jrV 189 2 [some (.ref 49), some (.int (jI i)), none, none, none] [] E (jfill A0 60 0 i 0) K) 32 (fun i ih i0 i1 => ?_) 0 (by omega) (by omega) |> fun z => by rwa [e0] at z
  refine vd_X7_number_2 i ⟨by omega, by omega⟩ E _ K ⟨fun q A2 e2 A6 e6 A9 e9 => ?_, fun q => ⟨by omega, fun A13 e13 => ?_⟩⟩
  rotate_left
  · rw [jfill_up A0 60 0 i 0 i0] at e13
    rw [e13]; exact ih q (by omega) (by omega)
  have ei : i = 32 := by omega
  subst ei
  have h0 : NR2 A0 A9 nS0 := by
    refine ⟨fun o a b c => by rw [e9, jup_row a, e6, jup_row c, e2, jup_row b]; funext j; simp only [jfill]; rw [if_neg (by omega)], fun k hk hk' => by rw [e9, jup_ne hk, e6, jup_row (by decide), e2, jup_row (by decide)]; simp only [jfill]; rw [if_neg (by omega)], by rw [e9, jup_at]; rfl, fun x x0 x1 => ?_, fun k k1 k2 => ?_⟩
    · rw [e9, jup_row (by decide), e6, jup_row (by decide), e2]
      show _ = if x = 0 then (1 : Int) else 0
      by_cases q : x = 0
      · rw [q, jup_at, if_pos rfl]
      · rw [jup_ne q, if_neg q]
        simp only [jfill]
        exact if_pos ⟨trivial, x0, by omega⟩
    · have : k = 1 := by have : k ≤ 1 := k2; omega
      rw [this, e9, jup_row (by decide), e6, jup_at]; rfl
  have v0 : NV A nS0 := by
    refine ⟨by show (1 : Int) ≤ 1; omega, by show (1 : Int) ≤ A 2 9; omega, rfl, rfl, fun k k1 k2 => ?_, fun x => ?_⟩
    · have : k = 1 := by have : k ≤ 1 := k2; omega
      subst this
      exact ⟨by show (0 : Int) ≤ 0; omega, by show (0 : Int) < A 2 9; omega, rfl⟩
    · by_cases e : x = 0
      · right; subst e; exact ⟨by decide, by decide, rfl⟩
      · left; exact if_neg e
  have key : ∀ (f : Nat) (k : Int) (B : jA) (s : nSt), NR2 A0 B s → NV A s → 1 ≤ k → k ≤ s.2.2 + 1 → 33 - k < f → (∀ C, NR2 A0 C (nO A f k s) → K C) → jrV 189 42 [some (.ref 49), some (.int (jI k)), none, none, none] [] E B K := by
    intro f
    induction f with
    | zero => intro k B s h hv k1 k2 kf hK; have := hv.2.1; omega
    | succ f ih =>
      intro k B s h hv k1 k2 kf hK
      simp only [nO] at hK
      have vle := hv.2.1
      have rk : jW k := ⟨by omega, by omega⟩
      refine vd_X7_number_42 k rk E B K ?_
      rw [h.2.2.1]
      refine ⟨fun q => by rw [if_pos q] at hK; exact hK B h, fun q => ?_⟩
      rw [if_neg (by omega)] at hK
      obtain ⟨d0, d1, d2⟩ := hv.2.2.2.2.1 k k1 q
      have ek : A 50 (s.2.1 k) = A 3 (s.2.1 k) := (T.2.1 _ d0 d1).1
      rw [h.2.2.2.2 k k1 q, h.1 50 (by decide) (by decide) (by decide), hB0 50 (by decide) (by decide), ek]
      have hi := hv.i T (x := s.2.1 k)
      have next : ∀ C, NR2 A0 C (nIn A (s.2.1 k) s) → jrV 189 144 [some (.ref 49), some (.int (jI k)), none, none, none] [] E C K := fun C hC => vd_X7_number_144 k rk E C K (ih (k + 1) C _ hC hi.1 (by omega) (by have := hi.2.2.2.1; omega) (by omega) hK)
      refine ⟨by omega, by omega, fun q2 => next B (by unfold nIn; rw [if_neg q2]; exact h), fun q2 => ?_⟩
      generalize hx : s.2.1 k = x at d0 d1 q2 next hi ⊢
      have c := tF_ch hn (1000 * x)
      have d := tF_ch hn (1000 * (x + 1))
      have le := T.tfle (show 1000 * x ≤ 1000 * (x + 1) by omega)
      have rx : jW x := ⟨by omega, by omega⟩
      unfold nIn at next
      rw [if_pos q2] at next
      -- one name after the other
      have walk := j_loop (P := fun i => ∀ B s, NR2 A0 B s → NV A s → tF A (1000 * x) ≤ i → i ≤ tF A (1000 * (x + 1)) → (∀ C, NR2 A0 C (nB A (tF A (1000 * (x + 1)) - i).toNat i s) → jrV 189 144 [some (.ref 49), some (.int (jI k)), none, none, none] [] E C K) → (i < tF A (1000 * (x + 1)) → ∀ kk, 0 ≤ kk → kk < A 2 10 → A 57 kk = A 11 i → jrV 189 74 [some (.ref 49), some (.int (jI k)), some (.int (jI x)), some (.int (jI (A 10 i - 1000 * x))), none] [] E (jup B 49 19 kk) K) ∧ (tF A (1000 * (x + 1)) ≤ i → ∀ kk, jrV 189 74 [some (.ref 49), some (.int (jI k)), some (.int (jI x)), some (.int (jI 1000)), none] [] E (jup B 49 19 kk) K)) (tF A (1000 * (x + 1))) (fun i ih2 B s h hv i0 i1 hN => by
        refine ⟨fun q3 kk kk0 kk1 ekk => ?_, fun q3 kk => ?_⟩
        · obtain ⟨r0, r1, r2, r3⟩ := T.range i0 q3
          obtain ⟨kq, z0, z1, e1, e3, m1, m2, m3, m4, m5, m6, m7, m8⟩ := T.name r0 r1
          have hB := h.f kk
          rw [show (tF A (1000 * (x + 1)) - i).toNat = (tF A (1000 * (x + 1)) - (i + 1)).toNat + 1 by omega] at hN
          simp only [nB] at hN
          have hva := hv.add n32 (x := A 11 i) (by omega) (by omega)
          have eff : A 55 kq = x := by omega
          have rn : jW (A 10 i - 1000 * x) := ⟨by omega, by omega⟩
          refine vd_X7_number_74 k rk x rx _ rn E _ K ⟨fun z => by rw [eff] at e1; omega, fun _ => ?_⟩
          have e57 : jup B 49 19 kk 57 = A 57 := by rw [jup_row (by decide), h.1 57 (by decide) (by decide) (by decide), hB0 57 (by decide) (by decide)]
          rw [jup_at, e57, ekk, jup_row (show (60 : Nat) ≠ 49 by decide), h.2.2.2.1 (A 11 i) (by omega) (by omega)]
          have on : ∀ C, NR2 A0 C (nAdd s (A 11 i)) → jrV 189 134 [some (.ref 49), some (.int (jI k)), some (.int (jI x)), some (.int (jI (A 10 i - 1000 * x))), none] [] E C K := fun C hC => by
            have w := ih2 q3 C _ hC hva.1 (by omega) (by omega) hN
            have ep : tF A (1000 * x + (A 10 i - 1000 * x) + 1) = i + 1 := by rw [show 1000 * x + (A 10 i - 1000 * x) + 1 = A 10 i + 1 by omega]; exact tF_next T r0 r1
            refine vd_X7_number_134 k rk x rx _ rn E C K (k_mnext T (fun o a b c => (hC.1 o a (by omega) (by omega)).trans (hB0 o b c)) ((hC.2.1 7 (by decide) (by decide)).trans h70) (by omega) (by rw [eff] at e1; omega) (fun k2 z1 z2 z3 z4 => ?_) (fun z1 k2 => ?_))
            · rw [ep] at z1 z4 ⊢
              exact w.1 z1 k2 z2 z3 z4
            · rw [ep] at z1
              exact w.2 z1 k2
          refine ⟨by omega, by omega, fun q4 => on _ (by unfold nAdd; rw [if_neg q4]; exact hB), fun q4 => ?_⟩
          have hr := hv.room n32 (x := A 11 i) (by omega) (by omega) q4
          have e18 : jup B 49 19 kk 49 18 = s.2.2 := by rw [jup_ne (by decide)]; exact h.2.2.1
          rw [e18]
          have vge := hv.1
          refine ⟨⟨by omega, by omega⟩, fun A4 e4 => ⟨by omega, fun A8 e8 => ?_⟩⟩
          have f18 : A4 49 18 = s.2.2 + 1 := by rw [e4, jup_at]
          rw [f18] at e8
          have g18 : A8 49 18 = s.2.2 + 1 := by rw [e8, jup_row (by decide)]; exact f18
          rw [g18]
          refine ⟨by omega, fun A12 e12 => on A12 (hB.add q4 ?_)⟩
          rw [e12, e8, e4]
        · rw [show (tF A (1000 * (x + 1)) - i).toNat = 0 by omega] at hN
          exact vd_X7_number_74 k rk x rx 1000 (by decide) E _ K ⟨fun _ => hN _ (h.f kk), fun z => absurd z (by decide)⟩) (tF A (1000 * x)) B s h hv (by omega) le next
      have ep : tF A (1000 * x + 0 + 1) = tF A (1000 * x) := by
        refine tF_eq hn c.1 c.2.1 (fun j j0 j1 => by have := c.2.2.1 j j0 j1; omega) (fun z => ?_)
        have := c.2.2.2 z
        obtain ⟨kq, z0, z1, e1, e3, m1, m2, m3, m4, m5, m6, m7, m8⟩ := T.name c.1 z
        omega
      refine k_mnext T (fun o a b c => (h.1 o a (by omega) (by omega)).trans (hB0 o b c)) ((h.2.1 7 (by decide) (by decide)).trans h70) (by omega) (by omega) (fun k2 z1 z2 z3 z4 => ?_) (fun z1 k2 => ?_)
      · rw [ep] at z1 z4 ⊢
        exact walk.1 z1 k2 z2 z3 z4
      · rw [ep] at z1
        exact walk.2 z1 k2
  exact key 40 1 A9 nS0 h0 v0 (by omega) (by show (1 : Int) ≤ 1 + 1; omega) (by omega) hK
