/-! LOAD ON BOTH SIDES -/
def FS (u : Int → Int) (n w : Int) : Prop := ¬ H1 u n ∧ w = 1 ∨ H1 u n ∧ ¬ H2 u n ∧ w = 2 ∨ H1 u n ∧ H2 u n ∧ ¬ H3 u n ∧ w = 3 ∨ H1 u n ∧ H2 u n ∧ H3 u n ∧ ¬ H4 u ∧ w = 4 ∨ H1 u n ∧ H2 u n ∧ H3 u n ∧ H4 u ∧ ¬ H5 u ∧ w = 5 ∨ H1 u n ∧ H2 u n ∧ H3 u n ∧ H4 u ∧ H5 u ∧ ¬ H6 u ∧ w = 6 ∨ H1 u n ∧ H2 u n ∧ H3 u n ∧ H4 u ∧ H5 u ∧ H6 u ∧ ¬ H7c u ∧ w = 7 ∨ H1 u n ∧ H2 u n ∧ H3 u n ∧ H4 u ∧ H5 u ∧ H6 u ∧ H7c u ∧ w = 0
theorem FS.one {u : Int → Int} {n w z : Int} (h1 : FS u n w) (h2 : FS u n z) : w = z := by
  unfold FS at h1 h2
  by_cases a1 : H1 u n
  · by_cases a2 : H2 u n
    · by_cases a3 : H3 u n
      · by_cases a4 : H4 u
        · by_cases a5 : H5 u
          · by_cases a6 : H6 u
            · by_cases a7 : H7c u
              · simp only [a1, a2, a3, a4, a5, a6, a7, not_true, true_and, false_and, false_or, or_false] at h1 h2; omega
              · simp only [a1, a2, a3, a4, a5, a6, a7, not_true, not_false_iff, true_and, false_and, false_or, or_false] at h1 h2; omega
            · simp only [a1, a2, a3, a4, a5, a6, not_true, not_false_iff, true_and, false_and, false_or, or_false] at h1 h2; omega
          · simp only [a1, a2, a3, a4, a5, not_true, not_false_iff, true_and, false_and, false_or, or_false] at h1 h2; omega
        · simp only [a1, a2, a3, a4, not_true, not_false_iff, true_and, false_and, false_or, or_false] at h1 h2; omega
      · simp only [a1, a2, a3, not_true, not_false_iff, true_and, false_and, false_or, or_false] at h1 h2; omega
    · simp only [a1, a2, not_true, not_false_iff, true_and, false_and, false_or, or_false] at h1 h2; omega
  · simp only [a1, not_false_iff, true_and, false_and, or_false] at h1 h2; omega
theorem FS.le {u : Int → Int} {n w : Int} (h : FS u n w) : 0 ≤ w ∧ w ≤ 7 := by
  rcases h with ⟨_, e⟩ | ⟨_, _, e⟩ | ⟨_, _, _, e⟩ | ⟨_, _, _, _, e⟩ | ⟨_, _, _, _, _, e⟩ | ⟨_, _, _, _, _, _, e⟩ | ⟨_, _, _, _, _, _, _, e⟩ | ⟨_, _, _, _, _, _, _, e⟩ <;> omega
theorem FS.va {u : Int → Int} {n : Int} (hb : UB u) (hn : n ≤ 4000) (h : FS u n 0) : VA u n := by
  rcases h with ⟨_, e⟩ | ⟨_, _, e⟩ | ⟨_, _, _, e⟩ | ⟨_, _, _, _, e⟩ | ⟨_, _, _, _, _, e⟩ | ⟨_, _, _, _, _, _, e⟩ | ⟨_, _, _, _, _, _, _, e⟩ | ⟨a1, a2, a3, a4, a5, a6, a7, e⟩
  all_goals first | exact absurd e (by decide) | exact VA_of hb hn a1 a2 a4 a5 a6 a7
theorem cHead_1 (A : jA) (c : Nat) : cHead A c c 1 = A c 1 := by unfold cHead; rw [if_neg (by omega), if_neg (by omega), if_neg (by omega), if_neg (by omega), if_neg (by omega), if_neg (by omega)]
theorem cHead_row {A : jA} {c o : Nat} (h : o ≠ c) : cHead A c o = A o := by
  funext j; unfold cHead; rw [if_neg (by omega), if_neg (by omega), if_neg (by omega), if_neg (by omega), if_neg (by omega), if_neg (by omega)]
theorem cHead_0 (A : jA) (c : Nat) {k : Int} (h : k < 2 ∨ 7 < k) : cHead A c c k = A c k := by unfold cHead; rw [if_neg (by omega), if_neg (by omega), if_neg (by omega), if_neg (by omega), if_neg (by omega), if_neg (by omega)]
theorem cHead_f (A : jA) (c : Nat) : cHead A c c 2 = cb A c 2 ∧ cHead A c c 3 = cw A c 4 ∧ cHead A c c 4 = cw A c 6 ∧ cHead A c c 5 = cw A c 8 ∧ cHead A c c 6 = cw A c 10 ∧ cHead A c c 7 = cw A c 12 := by
  simp [cHead]
theorem cHead_IM {A : jA} {c : Nat} (h : IM A c) : IM (cHead A c) c := by
  obtain ⟨h1, h2, h3, h4, h5⟩ := h
  have hI : IM A c := ⟨h1, h2, h3, h4, h5⟩
  have f := cHead_f A c
  refine ⟨h1, by rw [cHead_1]; exact h2, by rw [cHead_1]; exact h3, by rw [cHead_row (by omega)]; exact h4, fun k k2 k7 => ?_⟩
  have : k = 2 ∨ k = 3 ∨ k = 4 ∨ k = 5 ∨ k = 6 ∨ k = 7 := by omega
  rcases this with rfl | rfl | rfl | rfl | rfl | rfl
  · rw [f.1]; have := cb_le hI 2; omega
  · rw [f.2.1]; exact cw_le hI _
  · rw [f.2.2.1]; exact cw_le hI _
  · rw [f.2.2.2.1]; exact cw_le hI _
  · rw [f.2.2.2.2.1]; exact cw_le hI _
  · rw [f.2.2.2.2.2]; exact cw_le hI _
/-- fields of the head don't tell how its bytes are read -/
theorem IM.fld {A B : jA} {c : Nat} (h : IM A c) {k v : Int} (hk : 2 ≤ k ∧ k ≤ 7) (hv : 0 ≤ v ∧ v ≤ 65535) (e : B = jup A c k v) : IM B c ∧ (∀ x, cb B c x = cb A c x) ∧ (∀ x, cw B c x = cw A c x) := by
  obtain ⟨h1, h2, h3, h4, h5⟩ := h
  have e1 : B c 1 = A c 1 := by rw [e, jup_ne (by omega)]
  have e2 : B (c + 1) = A (c + 1) := by rw [e, jup_row (by omega)]
  refine ⟨⟨h1, by rw [e1]; exact h2, by rw [e1]; exact h3, by rw [e2]; exact h4, fun f f2 f7 => ?_⟩, fun x => by unfold cb; rw [e1, e2], fun x => by unfold cw; rw [e1, e2]⟩
  by_cases ef : f = k
  · rw [e, ef, jup_at]; exact hv
  · rw [e, jup_ne ef]; exact h5 f f2 f7
theorem k_readHead {E : jE} {A : jA} {c : Nat} (h : IM A c) {K : jA → Prop} (hK : K (cHead A c)) : jrV 41 0 [some (.ref c)] [] E A K := by
  have b2 := cb_le h 2
  refine vd_X1_readHead_0 c h.1 E A K (k_byteAt h (by decide) (fun A1 e1 => ?_))
  obtain ⟨i1, c1, w1⟩ := h.fld (k := 2) (by decide) (by omega) e1
  refine k_wordAt i1 (by decide) (fun A2 e2 => ?_)
  obtain ⟨i2, c2, w2⟩ := i1.fld (k := 3) (by decide) (cw_le i1 _) e2
  refine k_wordAt i2 (by decide) (fun A3 e3 => ?_)
  obtain ⟨i3, c3, w3⟩ := i2.fld (k := 4) (by decide) (cw_le i2 _) e3
  refine k_wordAt i3 (by decide) (fun A4 e4 => ?_)
  obtain ⟨i4, c4, w4⟩ := i3.fld (k := 5) (by decide) (cw_le i3 _) e4
  refine k_wordAt i4 (by decide) (fun A5 e5 => ?_)
  obtain ⟨i5, c5, w5⟩ := i4.fld (k := 6) (by decide) (cw_le i4 _) e5
  refine k_wordAt i5 (by decide) (fun A6 e6 => ?_)
  have : A6 = cHead A c := by
    rw [w5, w4, w3, w2, w1] at e6
    rw [w4, w3, w2, w1] at e5
    rw [w3, w2, w1] at e4
    rw [w2, w1] at e3
    rw [w1] at e2
    rw [e6, e5, e4, e3, e2, e1]
    funext o j
    simp only [jup, cHead]
    by_cases ho : o = c
    · subst ho
      simp only [true_and]
      by_cases j2 : j = 2
      · subst j2; simp
      · by_cases j3 : j = 3
        · subst j3; simp
        · by_cases j4 : j = 4
          · subst j4; simp
          · by_cases j5 : j = 5
            · subst j5; simp
            · by_cases j6 : j = 6
              · subst j6; simp
              · simp only [j2, j3, j4, j5, j6, if_false]
    · simp only [ho, false_and, if_false]
  rw [this]; exact hK
/-- an image whose head was read tells its bytes -/
theorem CR_head {A : jA} {c : Nat} {u : Int → Int} {n : Int} (h : IM A c) (e : A c 1 = n) (hn : 18 ≤ n) (hu : ∀ x, 0 ≤ x → x < n → A (c + 1) x = u x) : CR (cHead A c) c u n := by
  have f := cHead_f A c
  have w : ∀ x, 0 ≤ x → x + 1 < n → cw A c x = uw u x := fun x a b => by
    rw [cw_in a (by omega), hu x a (by omega), hu (x + 1) (by omega) b]; rfl
  refine ⟨cHead_IM h, by rw [cHead_1]; exact e, fun x a b => by rw [cHead_row (by omega)]; exact hu x a b, ?_, ?_, ?_, ?_, ?_, ?_⟩
  · rw [f.1, cb_in (by omega) (by omega), hu 2 (by omega) (by omega)]
  · rw [f.2.1]; exact w 4 (by omega) (by omega)
  · rw [f.2.2.1]; exact w 6 (by omega) (by omega)
  · rw [f.2.2.2.1]; exact w 8 (by omega) (by omega)
  · rw [f.2.2.2.2.1]; exact w 10 (by omega) (by omega)
  · rw [f.2.2.2.2.2]; exact w 12 (by omega) (by omega)
theorem nset_self (A : jA) : nset A (A 37) = A := by
  funext o j; simp only [nset]
  by_cases e : o = 37
  · rw [if_pos e, e]
  · rw [if_neg e]
theorem k_firstFault {E : jE} {A : jA} {u : Int → Int} {n : Int} (hI : IM A 19) (e : A 19 1 = n) (hn : n ≤ 4000) (hb : UB u) (hu : ∀ x, 0 ≤ x → x < n → A 20 x = u x) {K : Int → jA → Prop} (h : ∀ w f, FS u n w → K w (nset (cHead A 19) f)) : jrI 59 0 [some (.ref 36), some (.ref 19)] [] E A K := by
  have h' : ∀ w, FS u n w → K w (cHead A 19) := fun w z => by have := h w (cHead A 19 37) z; rwa [nset_self] at this
  refine vd_X2_firstFault_0 E A K (k_readHead hI ?_)
  have iB := cHead_IM hI
  have l1 : cHead A 19 19 1 = n := by rw [cHead_1]; exact e
  have n0 := hI.2.1
  have bad1 : ¬ H1 u n → (¬ (0 : Int) = 0 → jrI 56 0 [some (.ref 19)] [] E (cHead A 19) (fun v9 A7 => ((¬ v9 = (0 : Int) → jrI 51 0 [some (.ref 19), some (.int (jI 16))] [] E A7 (fun v13 A11 => jrI 46 0 [some (.ref 19), none, none, none] [] E A11 (fun v17 A15 => ((v13 = v17 → jrI 57 0 [some (.ref 19), none, none, none, none] [] E A15 (fun v21 A19 => ((¬ v21 = (0 : Int) → jrI 54 0 [some (.ref 19), none, none, none] [] E A19 (fun v25 A23 => ((¬ v25 = (0 : Int) → jrI 53 0 [some (.ref 19), none, none, none] [] E A23 (fun v29 A27 => ((¬ v29 = (0 : Int) → jrI 64 0 [some (.ref 36), some (.ref 19), none, none] [] E A27 (fun v33 A31 => ((v33 = (0 : Int) → K 7 A31) ∧ (¬ v33 = (0 : Int) → K 0 A31)))) ∧ (v29 = (0 : Int) → K 6 A27)))) ∧ (v25 = (0 : Int) → K 5 A23)))) ∧ (v21 = (0 : Int) → K 4 A19)))) ∧ (¬ v13 = v17 → K 3 A15))))) ∧ (v9 = (0 : Int) → K 2 A7)))) ∧ ((0 : Int) = 0 → K 1 (cHead A 19)) := fun z => ⟨fun y => absurd rfl y, fun _ => h' 1 (.inl ⟨z, rfl⟩)⟩
  refine vd_X2_isHeadRight_0 E _ _ ?_
  rw [l1]
  refine ⟨fun q => bad1 (fun z => by have := z.1; omega), fun q => ?_⟩
  have hC : CR (cHead A 19) 19 u n := CR_head hI e q hu
  have rb2 : jW (u 2) := by have := hb 2; exact ⟨by omega, by omega⟩
  refine k_byteAt iB (by decide) ?_
  rw [hC.b (by omega) (by omega)]
  refine ⟨fun q2 => bad1 (fun z => q2 z.2.1), fun q2 => k_byteAt iB (by decide) ?_⟩
  rw [hC.b (by omega) (by omega)]
  refine ⟨fun q3 => bad1 (fun z => q3 z.2.2.1), fun q3 => ?_⟩
  rw [hC.2.2.2.1]
  refine k_isBlock rb2 (fun q4 => ⟨fun z => absurd z (by decide), fun _ => k_byteAt iB (by decide) ?_⟩) (fun q4 => ⟨fun _ => bad1 (fun z => q4 z.2.2.2.1), fun z => absurd rfl z⟩)
  rw [hC.b (by omega) (by omega)]
  refine ⟨fun q5 => bad1 (fun z => q5 z.2.2.2.2), fun q5 => ⟨fun _ => ?_, fun z => absurd z (by decide)⟩⟩
  have a1 : H1 u n := ⟨q, q2, q3, q4, q5⟩
  -- places
  obtain ⟨f1, f2, f3, f4, f5, f6, f7⟩ : cHead A 19 19 1 = n ∧ cHead A 19 19 2 = u 2 ∧ cHead A 19 19 3 = uw u 4 ∧ cHead A 19 19 4 = uw u 6 ∧ cHead A 19 19 5 = uw u 8 ∧ cHead A 19 19 6 = uw u 10 ∧ cHead A 19 19 7 = uw u 12 := ⟨hC.2.1, hC.2.2.2⟩
  have w4 := uw_le hb 4
  have w12 := uw_le hb 12
  refine vd_X2_arePlacesRight_0 E _ _ (k_wordAt iB (by decide) ?_)
  rw [hC.w (by omega) (by omega), f1, f3, f4, f5, f6, f7]
  have bad2 : ¬ H2 u n → K 2 (cHead A 19) := fun z => h' 2 (.inr (.inl ⟨a1, z, rfl⟩))
  refine ⟨fun z => ⟨fun y => absurd rfl y, fun _ => bad2 (fun y => z y.1)⟩, fun p1 => ⟨fun z => ⟨fun y => absurd rfl y, fun _ => bad2 (fun y => by have := y.2.1; omega)⟩, fun p2 => ⟨fun z => ⟨fun y => absurd rfl y, fun _ => bad2 (fun y => by have := y.2.2.1; omega)⟩, fun p3 => ⟨fun z => ⟨fun y => absurd rfl y, fun _ => bad2 (fun y => by have := y.2.2.2.1; omega)⟩, fun p4 => ⟨fun z => ⟨fun y => absurd rfl y, fun _ => bad2 (fun y => by have := y.2.2.2.2.1; omega)⟩, fun p5 => ⟨fun z => ⟨fun y => absurd rfl y, fun _ => bad2 (fun y => by have := y.2.2.2.2.2.1; omega)⟩, fun p6 => ⟨⟨by omega, by omega⟩, fun z => ⟨fun y => absurd rfl y, fun _ => bad2 (fun y => z y.2.2.2.2.2.2)⟩, fun p7 => ⟨fun _ => ?_, fun z => absurd z (by decide)⟩⟩⟩⟩⟩⟩⟩⟩
  have a2 : H2 u n := ⟨p1, p2, p3, p4, p5, p6, p7⟩
  have hT : CT (cHead A 19) u n := ⟨hC, hb, hn, a1, a2⟩
  refine k_wordAt iB (by decide) ?_
  rw [hC.w (by omega) (by omega)]
  refine k_sum iB hb (by rw [f1]; exact hC.2.2.1) (by omega) ?_
  rw [f1]
  refine ⟨fun a3 => ?_, fun a3 => h' 3 (.inr (.inr (.inl ⟨a1, a2, a3, rfl⟩)))⟩
  refine k_areTails hT (fun a4 => ⟨fun _ => ?_, fun z => absurd z (by decide)⟩) (fun a4 => ⟨fun z => absurd rfl z, fun _ => h' 4 (.inr (.inr (.inr (.inl ⟨a1, a2, a3, a4, rfl⟩))))⟩)
  refine k_areInodes hT (fun a5 => ⟨fun _ => ?_, fun z => absurd z (by decide)⟩) (fun a5 => ⟨fun z => absurd rfl z, fun _ => h' 5 (.inr (.inr (.inr (.inr (.inl ⟨a1, a2, a3, a4, a5, rfl⟩)))))⟩)
  obtain ⟨hR, hR2⟩ := a5.rw hb q4
  refine k_areFolders hT hR (fun a6 => ⟨fun _ => ?_, fun z => absurd z (by decide)⟩) (fun a6 => ⟨fun z => absurd rfl z, fun _ => h' 6 (.inr (.inr (.inr (.inr (.inr (.inl ⟨a1, a2, a3, a4, a5, a6, rfl⟩))))))⟩)
  exact k_isTree hT hR (a6.vd hb) (by omega) (fun f a7 => ⟨fun z => absurd z (by decide), fun _ => h 0 f (.inr (.inr (.inr (.inr (.inr (.inr (.inr ⟨a1, a2, a3, a4, a5, a6, a7, rfl⟩)))))))⟩) (fun f a7 => ⟨fun _ => h 7 f (.inr (.inr (.inr (.inr (.inr (.inr (.inl ⟨a1, a2, a3, a4, a5, a6, a7, rfl⟩))))))), fun z => absurd rfl z⟩)
theorem k_judge {E : jE} {A : jA} {m n : Int} (hb : MB A) (hm : 0 ≤ m ∧ m ≤ 2) (e : A 59 m = n) (hn : 0 ≤ n ∧ n ≤ 4000) {K : Int → jA → Prop} (h : ∀ w, FS (mb A m) n w → K w A) : jrI 172 0 [some (.ref 49), some (.int (jI m)), none, none, none] [] E A K := by
  have rm : jW m := ⟨by omega, by omega⟩
  have hu := hb.u m
  have bad1 : ¬ H1 (mb A m) n → K 1 A := fun z => h 1 (.inl ⟨z, rfl⟩)
  refine vd_X7_judge_0 m rm E A K ?_
  rw [e]
  refine ⟨by omega, fun q => bad1 (fun z => by have := z.1; omega), fun q => k_mbyteAt hm (by omega) ⟨fun q2 => bad1 (fun z => q2 z.2.1), fun q2 => k_mbyteAt hm (by omega) ⟨fun q3 => bad1 (fun z => q3 z.2.2.1), fun q3 => k_mbyteAt hm (by omega) ⟨fun q5 => k_mbyteAt hm (by omega) ?_, fun q5 => bad1 (fun z => q5 z.2.2.2.2)⟩⟩⟩⟩
  have rb : jW (mb A m 2) := by have := hu 2; exact ⟨by omega, by omega⟩
  have main : (mb A m 2 = 8 ∨ mb A m 2 = 16 ∨ mb A m 2 = 32) → jrI 172 71 [some (.ref 49), some (.int (jI m)), some (.int (jI (mb A m 2))), none, none] [] E A K := fun q4 => by
    have a1 : H1 (mb A m) n := ⟨q, q2, q3, q4, q5⟩
    have bad2 : ¬ H2 (mb A m) n → K 2 A := fun z => h 2 (.inr (.inl ⟨a1, z, rfl⟩))
    have w4 := uw_le hu 4
    have w12 := uw_le hu 12
    have r4 : jW (uw (mb A m) 4) := ⟨by omega, by omega⟩
    have fin0 : ¬ H2 (mb A m) n → jrI 172 160 [some (.ref 49), some (.int (jI m)), some (.int (jI (mb A m 2))), some (.int (jI (uw (mb A m) 4))), none] [] E A K := fun z => by
      refine vd_X7_judge_160 m rm _ rb _ r4 E A K (vd_X7_judge_161 m rm _ rb _ r4 0 (by decide) E A K (k_mword hb hm (by omega) ?_))
      exact ⟨by omega, fun _ => bad2 z, fun _ => ⟨fun _ => bad2 z, fun y => absurd rfl y⟩⟩
    refine vd_X7_judge_71 m rm _ rb E A K (vd_X7_numbersIn_0 m rm E A _ (k_mword hb hm (by omega) (k_mword hb hm (by omega) ?_)))
    simp only [mw_eq]
    refine ⟨fun z => fin0 (fun y => by have := y.2.1; omega), fun p2 => k_mword hb hm (by omega) (k_mword hb hm (by omega) ?_)⟩
    simp only [mw_eq]
    refine ⟨fun z => fin0 (fun y => by have := y.2.2.1; omega), fun p3 => k_mword hb hm (by omega) (k_mword hb hm (by omega) ?_)⟩
    simp only [mw_eq]
    refine ⟨fun z => fin0 (fun y => by have := y.2.2.2.1; omega), fun p4 => k_mword hb hm (by omega) (k_mword hb hm (by omega) ?_)⟩
    simp only [mw_eq]
    refine ⟨fun z => fin0 (fun y => by have := y.2.2.2.2.1; omega), fun p5 => ⟨by omega, k_mword hb hm (by omega) ?_⟩⟩
    simp only [mw_eq]
    rw [e]
    refine ⟨fun z => fin0 (fun y => by have := y.2.2.2.2.2; omega), fun p8 => ?_⟩
    refine vd_X7_judge_161 m rm _ rb _ r4 1 (by decide) E A K (k_mword hb hm (by omega) ?_)
    simp only [mw_eq]
    rw [e]
    refine ⟨by omega, fun z => bad2 (fun y => z y.1), fun p1 => ⟨fun z => absurd z (by decide), fun _ => ⟨fun z => bad2 (fun y => by have := y.2.2.2.2.2.1; omega), fun p6 => ⟨by omega, k_mword hb hm (by omega) ?_⟩⟩⟩⟩
    simp only [mw_eq]
    refine ⟨⟨by omega, by omega⟩, ⟨by omega, by omega⟩, fun p7 => k_mword hb hm (by omega) ?_, fun z => bad2 (fun y => z (by have := y.2.2.2.2.2.2; omega))⟩
    have a2 : H2 (mb A m) n := ⟨p1, p2, p3, p4, p5, by omega, by omega⟩
    have hT : MT A m n := ⟨hb, hm, e, hn.2, a1, a2⟩
    refine k_sumOf hb hm (by omega) ?_
    simp only [mw_eq]
    rw [e]
    refine ⟨fun a3 => ?_, fun a3 => h 3 (.inr (.inr (.inl ⟨a1, a2, a3, rfl⟩)))⟩
    refine k_mareTails hT (fun a4 => ⟨fun _ => ?_, fun z => absurd z (by decide)⟩) (fun a4 => ⟨fun z => absurd rfl z, fun _ => h 4 (.inr (.inr (.inr (.inl ⟨a1, a2, a3, a4, rfl⟩))))⟩)
    refine k_mareInodes hT (fun a5 => ⟨fun _ => ?_, fun z => absurd z (by decide)⟩) (fun a5 => ⟨fun z => absurd rfl z, fun _ => h 5 (.inr (.inr (.inr (.inr (.inl ⟨a1, a2, a3, a4, a5, rfl⟩)))))⟩)
    obtain ⟨hR, hR2⟩ := a5.rw hu q4
    refine k_mareFolders hT hR (fun a6 => ⟨fun _ => ?_, fun z => absurd z (by decide)⟩) (fun a6 => ⟨fun z => absurd rfl z, fun _ => h 6 (.inr (.inr (.inr (.inr (.inr (.inl ⟨a1, a2, a3, a4, a5, a6, rfl⟩))))))⟩)
    have iff := H7_iff hu (a6.vd hu)
    exact k_misTree hT hR (a6.vd hu) (fun a7 => ⟨fun z => absurd z (by decide), fun _ => h 0 (.inr (.inr (.inr (.inr (.inr (.inr (.inr ⟨a1, a2, a3, a4, a5, a6, iff.mpr a7, rfl⟩)))))))⟩) (fun a7 => ⟨fun _ => h 7 (.inr (.inr (.inr (.inr (.inr (.inr (.inl ⟨a1, a2, a3, a4, a5, a6, fun z => a7 (iff.mp z), rfl⟩))))))), fun z => absurd rfl z⟩)
  exact ⟨fun q4 => main (.inl q4), fun n4 => ⟨fun q4 => main (.inr (.inl q4)), fun n5 => ⟨fun q4 => main (.inr (.inr q4)), fun n6 => bad1 (fun z => by have := z.2.2.2.1; omega)⟩⟩⟩
