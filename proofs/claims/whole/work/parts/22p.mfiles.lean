section KMF
variable {E : jE} {A B : jA} {b : Int}
theorem PM.skip {X : jA} {k : Int} (k1 : 1 ≤ k) (h : PM A X B b k) (hz : ¬ (A 3 (bd A k) = 2 ∧ tw A k = 0)) (C : jA) (h1 : ∀ o, o ≠ 64 → o ≠ 65 → o ≠ 66 → o ≠ 67 → C o = B o) (hj : ∀ j, 1 ≤ j → j < k → C 64 j = B 64 j ∧ C 66 j = B 66 j ∧ C 67 j = B 67 j ∧ ∀ i, 0 ≤ i → i < 13 → C 65 (13 * j + i) = B 65 (13 * j + i)) (hk : A 3 (bd A k) = 2 → C 64 k = bBeg A b (told A k) ∧ C 66 k = tI A b (told A k) ∧ C 67 k = tO A b (told A k) ∧ ∀ i, 0 ≤ i → i < bW A b k → C 65 (13 * k + i) = sSize (bG A b (bd A (told A k)) i) b) (hw : ∀ j, 1 ≤ j → j < k → bW A b j ≤ 12) : PM A X C b (k + 1) := by
  obtain ⟨p1, p2, p3, p4, p5, p6, p7⟩ := h
  have eL := bL_at (A := A) (b := b) k1
  rw [if_neg hz, List.append_nil] at eL
  have eS := tS_at (A := A) (b := b) k1
  rw [if_neg hz] at eS
  have eA : tAl A b k.toNat = tAl A b (k - 1).toNat := by unfold tAl; rw [eS]
  refine ⟨fun o o1 o2 o3 => by rw [h1 o (by omega) (by omega) (by omega) (by omega)]; exact p1 o o1 o2 o3, fun j j1 j2 j3 => by rw [h1 49 (by decide) (by decide) (by decide) (by decide)]; exact p2 j j1 j2 j3, ?_, ?_, ?_, ?_, fun j j1 j2 j3 => ?_⟩
  · rw [h1 58 (by decide) (by decide) (by decide) (by decide), show (k + 1 - 1).toNat = k.toNat by omega, eL]; exact p3
  · rw [h1 49 (by decide) (by decide) (by decide) (by decide), show (k + 1 - 1).toNat = k.toNat by omega, eL]; exact p4
  · rw [h1 49 (by decide) (by decide) (by decide) (by decide), show (k + 1 - 1).toNat = k.toNat by omega, eA]; exact p5
  · rw [show (k + 1 - 1).toNat = k.toNat by omega, eA]; unfold MTt; rw [h1 68 (by decide) (by decide) (by decide) (by decide), h1 69 (by decide) (by decide) (by decide) (by decide)]; exact p6
  · by_cases e : j = k
    · subst e; exact hk j3
    · obtain ⟨q1, q2, q3, q4⟩ := hj j j1 (by omega)
      obtain ⟨r1, r2, r3, r4⟩ := p7 j j1 (by omega) j3
      have := hw j j1 (by omega)
      exact ⟨by rw [q1]; exact r1, by rw [q2]; exact r2, by rw [q3]; exact r3, fun i i0 i1 => by rw [q4 i i0 (by omega)]; exact r4 i i0 i1⟩
theorem k_mfiles (T : TR A) (hb : b = 8 ∨ b = 16 ∨ b = 32) {X : jA} (hX : CM A X) (hm : 0 ≤ X 49 14 ∧ X 49 14 ≤ 2) (h18 : X 49 15 = 18) (h27 : X 49 27 = 0) {K : Int → jA → Prop} (hK : ∀ B, PM A X B b (bN A + 1) → jrI 142 189 [some (.ref 49), some (.int (jI b)), some (.int (jI 0)), none, none, none, none] [] E B K) : jrI 142 62 [some (.ref 49), some (.int (jI b)), some (.int (jI 1)), none, none, none, none] [] E X K := by
  have nl := bN_le T
  have rb : jW b := ⟨by omega, by omega⟩
  refine j_loop (P := fun k => ∀ B : jA, 1 ≤ k → k ≤ bN A + 1 → PM A X B b k → jrI 142 62 [some (.ref 49), some (.int (jI b)), some (.int (jI k)), none, none, none, none] [] E B K) (bN A + 1) (fun k ih B k1 k2 hP => ?_) 1 X (by omega) (by omega) ⟨fun _ _ _ _ => rfl, fun _ _ _ _ => rfl, by rw [show bL A b (1 - 1 : Int).toNat = [] from rfl, mtl_nil], by rw [show bL A b (1 - 1 : Int).toNat = [] from rfl]; simp, by rw [h27]; rfl, fun t ht => absurd ht (by show ¬ t < 0; omega), fun j a c => by omega⟩
  have rk : jW k := ⟨by omega, by omega⟩
  have hP' := hP
  obtain ⟨p1, p2, -⟩ := hP
  have hB : CM A B := hX.fr (fun o x y => p1 o (by omega) (by omega) (by omega)) (p2 7 (by decide) (by decide) (by decide)) (p2 18 (by decide) (by decide) (by decide)) (p1 60 (by decide) (by decide) (by decide)) (p1 61 (by decide) (by decide) (by decide))
  refine vd_X7_build_62 b rb k rk E B K ?_
  rw [hB.2.2.1]
  refine ⟨fun q => hK B (by rw [show bN A + 1 = k by omega]; exact hP'), fun q => ?_⟩
  obtain ⟨d0, d1, d2⟩ := bd_le T k1 q
  have sx := T.2.1 _ d0 d1
  rw [hB.2.2.2.2 k k1 q, hB.1 50 (by decide) (by decide), sx.1]
  have hw : ∀ j, 1 ≤ j → j < k → bW A b j ≤ 12 := fun j j1 j2 => by
    have hj := bd_le T j1 (show j ≤ bN A by omega)
    exact (file_sz T hb hj.1 hj.2.1).2.2.2.1
  have next : ∀ C, PM A X C b (k + 1) → jrI 142 181 [some (.ref 49), some (.int (jI b)), some (.int (jI k)), none, none, none, none] [] E C K := fun C hC => vd_X7_build_181 b rb k rk E C K (ih (by omega) C (by omega) (by omega) hC)
  refine ⟨by omega, by omega, fun q2 => next B (hP'.skip k1 (fun z => q2 z.1) B (fun _ _ _ _ _ => rfl) (fun _ _ _ => ⟨rfl, rfl, rfl, fun _ _ _ => rfl⟩) (fun z => absurd z q2) hw), fun q2 => k_firstLike T hB k1 q q2 ?_⟩
  rcases tw_le (A := A) k1 with ht | ⟨t1, t2, t3, t4, t5, t6⟩
  · have et : told A k = k := by unfold told; rw [if_pos ht]
    rw [et]
    exact ⟨fun z => absurd rfl z, fun _ => k_tellFile T hb hX hm h18 k1 q q2 ht hP' next⟩
  · have et : told A k = tw A k := by unfold told; rw [if_neg (by omega)]
    have ets : told A (tw A k) = tw A k := by
      have : ∀ j, tw A j = 0 → told A j = j := fun j hj => by unfold told; rw [if_pos hj]
      exact this _ t6
    obtain ⟨r1, r2, r3, r4⟩ := hP'.2.2.2.2.2.2 (tw A k) t1 t2 t5.1
    rw [ets] at r1 r2 r3 r4
    have bws : bW A b (tw A k) = bW A b k := by unfold bW; rw [t5.2.1]
    rw [et]
    generalize hs : tw A k = s at *
    refine ⟨fun _ => ⟨by omega, by omega, fun A9 e9 => ⟨by omega, by omega, fun A14 e14 => ⟨by omega, by omega, fun A19 e19 => ?_⟩⟩⟩, fun z => by omega⟩
    have f64 : A9 64 k = bBeg A b s := by rw [e9, jup_at]; exact r1
    have g66 : A14 66 k = tI A b s := by rw [e14, jup_at, e9, jup_row (by decide)]; exact r2
    have g67 : A19 67 k = tO A b s := by rw [e19, jup_at, e14, jup_row (by decide), e9, jup_row (by decide)]; exact r3
    refine j_loop (P := fun i => ∀ C : jA, 0 ≤ i → i ≤ 13 → (∀ o, o ≠ 65 → C o = A19 o) → (∀ j, 1 ≤ j → j < k → ∀ i', 0 ≤ i' → i' < 13 → C 65 (13 * j + i') = B 65 (13 * j + i')) → (∀ i', 0 ≤ i' → i' < i → C 65 (13 * k + i') = B 65 (13 * s + i')) → jrI 142 144 [some (.ref 49), some (.int (jI b)), some (.int (jI k)), some (.int (jI s)), some (.int (jI i)), none, none] [] E C K) 13 (fun i ih2 C i0 i1 c1 c2 c3 => ?_) 0 A19 (by omega) (by omega) (fun _ _ => rfl) (fun j _ _ i' _ _ => by rw [e19, jup_row (by decide), e14, jup_row (by decide), e9, jup_row (by decide)]) (fun i' a c => by omega)
    refine vd_X7_build_144 b rb k rk s ⟨by omega, by omega⟩ i ⟨by omega, by omega⟩ E C K ⟨fun q3 => next C ?_, fun q3 => ⟨by omega, by omega, fun C3 f3 => ih2 q3 C3 (by omega) (by omega) (fun o ho => by rw [f3, jup_row ho]; exact c1 o ho) (fun j j1 j2 i' u1 u2 => by rw [f3, jup_ne (by omega)]; exact c2 j j1 j2 i' u1 u2) (fun i' u1 u2 => ?_)⟩⟩
    · refine hP'.skip k1 (fun z => by have := z.2; omega) C (fun o o1 o2 o3 o4 => by rw [c1 o o2, e19, jup_row o4, e14, jup_row o3, e9, jup_row o1]) (fun j j1 j2 => ⟨?_, ?_, ?_, fun i' u1 u2 => c2 j j1 j2 i' u1 u2⟩) (fun _ => ⟨?_, ?_, ?_, fun i' u1 u2 => ?_⟩) hw
      · rw [c1 64 (by decide), e19, jup_row (by decide), e14, jup_row (by decide), e9, jup_ne (by omega)]
      · rw [c1 66 (by decide), e19, jup_row (by decide), e14, jup_ne (by omega), e9, jup_row (by decide)]
      · rw [c1 67 (by decide), e19, jup_ne (by omega), e14, jup_row (by decide), e9, jup_row (by decide)]
      · rw [et, c1 64 (by decide), e19, jup_row (by decide), e14, jup_row (by decide)]; exact f64
      · rw [et, c1 66 (by decide), e19, jup_row (by decide)]; exact g66
      · rw [et, c1 67 (by decide)]; exact g67
      · have hz := (file_sz T hb d0 d1).2.2.2.1
        have hz' : bW A b k ≤ 12 := hz
        rw [et, c3 i' u1 (by omega)]; exact r4 i' u1 (by omega)
    · rw [f3]
      by_cases e : i' = i
      · rw [e, jup_at]; exact c2 s t1 t2 i i0 q3
      · rw [jup_ne (by omega)]; exact c3 i' u1 (by omega)
/-- the reference stores its tails; Z is the table before -/
theorem k_mtails {Z : jA} {l : List (List Int)} {q : Int} (hq : Z 49 15 = q) (q0 : 0 ≤ q) (hm : 0 ≤ Z 49 14 ∧ Z 49 14 ≤ 2) (h27 : Z 49 27 = l.length) (hT : MTt Z l) (hl : l.length ≤ 31) (hl2 : ∀ t ∈ l, 1 ≤ t.length ∧ (t.length : Int) ≤ 32) (hlb : ∀ t ∈ l, ∀ x ∈ t, 0 ≤ x ∧ x ≤ 255) (hroom : q + tLen l ≤ 6000) (rb : jW b) {K : Int → jA → Prop} (hK : ∀ B, (∀ o, o ≠ 49 → o ≠ 58 → o ≠ 62 → o ≠ 63 → o ≠ 70 → o ≠ 71 → B o = Z o) → (∀ j, j ≠ 15 → j ≠ 22 → B 49 j = Z 49 j) → B 58 = mtl Z (tB l) 58 → B 49 15 = q + ((tB l).length : Int) → (∀ t : Nat, t < l.length → B 70 t = tP q l t ∧ B 71 t = sSize (tFn (l.getD t [])) (l.getD t []).length) → jrV 205 0 [some (.ref 49), some (.int (jI b)), none, none, none, none, none, none, none] [] E B (fun A1 => jrI 142 282 [some (.ref 49), some (.int (jI b)), some (.int (jI (B 49 15))), some (.int (jI (A1 49 15))), some (.int (jI 1)), none, none] [] E A1 K)) : jrI 142 189 [some (.ref 49), some (.int (jI b)), some (.int (jI 0)), none, none, none, none] [] E Z K := by
  refine j_loop (P := fun t => ∀ B : jA, 0 ≤ t → t ≤ l.length → (∀ o, o ≠ 49 → o ≠ 58 → o ≠ 62 → o ≠ 63 → o ≠ 70 → o ≠ 71 → B o = Z o) → (∀ j, j ≠ 15 → j ≠ 22 → B 49 j = Z 49 j) → B 58 = mtl Z (tB (l.take t.toNat)) 58 → B 49 15 = q + ((tB (l.take t.toNat)).length : Int) → (∀ s : Nat, (s : Int) < t → B 70 s = tP q l s ∧ B 71 s = sSize (tFn (l.getD s [])) (l.getD s []).length) → jrI 142 189 [some (.ref 49), some (.int (jI b)), some (.int (jI t)), none, none, none, none] [] E B K) l.length (fun t ih B t0 t1 b1 b2 b58 b15 b70 => ?_) 0 Z (by omega) (by omega) (fun _ _ _ _ _ _ _ => rfl) (fun _ _ _ => rfl) (by rw [show l.take (0 : Int).toNat = [] from rfl, show tB [] = [] from rfl, mtl_nil]) (by rw [show l.take (0 : Int).toNat = [] from rfl, hq]; simp [tB]) (fun s hs => by omega)
  have rt : jW t := ⟨by omega, by omega⟩
  refine vd_X7_build_189 b rb t rt E B K ?_
  rw [b2 27 (by decide) (by decide), h27]
  refine ⟨fun z => ?_, fun z => ?_⟩
  · rw [show t.toNat = l.length by omega, List.take_length] at b58 b15
    exact hK B b1 b2 b58 b15 (fun s hs => b70 s (by omega))
  · have hlt : t.toNat < l.length := by omega
    have hmem : l.getD t.toNat [] ∈ l := by rw [List.getD_eq_getElem?_getD, List.getElem?_eq_getElem hlt]; exact List.getElem_mem _
    obtain ⟨h68, h69⟩ := hT t.toNat hlt
    rw [Int.toNat_of_nonneg t0] at h68 h69
    have hln := hl2 _ hmem
    have hbt := hlb _ hmem
    have etake : l.take (t.toNat + 1) = l.take t.toNat ++ [l.getD t.toNat []] := by rw [List.take_succ_eq_append_getElem hlt, List.getD_eq_getElem?_getD, List.getElem?_eq_getElem hlt]; rfl
    have room : ((tB (l.take t.toNat)).length : Int) + (l.getD t.toNat []).length ≤ tLen l := by
      have e := tLen_app (l.take (t.toNat + 1)) (l.drop (t.toNat + 1))
      rw [List.take_append_drop, etake, tLen_app] at e
      have h0 := tLen_nn (l.drop (t.toNat + 1))
      have h1 := tB_len (l.take t.toNat) (fun t ht => hl2 t (List.mem_of_mem_take ht))
      simp only [tLen] at e
      omega
    generalize htt : l.getD t.toNat [] = tt at *
    refine j_loop (P := fun i => ∀ C : jA, 0 ≤ i → i ≤ tt.length → (∀ o, o ≠ 62 → C o = B o) → (∀ i', 0 ≤ i' → i' < i → C 62 i' = tFn tt i') → jrI 142 199 [some (.ref 49), some (.int (jI b)), some (.int (jI t)), some (.int (jI i)), none, none, none] [] E C K) tt.length (fun i ih2 C i0 i1 c1 c2 => ?_) 0 B (by omega) (by omega) (fun _ _ => rfl) (fun i' a c => by omega)
    refine vd_X7_build_199 b rb t rt i ⟨by omega, by omega⟩ E C K ?_
    rw [c1 68 (by decide), c1 69 (by decide), c1 49 (by decide), b1 68 (by decide) (by decide) (by decide) (by decide) (by decide) (by decide), b1 69 (by decide) (by decide) (by decide) (by decide) (by decide) (by decide), h68]
    refine ⟨by omega, fun z2 => ⟨by omega, fun A3 e3 => ⟨by omega, ?_⟩⟩, fun z2 => ⟨by omega, by omega, fun A17 e17 => ih2 z2 A17 (by omega) (by omega) (fun o ho => by rw [e17, jup_row ho]; exact c1 o ho) (fun i' u1 u2 => ?_)⟩⟩
    · have e368 : A3 68 t = tt.length := by rw [e3, jup_row (by decide), c1 68 (by decide), b1 68 (by decide) (by decide) (by decide) (by decide) (by decide) (by decide)]; exact h68
      rw [e368]
      have a3o : ∀ o, o ≠ 62 → o ≠ 70 → A3 o = B o := fun o o1 o2 => by rw [e3, jup_row o2]; exact c1 o o1
      have bm : BM A3 tt.length (tFn tt) := ⟨by omega, by omega, fun i' u1 u2 => by rw [e3, jup_row (by decide)]; exact c2 i' u1 (by omega)⟩
      have mo : MO A3 tt.length := by
        unfold MO
        rw [a3o 49 (by decide) (by decide), b2 14 (by decide) (by decide), b15]
        omega
      refine k_mstore bm (fun i' u1 u2 => hbt _ (by unfold tFn; rw [List.getD_eq_getElem?_getD, List.getElem?_eq_getElem (by omega)]; exact List.getElem_mem _)) mo (fun G hG => ⟨by omega, fun A12 e12 => ?_⟩)
      have ebt : tB (l.take (t + 1).toNat) = tB (l.take t.toNat) ++ sBytes (tFn tt) tt.length := by rw [show (t + 1).toNat = t.toNat + 1 by omega, etake, tB_app, tB_one]
      refine ih (by omega) A12 (by omega) (by omega) (fun o o1 o2 o3 o4 o5 o6 => ?_) (fun j j1 j2 => ?_) ?_ ?_ (fun s hs => ?_)
      · rw [e12, jup_row o6, hG.1 o o4 o1, mtl_row o1 o2, a3o o o3 o5]; exact b1 o o1 o2 o3 o4 o5 o6
      · rw [e12, jup_row (by decide), hG.2 j j2, mtl_49 j1, a3o 49 (by decide) (by decide)]; exact b2 j j1 j2
      · rw [e12, jup_row (by decide), hG.1 58 (by decide) (by decide), ebt, ← mtl_app]
        have x14 : mtl Z (tB (l.take t.toNat)) 49 14 = A3 49 14 := by rw [mtl_49 (by decide), a3o 49 (by decide) (by decide), b2 14 (by decide) (by decide)]
        have x15 : mtl Z (tB (l.take t.toNat)) 49 15 = A3 49 15 := by rw [mtl_at, a3o 49 (by decide) (by decide), b15, hq]
        have x58 : A3 58 = mtl Z (tB (l.take t.toNat)) 58 := by rw [a3o 58 (by decide) (by decide)]; exact b58
        generalize mtl Z (tB (l.take t.toNat)) = Y at x14 x15 x58 ⊢
        funext w'
        simp only [mtl]
        rw [x14, x15, x58]
      · rw [e12, jup_row (by decide), hG.2 15 (by decide), mtl_at, a3o 49 (by decide) (by decide), b15, ebt, List.length_append]; omega
      · rw [e12]
        by_cases e : (s : Int) = t
        · have es : s = t.toNat := by omega
          subst es
          rw [Int.toNat_of_nonneg t0, jup_at, jup_row (by decide), hG.1 70 (by decide) (by decide), mtl_row (by decide) (by decide), e3, jup_at, b15, htt]
          exact ⟨rfl, rfl⟩
        · have := b70 s (by omega)
          rw [jup_ne e, jup_row (by decide), hG.1 70 (by decide) (by decide), hG.1 71 (by decide) (by decide), mtl_row (by decide) (by decide), mtl_row (by decide) (by decide), e3, jup_ne e, jup_row (by decide), c1 70 (by decide), c1 71 (by decide)]
          exact this
    · rw [e17]
      by_cases e : i' = i
      · rw [e, jup_at, h69 i i0 z2]; rfl
      · rw [jup_ne e]; exact c2 i' u1 (by omega)
end KMF
