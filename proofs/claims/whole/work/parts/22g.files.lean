/-! THE CLASS'S FILES -/
/-- the class's tree and numbers stand in B as in A -/
def CB (A B : jA) : Prop := (∀ o, 2 ≤ o → o ≤ 11 → B o = A o) ∧ B 21 13 = bN A ∧ (∀ x, 0 ≤ x → x < 32 → B 24 x = bf A x) ∧ ∀ k, 1 ≤ k → k ≤ bN A → B 25 k = bd A k
theorem CB.fr {A B C : jA} (h : CB A B) (h1 : ∀ o, 2 ≤ o → o ≤ 11 → C o = B o) (h2 : C 21 13 = B 21 13) (h3 : C 24 = B 24) (h4 : C 25 = B 25) : CB A C := by
  obtain ⟨a1, a2, a3, a4⟩ := h
  exact ⟨fun o x y => (h1 o x y).trans (a1 o x y), h2.trans a2, by rw [h3]; exact a3, by rw [h4]; exact a4⟩
theorem jap_congr {B Y : jA} {c o : Nat} {L : List Int} (h : B o = Y o) (hc : B c = Y c) : jap B c L o = jap Y c L o := by
  funext w; simp only [jap]; rw [h, hc]
section KF
variable {E : jE} {A B : jA} {b : Int}
theorem k_haveSame (T : TR A) (h : CB A B) {x y : Int} (hx : 0 ≤ x ∧ x < A 2 9) (hy : 0 ≤ y ∧ y < A 2 9) {K : Int → jA → Prop} (h1 : A 8 x = A 8 y → sEq A x y (A 8 x).toNat = 1 → K 1 B) (h0 : ¬ (A 8 x = A 8 y ∧ sEq A x y (A 8 x).toNat = 1) → K 0 B) : jrI 102 0 [some (.ref 2), some (.int (jI x)), some (.int (jI y)), none] [] E B K := by
  have n32 := T.1.2.1
  have sx := T.2.1 x hx.1 hx.2
  have rx : jW x := ⟨by omega, by omega⟩
  have ry : jW y := ⟨by omega, by omega⟩
  have e8 : B 8 = A 8 := h.1 8 (by decide) (by decide)
  have e9 : B 9 = A 9 := h.1 9 (by decide) (by decide)
  refine vd_X5_haveSameBytes_0 x rx y ry E B K ?_
  rw [e8]
  refine ⟨by omega, by omega, fun q => ?_, fun q => h0 (fun z => q z.1)⟩
  refine j_loop (P := fun i => 0 ≤ i → i ≤ A 8 x → (∀ j, 0 ≤ j → j < i → A 9 (100 * x + j) = A 9 (100 * y + j)) → jrI 102 19 [some (.ref 2), some (.int (jI x)), some (.int (jI y)), some (.int (jI i))] [] E B K) (A 8 x) (fun i ih i0 i1 hj => ?_) 0 (by omega) (by omega) (fun j a b => by omega)
  refine vd_X5_haveSameBytes_19 x rx y ry i ⟨by omega, by omega⟩ E B K ?_
  rw [e8, e9, Int.mul_comm x 100, Int.mul_comm y 100]
  refine ⟨by omega, fun q2 => h1 q ((sEq_iff _).mpr (fun j a c => hj j a (by omega))), fun q2 => ⟨by omega, by omega, fun q3 => ih q2 (by omega) (by omega) (fun j a c => ?_), fun q3 => h0 (fun z => q3 ((sEq_iff _).mp z.2 i i0 (by omega)))⟩⟩
  by_cases e : j = i
  · rw [e]; exact q3
  · exact hj j a (by omega)
theorem k_findTwin (T : TR A) (h : CB A B) {k : Int} (k1 : 1 ≤ k) (k2 : k ≤ bN A) {K : Int → jA → Prop} (hK : K (tw A k) B) : jrI 5 0 [some (.ref 21), some (.ref 2), some (.int (jI k)), none, none, none] [] E B K := by
  have nl := bN_le T
  obtain ⟨d0, d1, d2⟩ := bd_le T k1 k2
  have rk : jW k := ⟨by omega, by omega⟩
  have e3 : B 3 = A 3 := h.1 3 (by decide) (by decide)
  have e8 : B 8 = A 8 := h.1 8 (by decide) (by decide)
  refine vd_X0_findTwin_0 k rk E B K ?_
  rw [h.2.2.2 k k1 k2, e3, e8]
  unfold tw at hK
  refine ⟨by omega, by omega, fun q => by rwa [if_neg (fun z => q z.1)] at hK, fun q => ⟨by omega, fun q2 => ?_, fun q2 => by rwa [if_neg (fun z => z.2 q2)] at hK⟩⟩
  rw [if_pos ⟨q, q2⟩] at hK
  have key : ∀ (f : Nat) (j : Int), 1 ≤ j → j + f = k → K (sTw A (bd A k) f j) B → jrI 5 31 [some (.ref 21), some (.ref 2), some (.int (jI k)), some (.int (jI (bd A k))), some (.int (jI j)), none] [] E B K := by
    intro f
    induction f with
    | zero => intro j j1 jf hk; exact vd_X0_findTwin_31 k rk _ ⟨by omega, by omega⟩ j ⟨by omega, by omega⟩ E B K ⟨fun _ => hk, fun z => by omega⟩
    | succ f ih =>
      intro j j1 jf hk
      obtain ⟨g0, g1, g2⟩ := bd_le T j1 (show j ≤ bN A by omega)
      have rj : jW j := ⟨by omega, by omega⟩
      have rx : jW (bd A k) := ⟨by omega, by omega⟩
      simp only [sTw] at hk
      refine vd_X0_findTwin_31 k rk _ rx j rj E B K ?_
      rw [h.2.2.2 j j1 (by omega), e3]
      have nx : ¬ (A 3 (bd A j) = 2 ∧ A 8 (bd A k) = A 8 (bd A j) ∧ sEq A (bd A k) (bd A j) (A 8 (bd A k)).toNat = 1) → jrI 5 70 [some (.ref 21), some (.ref 2), some (.int (jI k)), some (.int (jI (bd A k))), some (.int (jI j)), none] [] E B K := fun hz => by
        rw [if_neg hz] at hk
        exact vd_X0_findTwin_70 k rk _ rx j rj E B K (ih (j + 1) (by omega) (by omega) hk)
      refine ⟨fun z => by omega, fun _ => ⟨by omega, by omega, fun q3 => nx (fun z => q3 z.1), fun q3 => k_haveSame T h ⟨d0, d1⟩ ⟨g0, g1⟩ (fun q4 q5 => ⟨fun z => absurd z (by decide), fun _ => by rwa [if_pos ⟨q3, q4, q5⟩] at hk⟩) (fun q4 => ⟨fun _ => nx (fun z => q4 z.2), fun z => absurd rfl z⟩)⟩⟩
  exact key (k - 1).toNat 1 (by omega) (by omega) hK
/-- while the whole blocks are put: what stands of the numbers below k; X is the table before -/
def PB (A X B : jA) (c : Nat) (b k : Int) : Prop := (∀ o, o ≠ 22 → o ≠ 23 → o ≠ 26 → o ≠ 27 → o ≠ 28 → B o = jap X c (bL A b (k - 1).toNat) o) ∧ (∀ j, 1 ≤ j → j < k → B 26 j = tw A j) ∧ ∀ j, 1 ≤ j → j < k → A 3 (bd A j) = 2 → tw A j = 0 → B 27 j = (if bW A b j = 0 then 0 else 18 + ((bL A b (j - 1).toNat).length : Int)) ∧ ∀ i, 0 ≤ i → i < bW A b j → B 28 (j * 12 + i) = sSize (bG A b (bd A j) i) b
theorem sbytes_b (T : TR A) {x : Int} (x0 : 0 ≤ x) (x1 : x < A 2 9) (hb : b = 8 ∨ b = 16 ∨ b = 32) {j : Int} (j0 : 0 ≤ j) (j1 : j < A 8 x / b) : ∀ i, 0 ≤ i → i < b → 0 ≤ bG A b x j i ∧ bG A b x j i ≤ 255 := fun i i0 i1 => by
  have hs := T.2.1 x x0 x1
  have e : j * b + i < A 8 x ∧ 0 ≤ j * b := by rcases hb with rfl | rfl | rfl <;> omega
  have := T.2.2.1 x (j * b + i) x0 x1 (by omega) e.1
  unfold bG
  rw [show 100 * x + j * b + i = 100 * x + (j * b + i) by omega]
  exact this.2
theorem k_putBlocks (T : TR A) (hb : b = 8 ∨ b = 16 ∨ b = 32) {X : jA} (hX : CB A X) {c : Nat} (hc : jim c) (hN : (jN (c + 1) : Int) = 5581) (h18 : X c 1 = 18) {K : jA → Prop} (hK : ∀ B, PB A X B c b (bN A + 1) → K B) : jrV 10 0 [some (.ref 21), some (.ref 2), some (.int (jI b)), some (.ref c), none] [] E X K := by
  have nl := bN_le T
  have rb : jW b := ⟨by omega, by omega⟩
  have hcc : c = 13 ∨ c = 15 ∨ c = 17 ∨ c = 19 ∨ c = 47 := hc
  refine vd_X0_putBlocks_0 b rb c hc E X K ?_
  refine j_loop (P := fun k => ∀ B, 1 ≤ k → k ≤ bN A + 1 → PB A X B c b k → jrV 10 3 [some (.ref 21), some (.ref 2), some (.int (jI b)), some (.ref c), some (.int (jI k))] [] E B K) (bN A + 1) (fun k ih B k1 k2 hP => ?_) 1 X (by omega) (by omega) ⟨fun o _ _ _ _ _ => by rw [show bL A b (1 - 1 : Int).toNat = [] from rfl, jap_nil], fun j a b => by omega, fun j a b => by omega⟩
  obtain ⟨p1, p2, p3⟩ := hP
  have rk : jW k := ⟨by omega, by omega⟩
  have pr : ∀ o, o ≠ 22 → o ≠ 23 → o ≠ 26 → o ≠ 27 → o ≠ 28 → o ≠ c → o ≠ c + 1 → B o = X o := fun o a1 a2 a3 a4 a5 a6 a7 => by rw [p1 o a1 a2 a3 a4 a5, jap_row a6 a7]
  have hB : CB A B := hX.fr (fun o a b => pr o (by omega) (by omega) (by omega) (by omega) (by omega) (by omega) (by omega)) (by rw [pr 21 (by omega) (by omega) (by omega) (by omega) (by omega) (by omega) (by omega)]) (pr 24 (by omega) (by omega) (by omega) (by omega) (by omega) (by omega) (by omega)) (pr 25 (by omega) (by omega) (by omega) (by omega) (by omega) (by omega) (by omega))
  refine vd_X0_putBlocks_3 b rb c hc k rk E B K ?_
  rw [hB.2.1]
  refine ⟨fun q => hK B (by rw [show k = bN A + 1 by omega] at p1 p2 p3; exact ⟨p1, p2, p3⟩), fun q => k_findTwin T hB k1 q ⟨by omega, fun A6 e6 => ?_⟩⟩
  obtain ⟨d0, d1, d2⟩ := bd_le T k1 q
  obtain ⟨z1, z2, z3, z4, z5, z6, z7, z8⟩ := file_sz T hb d0 d1
  have e25 : A6 25 k = bd A k := by rw [e6, jup_row (by decide)]; exact hB.2.2.2 k k1 q
  have e3 : A6 3 = A 3 := by rw [e6, jup_row (by decide)]; exact hB.1 3 (by decide) (by decide)
  have e26 : A6 26 k = tw A k := by rw [e6, jup_at]
  rw [e25, e3, e26]
  have p1' : ∀ o, o ≠ 22 → o ≠ 23 → o ≠ 26 → o ≠ 27 → o ≠ 28 → A6 o = jap X c (bL A b (k - 1).toNat) o := fun o a1 a2 a3 a4 a5 => by rw [e6, jup_row a3]; exact p1 o a1 a2 a3 a4 a5
  have p2' : ∀ j, 1 ≤ j → j < k + 1 → A6 26 j = tw A j := fun j j1 j2 => by
    by_cases e : j = k
    · rw [e]; exact e26
    · rw [e6, jup_ne e]; exact p2 j j1 (by omega)
  have p3' : ∀ j, 1 ≤ j → j < k → A 3 (bd A j) = 2 → tw A j = 0 → A6 27 j = (if bW A b j = 0 then 0 else 18 + ((bL A b (j - 1).toNat).length : Int)) ∧ ∀ i, 0 ≤ i → i < bW A b j → A6 28 (j * 12 + i) = sSize (bG A b (bd A j) i) b := fun j j1 j2 j3 j4 => by
    rw [e6, jup_row (by decide), jup_row (by decide)]; exact p3 j j1 j2 j3 j4
  have eL := bL_at (A := A) (b := b) k1
  have next : ∀ C, PB A X C c b (k + 1) → jrV 10 61 [some (.ref 21), some (.ref 2), some (.int (jI b)), some (.ref c), some (.int (jI k))] [] E C K := fun C hC => vd_X0_putBlocks_61 b rb c hc k rk E C K (ih (by omega) C (by omega) (by omega) hC)
  have skip : ¬ (A 3 (bd A k) = 2 ∧ tw A k = 0) → PB A X A6 c b (k + 1) := fun hz => by
    rw [if_neg hz, List.append_nil] at eL
    refine ⟨fun o a1 a2 a3 a4 a5 => by rw [show (k + 1 - 1).toNat = k.toNat by omega, eL]; exact p1' o a1 a2 a3 a4 a5, p2', fun j j1 j2 j3 j4 => ?_⟩
    by_cases e : j = k
    · subst e; exact absurd ⟨j3, j4⟩ hz
    · exact p3' j j1 (by omega) j3 j4
  refine ⟨by omega, by omega, fun q2 => next A6 (skip (fun z => q2 z.1)), fun q2 => ⟨by omega, fun q3 => next A6 (skip (fun z => q3 z.2)), fun q3 => ?_⟩⟩
  rw [if_pos ⟨q2, q3⟩] at eL
  -- the blocks of one file
  have hle := (bL_le T hb k.toNat (by omega) (by omega)).1
  have tl0 : ∀ l : List (List Int), 0 ≤ tLen l := fun l => by
    induction l with
    | nil => simp [tLen]
    | cons t r ih => simp only [tLen]; omega
  have hle2 : ((bL A b k.toNat).length : Int) ≤ 3100 := by have := tl0 (tS A b k.toNat).1; omega
  have ple : ∀ j : Nat, (j : Int) ≤ bW A b k → ((fBl A b (bd A k) j).length : Int) ≤ (fBl A b (bd A k) (bW A b k).toNat).length := by
    have mono : ∀ (d j : Nat), (fBl A b (bd A k) j).length ≤ (fBl A b (bd A k) (j + d)).length := by
      intro d
      induction d with
      | zero => intro j; exact Nat.le_refl _
      | succ d ih => intro j; rw [← Nat.add_assoc]; simp only [fBl, List.length_append]; have := ih j; omega
    intro j hj
    have := mono ((bW A b k).toNat - j) j
    rw [show j + ((bW A b k).toNat - j) = (bW A b k).toNat by omega] at this
    omega
  rw [eL, List.length_append] at hle2
  have e8 : A6 8 = A 8 := by rw [e6, jup_row (by decide)]; exact hB.1 8 (by decide) (by decide)
  have len6 : A6 c 1 = 18 + ((bL A b (k - 1).toNat).length : Int) := by rw [p1' c (by omega) (by omega) (by omega) (by omega) (by omega), jap_len, h18]
  have rW : jW (bW A b k) := ⟨by unfold bW; omega, by unfold bW; omega⟩
  refine vd_X0_putBlocksOf_0 k rk b rb c hc E A6 _ ?_
  rw [e25, e8]
  have body : ∀ y, jW y → y = (if bW A b k = 0 then 0 else 18 + ((bL A b (k - 1).toNat).length : Int)) → jrV 11 40 [some (.ref 21), some (.ref 2), some (.int (jI k)), some (.int (jI b)), some (.ref c), some (.int (jI (bd A k))), some (.int (jI (bW A b k))), none] [.int (jI y), .int (jI k), .ref 27] E A6 (fun A12 => jrV 10 61 [some (.ref 21), some (.ref 2), some (.int (jI b)), some (.ref c), some (.int (jI k))] [] E A12 K) := fun y ry hy => by
    refine vd_X0_putBlocksOf_40 k rk b rb c hc _ ⟨by omega, by omega⟩ _ rW y ry k rk E A6 _ ⟨by omega, fun A2 e2 => ?_⟩
    refine j_loop (P := fun i => ∀ C, 0 ≤ i → i ≤ bW A b k → (∀ o, o ≠ 22 → o ≠ 23 → o ≠ 26 → o ≠ 27 → o ≠ 28 → C o = jap X c (bL A b (k - 1).toNat ++ fBl A b (bd A k) i.toNat) o) → C 26 = A6 26 → C 27 = A2 27 → (∀ j, 1 ≤ j → j < k → ∀ i', 0 ≤ i' → i' < 12 → C 28 (j * 12 + i') = A6 28 (j * 12 + i')) → (∀ i', 0 ≤ i' → i' < i → C 28 (k * 12 + i') = sSize (bG A b (bd A k) i') b) → jrV 11 44 [some (.ref 21), some (.ref 2), some (.int (jI k)), some (.int (jI b)), some (.ref c), some (.int (jI (bd A k))), some (.int (jI (bW A b k))), some (.int (jI i))] [] E C (fun A12 => jrV 10 61 [some (.ref 21), some (.ref 2), some (.int (jI b)), some (.ref c), some (.int (jI k))] [] E A12 K)) (bW A b k) (fun i ih2 C i0 i1 c1 c26 c27 c28 c28' => ?_) 0 A2 (by omega) (by unfold bW; omega) (fun o a1 a2 a3 a4 a5 => by rw [show fBl A b (bd A k) (0 : Int).toNat = [] from rfl, List.append_nil, e2, jup_row a4]; exact p1' o a1 a2 a3 a4 a5) (by rw [e2, jup_row (by decide)]) rfl (fun j _ _ i' _ _ => by rw [e2, jup_row (by decide)]) (fun i' a b => by omega)
    have bw12 : bW A b k ≤ 12 := z4
    refine vd_X0_putBlocksOf_44 k rk b rb c hc _ ⟨by omega, by omega⟩ _ rW i ⟨by omega, by omega⟩ E C _ ⟨fun q4 => ?_, fun q4 => ?_⟩
    · have ei : i = bW A b k := by omega
      refine next C ⟨fun o a1 a2 a3 a4 a5 => by rw [show (k + 1 - 1).toNat = k.toNat by omega, eL, ← ei]; exact c1 o a1 a2 a3 a4 a5, by rw [c26]; exact p2', fun j j1 j2 j3 j4 => ?_⟩
      by_cases e : j = k
      · subst e
        refine ⟨by rw [c27, e2, jup_at, hy], fun i' a c => c28' i' a (by omega)⟩
      · have := p3' j j1 (by omega) j3 j4
        refine ⟨by rw [c27, e2, jup_ne e]; exact this.1, fun i' a c => ?_⟩
        have hj := bd_le T j1 (show j ≤ bN A by omega)
        have hz := (file_sz T hb hj.1 hj.2.1).2.2.2.1
        rw [c28 j j1 (by omega) i' a (by have : bW A b j ≤ 12 := hz; omega)]; exact this.2 i' a c
    · have cc : C c 1 = 18 + ((bL A b (k - 1).toNat).length : Int) + (fBl A b (bd A k) i.toNat).length := by rw [c1 c (by omega) (by omega) (by omega) (by omega) (by omega), jap_len, h18, List.length_append]; omega
      have e9 : C 9 = A 9 := by rw [c1 9 (by omega) (by omega) (by omega) (by omega) (by omega), jap_row (by omega) (by omega)]; exact hX.1 9 (by decide) (by decide)
      have i100 : i * b + b ≤ 100 ∧ 0 ≤ i * b := by
        have : i < A 8 (bd A k) / b := q4
        rcases hb with rfl | rfl | rfl <;> omega
      have hle3 : ((fBl A b (bd A k) (i.toNat + 1)).length : Int) ≤ (fBl A b (bd A k) (bW A b k).toNat).length := ple (i.toNat + 1) (by omega)
      have eF : fBl A b (bd A k) (i.toNat + 1) = fBl A b (bd A k) i.toNat ++ sBytes (bG A b (bd A k) i) b := by simp only [fBl]; rw [Int.toNat_of_nonneg i0]
      have bbp : BB C 9 (bd A k * 100 + i * b) b (bG A b (bd A k) i) := ⟨rfl, by decide, by decide, by omega, by omega, by omega, by show bd A k * 100 + i * b + b ≤ 3200; omega, fun j j0 j1 => by rw [e9]; unfold bG; congr 1; omega⟩
      refine k_store bbp (sbytes_b T d0 d1 hb i0 q4) hc (by omega) (by omega) (by omega) (by rw [hN]; have := ple i.toNat (by omega); omega) (fun D hD => ⟨by omega, fun A9 e9' => ?_⟩)
      have := ih2 q4 A9 (by omega) (by omega) (fun o a1 a2 a3 a4 a5 => ?_) ?_ ?_ (fun j j1 j2 i' u1 u2 => ?_) (fun i' u1 u2 => ?_)
      · exact this
      · rw [e9', jup_row a5, hD o a1 a2, show (i + 1).toNat = i.toNat + 1 by omega, eF, ← List.append_assoc, ← jap_app]
        exact jap_congr (c1 o a1 a2 a3 a4 a5) (c1 c (by omega) (by omega) (by omega) (by omega) (by omega))
      · rw [e9', jup_row (by decide), hD 26 (by decide) (by decide), jap_row (by omega) (by omega)]; exact c26
      · rw [e9', jup_row (by decide), hD 27 (by decide) (by decide), jap_row (by omega) (by omega)]; exact c27
      · rw [e9', jup_ne (by omega), hD 28 (by decide) (by decide), jap_row (by omega) (by omega)]; exact c28 j j1 j2 i' u1 u2
      · rw [e9']
        by_cases e : i' = i
        · rw [e, jup_at]
        · rw [jup_ne (by omega), hD 28 (by decide) (by decide), jap_row (by omega) (by omega)]; exact c28' i' u1 (by omega)
  refine ⟨by omega, by omega, vd_X0_wholeBlocks_0 _ ⟨by omega, by omega⟩ b rb E A6 _ ⟨fun _ => ⟨z1, by omega, rW, ?_⟩, fun z => by omega⟩⟩
  refine ⟨fun q4 => ?_, fun q4 => ?_⟩
  · have := body (A6 c 1) (by rw [len6]; exact ⟨by omega, by omega⟩) (by rw [len6, if_neg (show ¬ bW A b k = 0 from q4)])
    exact this
  · exact body 0 (by decide) (by rw [if_pos (show bW A b k = 0 from q4)])
end KF
