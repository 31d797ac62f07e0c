/-! THE REFERENCE'S FILES -/
def CM (A B : jA) : Prop := (∀ o, 50 ≤ o → o ≤ 57 → B o = A o) ∧ B 49 7 = A 49 7 ∧ B 49 18 = bN A ∧ (∀ x, 0 ≤ x → x < 32 → B 60 x = bf A x) ∧ ∀ k, 1 ≤ k → k ≤ bN A → B 61 k = bd A k
theorem CM.fr {A B C : jA} (h : CM A B) (h1 : ∀ o, 50 ≤ o → o ≤ 57 → C o = B o) (h7 : C 49 7 = B 49 7) (h18 : C 49 18 = B 49 18) (h60 : C 60 = B 60) (h61 : C 61 = B 61) : CM A C := by
  obtain ⟨a1, a2, a3, a4, a5⟩ := h
  exact ⟨fun o x y => (h1 o x y).trans (a1 o x y), h7.trans a2, h18.trans a3, by rw [h60]; exact a4, by rw [h61]; exact a5⟩
def told (A : jA) (k : Int) : Int := if tw A k = 0 then k else tw A k
def bBeg (A : jA) (b k : Int) : Int := if bW A b k = 0 then 0 else 18 + ((bL A b (k - 1).toNat).length : Int)
def tAl (A : jA) (b : Int) (k : Nat) : List (List Int) := (tS A b k).1 ++ (if (tS A b k).2.length = 0 then [] else [(tS A b k).2])
/-- the tails as the reference holds them -/
def MTt (B : jA) (l : List (List Int)) : Prop := ∀ t : Nat, t < l.length → B 68 t = (l.getD t []).length ∧ ∀ i : Int, 0 ≤ i → i < (l.getD t []).length → B 69 (32 * t + i) = (l.getD t []).getD i.toNat 0
theorem told_le {A : jA} {k : Int} (hk : 1 ≤ k) : 1 ≤ told A k ∧ told A k ≤ k ∧ tw A (told A k) = 0 ∧ (A 3 (bd A k) = 2 → A 3 (bd A (told A k)) = 2 ∧ A 8 (bd A k) = A 8 (bd A (told A k))) := by
  unfold told
  rcases tw_le (A := A) hk with h | ⟨h1, h2, h3, h4, h5, h6⟩
  · rw [if_pos h]; exact ⟨hk, by omega, h, fun z => ⟨z, rfl⟩⟩
  · rw [if_neg (by omega)]; exact ⟨h1, by omega, h6, fun _ => ⟨h5.1, h5.2.1⟩⟩
section KF3
variable {E : jE} {A B : jA} {b : Int}
theorem k_misSame (T : TR A) (h : CM A B) {x y : Int} (hx : 0 ≤ x ∧ x < A 2 9) (hy : 0 ≤ y ∧ y < A 2 9) {K : Int → jA → Prop} (h1 : A 8 x = A 8 y → sEq A x y (A 8 x).toNat = 1 → K 1 B) (h0 : ¬ (A 8 x = A 8 y ∧ sEq A x y (A 8 x).toNat = 1) → K 0 B) : jrI 168 0 [some (.ref 49), some (.int (jI x)), some (.int (jI y)), none, none] [] E B K := by
  have n32 := T.1.2.1
  have sx := T.2.1 x hx.1 hx.2
  have sy := T.2.1 y hy.1 hy.2
  have rx : jW x := ⟨by omega, by omega⟩
  have ry : jW y := ⟨by omega, by omega⟩
  have e53 : B 53 = A 53 := h.1 53 (by decide) (by decide)
  have e54 : B 54 = A 54 := h.1 54 (by decide) (by decide)
  have fin : ∀ i, jW i → 0 ≤ i → ¬ (A 8 x = A 8 y ∧ sEq A x y (A 8 x).toNat = 1) → jrI 168 24 [some (.ref 49), some (.int (jI x)), some (.int (jI y)), some (.int (jI 0)), some (.int (jI i))] [] E B K := fun i ri i0 hz => vd_X7_isSameFile_24 x rx y ry 0 (by decide) i ri E B K ⟨by omega, fun _ => ⟨.inl rfl, h0 hz⟩, fun _ => ⟨fun _ => ⟨.inl rfl, h0 hz⟩, fun z => absurd rfl z⟩⟩
  refine vd_X7_isSameFile_0 x rx y ry E B K ?_
  rw [e53, sx.2.2.2.2.2.2.2.2.2.1, sy.2.2.2.2.2.2.2.2.2.1]
  refine ⟨by omega, by omega, fun q => vd_X7_isSameFile_20 x rx y ry 0 (by decide) E B K (fin 0 (by decide) (by omega) (fun z => q z.1)), fun q => vd_X7_isSameFile_20 x rx y ry 1 (by decide) E B K ?_⟩
  refine j_loop (P := fun i => 0 ≤ i → i ≤ A 8 x → (∀ j, 0 ≤ j → j < i → A 9 (100 * x + j) = A 9 (100 * y + j)) → jrI 168 24 [some (.ref 49), some (.int (jI x)), some (.int (jI y)), some (.int (jI 1)), some (.int (jI i))] [] E B K) (A 8 x) (fun i ih i0 i1 hj => ?_) 0 (by omega) (by omega) (fun j a b => by omega)
  have ri : jW i := ⟨by omega, by omega⟩
  refine vd_X7_isSameFile_24 x rx y ry 1 (by decide) i ri E B K ?_
  rw [e53, e54, sx.2.2.2.2.2.2.2.2.2.1]
  refine ⟨by omega, fun q2 => ⟨.inr rfl, h1 q ((sEq_iff _).mpr (fun j a c => hj j a (by omega)))⟩, fun q2 => ⟨fun z => absurd z (by decide), fun _ => ⟨by omega, by omega, ?_⟩⟩⟩
  rw [(T.2.2.1 x i hx.1 hx.2 i0 q2).1, (T.2.2.1 y i hy.1 hy.2 i0 (by omega)).1]
  refine ⟨fun q3 => vd_X7_isSameFile_71 x rx y ry i ri 0 (by decide) E B K (fin (i + 1) ⟨by omega, by omega⟩ (by omega) (fun z => q3 ((sEq_iff _).mp z.2 i i0 (by omega)))), fun q3 => vd_X7_isSameFile_71 x rx y ry i ri 1 (by decide) E B K (ih q2 (by omega) (by omega) (fun j a c => ?_))⟩
  by_cases e : j = i
  · rw [e]; exact q3
  · exact hj j a (by omega)
theorem sEq_comm {x y : Int} (n : Nat) : sEq A x y n = 1 ↔ sEq A y x n = 1 := by
  rw [sEq_iff, sEq_iff]
  exact ⟨fun h i a b => (h i a b).symm, fun h i a b => (h i a b).symm⟩
theorem k_firstLike (T : TR A) (h : CM A B) {k : Int} (k1 : 1 ≤ k) (k2 : k ≤ bN A) (hk : A 3 (bd A k) = 2) {K : Int → jA → Prop} (hK : K (told A k) B) : jrI 155 0 [some (.ref 49), some (.int (jI k)), none, none] [] E B K := by
  have nl := bN_le T
  obtain ⟨d0, d1, d2⟩ := bd_le T k1 k2
  have rk : jW k := ⟨by omega, by omega⟩
  have sx := T.2.1 _ d0 d1
  have rx : jW (bd A k) := ⟨by omega, by omega⟩
  have e53 : B 53 = A 53 := h.1 53 (by decide) (by decide)
  have e50 : B 50 = A 50 := h.1 50 (by decide) (by decide)
  refine vd_X7_firstLike_0 k rk E B K ⟨by omega, ?_⟩
  rw [h.2.2.2.2 k k1 k2]
  unfold told tw at hK
  by_cases hz : A 8 (bd A k) = 0
  · rw [if_neg (show ¬ (A 3 (bd A k) = 2 ∧ A 8 (bd A k) ≠ 0) from fun z => z.2 hz), if_pos rfl] at hK
    refine vd_X7_firstLike_9 k rk _ rx 1 (by decide) E B K ?_
    rw [e53, sx.2.2.2.2.2.2.2.2.2.1, hz]
    exact ⟨fun _ => hK, fun _ => ⟨by omega, fun _ => hK, fun z => absurd z (by decide)⟩⟩
  · rw [if_pos (show A 3 (bd A k) = 2 ∧ A 8 (bd A k) ≠ 0 from ⟨hk, hz⟩)] at hK
    have key : ∀ (f : Nat) (j : Int), 1 ≤ j → j + f = k → ∀ v, v = sTw A (bd A k) f j → K (if v = 0 then k else v) B → jrI 155 9 [some (.ref 49), some (.int (jI k)), some (.int (jI (bd A k))), some (.int (jI j))] [] E B K := by
      intro f
      induction f with
      | zero =>
        intro j j1 jf v ev hk'
        refine vd_X7_firstLike_9 k rk _ rx j ⟨by omega, by omega⟩ E B K ⟨fun _ => ?_, fun z => by omega⟩
        have ev' : v = 0 := ev
        rwa [if_pos ev'] at hk'
      | succ f ih =>
        intro j j1 jf v ev hk'
        obtain ⟨g0, g1, g2⟩ := bd_le T j1 (show j ≤ bN A by omega)
        have rj : jW j := ⟨by omega, by omega⟩
        simp only [sTw] at ev
        refine vd_X7_firstLike_9 k rk _ rx j rj E B K ?_
        rw [e53, sx.2.2.2.2.2.2.2.2.2.1, h.2.2.2.2 j j1 (by omega), e50, (T.2.1 _ g0 g1).1]
        have nx : ¬ (A 3 (bd A j) = 2 ∧ A 8 (bd A k) = A 8 (bd A j) ∧ sEq A (bd A k) (bd A j) (A 8 (bd A k)).toNat = 1) → jrI 155 54 [some (.ref 49), some (.int (jI k)), some (.int (jI (bd A k))), some (.int (jI j))] [] E B K := fun hz => by
          rw [if_neg hz] at ev
          exact vd_X7_firstLike_54 k rk _ rx j rj E B K (ih (j + 1) (by omega) (by omega) v ev hk')
        refine ⟨fun z => by omega, fun _ => ⟨by omega, fun z => by omega, fun _ => ⟨by omega, by omega, fun q3 => nx (fun z => q3 z.1), fun q3 => ⟨by omega, k_misSame T h ⟨g0, g1⟩ ⟨d0, d1⟩ (fun q4 q5 => ⟨fun z => absurd z (by decide), fun _ => ?_⟩) (fun q4 => ⟨fun _ => nx (fun z => q4 ⟨z.2.1.symm, ?_⟩), fun z => absurd rfl z⟩)⟩⟩⟩⟩
        · rw [if_pos ⟨q3, q4.symm, by rw [← q4]; exact (sEq_comm _).mp q5⟩] at ev
          rw [if_neg (by omega), ev] at hk'
          exact hk'
        · rw [← z.2.1]; exact (sEq_comm _).mp z.2.2
    exact key (k - 1).toNat 1 (by omega) (by omega) _ rfl hK
/-- while files are told: the numbers below k; X is the table before -/
def PM (A X B : jA) (b k : Int) : Prop := (∀ o, o ≠ 49 → o ≠ 58 → ¬ (62 ≤ o ∧ o ≤ 69) → B o = X o) ∧ (∀ j, j ≠ 15 → j ≠ 22 → j ≠ 27 → B 49 j = X 49 j) ∧ B 58 = mtl X (bL A b (k - 1).toNat) 58 ∧ B 49 15 = X 49 15 + (bL A b (k - 1).toNat).length ∧ B 49 27 = (tAl A b (k - 1).toNat).length ∧ MTt B (tAl A b (k - 1).toNat) ∧ ∀ j, 1 ≤ j → j < k → A 3 (bd A j) = 2 → B 64 j = bBeg A b (told A j) ∧ B 66 j = tI A b (told A j) ∧ B 67 j = tO A b (told A j) ∧ ∀ i, 0 ≤ i → i < bW A b j → B 65 (13 * j + i) = sSize (bG A b (bd A (told A j)) i) b
end KF3
