/-- images may come, the laid ones stay -/
theorem LR.more {E : jE} {A B : jA} (h10 : B 38 10 = A 38 10) (h39 : B 39 = A 39) (h74 : B 74 = A 74) (h1 : A 1 6 ≤ B 1 6) (h35 : B 49 35 = A 49 35) (hl : LR E A) : LR E B := by
  obtain ⟨l1, l2, l3, l4, l5, l6⟩ := hl
  unfold LR
  rw [h10, h39, h74, h35]
  exact ⟨l1, l2, l3, fun i a b => ⟨(l4 i a b).1, (l4 i a b).2.1, by have := (l4 i a b).2.2.1; omega, (l4 i a b).2.2.2⟩, l5, l6⟩
theorem vstep_congr {u w : Int → Int → Int} {a : Int} (st F : List (Int × Int)) (h : ∀ c ∈ st, u c.1 = w c.1) : vstep u a st F = vstep w a st F := by
  induction st generalizing F with
  | nil => rfl
  | cons c r ih =>
    obtain ⟨l, k⟩ := c
    have e : u l = w l := h (l, k) (List.mem_cons_self ..)
    simp only [vstep]
    rw [e, ih F (fun c hc => h c (List.mem_cons_of_mem _ hc)), ih _ (fun c hc => h c (List.mem_cons_of_mem _ hc))]
theorem VP.congr {u w : Int → Int → Int} {L : Int} {R : List (Int × Int)} (h : ∀ l, 0 ≤ l → l < L → u l = w l) {p : List Int} {s : List (Int × Int)} (hp : VP u L R p s) : VP w L R p s := by
  induction p generalizing s with
  | nil => exact hp
  | cons a p ih =>
    obtain ⟨st, h1, h2, h3⟩ := hp
    refine ⟨st, ih h1, fun c hc => ?_, ?_⟩
    · have := h2 c hc
      rw [← h c.1 this.1 this.2.1]; exact this
    · rw [h3]; exact vstep_congr st [] (fun c hc => h c.1 (h2 c hc).1 (h2 c hc).2.1)
theorem VW.more {A C : jA} (W : VW A) (hlu : ∀ l, 0 ≤ l → l < A 38 10 → lu C l = lu A l) (h39 : C 39 = A 39) (h38 : C 38 = A 38) (h37 : C 49 37 = A 49 37) (h41 : C 41 = A 41) (h42 : C 42 = A 42) (h43 : C 43 = A 43) (h75 : C 75 = A 75) (h76 : C 76 = A 76) (h77 : C 77 = A 77) : VW C := by
  obtain ⟨w1, w2, w3, w4⟩ := W
  refine ⟨by rw [h37, h38]; exact w1, by rw [h38]; exact w2, by rw [h38]; exact w3, fun v v0 v1 => ?_⟩
  rw [h38] at v1
  obtain ⟨⟨s1, s2, s3, s4⟩, m, p, hp⟩ := w4 v v0 v1
  refine ⟨⟨by rw [h41]; exact s1, by rw [h41]; exact s2, fun i i0 i1 => ?_, ?_⟩, ?_, p, ?_⟩
  · rw [h41] at i1
    have := s3 i i0 i1
    rw [h42, h43, h38, hlu _ this.1 this.2.1]; exact this
  · rcases s4 with s4 | ⟨s4, s5⟩
    · left
      intro i i0 i1
      rw [h41] at i1
      have := s3 i i0 i1
      rw [h42, h43, hlu _ this.1 this.2.1]; exact s4 i i0 i1
    · right
      have := s3 0 (by omega) (by omega)
      rw [Int.add_zero] at this
      rw [h41, h42, h43, hlu _ this.1 this.2.1]; exact ⟨s4, s5⟩
  · unfold VM at m ⊢
    rw [h75, h76, h77, h41, h42, h43, h39]; exact m
  · have e : vstk C v = vstk A v := by unfold vstk; rw [h41, vfr_eq h42 h43]
    rw [e, h38]
    exact hp.congr (fun l a b => (hlu l a b).symm)
/-- all that holds between the class and the reference -/
def INV (E : jE) (A : jA) : Prop := TR A ∧ TP A ∧ GI A ∧ LR E A ∧ VW A
/-- the reference's copy of the tape -/
def mcp (A : jA) (m i : Int) : jA := fun o j => if o = 58 ∧ 6000 * m ≤ j ∧ j < 6000 * m + i then A 73 (j - 6000 * m) else A o j
theorem mcp_row {A : jA} {m i : Int} {o : Nat} (h : o ≠ 58) : mcp A m i o = A o := by funext j; simp only [mcp]; rw [if_neg (fun z => h z.1)]
theorem k_mload {E : jE} {A : jA} {m n : Int} (hm : 0 ≤ m ∧ m ≤ 2) (e11 : A 49 11 = m) (e34 : A 49 34 = n) (hn : 0 ≤ n ∧ n ≤ 4000) (h73 : ∀ x, 0 ≤ x → x < n → 0 ≤ A 73 x ∧ A 73 x ≤ 255) (hb : MB A) {K : Int → jA → Prop} (h : ∀ w, MB (jup (jup (mcp A m n) 59 m n) 49 34 0) → FS (mb (jup (jup (mcp A m n) 59 m n) 49 34 0) m) n w → (w = 0 → K m (jup (jup (jup (mcp A m n) 59 m n) 49 34 0) 49 11 (m + 1))) ∧ (w ≠ 0 → K (-10 - w) (jup (jup (mcp A m n) 59 m n) 49 34 0))) : jrI 178 18 [some (.ref 49), some (.int (jI 0))] [] E A K := by
  have e0 : mcp A m 0 = A := by funext o j; simp only [mcp]; rw [if_neg (by omega)]
  have key := j_loop (P := fun i => 0 ≤ i → i ≤ n → jrI 178 18 [some (.ref 49), some (.int (jI i))] [] E (mcp A m i) K) n (fun i ih i0 i1 => by
    have r49 : mcp A m i 49 = A 49 := mcp_row (by decide)
    have r73 : mcp A m i 73 = A 73 := mcp_row (by decide)
    refine vd_X7_load_18 i ⟨by omega, by omega⟩ E _ K ?_
    rw [r49, r73, e11, e34]
    refine ⟨fun q => ⟨by omega, fun A2 a2 A5 a5 => ?_⟩, fun q => ⟨by omega, by omega, fun A20 a20 => ?_⟩⟩
    · have ei : i = n := by omega
      subst ei
      have eA : A5 = jup (jup (mcp A m i) 59 m i) 49 34 0 := by rw [a5, a2]
      have b58 : A5 58 = mcp A m i 58 := by rw [eA, jup_row (by decide), jup_row (by decide)]
      have hb5 : MB A5 := fun k => by
        rw [b58]; simp only [mcp]
        by_cases hk : 6000 * m ≤ k ∧ k < 6000 * m + i
        · rw [if_pos ⟨trivial, hk⟩]; exact h73 _ (by omega) (by omega)
        · rw [if_neg (fun z => hk z.2)]; exact hb k
      have b11 : A5 49 11 = m := by rw [eA, jup_ne (by decide), jup_row (by decide), r49]; exact e11
      have b59 : A5 59 m = i := by rw [eA, jup_row (by decide), jup_at]
      rw [b11]
      refine k_judge hb5 hm b59 hn (fun w hw => ?_)
      have := h w (by rw [← eA]; exact hb5) (by rw [← eA]; exact hw)
      have wl := hw.le
      rw [b11]
      refine ⟨fun q2 => ⟨⟨by omega, by omega⟩, fun A13 a13 => ?_⟩, fun q2 => ⟨⟨by omega, by omega⟩, ?_⟩⟩
      · have e13 : A13 49 11 = m + 1 := by rw [a13, jup_at]
        rw [e13]
        refine ⟨⟨by omega, by omega⟩, ?_⟩
        rw [show m + 1 - 1 = m by omega, a13, eA]
        exact this.1 (by omega)
      · rw [eA]; exact this.2 (by omega)
    · have : A20 = mcp A m (i + 1) := by
        rw [a20]; funext o j; simp only [jup, mcp]
        by_cases ho : o = 58
        · subst ho
          by_cases hj : j = 6000 * m + i
          · rw [if_pos ⟨rfl, hj⟩, if_pos (by omega), hj]; congr 1; omega
          · rw [if_neg (fun z => hj z.2)]
            by_cases hk : 6000 * m ≤ j ∧ j < 6000 * m + i
            · rw [if_pos ⟨rfl, hk⟩, if_pos (by omega)]
            · rw [if_neg (fun z => hk z.2), if_neg (by omega)]
        · rw [if_neg (fun z => ho z.1), if_neg (fun z => ho z.1), if_neg (fun z => ho z.1)]
      rw [this]
      exact ih q (by omega) (by omega)) 0 (by omega) hn.1
  rwa [e0] at key
/-- the class copies the tape into an image -/
def ccp (B : jA) (c : Nat) (n : Int) : jA := jcp (jup B c 1 n) 20 (c + 1) 0 0 n
theorem ccp_1 (B : jA) {c : Nat} (hc : jim c) {n : Int} (k : Int) : ccp B c n c k = if k = 1 then n else B c k := by
  unfold ccp jcp
  rw [if_neg (by omega)]
  simp only [jup, true_and]
theorem ccp_b (B : jA) {c : Nat} (hc : jim c) (h19 : c ≠ 19) {n : Int} (j : Int) : ccp B c n (c + 1) j = if 0 ≤ j ∧ j < n then B 20 j else B (c + 1) j := by
  have : (20 : Nat) ≠ c := by rcases hc with h | h | h | h | h <;> omega
  unfold ccp jcp
  by_cases hj : 0 ≤ j ∧ j < n
  · rw [if_pos ⟨rfl, hj.1, by omega⟩, if_pos hj, jup_row this, show 0 + (j - 0) = j by omega]
  · rw [if_neg (by omega), if_neg hj, jup_row (by omega)]
theorem ccp_row {B : jA} {c o : Nat} {n : Int} (h1 : o ≠ c) (h2 : o ≠ c + 1) : ccp B c n o = B o := by
  funext j; unfold ccp jcp; rw [if_neg (fun z => h2 z.1), jup_row h1]
theorem ccp_IM {B : jA} {c : Nat} {n : Int} (hc : IM B c) (h19 : c ≠ 19) (ht : ∀ k, 0 ≤ B 20 k ∧ B 20 k ≤ 255) (hn : 0 ≤ n ∧ n ≤ jN (c + 1)) : IM (ccp B c n) c := by
  obtain ⟨h1, h2, h3, h4, h5⟩ := hc
  have e := ccp_1 B h1 (n := n)
  refine ⟨h1, by rw [e, if_pos rfl]; exact hn.1, by rw [e, if_pos rfl]; exact hn.2, fun k => ?_, fun f f2 f7 => by rw [e, if_neg (by omega)]; exact h5 f f2 f7⟩
  rw [ccp_b B h1 h19]
  split
  · exact ht k
  · exact h4 k
theorem k_copyFrom {E : jE} {B : jA} {c : Nat} {n : Int} (hc : IM B c) (h19 : c ≠ 19) (h20 : IM B 19) (e : B 19 1 = n) (hn : 0 ≤ n ∧ n ≤ 4000) (hN : (jN (c + 1) : Int) = 5581) {K : jA → Prop} (h : K (cHead (ccp B c n) c)) : jrV 23 0 [some (.ref c), some (.ref 19)] [] E B K := by
  refine vd_X1_copyFrom_0 c hc.1 19 h20.1 E B K (fun A1 e1 => ?_)
  rw [e, hN, show min n 5581 = n by omega] at e1
  have a1 : A1 c 1 = n := by rw [e1, jup_at]
  have hN2 : (jN (19 + 1) : Int) = 4000 := rfl
  rw [a1, hN, hN2]
  refine ⟨by omega, fun A5 e5 => ?_⟩
  have : A5 = ccp B c n := by rw [e5, e1]; rfl
  rw [this]
  exact k_readHead (ccp_IM hc h19 h20.2.2.2.1 (by omega)) h
theorem jim_c {m : Int} (h : 0 ≤ m ∧ m ≤ 2) : jim (13 + 2 * m.toNat) ∧ 13 + 2 * m.toNat ≤ 17 ∧ (jN (13 + 2 * m.toNat + 1) : Int) = 5581 := by
  have : m = 0 ∨ m = 1 ∨ m = 2 := by omega
  rcases this with rfl | rfl | rfl
  · exact ⟨.inl rfl, by decide, rfl⟩
  · exact ⟨.inr (.inl rfl), by decide, rfl⟩
  · exact ⟨.inr (.inr (.inl rfl)), by decide, rfl⟩
theorem mb_other {A C : jA} {m m' : Int} (h : ∀ j, ¬ (6000 * m ≤ j ∧ j < 6000 * m + 6000) → C 58 j = A 58 j) (hne : m' ≠ m) : mb C m' = mb A m' := by
  funext x; unfold mb
  by_cases hx : 0 ≤ x ∧ x < 6000
  · rw [if_pos hx, if_pos hx]; exact h _ (by omega)
  · rw [if_neg hx, if_neg hx]
