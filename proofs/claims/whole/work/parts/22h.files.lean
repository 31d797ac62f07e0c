def tI (A : jA) (b k : Int) : Int := if A 3 (bd A k) = 2 ∧ tw A k = 0 ∧ A 8 (bd A k) % b ≠ 0 then ((tS A b k.toNat).1.length : Int) + 1 else 0
def tO (A : jA) (b k : Int) : Int := if A 3 (bd A k) = 2 ∧ tw A k = 0 ∧ A 8 (bd A k) % b ≠ 0 then ((tS A b k.toNat).2.length : Int) - (tOf A b k).length else 0
def tFn (t : List Int) : Int → Int := fun i => t.getD i.toNat 0
/-- where the tail t lies, if the first one lies at p -/
def tP (p : Int) (l : List (List Int)) (t : Nat) : Int := p + ((tB (l.take t)).length : Int)
theorem tB_one (t : List Int) : tB [t] = sBytes (tFn t) t.length := by simp only [tB, List.append_nil]; rfl
/-- the closed tails as the class holds them -/
def TT (B : jA) (p : Int) (l : List (List Int)) : Prop := ∀ t : Nat, t < l.length → B 32 t = tP p l t ∧ B 33 t = sSize (tFn (l.getD t [])) (l.getD t []).length ∧ B 34 t = (l.getD t []).length
theorem TT.app {B C : jA} {p : Int} {l : List (List Int)} {t : List Int} (h : TT B p l) (e32 : C 32 = jup B 32 l.length (p + ((tB l).length : Int)) 32) (e33 : C 33 = jup B 33 l.length (sSize (tFn t) t.length) 33) (e34 : C 34 = jup B 34 l.length t.length 34) : TT C p (l ++ [t]) := fun s hs => by
  rw [List.length_append, List.length_cons, List.length_nil] at hs
  rw [e32, e33, e34]
  unfold tP
  by_cases e : s = l.length
  · subst e
    rw [jup_at, jup_at, jup_at, List.take_left' rfl, show (l ++ [t]).getD l.length [] = t by rw [List.getD_eq_getElem?_getD, List.getElem?_append_right (Nat.le_refl _)]; simp]
    exact ⟨rfl, rfl, rfl⟩
  · have hs' : s < l.length := by omega
    rw [jup_ne (by omega), jup_ne (by omega), jup_ne (by omega), show (l ++ [t]).getD s [] = l.getD s [] by rw [List.getD_eq_getElem?_getD, List.getElem?_append_left hs', ← List.getD_eq_getElem?_getD], List.take_append_of_le_length (by omega)]
    exact h s hs'
section KF2
variable {E : jE} {A B : jA} {b : Int}
/-- while tails are joined: the numbers below k; X is the table before, its image ends at p -/
def PT (A X B : jA) (c : Nat) (b k p : Int) : Prop := (∀ o, o ≠ 21 → o ≠ 22 → o ≠ 23 → o ≠ 29 → o ≠ 30 → ¬ (32 ≤ o ∧ o ≤ 35) → B o = jap X c (tB (tS A b (k - 1).toNat).1) o) ∧ (∀ j, j ≠ 14 → j ≠ 15 → B 21 j = X 21 j) ∧ B 21 14 = (tS A b (k - 1).toNat).1.length ∧ B 21 15 = (tS A b (k - 1).toNat).2.length ∧ (∀ i : Int, 0 ≤ i → i < (tS A b (k - 1).toNat).2.length → B 35 i = (tS A b (k - 1).toNat).2.getD i.toNat 0) ∧ TT B p (tS A b (k - 1).toNat).1 ∧ ∀ j, 1 ≤ j → j < k → B 29 j = tI A b j ∧ B 30 j = tO A b j
/-- a tail is closed -/
theorem k_close {X : jA} {c : Nat} (hc : jim c) {p : Int} {l : List (List Int)} {t : List Int} (hl : (l.length : Int) < 32) (ht : 1 ≤ t.length) (ht2 : t.length ≤ 32) (tb : ∀ x ∈ t, 0 ≤ x ∧ x ≤ 255) (hp : X c 1 = p) (p0 : 0 ≤ p) (hroom : p + ((tB l).length : Int) + t.length ≤ jN (c + 1)) (h1 : ∀ o, o ≠ 21 → o ≠ 22 → o ≠ 23 → o ≠ 29 → o ≠ 30 → ¬ (32 ≤ o ∧ o ≤ 35) → B o = jap X c (tB l) o) (h14 : B 21 14 = l.length) (h15 : B 21 15 = t.length) (h35 : ∀ i : Int, 0 ≤ i → i < t.length → B 35 i = t.getD i.toNat 0) (hT : TT B p l) {K : jA → Prop} (hK : ∀ C, (∀ o, o ≠ 21 → o ≠ 22 → o ≠ 23 → o ≠ 29 → o ≠ 30 → ¬ (32 ≤ o ∧ o ≤ 35) → C o = jap X c (tB (l ++ [t])) o) → (∀ j, j ≠ 14 → j ≠ 15 → C 21 j = B 21 j) → C 21 14 = (l.length : Int) + 1 → C 21 15 = 0 → C 29 = B 29 → C 30 = B 30 → TT C p (l ++ [t]) → K C) : jrV 4 0 [some (.ref 21), some (.ref c)] [] E B K := by
  have hcc : c = 13 ∨ c = 15 ∨ c = 17 ∨ c = 19 ∨ c = 47 := hc
  have bc : B c = jap X c (tB l) c := h1 c (by omega) (by omega) (by omega) (by omega) (by omega) (by omega)
  have bc1 : B c 1 = p + ((tB l).length : Int) := by rw [bc, jap_len, hp]
  refine vd_X0_closeTailBlock_0 c hc E B K ?_
  rw [h14]
  refine ⟨fun z => by omega, fun _ => ⟨by omega, fun A5 e5 => ?_⟩⟩
  rw [bc1] at e5
  have a14 : A5 21 14 = l.length := by rw [e5, jup_row (by decide)]; exact h14
  have a15 : A5 21 15 = t.length := by rw [e5, jup_row (by decide)]; exact h15
  have a35 : A5 35 = B 35 := by rw [e5, jup_row (by decide)]
  have ac : A5 c = B c := by rw [e5, jup_row (by omega)]
  rw [a14, a15]
  have bb : BB A5 35 0 t.length (tFn t) := ⟨rfl, by decide, by decide, by omega, by omega, by omega, by show (0 : Int) + t.length ≤ 32; omega, fun i i0 i1 => by rw [Int.zero_add, a35, h35 i i0 i1]; rfl⟩
  refine k_store bb (fun i i0 i1 => tb _ (by unfold tFn; rw [List.getD_eq_getElem?_getD, List.getElem?_eq_getElem (by omega)]; exact List.getElem_mem _)) hc (by omega) (by omega) (by rw [ac, bc1]; omega) (by rw [ac, bc1]; omega) (fun D hD => ⟨by omega, fun A13 e13 => ?_⟩)
  have d21 : D 21 = B 21 := by rw [hD 21 (by decide) (by decide), jap_row (by omega) (by omega), e5, jup_row (by decide)]
  have f14 : A13 21 14 = l.length := by rw [e13, jup_row (by decide), d21]; exact h14
  have f15 : A13 21 15 = t.length := by rw [e13, jup_row (by decide), d21]; exact h15
  rw [f14, f15]
  refine ⟨by omega, fun A17 e17 => ?_⟩
  have g14 : A17 21 14 = l.length := by rw [e17, jup_row (by decide)]; exact f14
  rw [g14]
  refine ⟨⟨by omega, by omega⟩, fun A21 e21 A24 e24 => hK A24 (fun o o1 o2 o3 o4 o5 o6 => ?_) (fun j j1 j2 => ?_) ?_ ?_ ?_ ?_ (hT.app (t := t) ?_ ?_ ?_)⟩
  · rw [e24, jup_row o1, e21, jup_row o1, e17, jup_row (by omega), e13, jup_row (by omega), hD o o2 o3, tB_app, tB_one, ← jap_app]
    refine jap_congr ?_ (by rw [ac, bc])
    rw [e5, jup_row (by omega)]; exact h1 o o1 o2 o3 o4 o5 o6
  · rw [e24, jup_ne j2, e21, jup_ne j1, e17, jup_row (by decide), e13, jup_row (by decide), d21]
  · rw [e24, jup_ne (by decide), e21, jup_at]
  · rw [e24, jup_at]
  · rw [e24, jup_row (by decide), e21, jup_row (by decide), e17, jup_row (by decide), e13, jup_row (by decide), hD 29 (by decide) (by decide), jap_row (by omega) (by omega), e5, jup_row (by decide)]
  · rw [e24, jup_row (by decide), e21, jup_row (by decide), e17, jup_row (by decide), e13, jup_row (by decide), hD 30 (by decide) (by decide), jap_row (by omega) (by omega), e5, jup_row (by decide)]
  · rw [e24, jup_row (by decide), e21, jup_row (by decide), e17, jup_row (by decide), e13, jup_row (by decide), hD 32 (by decide) (by decide), jap_row (by omega) (by omega), e5]
  · rw [e24, jup_row (by decide), e21, jup_row (by decide), e17, jup_row (by decide), e13]
    funext j; simp only [jup]
    rw [hD 33 (by decide) (by decide), jap_row (by omega) (by omega), e5, jup_row (by decide)]
  · rw [e24, jup_row (by decide), e21, jup_row (by decide), e17]
    funext j; simp only [jup]
    rw [e13, jup_row (by decide), hD 34 (by decide) (by decide), jap_row (by omega) (by omega), e5, jup_row (by decide)]
theorem tLen_nn (l : List (List Int)) : 0 ≤ tLen l := by
  induction l with
  | nil => simp [tLen]
  | cons t r ih => simp only [tLen]; omega
theorem tB_len (l : List (List Int)) (h : ∀ t ∈ l, 1 ≤ t.length ∧ (t.length : Int) ≤ 32) : ((tB l).length : Int) ≤ tLen l := by
  induction l with
  | nil => simp [tB, tLen]
  | cons t r ih =>
    simp only [tB, tLen, List.length_append]
    have h1 := ih (fun t ht => h t (List.mem_cons_of_mem _ ht))
    have h2 := h t (List.mem_cons_self ..)
    have h3 := (sBytes_len (g := fun i : Int => t.getD i.toNat 0) (l := t.length) (by omega)).1
    omega
/-- all tails hold bytes -/
theorem tS_b (T : TR A) (hb : b = 8 ∨ b = 16 ∨ b = 32) (k : Nat) (h2 : (k : Int) ≤ bN A) : (∀ t ∈ (tS A b k).1, ∀ x ∈ t, 0 ≤ x ∧ x ≤ 255) ∧ ∀ x ∈ (tS A b k).2, 0 ≤ x ∧ x ≤ 255 := by
  induction k with
  | zero => simp [tS]
  | succ k ih =>
    obtain ⟨i1, i2⟩ := ih (by omega)
    obtain ⟨d0, d1, d2⟩ := bd_le T (show (1 : Int) ≤ (k : Int) + 1 by omega) (by omega)
    obtain ⟨z1, z2, z3, z4, z5, z6, z7, z8⟩ := file_sz T hb d0 d1
    have eT : tS A b (k + 1) = if A 3 (bd A ((k : Int) + 1)) = 2 ∧ tw A ((k : Int) + 1) = 0 then (if b < (tS A b k).2.length + (tOf A b ((k : Int) + 1)).length then ((tS A b k).1 ++ [(tS A b k).2], tOf A b ((k : Int) + 1)) else ((tS A b k).1, (tS A b k).2 ++ tOf A b ((k : Int) + 1))) else tS A b k := rfl
    have hO : ∀ x ∈ tOf A b ((k : Int) + 1), 0 ≤ x ∧ x ≤ 255 := fun x hx => by
      simp only [tOf, pSeg, List.mem_map, List.mem_range] at hx
      obtain ⟨i, hi, e⟩ := hx
      rw [← e]
      have := T.2.2.1 (bd A ((k : Int) + 1)) (bW A b ((k : Int) + 1) * b + (0 + (i : Int))) d0 d1 (by unfold bW; omega) (by unfold bW; omega)
      rw [← Int.add_assoc] at this
      exact this.2
    rw [eT]
    by_cases q : A 3 (bd A ((k : Int) + 1)) = 2 ∧ tw A ((k : Int) + 1) = 0
    · rw [if_pos q]
      by_cases q2 : b < (tS A b k).2.length + (tOf A b ((k : Int) + 1)).length
      · rw [if_pos q2]
        refine ⟨fun t ht => ?_, hO⟩
        rcases List.mem_append.mp ht with h | h
        · exact i1 t h
        · rw [List.mem_singleton.mp h]; exact i2
      · rw [if_neg q2]
        refine ⟨i1, fun x hx => ?_⟩
        rcases List.mem_append.mp hx with h | h
        · exact i2 x h
        · exact hO x h
    · rw [if_neg q]; exact ⟨i1, i2⟩
/-- all tails -/
def tAll (A : jA) (b : Int) : List (List Int) := (tS A b (bN A).toNat).1 ++ (if (tS A b (bN A).toNat).2.length = 0 then [] else [(tS A b (bN A).toNat).2])
/-- after the tails: X is the table before -/
def PE (A X B : jA) (c : Nat) (b p : Int) : Prop := (∀ o, o ≠ 21 → o ≠ 22 → o ≠ 23 → o ≠ 29 → o ≠ 30 → ¬ (32 ≤ o ∧ o ≤ 35) → B o = jap X c (tB (tAll A b)) o) ∧ B 21 13 = X 21 13 ∧ B 21 14 = (tAll A b).length ∧ TT B p (tAll A b) ∧ ∀ j, 1 ≤ j → j ≤ bN A → B 29 j = tI A b j ∧ B 30 j = tO A b j
set_option maxHeartbeats 4000000 in
theorem k_putTailBlocks (T : TR A) (hb : b = 8 ∨ b = 16 ∨ b = 32) {X : jA} (hX : CB A X) (h26 : ∀ j, 1 ≤ j → j ≤ bN A → X 26 j = tw A j) {c : Nat} (hc : jim c) (hN : (jN (c + 1) : Int) = 5581) {p : Int} (hp : X c 1 = p) (ep : p = 18 + ((bL A b (bN A).toNat).length : Int)) {K : jA → Prop} (hK : ∀ B, PE A X B c b p → K B) : jrV 17 0 [some (.ref 21), some (.ref 2), some (.int (jI b)), some (.ref c), none, none, none] [] E X K := by
  have nl := bN_le T
  have rb : jW b := ⟨by omega, by omega⟩
  have hcc : c = 13 ∨ c = 15 ∨ c = 17 ∨ c = 19 ∨ c = 47 := hc
  obtain ⟨w1, w2, w3, w4, w5⟩ := bL_le T hb (bN A).toNat (by omega) (by omega)
  have mono : ∀ (d k : Nat), tLen (tS A b k).1 + (tS A b k).2.length ≤ tLen (tS A b (k + d)).1 + (tS A b (k + d)).2.length := by
    intro d
    induction d with
    | zero => intro k; exact Int.le_refl _
    | succ d ih =>
      intro k
      have h1 := ih k
      have eT : tS A b (k + d + 1) = if A 3 (bd A (((k + d : Nat) : Int) + 1)) = 2 ∧ tw A (((k + d : Nat) : Int) + 1) = 0 then (if b < (tS A b (k + d)).2.length + (tOf A b (((k + d : Nat) : Int) + 1)).length then ((tS A b (k + d)).1 ++ [(tS A b (k + d)).2], tOf A b (((k + d : Nat) : Int) + 1)) else ((tS A b (k + d)).1, (tS A b (k + d)).2 ++ tOf A b (((k + d : Nat) : Int) + 1))) else tS A b (k + d) := rfl
      rw [← Nat.add_assoc, eT]
      split
      · split
        · dsimp only; rw [tLen_app]; simp only [tLen]; omega
        · dsimp only; rw [List.length_append]; omega
      · exact h1
  refine vd_X0_putTailBlocks_0 b rb c hc E X K (fun A1 e1 A4 e4 => ?_)
  refine j_loop (P := fun k => ∀ B, 1 ≤ k → k ≤ bN A + 1 → PT A X B c b k p → jrV 17 13 [some (.ref 21), some (.ref 2), some (.int (jI b)), some (.ref c), some (.int (jI k)), none, none] [] E B K) (bN A + 1) (fun k ih B k1 k2 hP => ?_) 1 A4 (by omega) (by omega) ⟨fun o o1 o2 o3 o4 o5 o6 => by rw [show tB (tS A b (1 - 1 : Int).toNat).1 = [] from rfl, jap_nil, e4, jup_row o1, e1, jup_row o1], fun j j1 j2 => by rw [e4, jup_ne j2, e1, jup_ne j1], by rw [e4, jup_ne (by decide), e1, jup_at]; rfl, by rw [e4, jup_at]; rfl, fun i i0 i1 => absurd i1 (by show ¬ i < ((0 : Nat) : Int); omega), fun t ht => absurd ht (by show ¬ t < 0; omega), fun j a b => by omega⟩
  obtain ⟨p1, p2, p3, p4, p5, p6, p7⟩ := hP
  have rk : jW k := ⟨by omega, by omega⟩
  have pr : ∀ o, 2 ≤ o → o ≤ 11 ∨ o = 24 ∨ o = 25 ∨ o = 26 → B o = X o := fun o a1 a2 => by rw [p1 o (by omega) (by omega) (by omega) (by omega) (by omega) (by omega), jap_row (by omega) (by omega)]
  have hB : CB A B := hX.fr (fun o a b => pr o a (.inl b)) (p2 13 (by decide) (by decide)) (pr 24 (by decide) (by omega)) (pr 25 (by decide) (by omega))
  have bk : 1 ≤ (k - 1).toNat → ((tS A b (k - 1).toNat).1.length : Int) + min 1 ((tS A b (k - 1).toNat).2.length : Int) ≤ ((k - 1).toNat : Int) - 1 ∧ ((tS A b (k - 1).toNat).2.length : Int) ≤ b ∧ (∀ t ∈ (tS A b (k - 1).toNat).1, 1 ≤ t.length ∧ (t.length : Int) ≤ b) := fun h => by
    have := bL_le T hb (k - 1).toNat h (by omega)
    exact ⟨this.2.2.2.2, this.2.1, this.2.2.1⟩
  have bk0 : k = 1 → (tS A b (k - 1).toNat).1 = [] ∧ (tS A b (k - 1).toNat).2 = [] := fun h => by subst h; exact ⟨rfl, rfl⟩
  have cl : ((tS A b (k - 1).toNat).1.length : Int) < 32 ∧ ((tS A b (k - 1).toNat).2.length : Int) ≤ b ∧ (∀ t ∈ (tS A b (k - 1).toNat).1, 1 ≤ t.length ∧ (t.length : Int) ≤ 32) := by
    by_cases h : k = 1
    · obtain ⟨x1, x2⟩ := bk0 h
      rw [x1, x2]
      exact ⟨by decide, by simp; omega, fun t ht => by cases ht⟩
    · obtain ⟨x1, x2, x3⟩ := bk (by omega)
      exact ⟨by omega, x2, fun t ht => ⟨(x3 t ht).1, by have := (x3 t ht).2; omega⟩⟩
  have bts := tS_b T hb (k - 1).toNat (by omega)
  -- there is room to close the open tail
  have room : p + ((tB (tS A b (k - 1).toNat).1).length : Int) + (tS A b (k - 1).toNat).2.length ≤ jN (c + 1) := by
    have h1 := tB_len _ cl.2.2
    have h2 := mono ((bN A).toNat - (k - 1).toNat) (k - 1).toNat
    rw [show (k - 1).toNat + ((bN A).toNat - (k - 1).toNat) = (bN A).toNat by omega] at h2
    omega
  have p0 : 0 ≤ p := by omega
  refine vd_X0_putTailBlocks_13 b rb c hc k rk E B K ?_
  rw [hB.2.1, p4]
  refine ⟨fun q => ?_, fun q => ?_⟩
  · have ek : (k - 1).toNat = (bN A).toNat := by omega
    rw [ek] at p1 p3 p4 p5 p6 cl bts room
    refine ⟨fun q2 => ?_, fun q2 => ?_⟩
    · rw [ek] at q2
      have ez : (tS A b (bN A).toNat).2.length = 0 := by omega
      have eA : tAll A b = (tS A b (bN A).toNat).1 := by unfold tAll; rw [if_pos ez, List.append_nil]
      refine hK B ⟨by rw [eA]; exact p1, p2 13 (by decide) (by decide), by rw [eA]; exact p3, by rw [eA]; exact p6, fun j a b => p7 j a (by omega)⟩
    · rw [ek] at q2
      have eA : tAll A b = (tS A b (bN A).toNat).1 ++ [(tS A b (bN A).toNat).2] := by unfold tAll; rw [if_neg (by omega)]
      refine k_close hc cl.1 (by omega) (by omega) bts.2 hp p0 room p1 p3 p4 p5 p6 (fun C c1 c2 c3 c4 c5 c6 c7 => hK C ⟨by rw [eA]; exact c1, by rw [c2 13 (by decide) (by decide)]; exact p2 13 (by decide) (by decide), by rw [eA, c3, List.length_append, List.length_cons, List.length_nil]; rfl, by rw [eA]; exact c7, fun j a b => by rw [c5, c6]; exact p7 j a (by omega)⟩)
  obtain ⟨d0, d1, d2⟩ := bd_le T k1 q
  obtain ⟨z1, z2, z3, z4, z5, z6, z7, z8⟩ := file_sz T hb d0 d1
  rw [hB.2.2.2 k k1 q]
  refine ⟨by omega, by omega, fun A5 e5 => ⟨by omega, fun A9 e9 => ?_⟩⟩
  have q9 : ∀ o, o ≠ 29 → o ≠ 30 → A9 o = B o := fun o o1 o2 => by rw [e9, jup_row o2, e5, jup_row o1]
  have q29 : A9 29 k = 0 ∧ A9 30 k = 0 ∧ ∀ j, j ≠ k → A9 29 j = B 29 j ∧ A9 30 j = B 30 j := by
    refine ⟨by rw [e9, jup_row (by decide), e5, jup_at], by rw [e9, jup_at], fun j hj => ⟨by rw [e9, jup_row (by decide), e5, jup_ne hj], by rw [e9, jup_ne hj, e5, jup_row (by decide)]⟩⟩
  have e3 : A9 3 = A 3 := (q9 3 (by decide) (by decide)).trans (hB.1 3 (by decide) (by decide))
  have e8 : A9 8 = A 8 := (q9 8 (by decide) (by decide)).trans (hB.1 8 (by decide) (by decide))
  have e26 : A9 26 k = tw A k := by rw [q9 26 (by decide) (by decide), pr 26 (by decide) (by omega)]; exact h26 k k1 q
  have eS := tS_at (A := A) (b := b) k1
  rw [e3, e8, e26]
  have next : ∀ C, PT A X C c b (k + 1) p → jrV 17 116 [some (.ref 21), some (.ref 2), some (.int (jI b)), some (.ref c), some (.int (jI k)), none, none] [] E C K := fun C hC => vd_X0_putTailBlocks_116 b rb c hc k rk E C K (ih (by omega) C (by omega) (by omega) hC)
  have skip : ¬ (A 3 (bd A k) = 2 ∧ tw A k = 0) → PT A X A9 c b (k + 1) p := fun hz => by
    rw [if_neg hz] at eS
    refine ⟨fun o o1 o2 o3 o4 o5 o6 => ?_, fun j j1 j2 => ?_, ?_, ?_, ?_, ?_, fun j j1 j2 => ?_⟩
    · rw [q9 o o4 o5, show (k + 1 - 1).toNat = k.toNat by omega, eS]; exact p1 o o1 o2 o3 o4 o5 o6
    · rw [q9 21 (by decide) (by decide)]; exact p2 j j1 j2
    · rw [q9 21 (by decide) (by decide), show (k + 1 - 1).toNat = k.toNat by omega, eS]; exact p3
    · rw [q9 21 (by decide) (by decide), show (k + 1 - 1).toNat = k.toNat by omega, eS]; exact p4
    · rw [q9 35 (by decide) (by decide), show (k + 1 - 1).toNat = k.toNat by omega, eS]; exact p5
    · rw [show (k + 1 - 1).toNat = k.toNat by omega, eS]; unfold TT; rw [q9 32 (by decide) (by decide), q9 33 (by decide) (by decide), q9 34 (by decide) (by decide)]; exact p6
    · by_cases e : j = k
      · subst e
        rw [q29.1, q29.2.1]
        unfold tI tO
        rw [if_neg (fun z => hz ⟨z.1, z.2.1⟩), if_neg (fun z => hz ⟨z.1, z.2.1⟩)]; exact ⟨rfl, rfl⟩
      · rw [(q29.2.2 j e).1, (q29.2.2 j e).2]; exact p7 j j1 (by omega)
  refine ⟨by omega, fun q2 => next A9 (skip (fun z => q2 z.1)), fun q2 => ⟨by omega, fun q3 => next A9 (skip (fun z => q3 z.2)), fun q3 => ⟨by omega, by omega, ?_⟩⟩⟩
  rw [if_pos ⟨q2, q3⟩] at eS
  have eO : ((tOf A b k).length : Int) = A 8 (bd A k) % b := by rw [tOf_len]; omega
  have e9' : A9 9 = A 9 := (q9 9 (by decide) (by decide)).trans (hB.1 9 (by decide) (by decide))
  have e21 : A9 21 15 = (tS A b (k - 1).toNat).2.length := by rw [q9 21 (by decide) (by decide)]; exact p4
  have e25 : A9 25 k = bd A k := by rw [q9 25 (by decide) (by decide)]; exact hB.2.2.2 k k1 q
  have eleft : A 8 (bd A k) - A 8 (bd A k) / b * b = A 8 (bd A k) % b := by omega
  have rW : jW (A 8 (bd A k) / b) := ⟨by omega, by omega⟩
  -- the join, from a table D whose open tail is cur and whose closed ones are l
  have join : ∀ (D : jA) (l : List (List Int)) (cur : List Int), tS A b k.toNat = (l, cur ++ tOf A b k) → (cur.length : Int) + (tOf A b k).length ≤ b → (∀ o, o ≠ 21 → o ≠ 22 → o ≠ 23 → o ≠ 29 → o ≠ 30 → ¬ (32 ≤ o ∧ o ≤ 35) → D o = jap X c (tB l) o) → (∀ j, j ≠ 14 → j ≠ 15 → D 21 j = X 21 j) → D 21 14 = l.length → D 21 15 = cur.length → (∀ i : Int, 0 ≤ i → i < cur.length → D 35 i = cur.getD i.toNat 0) → TT D p l → D 29 = A9 29 → D 30 = A9 30 → l.length ≤ 32 → jrV 17 107 [some (.ref 21), some (.ref 2), some (.int (jI b)), some (.ref c), some (.int (jI k)), none, some (.int (jI (A 8 (bd A k) % b)))] [] E D K := fun D l cur es hcur f1 f2 f3 f4 f5 f6 f7 f8 hl32 => by
    have fr : ∀ o, 2 ≤ o → o ≤ 11 ∨ o = 24 ∨ o = 25 ∨ o = 26 → D o = X o := fun o a1 a2 => by rw [f1 o (by omega) (by omega) (by omega) (by omega) (by omega) (by omega), jap_row (by omega) (by omega)]
    have hD : CB A D := hX.fr (fun o a b => fr o a (.inl b)) (f2 13 (by decide) (by decide)) (fr 24 (by decide) (by omega)) (fr 25 (by decide) (by omega))
    refine vd_X0_putTailBlocks_107 b rb c hc k rk _ ⟨by omega, by omega⟩ E D K ?_
    refine vd_X0_joinTail_0 k rk _ ⟨by omega, by omega⟩ E D _ ⟨fun q4 => ?_, fun q4 => next D ?_⟩
    · rw [hD.2.2.2 k k1 q, hD.1 8 (by decide) (by decide), f3]
      refine ⟨by omega, by omega, ⟨by omega, by omega⟩, by omega, fun B5 g5 => ⟨by omega, fun B9 g9 => ?_⟩⟩
      have g15 : B5 21 15 = cur.length := by rw [g5, jup_row (by decide)]; exact f4
      rw [g15] at g9
      have gq : ∀ o, o ≠ 29 → o ≠ 30 → B9 o = D o := fun o o1 o2 => by rw [g9, jup_row o2, g5, jup_row o1]
      refine j_loop (P := fun i => ∀ C, 0 ≤ i → i ≤ (tOf A b k).length → (∀ o, o ≠ 21 → o ≠ 35 → C o = B9 o) → (∀ j, j ≠ 15 → C 21 j = D 21 j) → C 21 15 = cur.length + i → (∀ i' : Int, 0 ≤ i' → i' < cur.length + i → C 35 i' = (cur ++ tOf A b k).getD i'.toNat 0) → jrV 9 55 [some (.ref 21), some (.ref 2), none, some (.int (jI (A 8 (bd A k) % b))), none, some (.int (jI (bd A k * 100 + A 8 (bd A k) - A 8 (bd A k) % b))), some (.int (jI i))] [] E C (fun A1 => jrV 17 116 [some (.ref 21), some (.ref 2), some (.int (jI b)), some (.ref c), some (.int (jI k)), none, none] [] E A1 K)) (tOf A b k).length (fun i ih2 C i0 i1 h1 h2 h3 h4 => ?_) 0 B9 (by omega) (by omega) (fun _ _ _ => rfl) (fun j _ => by rw [gq 21 (by decide) (by decide)]) (by rw [gq 21 (by decide) (by decide), f4]; omega) (fun i' u1 u2 => by rw [gq 35 (by decide) (by decide), f5 i' u1 (by omega), jgetD_l (by omega)])
      refine vd_X0_joinTail_55 _ ⟨by omega, by omega⟩ _ ⟨by omega, by omega⟩ i ⟨by omega, by omega⟩ E C _ ⟨fun q5 => next C ?_, fun q5 => ?_⟩
      · have ei : i = (tOf A b k).length := by omega
        refine ⟨fun o o1 o2 o3 o4 o5 o6 => ?_, fun j j1 j2 => ?_, ?_, ?_, ?_, ?_, fun j j1 j2 => ?_⟩
        · rw [h1 o o1 (by omega), gq o o4 o5, show (k + 1 - 1).toNat = k.toNat by omega, es]; exact f1 o o1 o2 o3 o4 o5 o6
        · rw [h2 j j2]; exact f2 j j1 j2
        · rw [h2 14 (by decide), show (k + 1 - 1).toNat = k.toNat by omega, es]; exact f3
        · rw [h3, show (k + 1 - 1).toNat = k.toNat by omega, es, ei, List.length_append]; rfl
        · rw [show (k + 1 - 1).toNat = k.toNat by omega, es]; exact fun i' u1 u2 => h4 i' u1 (by rw [List.length_append] at u2; omega)
        · rw [show (k + 1 - 1).toNat = k.toNat by omega, es]; unfold TT; rw [h1 32 (by decide) (by decide), h1 33 (by decide) (by decide), h1 34 (by decide) (by decide), gq 32 (by decide) (by decide), gq 33 (by decide) (by decide), gq 34 (by decide) (by decide)]; exact f6
        · rw [h1 29 (by decide) (by decide), h1 30 (by decide) (by decide)]
          by_cases e : j = k
          · subst e
            unfold tI tO
            rw [if_pos ⟨q2, q3, q4⟩, if_pos ⟨q2, q3, q4⟩, es]
            refine ⟨by rw [g9, jup_row (by decide), g5, jup_at], ?_⟩
            rw [g9, jup_at, List.length_append]; omega
          · have := q29.2.2 j e
            rw [g9, jup_row (by decide), g5, jup_ne e, jup_ne e, jup_row (by decide), f7, f8, this.1, this.2]
            exact p7 j j1 (by omega)
      · rw [h3]
        have c9 : C 9 = A 9 := by rw [h1 9 (by decide) (by decide), gq 9 (by decide) (by decide)]; exact hD.1 9 (by decide) (by decide)
        rw [c9]
        refine ⟨fun z => by omega, fun _ => ⟨by omega, by omega, fun C3 g3 => ?_⟩⟩
        have c15 : C3 21 15 = cur.length + i := by rw [g3, jup_row (by decide)]; exact h3
        rw [c15]
        refine ⟨⟨by omega, by omega⟩, fun C7 g7 => ih2 (by omega) C7 (by omega) (by omega) (fun o o1 o2 => by rw [g7, jup_row o1, g3, jup_row o2]; exact h1 o o1 o2) (fun j hj => by rw [g7, jup_ne hj, g3, jup_row (by decide)]; exact h2 j hj) (by rw [g7, jup_at]; omega) (fun i' u1 u2 => ?_)⟩
        rw [g7, jup_row (by decide), g3]
        by_cases e : i' = cur.length + i
        · rw [e, jup_at, jgetD_r (by omega), show (((cur.length : Int) + i).toNat - cur.length) = i.toNat by omega]
          unfold tOf
          rw [pSeg_get (by omega)]
          unfold bW
          congr 1
          omega
        · rw [jup_ne e]; exact h4 i' u1 (by omega)
    · have ez : tOf A b k = [] := List.length_eq_zero_iff.mp (by omega)
      rw [ez, List.append_nil] at es
      refine ⟨fun o o1 o2 o3 o4 o5 o6 => ?_, fun j j1 j2 => f2 j j1 j2, ?_, ?_, ?_, ?_, fun j j1 j2 => ?_⟩
      · rw [show (k + 1 - 1).toNat = k.toNat by omega, es]; exact f1 o o1 o2 o3 o4 o5 o6
      · rw [show (k + 1 - 1).toNat = k.toNat by omega, es]; exact f3
      · rw [show (k + 1 - 1).toNat = k.toNat by omega, es]; exact f4
      · rw [show (k + 1 - 1).toNat = k.toNat by omega, es]; exact f5
      · rw [show (k + 1 - 1).toNat = k.toNat by omega, es]; exact f6
      · rw [f7, f8]
        by_cases e : j = k
        · subst e
          unfold tI tO
          rw [if_neg (fun z => z.2.2 q4), if_neg (fun z => z.2.2 q4)]; exact ⟨q29.1, q29.2.1⟩
        · have := q29.2.2 j e
          rw [this.1, this.2]; exact p7 j j1 (by omega)
  refine vd_X0_wholeBlocks_0 _ ⟨by omega, by omega⟩ b rb E A9 _ ⟨fun _ => ⟨z1, by omega, rW, ?_⟩, fun z => by omega⟩
  rw [eleft, e21]
  refine ⟨⟨by omega, by omega⟩, fun q4 => ?_, fun q4 => ?_⟩
  · rw [if_neg (by omega)] at eS
    refine join A9 _ _ eS (by omega) (fun o o1 o2 o3 o4 o5 o6 => by rw [q9 o o4 o5]; exact p1 o o1 o2 o3 o4 o5 o6) (fun j j1 j2 => by rw [q9 21 (by decide) (by decide)]; exact p2 j j1 j2) (by rw [q9 21 (by decide) (by decide)]; exact p3) e21 (by rw [q9 35 (by decide) (by decide)]; exact p5) (by unfold TT; rw [q9 32 (by decide) (by decide), q9 33 (by decide) (by decide), q9 34 (by decide) (by decide)]; exact p6) rfl rfl (by omega)
  · rw [if_pos (by omega)] at eS
    refine k_close hc cl.1 (by omega) (by omega) bts.2 hp p0 room (fun o o1 o2 o3 o4 o5 o6 => by rw [q9 o o4 o5]; exact p1 o o1 o2 o3 o4 o5 o6) (by rw [q9 21 (by decide) (by decide)]; exact p3) e21 (by rw [q9 35 (by decide) (by decide)]; exact p5) (by unfold TT; rw [q9 32 (by decide) (by decide), q9 33 (by decide) (by decide), q9 34 (by decide) (by decide)]; exact p6) (fun C c1 c2 c3 c4 c5 c6 c7 => ?_)
    exact join C _ [] (by rw [eS, List.nil_append]) (by simp only [List.length_nil]; omega) c1 (fun j j1 j2 => by rw [c2 j j1 j2, q9 21 (by decide) (by decide)]; exact p2 j j1 j2) (by rw [c3, List.length_append, List.length_cons, List.length_nil]; rfl) c4 (fun i' u1 u2 => by simp only [List.length_nil] at u2; omega) c7 c5 c6 (by rw [List.length_append, List.length_cons, List.length_nil]; omega)
end KF2
