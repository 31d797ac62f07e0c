/-! BYTES THAT COME ARE JUDGED, ON BOTH SIDES: blocks, sums, tails -/
theorem k_openedBytes {E : jE} {A : jA} {c : Nat} {u : Int → Int} {n p s : Int} {K : Int → jA → Prop} (h : CR A c u n) (hb : UB u) (hp : 0 ≤ p) (hps : p + s ≤ n) (hs : 0 < s ∧ s < 32768) (hn : n ≤ 18000) (hK : K (uop u p s s.toNat 0 0) A) : jrI 34 0 [some (.ref c), some (.int (jI p)), some (.int (jI s)), none, none, none, none] [] E A K := by
  have hc := h.1.1
  have rp : jW p := ⟨by omega, by omega⟩
  have rs : jW s := ⟨by omega, by omega⟩
  refine vd_X1_openedBytes_0 c hc p rp s rs E A K ?_
  refine j_loop (P := fun t => ∀ a o, 0 ≤ t → t ≤ a → t ≤ s → a ≤ t * 129 → 0 ≤ o → o ≤ t * 128 → K (uop u p s (s - t).toNat a o) A → jrI 34 8 [some (.ref c), some (.int (jI p)), some (.int (jI s)), some (.int (jI o)), some (.int (jI a)), some (.int (jI t)), none] [] E A K) s (fun t ih a o t0 ta ts a1 o0 o1 hK => ?_) 0 0 0 (by omega) (by omega) (by omega) (by omega) (by omega) (by omega) (by rw [Int.sub_zero]; exact hK)
  have ra : jW a := ⟨by omega, by omega⟩
  have ro : jW o := ⟨by omega, by omega⟩
  have fin : s ≤ a → jrI 34 54 [none, none, some (.int (jI s)), some (.int (jI o)), some (.int (jI a)), none, none] [] E A K := fun ha => by
    refine vd_X1_openedBytes_54 s rs o ro a ra E A K ?_
    have e : uop u p s (s - t).toNat a o = if a = s then o else -1 := by
      cases (s - t).toNat with
      | zero => rfl
      | succ f => simp only [uop]; rw [if_pos ha]
    rw [e] at hK
    exact ⟨fun q => by rwa [if_neg q] at hK, fun q => by rwa [if_pos q] at hK⟩
  refine vd_X1_openedBytes_8 c hc p rp s rs o ro a ra t ⟨by omega, by omega⟩ E A K ⟨fun q => fin (by omega), fun q => ⟨fun q2 => fin q2, fun q2 => ?_⟩⟩
  have hb' := hb (p + a)
  obtain ⟨j1, j2, j3, j4, -⟩ := jpk hb'
  refine k_byteAt h.1 ⟨by omega, by omega⟩ ?_
  rw [h.b (by omega) (by omega)]
  refine k_opensTo hb' (k_packetBytes hb' (ih q _ _ (by omega) (by omega) (by omega) (by omega) (by omega) (by omega) ?_))
  rw [show (s - t).toNat = (s - (t + 1)).toNat + 1 by omega] at hK
  simp only [uop] at hK
  rwa [if_neg (by omega)] at hK
theorem k_canBeBlock {E : jE} {A : jA} {c : Nat} {u : Int → Int} {n p s l : Int} {K : Int → jA → Prop} (h : CR A c u n) (hb : UB u) (hn : n ≤ 18000) (h6 : uw u 6 ≤ n) (hp : 0 ≤ p ∧ p ≤ 65535) (hs : 0 ≤ s ∧ s ≤ 65535) (hl : 0 ≤ l ∧ l ≤ 255) (h1 : UC u p s l → K 1 A) (h0 : ¬ UC u p s l → K 0 A) : jrI 22 0 [some (.ref c), some (.int (jI p)), some (.int (jI s)), some (.int (jI l))] [] E A K := by
  have hc := h.1.1
  have e4 : A c 4 = uw u 6 := h.2.2.2.2.2.1
  have hj := jlies_le hs
  refine vd_X1_canBeBlock_0 c hc p ⟨by omega, by omega⟩ s ⟨by omega, by omega⟩ l ⟨by omega, by omega⟩ E A K ⟨fun q => ⟨fun q2 => h0 ?_, fun q2 => k_storedBytes hs ⟨⟨by omega, by omega⟩, fun q3 => ⟨fun q4 => ?_, fun q4 => ⟨⟨by omega, by omega⟩, fun q5 => h0 ?_, fun q5 => h1 ?_⟩⟩, fun q3 => h0 ?_⟩⟩, fun q => h1 (.inl q)⟩
  · rintro (e | ⟨u1, -⟩) <;> omega
  · have ej : jlies s = s := if_neg (by omega)
    refine k_openedBytes h hb hp.1 (by omega) ⟨by omega, q4⟩ hn ⟨fun q5 => h0 ?_, fun q5 => h1 (.inr ⟨q2, by omega, fun z => by omega, fun _ => q5⟩)⟩
    rintro (e | ⟨-, -, -, u4⟩)
    · omega
    · exact q5 (u4 q4)
  · rintro (e | ⟨-, -, u3, -⟩)
    · omega
    · exact q5 (u3 q4)
  · exact .inr ⟨q2, by omega, fun _ => q5, fun z => by omega⟩
  · rintro (e | ⟨-, u2, -⟩)
    · omega
    · omega
theorem uop_ge {u : Int → Int} {p s : Int} (hb : UB u) (f : Nat) (a o : Int) (h : 0 ≤ o) : uop u p s f a o = -1 ∨ o ≤ uop u p s f a o := by
  induction f generalizing a o with
  | zero => simp only [uop]; split <;> omega
  | succ f ih =>
    simp only [uop]
    split
    · split <;> omega
    · obtain ⟨j1, j2, j3, j4, -⟩ := jpk (hb (p + a))
      have := ih (a + jpacket (u (p + a))) (o + jopens (u (p + a))) (by omega)
      omega
/-- the same of the reference -/
theorem k_mcanBe {E : jE} {A : jA} {m p s l : Int} {K : Int → jA → Prop} (hb : MB A) (hm : 0 ≤ m ∧ m ≤ 2) (h6 : uw (mb A m) 6 ≤ 5900) (hp : 0 ≤ p ∧ p ≤ 65535) (hs : 0 ≤ s ∧ s ≤ 65535) (hl : 0 ≤ l ∧ l ≤ 255) (h1 : UC (mb A m) p s l → K 1 A) (h0 : ¬ UC (mb A m) p s l → K 0 A) : jrI 144 0 [some (.ref 49), some (.int (jI m)), some (.int (jI p)), some (.int (jI s)), some (.int (jI l)), none, none, none, none] [] E A K := by
  have hj := jlies_le hs
  have rm : jW m := ⟨by omega, by omega⟩
  have rl : jW l := ⟨by omega, by omega⟩
  have e6 : mw A m 6 = uw (mb A m) 6 := rfl
  refine vd_X7_canBe_0 m rm p ⟨by omega, by omega⟩ s ⟨by omega, by omega⟩ l rl E A K ⟨fun q => ⟨fun q2 => h0 ?_, fun q2 => k_lies hs (k_mword hb hm (by omega) ⟨⟨by omega, by omega⟩, fun q3 => ⟨fun q4 => ?_, fun q4 => ⟨⟨by omega, by omega⟩, fun q5 => h0 ?_, fun q5 => h1 ?_⟩⟩, fun q3 => h0 ?_⟩)⟩, fun q => h1 (.inl q)⟩
  · rintro (e | ⟨u1, -⟩) <;> omega
  · have ej : jlies s = s := if_neg (by omega)
    have h1' : uop (mb A m) p s s.toNat 0 0 = l → K 1 A := fun e => h1 (.inr ⟨q2, by omega, fun z => by omega, fun _ => e⟩)
    have h0' : uop (mb A m) p s s.toNat 0 0 ≠ l → K 0 A := fun e => h0 (by
      rintro (z | ⟨-, -, -, u4⟩)
      · omega
      · exact e (u4 q4))
    have key : ∀ (f : Nat) (a o : Int), 0 ≤ a → a ≤ s → s - a ≤ f → 0 ≤ o → o ≤ l → (uop (mb A m) p s f a o = l → K 1 A) → (uop (mb A m) p s f a o ≠ l → K 0 A) → jrI 144 62 [some (.ref 49), some (.int (jI m)), none, none, some (.int (jI l)), some (.int (jI (p + a))), some (.int (jI (p + s))), some (.int (jI o)), none] [] E A K := by
      intro f
      induction f with
      | zero =>
        intro a o a0 as sf o0 ol g1 g0
        have ea : a = s := by omega
        subst ea
        refine vd_X7_canBe_62 m rm l rl _ ⟨by omega, by omega⟩ _ ⟨by omega, by omega⟩ o ⟨by omega, by omega⟩ E A K ⟨fun _ => ⟨fun z => g0 ?_, fun z => g1 ?_⟩, fun z => by omega⟩
        · simp only [uop]; rw [if_pos trivial]; exact z
        · simp only [uop]; rw [if_pos trivial]; exact z
      | succ f ih =>
        intro a o a0 as sf o0 ol g1 g0
        refine vd_X7_canBe_62 m rm l rl _ ⟨by omega, by omega⟩ _ ⟨by omega, by omega⟩ o ⟨by omega, by omega⟩ E A K ⟨fun q => ⟨fun z => g0 ?_, fun z => g1 ?_⟩, fun q => ?_⟩
        · simp only [uop]; rw [if_pos (by omega), if_pos (by omega)]; exact z
        · simp only [uop]; rw [if_pos (by omega), if_pos (by omega)]; exact z
        simp only [uop] at g1 g0
        rw [if_neg (by omega)] at g1 g0
        have hb' := hb.u m (p + a)
        obtain ⟨j1, j2, j3, j4, j5, j6, j7⟩ := jpk hb'
        have ge := uop_ge (p := p) (s := s) (hb.u m) f (a + jpacket (mb A m (p + a))) (o + jopens (mb A m (p + a))) (by omega)
        have next : ∀ y z, y = p + (a + jpacket (mb A m (p + a))) → z = o + jopens (mb A m (p + a)) → jrI 144 132 [some (.ref 49), some (.int (jI m)), none, none, some (.int (jI l)), some (.int (jI y)), some (.int (jI (p + s))), some (.int (jI z)), none] [] E A K := fun y z ey ez => by
          subst ey ez
          refine vd_X7_canBe_132 m rm l rl _ ⟨by omega, by omega⟩ _ ⟨by omega, by omega⟩ _ ⟨by omega, by omega⟩ E A K ⟨fun q2 => g0 ?_, fun q2 => ⟨fun q3 => ih _ _ (by omega) (by omega) (by omega) (by omega) q2 g1 g0, fun q3 => g0 (fun e => ?_)⟩⟩
          · omega
          · have := uop_end e hl.1 (by omega); omega
        exact k_mbyteAt hm (by omega) ⟨fun q3 => ⟨fun q4 => next _ _ (by omega) (by omega), fun q4 => next _ _ (by omega) (by omega)⟩, fun q3 => next _ _ (by omega) (by omega)⟩
    have := key s.toNat 0 0 (by omega) (by omega) (by omega) (by omega) hl.1 h1' h0'
    rwa [Int.add_zero] at this
  · rintro (e | ⟨-, -, u3, -⟩)
    · omega
    · exact q5 (u3 q4)
  · exact .inr ⟨q2, by omega, fun _ => q5, fun z => by omega⟩
  · rintro (e | ⟨-, u2, -⟩)
    · omega
    · omega
/-- the sum of the bytes, each times its place -/
def usum (u : Int → Int) : Nat → Int
  | 0 => 0
  | k + 1 => usum u k + (if k = 16 ∨ k = 17 then 0 else u k * ((k : Int) + 1))
theorem usum_le {u : Int → Int} (hb : UB u) (k : Nat) (hk : k ≤ 6000) : 0 ≤ usum u k ∧ usum u k ≤ 1530000 * k := by
  induction k with
  | zero => simp [usum]
  | succ k ih =>
    have ih := ih (by omega)
    have hu := hb k
    simp only [usum]
    split
    · omega
    · have h1 : 0 ≤ u k * ((k : Int) + 1) := Int.mul_nonneg hu.1 (by omega)
      have h2 : u k * ((k : Int) + 1) ≤ 255 * 6000 := Int.mul_le_mul hu.2 (by omega) (by omega) (by omega)
      omega
theorem usum_congr {u v : Int → Int} {n : Nat} (h : ∀ x : Int, 0 ≤ x → x < n → u x = v x) : usum u n = usum v n := by
  induction n with
  | zero => rfl
  | succ n ih => simp only [usum]; rw [ih (fun x a b => h x a (by omega)), h n (by omega) (by omega)]
theorem k_sum {E : jE} {A : jA} {c : Nat} {u : Int → Int} {K : Int → jA → Prop} (h : IM A c) (hb : UB u) (hu : ∀ x, 0 ≤ x → x < A c 1 → A (c + 1) x = u x) (hn : A c 1 ≤ 6000) (hK : K (usum u (A c 1).toNat % 65521) A) : jrI 46 0 [some (.ref c), none, none, none] [] E A K := by
  obtain ⟨hc, h0, hN, -⟩ := h
  refine vd_X1_sum_0 c hc E A K ?_
  refine j_loop (P := fun i => 0 ≤ i → i ≤ A c 1 → jrI 46 4 [some (.ref c), some (.long (jJ (usum u i.toNat))), none, some (.int (jI i))] [] E A K) (A c 1) (fun i ih i0 i1 => ?_) 0 (by omega) h0
  have le := usum_le hb i.toNat (by omega)
  have hs : i < A c 1 → usum u (i + 1).toNat = usum u i.toNat + (if i = 16 ∨ i = 17 then 0 else A (c + 1) i * (i + 1)) := fun q => by
    rw [show (i + 1).toNat = i.toNat + 1 by omega]
    simp only [usum]
    rw [Int.toNat_of_nonneg i0, hu i i0 q]
    by_cases e : i = 16 ∨ i = 17
    · rw [if_pos e, if_pos (by omega)]
    · rw [if_neg e, if_neg (by omega)]
  refine vd_X1_sum_4 c hc _ i ⟨by omega, by omega⟩ E A K ⟨fun q => ?_, fun q => ⟨fun q2 => ?_, fun q2 => ⟨fun q3 => ?_, fun q3 => ?_⟩⟩⟩
  · have e : i = A c 1 := by omega
    rw [e] at le ⊢
    exact ⟨le.1, by omega, hK⟩
  · have := ih q (by omega) (by omega)
    rw [hs q, if_neg (by omega)] at this
    exact vd_X1_sum_24 c hc _ i ⟨by omega, by omega⟩ E A K ⟨⟨i0, by omega⟩, ⟨by omega, by omega⟩, vd_X1_sum_39 c hc _ i ⟨by omega, by omega⟩ E A K this⟩
  · have := ih q (by omega) (by omega)
    rw [hs q, if_pos (by omega), Int.add_zero] at this
    exact vd_X1_sum_39 c hc _ i ⟨by omega, by omega⟩ E A K this
  · have := ih q (by omega) (by omega)
    rw [hs q, if_neg (by omega)] at this
    exact vd_X1_sum_24 c hc _ i ⟨by omega, by omega⟩ E A K ⟨⟨i0, by omega⟩, ⟨by omega, by omega⟩, vd_X1_sum_39 c hc _ i ⟨by omega, by omega⟩ E A K this⟩
theorem k_sumOf {E : jE} {A : jA} {m : Int} {K : Int → jA → Prop} (hb : MB A) (hm : 0 ≤ m ∧ m ≤ 2) (hn : 0 ≤ A 59 m ∧ A 59 m ≤ 6000) (hK : K (usum (mb A m) (A 59 m).toNat % 65521) A) : jrI 201 0 [some (.ref 49), some (.int (jI m)), none, none, none] [] E A K := by
  have rm : jW m := ⟨by omega, by omega⟩
  refine vd_X7_sumOf_0 m rm E A K ?_
  refine j_loop (P := fun i => 0 ≤ i → i ≤ A 59 m → jrI 201 5 [some (.ref 49), some (.int (jI m)), some (.long (jJ (usum (mb A m) i.toNat))), none, some (.int (jI i))] [] E A K) (A 59 m) (fun i ih i0 i1 => ?_) 0 (by omega) hn.1
  have le := usum_le (hb.u m) i.toNat (by omega)
  have hs : i < A 59 m → usum (mb A m) (i + 1).toNat = usum (mb A m) i.toNat + (if i = 16 ∨ i = 17 then 0 else A 58 (6000 * m + i) * (i + 1)) := fun q9 => by
    rw [show (i + 1).toNat = i.toNat + 1 by omega]
    simp only [usum]
    rw [Int.toNat_of_nonneg i0]
    by_cases e : i = 16 ∨ i = 17
    · rw [if_pos e, if_pos (by omega)]
    · rw [if_neg e, if_neg (by omega)]; unfold mb; rw [if_pos (by omega)]
  have ri : jW i := ⟨by omega, by omega⟩
  refine vd_X7_sumOf_5 m rm _ i ri E A K ⟨by omega, fun q => ?_, fun q => ⟨fun q2 => ?_, fun q2 => ⟨fun q3 => ⟨by omega, ⟨by omega, by omega⟩, ?_⟩, fun q3 => ?_⟩⟩⟩
  · have e : i = A 59 m := by omega
    rw [e] at le ⊢
    exact ⟨le.1, by omega, hK⟩
  · have := ih q (by omega) (by omega)
    rw [hs q, if_pos (by omega)] at this
    exact vd_X7_sumOf_31 m rm i ri _ E A K (vd_X7_sumOf_55 m rm i ri _ _ E A K this)
  · have := ih q (by omega) (by omega)
    rw [hs q, if_neg (by omega)] at this
    exact vd_X7_sumOf_55 m rm i ri _ _ E A K this
  · have := ih q (by omega) (by omega)
    rw [hs q, if_pos (by omega)] at this
    exact vd_X7_sumOf_31 m rm i ri _ E A K (vd_X7_sumOf_55 m rm i ri _ _ E A K this)
