section KM3
variable {E : jE} {A : jA} {m n : Int} {K : Int → jA → Prop}
theorem k_named (h : MT A m n) (hR : RW (mb A m)) (hV : VAd (mb A m)) {t b : Int} (t1 : 1 ≤ t) (t2 : t ≤ uw (mb A m) 4) (hb' : b = 0 ∨ b = 1) (hK : K (if b = 0 then ucN (mb A m) t (uw (mb A m) 4).toNat else ucT (mb A m) t (uw (mb A m) 4).toNat) A) : jrI 183 0 [some (.ref 49), some (.int (jI m)), some (.int (jI (uw (mb A m) 4))), some (.int (jI t)), some (.int (jI b)), none, none, none, none] [] E A K := by
  obtain ⟨l1, l2, l3, l4, l5, l6, l7, l8⟩ := h.le
  have hMT := h
  obtain ⟨hb, hm, -⟩ := h
  have hu := hb.u m
  have rm : jW m := ⟨by omega, by omega⟩
  have r4 : jW (uw (mb A m) 4) := ⟨by omega, by omega⟩
  have rt : jW t := ⟨by omega, by omega⟩
  have rb : jW b := ⟨by omega, by omega⟩
  refine vd_X7_named_0 m rm _ r4 t rt b rb E A K ?_
  refine j_loop (P := fun k => 1 ≤ k → k ≤ uw (mb A m) 4 + 1 → jrI 183 6 [some (.ref 49), some (.int (jI m)), some (.int (jI (uw (mb A m) 4))), some (.int (jI t)), some (.int (jI b)), some (.int (jI (if b = 0 then ucN (mb A m) t (k - 1).toNat else ucT (mb A m) t (k - 1).toNat))), some (.int (jI k)), none, none] [] E A K) (uw (mb A m) 4 + 1) (fun k ih k0 k1 => ?_) 1 (by omega) (by omega) |> fun z => by
    have e : (if b = 0 then ucN (mb A m) t (1 - 1 : Int).toNat else ucT (mb A m) t (1 - 1 : Int).toNat) = 0 := by split <;> rfl
    rw [e] at z; exact z
  obtain ⟨s, es⟩ : ∃ s, s = (if b = 0 then ucN (mb A m) t (k - 1).toNat else ucT (mb A m) t (k - 1).toNat) := ⟨_, rfl⟩
  rw [← es]
  have nle := ucN_le hu t (k - 1).toNat
  have sle : 0 ≤ s ∧ s ≤ 65535 * 2000 := by rw [es]; split <;> omega
  have rs : jW s := ⟨by omega, by omega⟩
  have rk : jW k := ⟨by omega, by omega⟩
  have hs : (if b = 0 then ucN (mb A m) t (k + 1 - 1).toNat else ucT (mb A m) t (k + 1 - 1).toNat) = s + (if b = 0 ∨ uHome (mb A m) t = k then ucF (mb A m) t k else 0) := by
    rw [es, show (k + 1 - 1).toNat = (k - 1).toNat + 1 by omega]
    simp only [ucN, ucT]
    rw [show (((k - 1).toNat : Nat) : Int) + 1 = k by omega]
    by_cases e : b = 0
    · rw [if_pos e, if_pos e, if_pos (.inl e)]
    · rw [if_neg e, if_neg e]
      by_cases e2 : uHome (mb A m) t = k
      · rw [if_pos e2, if_pos (.inr e2)]
      · rw [if_neg e2, if_neg (by omega)]
  refine vd_X7_named_6 m rm _ r4 t rt b rb s rs k rk E A K ⟨fun q => ?_, fun q => ?_⟩
  · rw [es, show (k - 1).toNat = (uw (mb A m) 4).toNat by omega]; exact hK
  have skip : (if b = 0 ∨ uHome (mb A m) t = k then ucF (mb A m) t k else 0) = 0 → jrI 183 50 [some (.ref 49), some (.int (jI m)), some (.int (jI (uw (mb A m) 4))), some (.int (jI t)), some (.int (jI b)), some (.int (jI s)), some (.int (jI k)), none, none] [] E A K := fun hz => by
    refine vd_X7_named_50 m rm _ r4 t rt b rb s rs k rk E A K (vd_X7_named_51 m rm _ r4 t rt b rb s rs k rk 0 (by decide) E A K (vd_X7_named_56 m rm _ r4 t rt b rb s rs k rk 0 (by decide) 0 (by decide) E A K ⟨fun _ => vd_X7_named_108 m rm _ r4 t rt b rb s rs k rk E A K ?_, fun z => absurd rfl z⟩))
    have := ih (by omega) (by omega) (by omega)
    rwa [hs, hz, Int.add_zero] at this
  refine k_misFolder hMT hR k0 (by omega) (fun hk => ⟨fun z => absurd z (by decide), fun _ => ?_⟩) (fun hk => ⟨fun _ => skip ?_, fun z => absurd rfl z⟩)
  · obtain ⟨dd1, dd2, dd3, dd4⟩ := hV k k0 (by omega) hk
    have hM : 0 ≤ uMany (mb A m) k ∧ uMany (mb A m) k ≤ 65535 := uw_le hu _
    have hw := uw_le hu (uRow (mb A m) k + 6)
    have ra := hR.at hu l8 k0 (show k ≤ uw (mb A m) 4 by omega)
    have r12 := ra.2.2.2.2 (by omega)
    have go : (b = 0 ∨ uHome (mb A m) t = k) → jrI 183 46 [some (.ref 49), some (.int (jI m)), some (.int (jI (uw (mb A m) 4))), some (.int (jI t)), some (.int (jI b)), some (.int (jI s)), some (.int (jI k)), none, none] [] E A K := fun hh => by
      rw [if_pos hh] at hs
      have ecF : ucF (mb A m) t k = jcnt (uNum (mb A m) k) t (uMany (mb A m) k).toNat := by unfold ucF; rw [if_pos hk]
      refine vd_X7_named_46 m rm _ r4 t rt b rb s rs k rk E A K (vd_X7_named_51 m rm _ r4 t rt b rb s rs k rk 1 (by decide) E A K ?_)
      have key := j_loop (P := fun i => 0 ≤ i → i ≤ uMany (mb A m) k → jrI 183 56 [some (.ref 49), some (.int (jI m)), some (.int (jI (uw (mb A m) 4))), some (.int (jI t)), some (.int (jI b)), some (.int (jI (s + jcnt (uNum (mb A m) k) t i.toNat))), some (.int (jI k)), some (.int (jI 1)), some (.int (jI i))] [] E A K) (uMany (mb A m) k) (fun i ih2 i0 i1 => by
        have jle := jcnt_le (uNum (mb A m) k) t i.toNat
        have rsi : jW (s + jcnt (uNum (mb A m) k) t i.toNat) := ⟨by omega, by omega⟩
        have ri : jW i := ⟨by omega, by omega⟩
        have fin : uMany (mb A m) k ≤ i → jrI 183 108 [some (.ref 49), some (.int (jI m)), some (.int (jI (uw (mb A m) 4))), some (.int (jI t)), some (.int (jI b)), some (.int (jI (s + jcnt (uNum (mb A m) k) t i.toNat))), some (.int (jI k)), none, none] [] E A K := fun q2 => by
          refine vd_X7_named_108 m rm _ r4 t rt b rb _ rsi k rk E A K ?_
          have := ih (by omega) (by omega) (by omega)
          rwa [hs, ecF, show uMany (mb A m) k = i by omega] at this
        refine vd_X7_named_56 m rm _ r4 t rt b rb _ rsi k rk 1 (by decide) i ri E A K ⟨fun z => absurd z (by decide), fun _ => k_rmany hMT hR k0 (by omega) hk ⟨fin, fun q2 => ?_⟩⟩
        refine vd_X7_firstOf_0 m rm k rk E A _ (k_inode hb hm ⟨k0, by rw [mw_eq]; omega⟩ ?_)
        rw [show mRow A m k = uRow (mb A m) k from rfl]
        refine k_mword hb hm (by omega) ?_
        rw [mw_eq]
        refine ⟨hw.1, ⟨by omega, by omega⟩, ?_⟩
        refine vd_X7_numberAt_0 m rm _ ⟨by omega, by omega⟩ E A _ (k_mword hb hm (by omega) ?_)
        rw [mw_eq, show uw (mb A m) 8 + 4 * (uw (mb A m) (uRow (mb A m) k + 6) / 4 + i) + 2 = uw (mb A m) 8 + uw (mb A m) (uRow (mb A m) k + 6) + 4 * i + 2 by omega]
        refine k_mword hb hm (by omega) ?_
        rw [mw_eq, show uw (mb A m) (uw (mb A m) 8 + uw (mb A m) (uRow (mb A m) k + 6) + 4 * i + 2) = uNum (mb A m) k i from rfl]
        have st : jcnt (uNum (mb A m) k) t (i + 1).toNat = jcnt (uNum (mb A m) k) t i.toNat + (if uNum (mb A m) k i = t then 1 else 0) := by
          rw [show (i + 1).toNat = i.toNat + 1 by omega]; simp only [jcnt]; rw [Int.toNat_of_nonneg i0]
        have nx := ih2 q2 (by omega) (by omega)
        rw [st] at nx
        refine ⟨fun q3 => ?_, fun q3 => ?_⟩
        · rw [if_neg q3] at nx
          refine vd_X7_named_99 m rm _ r4 t rt b rb k rk 1 (by decide) i ri 0 (by decide) _ rsi E A K ?_
          rwa [Int.add_zero] at nx ⊢
        · rw [if_pos q3] at nx
          refine vd_X7_named_99 m rm _ r4 t rt b rb k rk 1 (by decide) i ri 1 (by decide) _ rsi E A K ?_
          rwa [← Int.add_assoc] at nx) 0 (by omega) hM.1
      rwa [show s + jcnt (uNum (mb A m) k) t (0 : Int).toNat = s by show s + 0 = s; omega] at key
    refine ⟨fun q2 => go (.inl q2), fun q2 => ?_⟩
    have rat := hR.at hu l8 t1 t2
    refine k_inode hb hm ⟨t1, by rw [mw_eq]; omega⟩ ?_
    rw [show mRow A m t = uRow (mb A m) t from rfl]
    refine k_mword hb hm (by omega) ?_
    rw [mw_eq]
    refine ⟨fun q3 => skip (by rw [if_neg (by unfold uHome; omega)]), fun q3 => go (.inr q3)⟩
  · unfold ucF; rw [if_neg hk]; split <;> rfl
theorem k_misTree (h : MT A m n) (hR : RW (mb A m)) (hV : VAd (mb A m)) (h1 : H7m (mb A m) → K 1 A) (h0 : ¬ H7m (mb A m) → K 0 A) : jrI 170 0 [some (.ref 49), some (.int (jI m)), some (.int (jI (uw (mb A m) 4))), none, none, none, none] [] E A K := by
  obtain ⟨l1, l2, l3, l4, l5, l6, l7, l8⟩ := h.le
  have hMT := h
  obtain ⟨hb, hm, -⟩ := h
  have hu := hb.u m
  have rm : jW m := ⟨by omega, by omega⟩
  have r4 : jW (uw (mb A m) 4) := ⟨by omega, by omega⟩
  have ra1 := hR.at hu l8 (show (1 : Int) ≤ 1 by omega) l6
  refine vd_X7_isTree_0 m rm _ r4 E A K (k_inode hb hm ⟨by omega, by rw [mw_eq]; omega⟩ ?_)
  rw [show mRow A m 1 = uRow (mb A m) 1 from rfl]
  refine k_mbyteAt hm (by omega) ⟨fun q => h0 (fun z => q z.1.1), fun q1 => k_mbyteAt hm (by omega) ⟨fun q => h0 (fun z => q z.1.2.1), fun q2 => k_mword hb hm (by omega) ?_⟩⟩
  rw [mw_eq]
  refine ⟨fun q => h0 (fun z => q z.1.2.2), fun q3 => ?_⟩
  have hT : T7 (mb A m) := ⟨q1, q2, q3⟩
  refine k_named hMT hR hV (by omega) l6 (.inl rfl) ?_
  rw [if_pos rfl]
  refine ⟨fun q4 => ?_, fun q4 => h0 (fun z => by have := z.2.1; omega)⟩
  refine j_loop (P := fun k => 2 ≤ k → k ≤ uw (mb A m) 4 + 1 → (∀ k', 2 ≤ k' → k' < k → N7 (mb A m) k' ∧ (uKind (mb A m) k' = 1 → ucT (mb A m) k' (uw (mb A m) 4).toNat = 1)) → jrI 170 58 [some (.ref 49), some (.int (jI m)), some (.int (jI (uw (mb A m) 4))), none, some (.int (jI k)), none, none] [] E A K) (uw (mb A m) 4 + 1) (fun k ih k0 k1 hN => ?_) 2 (by omega) (by omega) (fun k' a b => by omega)
  have rk : jW k := ⟨by omega, by omega⟩
  refine vd_X7_isTree_58 m rm _ r4 k rk E A K ⟨fun q5 => ?_, fun q5 => ?_⟩
  · -- the ways to the first
    have hN' : ∀ k', 2 ≤ k' → k' ≤ uw (mb A m) 4 → N7 (mb A m) k' ∧ (uKind (mb A m) k' = 1 → ucT (mb A m) k' (uw (mb A m) 4).toNat = 1) := fun k' a b => hN k' a (by omega)
    have hG : GH (mb A m) := GH.m hu hT (fun k' a b => (hN' k' a b).2)
    refine j_loop (P := fun k => 2 ≤ k → k ≤ uw (mb A m) 4 + 1 → (∀ k', 2 ≤ k' → k' < k → uKind (mb A m) k' = 1 → ∃ j : Nat, (j : Int) ≤ uw (mb A m) 4 + 1 ∧ uhi (mb A m) k' j = 1) → jrI 170 156 [some (.ref 49), some (.int (jI m)), some (.int (jI (uw (mb A m) 4))), none, some (.int (jI k)), none, none] [] E A K) (uw (mb A m) 4 + 1) (fun k ih k0 k1 hC => ?_) 2 (by omega) (by omega) (fun k' a b => by omega)
    have rk : jW k := ⟨by omega, by omega⟩
    refine vd_X7_isTree_156 m rm _ r4 k rk E A K ⟨fun q6 => h1 ⟨hT, q4, hN', fun k' a b => hC k' a (by omega)⟩, fun q6 => ?_⟩
    have on : (uKind (mb A m) k = 1 → ∃ j : Nat, (j : Int) ≤ uw (mb A m) 4 + 1 ∧ uhi (mb A m) k j = 1) → jrI 170 232 [some (.ref 49), some (.int (jI m)), some (.int (jI (uw (mb A m) 4))), none, some (.int (jI k)), none, none] [] E A K := fun hc => vd_X7_isTree_232 m rm _ r4 k rk E A K (ih (by omega) (by omega) (by omega) (fun k' a b => by
      by_cases e : k' = k
      · subst e; exact hc
      · exact hC k' a (by omega)))
    -- one way
    refine j_loop (P := fun s => ∀ a, 0 ≤ s → s ≤ uw (mb A m) 4 + 1 → (uKind (mb A m) k = 1 → a = uhi (mb A m) k s.toNat ∧ ∀ j : Nat, (j : Int) < s → uhi (mb A m) k j ≠ 1) → (uKind (mb A m) k ≠ 1 → a = k) → jrI 170 169 [some (.ref 49), some (.int (jI m)), some (.int (jI (uw (mb A m) 4))), none, some (.int (jI k)), some (.int (jI a)), some (.int (jI s))] [] E A K) (uw (mb A m) 4 + 1) (fun s ih2 a s0 s1 ha hk' => ?_) 0 k (by omega) (by omega) (fun _ => ⟨rfl, fun j z => by omega⟩) (fun _ => rfl)
    have ale : 1 ≤ a ∧ a ≤ uw (mb A m) 4 ∧ (uKind (mb A m) k = 1 → uKind (mb A m) a = 1) := by
      by_cases hk : uKind (mb A m) k = 1
      · obtain ⟨c1, c2⟩ := ha hk
        have := uhi_in hG (show 1 ≤ k by omega) q6 hk s.toNat
        rw [← c1] at this
        exact ⟨this.1, this.2.1, fun _ => this.2.2⟩
      · rw [hk' hk]; exact ⟨by omega, q6, fun z => absurd z hk⟩
    have raa : jW a := ⟨by omega, by omega⟩
    have rs : jW s := ⟨by omega, by omega⟩
    have fin : (a = 1 ∨ uKind (mb A m) k ≠ 1 ∨ uw (mb A m) 4 < s) → jrI 170 214 [some (.ref 49), some (.int (jI m)), some (.int (jI (uw (mb A m) 4))), none, some (.int (jI k)), some (.int (jI a)), none] [] E A K := fun hf => by
      refine vd_X7_isTree_214 m rm _ r4 k rk a raa E A K (k_misFolder hMT hR (by omega) q6 (fun hk => ⟨fun z => absurd z (by decide), fun _ => ⟨fun e => on (fun _ => ⟨s.toNat, by omega, by rw [← (ha hk).1]; exact e⟩), fun e => h0 (fun z => ?_)⟩⟩) (fun hk => ⟨fun _ => on (fun z => absurd z hk), fun z => absurd rfl z⟩))
      obtain ⟨j, j1, j2⟩ := z.2.2.2 k k0 q6 hk
      obtain ⟨c1, c2⟩ := ha hk
      by_cases ej : (j : Int) = s
      · rw [show j = s.toNat by omega, ← c1] at j2; exact e j2
      · refine c2 j ?_ j2
        rcases hf with e' | e' | e'
        · exact absurd e' e
        · exact absurd hk e'
        · omega
    refine vd_X7_isTree_169 m rm _ r4 k rk a raa s rs E A K ⟨fun q7 => fin (.inr (.inr q7)), fun q7 => ⟨fun q8 => fin (.inl q8), fun q8 => k_misFolder hMT hR (by omega) q6 (fun hk => ⟨fun z => absurd z (by decide), fun _ => ?_⟩) (fun hk => ⟨fun _ => fin (.inr (.inl hk)), fun z => absurd rfl z⟩)⟩⟩
    have raR := hR.at hu l8 ale.1 ale.2.1
    refine k_inode hb hm ⟨ale.1, by rw [mw_eq]; omega⟩ ?_
    rw [show mRow A m a = uRow (mb A m) a from rfl]
    refine k_mword hb hm (by omega) ?_
    rw [mw_eq]
    obtain ⟨c1, c2⟩ := ha hk
    refine ih2 (by omega) _ (by omega) (by omega) (fun _ => ⟨?_, fun j hj => ?_⟩) (fun z => absurd hk z)
    · rw [show (s + 1).toNat = s.toNat + 1 by omega]
      show uHome (mb A m) a = uHome (mb A m) (uhi (mb A m) k s.toNat)
      rw [← c1]
    · by_cases ej : (j : Int) = s
      · rw [show j = s.toNat by omega, ← c1]; exact q8
      · exact c2 j (by omega)
  · have ra := hR.at hu l8 (show 1 ≤ k by omega) q5
    have nle := ucN_le hu k (uw (mb A m) 4).toNat
    refine k_named hMT hR hV (by omega) q5 (.inl rfl) ?_
    rw [if_pos rfl]
    refine k_inode hb hm ⟨by omega, by rw [mw_eq]; omega⟩ ?_
    rw [show mRow A m k = uRow (mb A m) k from rfl]
    refine ⟨fun q6 => h0 (fun z => (z.2.2.1 k k0 q5).1.1 q6), fun q6 => k_mbyteAt hm (by omega) ⟨fun q7 => h0 (fun z => q7 (z.2.2.1 k k0 q5).1.2.1), fun q7 => k_mbyteAt hm (by omega) ?_⟩⟩
    have on : (uKind (mb A m) k ≠ 2 → ucN (mb A m) k (uw (mb A m) 4).toNat ≤ 1) → jrI 170 122 [some (.ref 49), some (.int (jI m)), some (.int (jI (uw (mb A m) 4))), none, some (.int (jI k)), none, none] [] E A K := fun hn => by
      have next : (uKind (mb A m) k = 1 → ucT (mb A m) k (uw (mb A m) 4).toNat = 1) → jrI 170 147 [some (.ref 49), some (.int (jI m)), some (.int (jI (uw (mb A m) 4))), none, some (.int (jI k)), none, none] [] E A K := fun hc => vd_X7_isTree_147 m rm _ r4 k rk E A K (ih (by omega) (by omega) (by omega) (fun k' a b => by
        by_cases e : k' = k
        · subst e; exact ⟨⟨q6, q7, hn⟩, hc⟩
        · exact hN k' a (by omega)))
      refine vd_X7_isTree_122 m rm _ r4 k rk E A K (k_misFolder hMT hR (by omega) q5 (fun hk => ⟨fun z => absurd z (by decide), fun _ => k_named hMT hR hV (by omega) q5 (.inr rfl) ?_⟩) (fun hk => ⟨fun _ => next (fun z => absurd z hk), fun z => absurd rfl z⟩))
      rw [if_neg (by decide)]
      exact ⟨fun q8 => next (fun _ => q8), fun q8 => h0 (fun z => q8 ((z.2.2.1 k k0 q5).2 hk))⟩
    refine ⟨fun q8 => on (fun z => absurd q8 z), fun q8 => ⟨fun q9 => on (fun _ => q9), fun q9 => h0 (fun z => ?_)⟩⟩
    have := (z.2.2.1 k k0 q5).1.2.2 q8
    omega
end KM3
