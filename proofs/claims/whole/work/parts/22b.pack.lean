/-- the class's packer holds a list -/
def kset (A : jA) (L : List Int) : jA := fun o j => if o = 22 ∧ j = 1 then L.length else if o = 23 ∧ 0 ≤ j ∧ j < L.length then L.getD j.toNat 0 else A o j
theorem kset_row {A : jA} {L : List Int} {o : Nat} (h1 : o ≠ 22) (h2 : o ≠ 23) : kset A L o = A o := by
  funext j; simp only [kset]; rw [if_neg (by omega), if_neg (by omega)]
theorem kset_n (A : jA) (L : List Int) : kset A L 22 1 = L.length := by simp [kset]
theorem kset_at {A : jA} {L : List Int} {j : Int} (h0 : 0 ≤ j) (h1 : j < L.length) : kset A L 23 j = L.getD j.toNat 0 := by
  simp only [kset]; rw [if_neg (by omega), if_pos ⟨trivial, h0, h1⟩]
theorem kset_nil (A : jA) : kset A [] = jup A 22 1 0 := by
  funext o j; simp only [kset, jup, List.length_nil]
  by_cases h : o = 22 ∧ j = 1
  · rw [if_pos h, if_pos h]; rfl
  · rw [if_neg h, if_neg h, if_neg (by omega)]
theorem kset_add (A : jA) (L : List Int) (v : Int) : jup (jup (kset A L) 23 L.length v) 22 1 (L.length + 1) = kset A (L ++ [v]) := by
  funext o j; simp only [jup, kset, List.length_append, List.length_cons, List.length_nil]
  by_cases h : o = 22 ∧ j = 1
  · rw [if_pos h, if_pos h]; omega
  · rw [if_neg h, if_neg h, if_neg h]
    by_cases h2 : o = 23
    · by_cases hj : j = L.length
      · rw [if_pos ⟨h2, hj⟩, if_pos ⟨h2, by omega, by omega⟩, hj, Int.toNat_natCast, jgetD_r (by omega), Nat.sub_self]; rfl
      · rw [if_neg (fun z => hj z.2)]
        by_cases hk : 0 ≤ j ∧ j < L.length
        · rw [if_pos ⟨h2, hk⟩, if_pos ⟨h2, by omega, by omega⟩, jgetD_l (by omega)]
        · rw [if_neg (fun z => hk z.2), if_neg (by omega)]
    · rw [if_neg (fun z => h2 z.1), if_neg (fun z => h2 z.1), if_neg (fun z => h2 z.1)]
theorem k_addPacked {E : jE} {A : jA} {L : List Int} {v : Int} (rv : jW v) (h : L.length < 33) {K : jA → Prop} (hK : K (kset A (L ++ [v]))) : jrV 88 0 [some (.ref 22), some (.int (jI v))] [] E (kset A L) K := by
  have e := kset_n A L
  refine vd_X4_addPacked_0 v rv E _ K ⟨fun q => by omega, fun q => ⟨by omega, fun A2 e2 => ?_⟩⟩
  rw [e] at e2
  have e22 : A2 22 1 = L.length := by rw [e2, jup_row (by decide)]; exact e
  rw [e22]
  refine ⟨⟨by omega, by omega⟩, fun A6 e6 => ?_⟩
  rw [e6, e2, kset_add]; exact hK
section KP
variable {E : jE} {a : Nat} {K : jA → Prop} {g : Int → Int} {from' l : Int}
/-- the bytes of a block within a row of the class -/
def BB (A : jA) (a : Nat) (p l : Int) (g : Int → Int) : Prop := jK a = 1 ∧ a ≠ 22 ∧ a ≠ 23 ∧ 0 ≤ p ∧ 1 ≤ l ∧ l ≤ 32 ∧ p + l ≤ jN a ∧ ∀ i, 0 ≤ i → i < l → A a (p + i) = g i
theorem BB.k {A : jA} {p : Int} (h : BB A a p l g) (L : List Int) : BB (kset A L) a p l g := by
  obtain ⟨h1, h2, h3, h4, h5, h6, h7, h8⟩ := h
  exact ⟨h1, h2, h3, h4, h5, h6, h7, by rw [kset_row h2 h3]; exact h8⟩
theorem k_isZero {A : jA} {p : Int} (h : BB A a p l g) {K : Int → jA → Prop} (h1 : sZ g l.toNat = 1 → K 1 A) (h0 : sZ g l.toNat ≠ 1 → K 0 A) : jrI 91 0 [some (.ref a), some (.int (jI p)), some (.int (jI l)), none] [] E A K := by
  obtain ⟨ha, b2, b3, b4, b5, b6, b7, b8⟩ := h
  have hN := jN_le a
  have rp : jW p := ⟨by omega, by omega⟩
  have rl : jW l := ⟨by omega, by omega⟩
  refine vd_X4_isZero_0 a ha p rp l rl E A K ?_
  refine j_loop (P := fun i => 0 ≤ i → i ≤ l → (∀ j, 0 ≤ j → j < i → g j = 0) → jrI 91 2 [some (.ref a), some (.int (jI p)), some (.int (jI l)), some (.int (jI i))] [] E A K) l (fun i ih i0 i1 hz => ?_) 0 (by omega) (by omega) (fun j x y => by omega)
  refine vd_X4_isZero_2 a ha p rp l rl i ⟨by omega, by omega⟩ E A K ⟨fun q => h1 ((sZ_iff _).mpr (fun j x y => hz j x (by omega))), fun q => ⟨by omega, ?_⟩⟩
  rw [b8 i i0 q]
  refine ⟨fun q2 => ih q (by omega) (by omega) (fun j x y => ?_), fun q2 => h0 (fun z => q2 ((sZ_iff _).mp z i i0 (by omega)))⟩
  by_cases e : j = i
  · rw [e]; exact q2
  · exact hz j x (by omega)
theorem k_runAt {A : jA} {p i : Int} (h : BB A a p l g) (i0 : 0 ≤ i) (i1 : i < l) {K : Int → jA → Prop} (hK : K (pRun g l i) A) : jrI 94 0 [some (.ref a), some (.int (jI (p + i))), some (.int (jI (p + l))), none] [] E A K := by
  obtain ⟨ha, b2, b3, b4, b5, b6, b7, b8⟩ := h
  have hN := jN_le a
  have rp : jW (p + i) := ⟨by omega, by omega⟩
  have rl : jW (p + l) := ⟨by omega, by omega⟩
  refine vd_X4_runAt_0 a ha _ rp _ rl E A K ?_
  have key : ∀ (f : Nat) (r : Int), 1 ≤ r → i + r ≤ l → l - i - r ≤ f → K (pRn g l i f r) A → jrI 94 2 [some (.ref a), some (.int (jI (p + i))), some (.int (jI (p + l))), some (.int (jI r))] [] E A K := by
    intro f
    induction f with
    | zero =>
      intro r r1 r2 r3 hk
      exact vd_X4_runAt_2 a ha _ rp _ rl r ⟨by omega, by omega⟩ E A K ⟨⟨by omega, by omega⟩, fun _ => hk, fun q => by omega⟩
    | succ f ih =>
      intro r r1 r2 r3 hk
      simp only [pRn] at hk
      refine vd_X4_runAt_2 a ha _ rp _ rl r ⟨by omega, by omega⟩ E A K ⟨⟨by omega, by omega⟩, fun q => by rwa [if_neg (by omega)] at hk, fun q => ⟨by omega, by omega, ?_⟩⟩
      rw [Int.add_assoc, b8 (i + r) (by omega) (by omega), b8 i i0 i1]
      exact ⟨fun q2 => by rwa [if_neg (fun z => q2 z.2)] at hk, fun q2 => ih (r + 1) (by omega) (by omega) (by omega) (by rwa [if_pos ⟨by omega, q2⟩] at hk)⟩
  exact key _ 1 (by omega) (by omega) (by omega) hK
theorem k_nextRun {A : jA} {p i : Int} (h : BB A a p l g) (i0 : 0 ≤ i) (i1 : i < l) {K : Int → jA → Prop} (hK : K (p + pNext g l i) A) : jrI 92 0 [some (.ref a), some (.int (jI (p + i))), some (.int (jI (p + l))), none] [] E A K := by
  obtain ⟨ha, b2, b3, b4, b5, b6, b7, b8⟩ := h
  have hN := jN_le a
  have rp : jW (p + i) := ⟨by omega, by omega⟩
  have rl : jW (p + l) := ⟨by omega, by omega⟩
  refine vd_X4_nextRun_0 a ha _ rp _ rl E A K ?_
  rw [Int.add_assoc]
  have key : ∀ (f : Nat) (j : Int), 0 ≤ j → j ≤ l → l - j ≤ f → K (p + pNx g l f j) A → jrI 92 4 [some (.ref a), none, some (.int (jI (p + l))), some (.int (jI (p + j)))] [] E A K := by
    intro f
    induction f with
    | zero =>
      intro j j0 j1 j2 hk
      exact vd_X4_nextRun_4 a ha _ rl _ ⟨by omega, by omega⟩ E A K ⟨⟨by omega, by omega⟩, fun _ => hk, fun q => by omega⟩
    | succ f ih =>
      intro j j0 j1 j2 hk
      simp only [pNx] at hk
      refine vd_X4_nextRun_4 a ha _ rl _ ⟨by omega, by omega⟩ E A K ⟨⟨by omega, by omega⟩, fun q => by rwa [if_pos (by omega)] at hk, fun q => ?_⟩
      rw [if_neg (by omega)] at hk
      rw [Int.add_assoc p j 1, Int.add_assoc p j 2, b8 j j0 (by omega), b8 (j + 1) (by omega) (by omega), b8 (j + 2) (by omega) (by omega)]
      have nx : ¬ (g j = g (j + 1) ∧ g j = g (j + 2)) → jrI 92 35 [some (.ref a), none, some (.int (jI (p + l))), some (.int (jI (p + j)))] [] E A K := fun hz => by
        rw [if_neg hz] at hk
        have := ih (j + 1) (by omega) (by omega) (by omega) hk
        rw [← Int.add_assoc] at this
        exact vd_X4_nextRun_35 a ha _ rl _ ⟨by omega, by omega⟩ E A K this
      exact ⟨by omega, by omega, fun q2 => nx (fun z => q2 z.1), fun q2 => ⟨by omega, by omega, fun q3 => nx (fun z => q3 z.2), fun q3 => by rwa [if_pos ⟨q2, q3⟩] at hk⟩⟩
  exact key _ (i + 1) (by omega) (by omega) (by omega) hK
theorem k_pack {A : jA} {p : Int} (h : BB A a p l g) (hg : ∀ i, 0 ≤ i → i < l → 0 ≤ g i ∧ g i ≤ 255) (hK : K (kset A (sPk g l))) : jrV 93 0 [some (.ref 22), some (.ref a), some (.int (jI p)), some (.int (jI (p + l))), none, none, none, none, none] [] E A K := by
  have h' := h
  obtain ⟨ha, b2, b3, b4, b5, b6, b7, b8⟩ := h
  have hN := jN_le a
  have rp : jW p := ⟨by omega, by omega⟩
  have rl : jW (p + l) := ⟨by omega, by omega⟩
  refine vd_X4_pack_0 a ha p rp _ rl E A K (fun A1 e1 => ?_)
  rw [e1, ← kset_nil]
  have key : ∀ (f : Nat) (i t : Int) (L : List Int), 0 ≤ i → i ≤ l → l - i ≤ f → 0 ≤ t → t ≤ i → (L.length : Int) + (pPk g l f i).length ≤ 33 → K (kset A (L ++ pPk g l f i)) → jrV 93 11 [some (.ref 22), some (.ref a), none, some (.int (jI (p + l))), some (.int (jI (p + i))), some (.int (jI (p + t))), none, none, none] [] E (kset A L) K := by
    intro f
    induction f with
    | zero =>
      intro i t L i0 i1 i2 t0 t1 hL hk
      have hk' : K (kset A L) := by rwa [show pPk g l 0 i = [] from rfl, List.append_nil] at hk
      exact vd_X4_pack_11 a ha _ rl _ ⟨by omega, by omega⟩ _ ⟨by omega, by omega⟩ E _ K ⟨fun _ => hk', fun q => ⟨fun _ => hk', fun q2 => by omega⟩⟩
    | succ f ih =>
      intro i t L i0 i1 i2 t0 t1 hL hk
      simp only [pPk] at hk hL
      refine vd_X4_pack_11 a ha _ rl _ ⟨by omega, by omega⟩ _ ⟨by omega, by omega⟩ E _ K ⟨fun q => by rw [if_pos (by omega), List.append_nil] at hk; exact hk, fun q => ⟨fun q2 => by rw [if_pos (by omega), List.append_nil] at hk; exact hk, fun q2 => ?_⟩⟩
      rw [if_neg (by omega)] at hk hL
      obtain ⟨a1, a2, a3, a4⟩ := pRun_le (g := g) (l := l) (i := i) (by omega)
      refine k_runAt (h'.k L) i0 (by omega) ⟨fun q3 => ?_, fun q3 => ?_⟩
      · rw [if_neg (by omega)] at hk hL
        obtain ⟨c1, c2, c3⟩ := pNext_le (g := g) (l := l) (i := i) (by omega)
        simp only [List.length_cons, List.length_append, pSeg_len] at hL
        refine k_nextRun (h'.k L) i0 (by omega) ?_
        rw [show p + pNext g l i - (p + i) - 1 = pNext g l i - i - 1 by omega]
        refine k_addPacked ⟨by omega, by omega⟩ (by omega) ?_
        -- the bytes as they are
        refine j_loop (P := fun j => i ≤ j → j ≤ pNext g l i → jrV 93 90 [some (.ref 22), some (.ref a), none, some (.int (jI (p + l))), none, some (.int (jI (p + t))), none, some (.int (jI (p + pNext g l i))), some (.int (jI (p + j)))] [] E (kset A (L ++ [pNext g l i - i - 1] ++ pSeg g i (j - i).toNat)) K) (pNext g l i) (fun j ih2 j0 j1 => ?_) i (by omega) (by omega) |> fun z => by rwa [show (i - i).toNat = 0 by omega, show pSeg g i 0 = [] from rfl, List.append_nil] at z
        refine vd_X4_pack_90 a ha _ rl _ ⟨by omega, by omega⟩ _ ⟨by omega, by omega⟩ _ ⟨by omega, by omega⟩ E _ K ⟨fun q4 => ?_, fun q4 => ⟨by omega, ?_⟩⟩
        · have ej : j = pNext g l i := by omega
          rw [ej]
          refine vd_X4_pack_115 a ha _ rl _ ⟨by omega, by omega⟩ _ ⟨by omega, by omega⟩ E _ K ?_
          have := ih (pNext g l i) (t + 1) (L ++ [pNext g l i - i - 1] ++ pSeg g i (pNext g l i - i).toNat) (by omega) c2 (by omega) (by omega) (by omega) (by simp only [List.length_append, List.length_cons, List.length_nil, pSeg_len]; omega) (by
            rw [show L ++ [pNext g l i - i - 1] ++ pSeg g i (pNext g l i - i).toNat ++ pPk g l f (pNext g l i) = L ++ (pNext g l i - i - 1) :: (pSeg g i (pNext g l i - i).toNat ++ pPk g l f (pNext g l i)) by simp]
            exact hk)
          rwa [← Int.add_assoc] at this
        · have hB := h'.k (L ++ [pNext g l i - i - 1] ++ pSeg g i (j - i).toNat)
          rw [hB.2.2.2.2.2.2.2 j (by omega) (by omega)]
          have hgj := hg j (by omega) (by omega)
          refine k_addPacked ⟨by omega, by omega⟩ (by simp only [List.length_append, List.length_cons, List.length_nil, pSeg_len]; omega) ?_
          have := ih2 (by omega) (by omega) (by omega)
          rw [show (j + 1 - i).toNat = (j - i).toNat + 1 by omega, pSeg_succ, ← List.append_assoc, show i + (((j - i).toNat : Nat) : Int) = j by omega] at this
          rwa [← Int.add_assoc] at this
      · rw [if_pos (by omega)] at hk hL
        simp only [List.length_cons] at hL
        refine k_addPacked ⟨by omega, by omega⟩ (by omega) ⟨by omega, ?_⟩
        have hB := h'.k (L ++ [257 - pRun g l i])
        rw [hB.2.2.2.2.2.2.2 i i0 (by omega)]
        have hgj := hg i i0 (by omega)
        refine k_addPacked ⟨by omega, by omega⟩ (by simp only [List.length_append, List.length_cons, List.length_nil]; omega) ?_
        refine vd_X4_pack_115 a ha _ rl _ ⟨by omega, by omega⟩ _ ⟨by omega, by omega⟩ E _ K ?_
        have := ih (i + pRun g l i) (t + 1) (L ++ [257 - pRun g l i] ++ [g i]) (by omega) a2 (by omega) (by omega) (by omega) (by simp only [List.length_append, List.length_cons, List.length_nil]; omega) (by
          rw [show L ++ [257 - pRun g l i] ++ [g i] ++ pPk g l f (i + pRun g l i) = L ++ (257 - pRun g l i) :: g i :: pPk g l f (i + pRun g l i) by simp]
          exact hk)
        rwa [← Int.add_assoc, ← Int.add_assoc] at this
  have hl := (pPk_len (g := g) (l := l) l.toNat 0 (by omega) (by omega)).1
  have := key l.toNat 0 0 [] (by omega) (by omega) (by omega) (by omega) (by omega) (by simp only [List.length_nil]; omega) (by rw [List.nil_append]; exact hK)
  rwa [Int.add_zero] at this
end KP
theorem jap_get {A : jA} {c : Nat} {L : List Int} {o : Nat} (h1 : o ≠ c) (h2 : o ≠ c + 1) : jap A c L o = A o := jap_row h1 h2
theorem k_pcopy {E : jE} {A : jA} {a c : Nat} {p : Int} {L : List Int} (ha : jK a = 1) (hc : jim c) (h1 : a ≠ c) (h2 : a ≠ c + 1) (p0 : 0 ≤ p) (hN : p + L.length ≤ jN a) (hL : ∀ k : Int, 0 ≤ k → k < L.length → A a (p + k) = L.getD k.toNat 0) (hb : ∀ x ∈ L, 0 ≤ x ∧ x ≤ 255) (l0 : 0 ≤ A c 1) (l1 : A c 1 + L.length ≤ jN (c + 1)) {K : jA → Prop} (hK : K (jap A c L)) : jrV 89 0 [some (.ref a), some (.int (jI p)), some (.int (jI L.length)), some (.ref c), none] [] E A K := by
  have hN' := jN_le a
  have rp : jW p := ⟨by omega, by omega⟩
  have rl : jW L.length := ⟨by omega, by omega⟩
  refine vd_X4_copy_0 a ha p rp _ rl c hc E A K ?_
  refine j_loop (P := fun i => 0 ≤ i → i ≤ L.length → jrV 89 3 [some (.ref a), some (.int (jI p)), some (.int (jI L.length)), some (.ref c), some (.int (jI i))] [] E (jap A c (L.take i.toNat)) K) L.length (fun i ih i0 i1 => ?_) 0 (by omega) (by omega) |> fun z => by rwa [show L.take (0 : Int).toNat = [] from rfl, jap_nil] at z
  have tl : (L.take i.toNat).length = i.toNat := by rw [List.length_take]; omega
  refine vd_X4_copy_3 a ha p rp _ rl c hc i ⟨by omega, by omega⟩ E _ K ⟨fun q => ?_, fun q => ⟨by omega, ?_⟩⟩
  · rw [show i.toNat = L.length by omega, List.take_length]; exact hK
  · rw [jap_get h1 h2, hL i i0 q]
    have hx := hb (L.getD i.toNat 0) (by rw [List.getD_eq_getElem?_getD, List.getElem?_eq_getElem (by omega)]; exact List.getElem_mem _)
    refine k_putByte hc ⟨by omega, by omega⟩ (by rw [jap_len]; omega) (by rw [jap_len, tl]; omega) ?_
    rw [jap_app, show L.getD i.toNat 0 % 256 = L.getD i.toNat 0 by omega]
    have := ih q (by omega) (by omega)
    rwa [show (i + 1).toNat = i.toNat + 1 by omega, List.take_succ_eq_append_getElem (by omega : i.toNat < L.length), show L[i.toNat] = L.getD i.toNat 0 by rw [List.getD_eq_getElem?_getD, List.getElem?_eq_getElem (by omega)]; rfl] at this
/-- the class has stored a list behind an image -/
def SB (A B : jA) (c : Nat) (L : List Int) : Prop := ∀ o, o ≠ 22 → o ≠ 23 → B o = jap A c L o
theorem jap_k {A : jA} {P L : List Int} {c : Nat} (hc : jim c) {o : Nat} (h1 : o ≠ 22) (h2 : o ≠ 23) : jap (kset A P) c L o = jap A c L o := by
  have e1 : kset A P c = A c := kset_row (by rcases hc with h | h | h | h | h <;> omega) (by rcases hc with h | h | h | h | h <;> omega)
  funext j; simp only [jap]
  rw [e1, kset_row h1 h2]
theorem k_store {E : jE} {A : jA} {a c : Nat} {p l : Int} {g : Int → Int} (h : BB A a p l g) (hg : ∀ i, 0 ≤ i → i < l → 0 ≤ g i ∧ g i ≤ 255) (hc : jim c) (h1 : a ≠ c) (h2 : a ≠ c + 1) (l0 : 0 ≤ A c 1) (l1 : A c 1 + l ≤ jN (c + 1)) {K : Int → jA → Prop} (hK : ∀ B, SB A B c (sBytes g l) → K (sSize g l) B) : jrI 95 0 [some (.ref 22), some (.ref a), some (.int (jI p)), some (.int (jI l)), some (.ref c)] [] E A K := by
  have h' := h
  obtain ⟨ha, b2, b3, b4, b5, b6, b7, b8⟩ := h
  have hN := jN_le a
  have hc2 : c ≠ 22 ∧ c ≠ 23 ∧ c + 1 ≠ 22 ∧ c + 1 ≠ 23 := by rcases hc with h | h | h | h | h <;> omega
  have hln := sBytes_len (g := g) (l := l) (by omega)
  refine vd_X4_store_0 a ha p ⟨by omega, by omega⟩ l ⟨by omega, by omega⟩ c hc E A K (k_isZero h' (fun hz => ⟨fun z => absurd z (by decide), fun _ => ?_⟩) (fun hz => ⟨fun _ => k_pack h' hg ?_, fun z => absurd rfl z⟩))
  · have e1 : sSize g l = 0 := by unfold sSize; rw [if_pos hz]
    have e2 : sBytes g l = [] := by unfold sBytes; rw [if_pos hz]
    rw [e1, e2] at hK
    exact hK A (fun o _ _ => by rw [jap_nil])
  · rw [kset_n]
    have kc : kset A (sPk g l) c 1 = A c 1 := by rw [kset_row hc2.1 hc2.2.1]
    refine ⟨fun q => ?_, fun q => ?_⟩
    · have e1 : sSize g l = (sPk g l).length := by unfold sSize; rw [if_neg hz, if_pos q]
      have e2 : sBytes g l = sPk g l := by unfold sBytes; rw [if_neg hz, if_pos q]
      rw [e1, e2] at hK
      refine k_pcopy (L := sPk g l) rfl hc (by omega) (by omega) (by omega) (by show (0 : Int) + ((sPk g l).length : Int) ≤ 33; omega) (fun k k0 k1 => by rw [Int.zero_add]; exact kset_at k0 k1) (pPk_b b6 hg _ 0 (by omega)) (by rw [kc]; exact l0) (by rw [kc]; omega) ?_
      have : jap (kset A (sPk g l)) c (sPk g l) 22 1 = (sPk g l).length := by rw [jap_get (by omega) (by omega), kset_n]
      rw [this]
      exact hK _ (fun o o1 o2 => jap_k hc o1 o2)
    · have e1 : sSize g l = 32768 + l := by unfold sSize; rw [if_neg hz, if_neg (by omega)]
      have e2 : sBytes g l = pSeg g 0 l.toNat := by unfold sBytes; rw [if_neg hz, if_neg (by omega)]
      rw [e1, e2] at hK
      have el : ((pSeg g 0 l.toNat).length : Int) = l := by rw [pSeg_len]; omega
      have key := k_pcopy (E := E) (A := kset A (sPk g l)) (a := a) (c := c) (p := p) (L := pSeg g 0 l.toNat) (K := fun A9 => jW (32768 + l) ∧ K (32768 + l) A9) ha hc h1 h2 b4 (by omega) (fun k k0 k1 => by rw [kset_row b2 b3, b8 k k0 (by omega), pSeg_get (by omega), Int.zero_add, Int.toNat_of_nonneg k0]) (fun x hx => by
        simp only [pSeg, List.mem_map, List.mem_range] at hx
        obtain ⟨k, hk, e⟩ := hx
        rw [← e]; exact hg _ (by omega) (by omega)) (by rw [kc]; exact l0) (by rw [kc, el]; exact l1) ⟨⟨by omega, by omega⟩, hK _ (fun o o1 o2 => jap_k hc o1 o2)⟩
      rwa [el] at key
