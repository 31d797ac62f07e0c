section KR
variable {E : jE} {A B : jA} {b : Int}
/-- the class's tables once the tails are put; its image ends at p -/
def CR2 (A B : jA) (b : Int) : Prop := CB A B ∧ (∀ j, 1 ≤ j → j ≤ bN A → B 26 j = tw A j ∧ B 29 j = tI A b j ∧ B 30 j = tO A b j) ∧ (∀ j, 1 ≤ j → j ≤ bN A → A 3 (bd A j) = 2 → tw A j = 0 → B 27 j = bBeg A b j ∧ ∀ i, 0 ≤ i → i < bW A b j → B 28 (j * 12 + i) = sSize (bG A b (bd A j) i) b)
theorem CR2.fr {C : jA} (h : CR2 A B b) (h1 : ∀ o, 2 ≤ o → o ≤ 30 → ¬ (12 ≤ o ∧ o ≤ 23) → C o = B o) (h21 : C 21 13 = B 21 13) : CR2 A C b := by
  obtain ⟨a1, a2, a3⟩ := h
  refine ⟨a1.fr (fun o x y => h1 o x (by omega) (by omega)) h21 (h1 24 (by decide) (by decide) (by decide)) (h1 25 (by decide) (by decide) (by decide)), ?_, ?_⟩
  · rw [h1 26 (by decide) (by decide) (by decide), h1 29 (by decide) (by decide) (by decide), h1 30 (by decide) (by decide) (by decide)]; exact a2
  · rw [h1 27 (by decide) (by decide) (by decide), h1 28 (by decide) (by decide) (by decide)]; exact a3
theorem CR2.jap {c : Nat} (hc : jim c) {L : List Int} (h : CR2 A B b) : CR2 A (jap B c L) b := by
  have hcc : c = 13 ∨ c = 15 ∨ c = 17 ∨ c = 19 ∨ c = 47 := hc
  exact h.fr (fun o x y z => jap_row (by omega) (by omega)) (by rw [jap_row (by omega) (by omega)])
theorem w16 {w : Int} (h : 0 ≤ w ∧ w ≤ 65535) : jW w := ⟨by omega, by omega⟩
/-- numbers that are told of a file -/
theorem told_rng (T : TR A) (hb : b = 8 ∨ b = 16 ∨ b = 32) {k : Int} (k1 : 1 ≤ k) (k2 : k ≤ bN A) : 0 ≤ bBeg A b k ∧ bBeg A b k ≤ 4000 ∧ 0 ≤ tI A b k ∧ tI A b k ≤ 32 ∧ 0 ≤ tO A b k ∧ tO A b k ≤ 32 := by
  have nl := bN_le T
  have h := bL_le T hb k.toNat (by omega) (by omega)
  have tl := tLen_nn (tS A b k.toNat).1
  have hp : ((bL A b (k - 1).toNat).length : Int) ≤ 3100 := by
    have eL := bL_at (A := A) (b := b) k1
    rw [eL, List.length_append] at h
    omega
  refine ⟨?_, ?_, ?_, ?_, ?_, ?_⟩
  · unfold bBeg; split <;> omega
  · unfold bBeg; split <;> omega
  · unfold tI; split <;> omega
  · unfold tI; split <;> omega
  · unfold tO
    split
    · rename_i q
      have eS := tS_at (A := A) (b := b) k1
      rw [if_pos ⟨q.1, q.2.1⟩] at eS
      rw [eS]
      split
      · dsimp only; omega
      · dsimp only; rw [List.length_append]; omega
    · omega
  · unfold tO; split <;> omega
theorem k_putFileRow (T : TR A) (hb : b = 8 ∨ b = 16 ∨ b = 32) {k : Int} (k1 : 1 ≤ k) (k2 : k ≤ bN A) (hk : A 3 (bd A k) = 2) (h : CR2 A B b) {c : Nat} (hc : jim c) (l0 : 0 ≤ B c 1) (l1 : B c 1 + 6 + 2 * bW A b k ≤ jN (c + 1)) {K : jA → Prop} (hK : K (jap B c (jw2 (A 8 (bd A k)) ++ jw2 (bBeg A b (told A k)) ++ [tI A b (told A k)] ++ [tO A b (told A k)] ++ szL A b (told A k) (bW A b k).toNat))) : jrV 13 0 [some (.ref 21), some (.int (jI k)), some (.int (jI (A 8 (bd A k)))), some (.int (jI b)), some (.ref c), none, none, none] [] E B K := by
  have nl := bN_le T
  obtain ⟨d0, d1, d2⟩ := bd_le T k1 k2
  obtain ⟨z1, z2, z3, z4, -⟩ := file_sz T hb d0 d1
  obtain ⟨t1, t2, t3, t4⟩ := told_le (A := A) k1
  obtain ⟨t5, t6⟩ := t4 hk
  have hcc : c = 13 ∨ c = 15 ∨ c = 17 ∨ c = 19 ∨ c = 47 := hc
  have rk : jW k := ⟨by omega, by omega⟩
  have rb : jW b := ⟨by omega, by omega⟩
  have rs : jW (A 8 (bd A k)) := ⟨by omega, by omega⟩
  have bw : 0 ≤ bW A b k ∧ bW A b k ≤ 12 := ⟨z3, z4⟩
  have bws : bW A b (told A k) = bW A b k := by unfold bW; rw [t6]
  obtain ⟨r1, r2, r3, r4, r5, r6⟩ := told_rng T hb t1 (show told A k ≤ bN A by omega)
  generalize hs : told A k = s at *
  have main : jrV 13 19 [some (.ref 21), none, some (.int (jI (A 8 (bd A k)))), some (.int (jI b)), some (.ref c), none, none, none] [.int (jI s)] E B K := by
    refine vd_X0_putFileRow_19 _ rs b rb c hc s ⟨by omega, by omega⟩ E B K (vd_X0_wholeBlocks_0 _ rs b rb E B _ ⟨fun _ => ⟨z1, by omega, ⟨by omega, by omega⟩, ?_⟩, fun z => by omega⟩)
    have hB : ∀ L, CR2 A (jap B c L) b := fun L => h.jap hc
    refine k_putWord hc rs l0 (by omega) ⟨by omega, ?_⟩
    rw [((hB _).2.2 s t1 (by omega) t5 t3).1]
    refine k_putWord hc ⟨by omega, by omega⟩ (by rw [jap_len]; omega) (by rw [jap_len, jw2_len]; omega) ?_
    rw [jap_app]
    refine ⟨by omega, ?_⟩
    rw [((hB _).2.1 s t1 (by omega)).2.1]
    refine k_putByte hc ⟨by omega, by omega⟩ (by rw [jap_len]; omega) (by rw [jap_len]; simp only [List.length_append, jw2_len]; omega) ?_
    rw [jap_app, show tI A b s % 256 = tI A b s by omega]
    refine ⟨by omega, ?_⟩
    rw [((hB _).2.1 s t1 (by omega)).2.2]
    refine k_putByte hc ⟨by omega, by omega⟩ (by rw [jap_len]; omega) (by rw [jap_len]; simp only [List.length_append, jw2_len, List.length_cons, List.length_nil]; omega) ?_
    rw [jap_app, show tO A b s % 256 = tO A b s by omega]
    generalize hL0 : jw2 (A 8 (bd A k)) ++ jw2 (bBeg A b s) ++ [tI A b s] ++ [tO A b s] = L0 at hK ⊢
    have l6 : L0.length = 6 := by rw [← hL0]; rfl
    refine j_loop (P := fun i => 0 ≤ i → i ≤ bW A b k → jrV 13 73 [some (.ref 21), none, none, none, some (.ref c), some (.int (jI s)), some (.int (jI (A 8 (bd A k) / b))), some (.int (jI i))] [] E (jap B c (L0 ++ szL A b s i.toNat)) K) (bW A b k) (fun i ih i0 i1 => ?_) 0 (by omega) bw.1 |> fun z => by rwa [show szL A b s (0 : Int).toNat = [] from rfl, List.append_nil] at z
    refine vd_X0_putFileRow_73 c hc s ⟨by omega, by omega⟩ _ ⟨by omega, by omega⟩ i ⟨by omega, by omega⟩ E _ K ⟨fun q => ?_, fun q => ⟨by omega, ?_⟩⟩
    · have ei : i = bW A b k := by have : A 8 (bd A k) / b = bW A b k := rfl; omega
      rw [ei]; exact hK
    · have q' : i < bW A b s := by rw [bws]; exact q
      rw [((hB (L0 ++ szL A b s i.toNat)).2.2 s t1 (by omega) t5 t3).2 i i0 q']
      have hz := sSize_le (g := bG A b (bd A s) i) (l := b) (by omega)
      refine k_putWord hc ⟨by omega, by omega⟩ (by rw [jap_len]; omega) (by rw [jap_len, List.length_append, szL_len, l6]; omega) ?_
      rw [jap_app, List.append_assoc]
      have := ih q (by omega) (by omega)
      rw [show (i + 1).toNat = i.toNat + 1 by omega] at this
      simp only [szL] at this
      rwa [Int.toNat_of_nonneg i0] at this
  refine vd_X0_putFileRow_0 k rk _ rs b rb c hc E B K ⟨by omega, ?_⟩
  rw [(h.2.1 k k1 k2).1]
  unfold told at hs
  refine ⟨fun q => ⟨by omega, ?_⟩, fun q => ?_⟩
  · rw [if_neg q] at hs; rw [hs]; exact main
  · rw [if_pos q] at hs; subst hs; exact main
/-- the rows -/
theorem k_putInodes (T : TR A) (hb : b = 8 ∨ b = 16 ∨ b = 32) {X : jA} (h : CR2 A X b) {c : Nat} (hc : jim c) (hN : (jN (c + 1) : Int) = 5581) {p : Int} (hp : X c 1 = p) (p0 : 0 ≤ p) (p1 : p + 1128 ≤ 5581) {K : jA → Prop} (hK : ∀ B, (∀ o, o ≠ 31 → B o = jap X c (iL A b (bN A).toNat) o) → (∀ k, 1 ≤ k → k ≤ bN A → B 31 k = ((iL A b (k - 1).toNat).length : Int)) → K B) : jrV 16 0 [some (.ref 21), some (.ref 2), some (.int (jI b)), some (.ref c), none, none, none, none, none] [] E X K := by
  have nl := bN_le T
  have rb : jW b := ⟨by omega, by omega⟩
  have hcc : c = 13 ∨ c = 15 ∨ c = 17 ∨ c = 19 ∨ c = 47 := hc
  have hN' := iL_le T hb (bN A).toNat (by omega) (by omega)
  have mono : ∀ (d k : Nat), (iL A b k).length ≤ (iL A b (k + d)).length := by
    intro d
    induction d with
    | zero => intro k; exact Nat.le_refl _
    | succ d ih => intro k; rw [← Nat.add_assoc]; simp only [iL, List.length_append]; have := ih k; omega
  refine vd_X0_putInodes_0 b rb c hc E X K ?_
  rw [hp]
  refine j_loop (P := fun k => ∀ B : jA, 1 ≤ k → k ≤ bN A + 1 → (∀ o, o ≠ 31 → B o = jap X c (iL A b (k - 1).toNat) o) → (∀ j, 1 ≤ j → j < k → B 31 j = ((iL A b (j - 1).toNat).length : Int)) → jrV 16 12 [some (.ref 21), some (.ref 2), some (.int (jI b)), some (.ref c), some (.int (jI p)), some (.int (jI (4 * bef A (k - 1).toNat))), some (.int (jI k)), none, none] [] E B K) (bN A + 1) (fun k ih B k1 k2 h1 h31 => ?_) 1 X (by omega) (by omega) (fun o _ => by rw [show iL A b (1 - 1 : Int).toNat = [] from rfl, jap_nil]) (fun j a c => by omega) |> fun z => by rwa [show 4 * bef A (1 - 1 : Int).toNat = 0 from rfl] at z
  have rk : jW k := ⟨by omega, by omega⟩
  have bl := bef_le T (k - 1).toNat (by omega)
  have r5 : jW (4 * bef A (k - 1).toNat) := ⟨by omega, by omega⟩
  have rp : jW p := ⟨by omega, by omega⟩
  have hB : CR2 A B b := (h.jap (c := c) hc (L := iL A b (k - 1).toNat)).fr (fun o x y z => h1 o (by omega)) (by rw [h1 21 (by decide)])
  have bc1 : B c 1 = p + (iL A b (k - 1).toNat).length := by rw [h1 c (by omega), jap_len, hp]
  refine vd_X0_putInodes_12 b rb c hc p rp _ r5 k rk E B K ?_
  rw [hB.1.2.1]
  refine ⟨fun q => ?_, fun q => ?_⟩
  · have ek : (k - 1).toNat = (bN A).toNat := by omega
    rw [ek] at h1
    exact hK B h1 (fun j a c => h31 j a (by omega))
  obtain ⟨d0, d1, d2⟩ := bd_le T k1 q
  have sx := T.2.1 _ d0 d1
  have lr := iR_len T hb k1 q
  have eI := iL_at (A := A) (b := b) k1
  have mN := mono ((bN A).toNat - k.toNat) k.toNat
  rw [show k.toNat + ((bN A).toNat - k.toNat) = (bN A).toNat by omega, eI, List.length_append] at mN
  rw [bc1, hB.1.2.2.2 k k1 q, show p + ((iL A b (k - 1).toNat).length : Int) - p = (iL A b (k - 1).toNat).length by omega]
  refine ⟨by omega, ⟨by omega, by omega⟩, by omega, fun A4 e4 => ⟨by omega, ?_⟩⟩
  have q4 : ∀ o, o ≠ 31 → A4 o = B o := fun o ho => by rw [e4, jup_row ho]
  have h4 : CR2 A A4 b := hB.fr (fun o x y z => q4 o (by omega)) (by rw [q4 21 (by decide)])
  have hJ : ∀ L, CR2 A (jap A4 c L) b := fun L => h4.jap hc
  have a4c : A4 c 1 = p + (iL A b (k - 1).toNat).length := by rw [q4 c (by omega)]; exact bc1
  have next : ∀ C, C = jap A4 c (iR A b k) → ∀ y, y = 4 * bef A k.toNat → jrV 16 192 [some (.ref 21), some (.ref 2), some (.int (jI b)), some (.ref c), some (.int (jI p)), some (.int (jI y)), some (.int (jI k)), none, none] [] E C K := fun C eC y ey => by
    have bl2 := bef_le T k.toNat (by omega)
    refine vd_X0_putInodes_192 b rb c hc p rp y ⟨by omega, by omega⟩ k rk E C K ?_
    rw [ey, show bef A k.toNat = bef A (k + 1 - 1).toNat by rw [show k + 1 - 1 = k by omega]]
    refine ih (by omega) C (by omega) (by omega) (fun o ho => ?_) (fun j j1 j2 => ?_)
    · rw [eC, show (k + 1 - 1).toNat = k.toNat by omega, eI, ← jap_app]
      exact jap_congr (by rw [q4 o ho]; exact h1 o ho) (by rw [q4 c (by omega)]; exact h1 c (by omega))
    · rw [eC, jap_row (by omega) (by omega), e4]
      by_cases e : j = k
      · rw [e, jup_at]
      · rw [jup_ne e]; exact h31 j j1 (by omega)
  have lim : ((iR A b k).length : Int) + p + (iL A b (k - 1).toNat).length ≤ jN (c + 1) := by omega
  have l6 : 6 ≤ (iR A b k).length := by
    have := lr.1
    split at this
    · omega
    · split at this <;> omega
  rw [h4.1.1 3 (by decide) (by decide)]
  refine k_putByte hc ⟨by omega, by omega⟩ (by omega) (by omega) ⟨by omega, ?_⟩
  rw [show A 3 (bd A k) % 256 = A 3 (bd A k) by omega, (hJ _).1.1 5 (by decide) (by decide)]
  refine k_putWord hc ⟨by omega, by omega⟩ (by rw [jap_len]; omega) (by rw [jap_len]; simp only [List.length_cons, List.length_nil]; omega) ?_
  rw [jap_app]
  refine ⟨by omega, ?_⟩
  rw [(hJ _).1.1 4 (by decide) (by decide)]
  refine k_putWord hc ⟨by omega, by omega⟩ (by rw [jap_len]; omega) (by rw [jap_len]; simp only [List.length_append, List.length_cons, List.length_nil, jw2_len]; omega) ?_
  rw [jap_app, (hJ _).1.1 6 (by decide) (by decide)]
  -- from the names' number on
  have tail : ∀ y, y = (if k = 1 then 1 else A 6 (bd A k)) → 0 ≤ y ∧ y ≤ 255 → jrV 16 95 [some (.ref 21), some (.ref 2), some (.int (jI b)), some (.ref c), some (.int (jI p)), some (.int (jI (4 * bef A (k - 1).toNat))), some (.int (jI k)), some (.int (jI (bd A k))), none] [.int (jI y), .ref c] E (jap A4 c ([A 3 (bd A k)] ++ jw2 (A 5 (bd A k)) ++ jw2 (A 4 (bd A k)))) K := fun y hy y01 => by
    refine vd_X0_putInodes_95 b rb c hc p rp _ r5 k rk _ ⟨by omega, by omega⟩ y ⟨by omega, by omega⟩ c hc E _ K ?_
    refine k_putByte hc ⟨by omega, by omega⟩ (by rw [jap_len]; omega) (by rw [jap_len]; simp only [List.length_append, List.length_cons, List.length_nil, jw2_len]; omega) ?_
    rw [jap_app, show y % 256 = y by omega, hy, (hJ _).1.1 3 (by decide) (by decide)]
    have eR : iR A b k = [A 3 (bd A k)] ++ jw2 (A 5 (bd A k)) ++ jw2 (A 4 (bd A k)) ++ [if k = 1 then 1 else A 6 (bd A k)] ++ (if A 3 (bd A k) = 1 then jw2 (4 * bef A (k - 1).toNat) ++ jw2 (many A (bd A k)) ++ jw2 (bf A (A 7 (bd A k))) else if A 3 (bd A k) = 2 then jw2 (A 8 (bd A k)) ++ jw2 (bBeg A b (told A k)) ++ [tI A b (told A k)] ++ [tO A b (told A k)] ++ szL A b (told A k) (bW A b k).toNat else []) := rfl
    have eBf := bef_at (A := A) k1
    generalize hL0 : [A 3 (bd A k)] ++ jw2 (A 5 (bd A k)) ++ jw2 (A 4 (bd A k)) ++ [if k = 1 then 1 else A 6 (bd A k)] = L0 at eR ⊢
    have l0 : L0.length = 6 := by rw [← hL0]; rfl
    refine ⟨by omega, fun q2 => ⟨by omega, fun q3 => ?_, fun q3 => ⟨by omega, ?_⟩⟩, fun q2 => ?_⟩
    · rw [if_neg q2, if_neg q3, List.append_nil] at eR
      rw [if_neg q2] at eBf
      exact next _ (by rw [eR]) _ (by omega)
    · rw [if_neg q2, if_pos q3] at eR
      rw [if_neg q2] at eBf
      rw [if_neg q2, if_pos q3] at lr
      rw [(hJ _).1.1 8 (by decide) (by decide)]
      refine k_putFileRow T hb k1 q q3 (hJ _) hc (by rw [jap_len]; omega) (by rw [jap_len, l0]; omega) ?_
      rw [jap_app]
      exact next _ (by rw [eR]) _ (by omega)
    · rw [if_pos q2] at eR eBf
      rw [if_pos q2] at lr
      have hn2 : 0 ≤ A 2 10 ∧ A 2 10 ≤ 279 := ⟨T.1.2.2.2.1, T.1.2.2.2.2.1⟩
      have e2 : jap A4 c L0 2 = A 2 := (hJ L0).1.1 2 (by decide) (by decide)
      have e10 : jap A4 c L0 10 = A 10 := (hJ L0).1.1 10 (by decide) (by decide)
      have etf : ∀ y, tF (jap A4 c L0) y = tF A y := fun y => tF_same e10 (by rw [e2]) y
      have hm := many_le T (bd A k)
      refine k_firstNameOf (by omega) (by rw [e2]; exact hn2) (k_firstNameOf (by omega) (by rw [e2]; exact hn2) ?_)
      rw [etf, etf, show tF A (1000 * (bd A k + 1)) - tF A (1000 * bd A k) = many A (bd A k) from rfl]
      refine k_putWord hc r5 (by rw [jap_len]; omega) (by rw [jap_len, l0]; omega) ?_
      rw [jap_app]
      refine k_putWord hc ⟨by omega, by omega⟩ (by rw [jap_len]; omega) (by rw [jap_len, List.length_append, l0, jw2_len]; omega) ?_
      rw [jap_app]
      have h7 : 0 ≤ A 7 (bd A k) ∧ A 7 (bd A k) < 32 := by
        by_cases e0 : bd A k = 0
        · rw [e0, T.1.2.2.2.2.2.2.2]; omega
        · have := T.2.2.2.2.2.2.2.1 (bd A k) (by omega) d1; omega
      rw [(hJ _).1.1 7 (by decide) (by decide), (hJ _).1.2.2.1 _ h7.1 h7.2]
      have hbf : 0 ≤ bf A (A 7 (bd A k)) ∧ bf A (A 7 (bd A k)) ≤ 32 := by
        have hh := (nU_NV T).1.2.2.2.2.2 (A 7 (bd A k))
        have e : bf A (A 7 (bd A k)) = (nU A).1 (A 7 (bd A k)) := rfl
        have e' : bN A = (nU A).2.2 := rfl
        omega
      refine ⟨by omega, by omega, ?_⟩
      refine k_putWord hc ⟨by omega, by omega⟩ (by rw [jap_len]; omega) (by rw [jap_len]; simp only [List.length_append, l0, jw2_len]; omega) ?_
      rw [jap_app]
      refine next _ (by rw [eR]; simp only [List.append_assoc]) _ (by omega)
  refine ⟨fun q2 => ⟨by omega, tail _ (by rw [if_neg q2]) ?_⟩, fun q2 => tail 1 (by rw [if_pos q2]) (by omega)⟩
  have ne0 : bd A k ≠ 0 := fun e => by
    have h1' := bd_le T (show (1 : Int) ≤ 1 by omega) nl.1
    rw [(bd_1 T).1] at h1'
    rw [e, h1'.2.2] at d2
    exact q2 d2.symm
  have := T.2.2.2.2.2.2.2.1 (bd A k) (by omega) d1
  omega
end KR
