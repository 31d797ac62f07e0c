section KMR
variable {E : jE} {A B : jA} {b : Int}
/-- the reference's tables of files -/
def MR2 (A B : jA) (b : Int) : Prop := CM A B ∧ ∀ j, 1 ≤ j → j ≤ bN A → A 3 (bd A j) = 2 → B 64 j = bBeg A b (told A j) ∧ B 66 j = tI A b (told A j) ∧ B 67 j = tO A b (told A j) ∧ ∀ i, 0 ≤ i → i < bW A b j → B 65 (13 * j + i) = sSize (bG A b (bd A (told A j)) i) b
theorem MR2.fr {C : jA} (h : MR2 A B b) (h1 : ∀ o, 50 ≤ o → o ≤ 67 → o ≠ 58 → o ≠ 59 → o ≠ 62 → o ≠ 63 → C o = B o) (h7 : C 49 7 = B 49 7) (h18 : C 49 18 = B 49 18) : MR2 A C b := by
  obtain ⟨a1, a2⟩ := h
  refine ⟨a1.fr (fun o x y => h1 o x (by omega) (by omega) (by omega) (by omega) (by omega)) h7 h18 (h1 60 (by decide) (by decide) (by decide) (by decide) (by decide) (by decide)) (h1 61 (by decide) (by decide) (by decide) (by decide) (by decide) (by decide)), ?_⟩
  rw [h1 64 (by decide) (by decide) (by decide) (by decide) (by decide) (by decide), h1 65 (by decide) (by decide) (by decide) (by decide) (by decide) (by decide), h1 66 (by decide) (by decide) (by decide) (by decide) (by decide) (by decide), h1 67 (by decide) (by decide) (by decide) (by decide) (by decide) (by decide)]
  exact a2
theorem MR2.t {L : List Int} (h : MR2 A B b) : MR2 A (mtl B L) b := h.fr (fun o a1 a2 a3 a4 a5 a6 => mtl_row (by omega) a3) (mtl_49 (by decide)) (mtl_49 (by decide))
theorem mtl_congr {B Y : jA} {o : Nat} {L : List Int} (h : B o = Y o) (h14 : B 49 14 = Y 49 14) (h15 : B 49 15 = Y 49 15) : mtl B L o = mtl Y L o := by
  funext w; simp only [mtl]; rw [h, h14, h15]
theorem k_tellInodes (T : TR A) (hb : b = 8 ∨ b = 16 ∨ b = 32) {Z : jA} (h : MR2 A Z b) (hm : 0 ≤ Z 49 14 ∧ Z 49 14 ≤ 2) {p : Int} (hp : Z 49 15 = p) (p0 : 0 ≤ p) (p1 : p + 1128 ≤ 6000) {K : jA → Prop} (hK : ∀ B, (∀ o, o ≠ 72 → B o = mtl Z (iL A b (bN A).toNat) o) → (∀ k, 1 ≤ k → k ≤ bN A → B 72 k = ((iL A b (k - 1).toNat).length : Int)) → K B) : jrV 205 0 [some (.ref 49), some (.int (jI b)), none, none, none, none, none, none, none] [] E Z K := by
  have nl := bN_le T
  have rb : jW b := ⟨by omega, by omega⟩
  have hN' := iL_le T hb (bN A).toNat (by omega) (by omega)
  have hn2 : 0 ≤ A 2 10 ∧ A 2 10 ≤ 279 := ⟨T.1.2.2.2.1, T.1.2.2.2.2.1⟩
  have e7A : A 49 7 = A 2 10 := T.1.2.2.2.2.2.1
  have mono : ∀ (d k : Nat), (iL A b k).length ≤ (iL A b (k + d)).length := by
    intro d
    induction d with
    | zero => intro k; exact Nat.le_refl _
    | succ d ih => intro k; rw [← Nat.add_assoc]; simp only [iL, List.length_append]; have := ih k; omega
  refine vd_X7_tellInodes_0 b rb E Z K ?_
  rw [hp]
  have rp : jW p := ⟨by omega, by omega⟩
  refine j_loop (P := fun k => ∀ B : jA, 1 ≤ k → k ≤ bN A + 1 → (∀ o, o ≠ 72 → B o = mtl Z (iL A b (k - 1).toNat) o) → (∀ j, 1 ≤ j → j < k → B 72 j = ((iL A b (j - 1).toNat).length : Int)) → jrV 205 10 [some (.ref 49), some (.int (jI b)), some (.int (jI p)), some (.int (jI (bef A (k - 1).toNat))), some (.int (jI k)), none, none, none, none] [] E B K) (bN A + 1) (fun k ih B k1 k2 h1 h72 => ?_) 1 Z (by omega) (by omega) (fun o _ => by rw [show iL A b (1 - 1 : Int).toNat = [] from rfl, mtl_nil]) (fun j a c => by omega)
  have rk : jW k := ⟨by omega, by omega⟩
  have bl := bef_le T (k - 1).toNat (by omega)
  have r3 : jW (bef A (k - 1).toNat) := ⟨by omega, by omega⟩
  have hB : MR2 A B b := (h.t (L := iL A b (k - 1).toNat)).fr (fun o a1 a2 a3 a4 a5 a6 => h1 o (by omega)) (by rw [h1 49 (by decide)]) (by rw [h1 49 (by decide)])
  have b15 : B 49 15 = p + (iL A b (k - 1).toNat).length := by rw [h1 49 (by decide), mtl_at, hp]
  have b14 : B 49 14 = Z 49 14 := by rw [h1 49 (by decide), mtl_49 (by decide)]
  refine vd_X7_tellInodes_10 b rb p rp _ r3 k rk E B K ?_
  rw [hB.1.2.2.1]
  refine ⟨fun q => ?_, fun q => ?_⟩
  · have ek : (k - 1).toNat = (bN A).toNat := by omega
    rw [ek] at h1
    exact hK B h1 (fun j a c => h72 j a (by omega))
  obtain ⟨d0, d1, d2⟩ := bd_le T k1 q
  have sx := T.2.1 _ d0 d1
  have lr := iR_len T hb k1 q
  have eI := iL_at (A := A) (b := b) k1
  have mN := mono ((bN A).toNat - k.toNat) k.toNat
  rw [show k.toNat + ((bN A).toNat - k.toNat) = (bN A).toNat by omega, eI, List.length_append] at mN
  rw [b15, hB.1.2.2.2.2 k k1 q, show p + ((iL A b (k - 1).toNat).length : Int) - p = (iL A b (k - 1).toNat).length by omega]
  refine ⟨by omega, ⟨by omega, by omega⟩, by omega, fun A4 e4 => ⟨by omega, ?_⟩⟩
  have q4 : ∀ o, o ≠ 72 → A4 o = B o := fun o ho => by rw [e4, jup_row ho]
  have h4 : MR2 A A4 b := hB.fr (fun o a1 a2 a3 a4 a5 a6 => q4 o (by omega)) (by rw [q4 49 (by decide)]) (by rw [q4 49 (by decide)])
  have hJ : ∀ L, MR2 A (mtl A4 L) b := fun L => h4.t
  have mo : ∀ n, n + p + (iL A b (k - 1).toNat).length ≤ 6000 → MO A4 n := fun n hn => by unfold MO; rw [q4 49 (by decide), b14, b15]; omega
  have l6 : 6 ≤ (iR A b k).length := by
    have := lr.1
    split at this
    · omega
    · split at this <;> omega
  have moL : ∀ (L : List Int) (n : Int), (L.length : Int) + n ≤ (iR A b k).length → MO (mtl A4 L) n := fun L n hn => MO.t (mo _ (by omega))
  have next : ∀ C, C = mtl A4 (iR A b k) → ∀ y, y = bef A k.toNat → jrV 205 304 [some (.ref 49), some (.int (jI b)), some (.int (jI p)), some (.int (jI y)), some (.int (jI k)), none, none, none, none] [] E C K := fun C eC y ey => by
    have bl2 := bef_le T k.toNat (by omega)
    refine vd_X7_tellInodes_304 b rb p rp y ⟨by omega, by omega⟩ k rk E C K ?_
    rw [ey, show bef A k.toNat = bef A (k + 1 - 1).toNat by rw [show k + 1 - 1 = k by omega]]
    refine ih (by omega) C (by omega) (by omega) (fun o ho => ?_) (fun j j1 j2 => ?_)
    · rw [eC, show (k + 1 - 1).toNat = k.toNat by omega, eI, ← mtl_app]
      exact mtl_congr (by rw [q4 o ho]; exact h1 o ho) (by rw [q4 49 (by decide), h1 49 (by decide)]) (by rw [q4 49 (by decide), h1 49 (by decide)])
    · rw [eC, mtl_row (by decide) (by decide), e4]
      by_cases e : j = k
      · rw [e, jup_at]
      · rw [jup_ne e]; exact h72 j j1 (by omega)
  have x50 : ∀ L, mtl A4 L 50 (bd A k) = A 3 (bd A k) := fun L => by rw [(hJ L).1.1 50 (by decide) (by decide)]; exact sx.1
  have x50' : A4 50 (bd A k) = A 3 (bd A k) := by rw [h4.1.1 50 (by decide) (by decide)]; exact sx.1
  have x51 : ∀ L, mtl A4 L 51 (bd A k) = A 5 (bd A k) := fun L => by rw [(hJ L).1.1 51 (by decide) (by decide)]; exact sx.2.2.2.1
  have x52 : ∀ L, mtl A4 L 52 (bd A k) = A 4 (bd A k) := fun L => by rw [(hJ L).1.1 52 (by decide) (by decide)]; exact sx.2.2.2.2.2.2.1
  have x53 : ∀ L, mtl A4 L 53 (bd A k) = A 8 (bd A k) := fun L => by rw [(hJ L).1.1 53 (by decide) (by decide)]; exact sx.2.2.2.2.2.2.2.2.2.1
  rw [x50']
  refine k_tell ⟨by omega, by omega⟩ (mo 1 (by omega)) ⟨by omega, ?_⟩
  rw [x51]
  refine k_tellWord ⟨by omega, by omega⟩ (moL _ _ (by simp only [List.length_cons, List.length_nil]; omega)) ?_
  rw [mtl_app]
  refine ⟨by omega, ?_⟩
  rw [x52]
  refine k_tellWord ⟨by omega, by omega⟩ (moL _ _ (by simp only [List.length_append, List.length_cons, List.length_nil, jw2_len]; omega)) ?_
  rw [mtl_app]
  -- from the names' number on
  have tail : ∀ y, y = (if k = 1 then 1 else A 6 (bd A k)) → 0 ≤ y ∧ y ≤ 255 → jrV 205 91 [some (.ref 49), some (.int (jI b)), some (.int (jI p)), some (.int (jI (bef A (k - 1).toNat))), some (.int (jI k)), some (.int (jI (bd A k))), none, none, none] [.int (jI y), .ref 49] E (mtl A4 ([A 3 (bd A k)] ++ jw2 (A 5 (bd A k)) ++ jw2 (A 4 (bd A k)))) K := fun y hy y01 => by
    have rd : jW (bd A k) := ⟨by omega, by omega⟩
    refine vd_X7_tellInodes_91 b rb p rp _ r3 k rk _ rd y ⟨by omega, by omega⟩ E _ K ?_
    refine k_tell ⟨by omega, by omega⟩ (moL _ _ (by simp only [List.length_append, List.length_cons, List.length_nil, jw2_len]; omega)) ?_
    rw [mtl_app, hy, x50]
    have eR : iR A b k = [A 3 (bd A k)] ++ jw2 (A 5 (bd A k)) ++ jw2 (A 4 (bd A k)) ++ [if k = 1 then 1 else A 6 (bd A k)] ++ (if A 3 (bd A k) = 1 then jw2 (4 * bef A (k - 1).toNat) ++ jw2 (many A (bd A k)) ++ jw2 (bf A (A 7 (bd A k))) else if A 3 (bd A k) = 2 then jw2 (A 8 (bd A k)) ++ jw2 (bBeg A b (told A k)) ++ [tI A b (told A k)] ++ [tO A b (told A k)] ++ szL A b (told A k) (bW A b k).toNat else []) := rfl
    have eBf := bef_at (A := A) k1
    generalize hL0 : [A 3 (bd A k)] ++ jw2 (A 5 (bd A k)) ++ jw2 (A 4 (bd A k)) ++ [if k = 1 then 1 else A 6 (bd A k)] = L0 at eR ⊢
    have l0 : L0.length = 6 := by rw [← hL0]; rfl
    refine ⟨by omega, fun q2 => ⟨by omega, fun q3 => ?_, fun q3 => ⟨by omega, ?_⟩⟩, fun q2 => ?_⟩
    · rw [if_neg q2, if_neg q3, List.append_nil] at eR
      rw [if_neg q2] at eBf
      exact next _ (by rw [eR]) _ (by omega)
    · rw [if_neg q2, if_pos q3] at eR
      rw [if_neg q2] at eBf
      rw [if_neg q2, if_pos q3] at lr
      obtain ⟨t1, t2, t3, t4⟩ := told_le (A := A) k1
      obtain ⟨r1, r2, r3', r4, r5, r6⟩ := told_rng T hb t1 (show told A k ≤ bN A by omega)
      have tb := fun L => (hJ L).2 k k1 q q3
      have z1 := (file_sz T hb d0 d1).1
      rw [x53]
      refine k_tellWord ⟨by omega, by omega⟩ (moL _ _ (by omega)) ?_
      rw [mtl_app, (tb _).1]
      refine ⟨by omega, k_tellWord ⟨by omega, by omega⟩ (moL _ _ (by rw [List.length_append, l0, jw2_len]; omega)) ?_⟩
      rw [mtl_app, (tb _).2.1]
      refine ⟨by omega, k_tell ⟨by omega, by omega⟩ (moL _ _ (by simp only [List.length_append, l0, jw2_len]; omega)) ?_⟩
      rw [mtl_app, (tb _).2.2.1]
      refine ⟨by omega, k_tell ⟨by omega, by omega⟩ (moL _ _ (by simp only [List.length_append, l0, jw2_len, List.length_cons, List.length_nil]; omega)) ?_⟩
      rw [mtl_app]
      generalize hL1 : L0 ++ jw2 (A 8 (bd A k)) ++ jw2 (bBeg A b (told A k)) ++ [tI A b (told A k)] ++ [tO A b (told A k)] = L1
      have l1 : L1.length = 12 := by rw [← hL1]; simp only [List.length_append, l0, jw2_len, List.length_cons, List.length_nil]
      have eR1 : iR A b k = L1 ++ szL A b (told A k) (bW A b k).toNat := by rw [eR, ← hL1]; simp only [List.append_assoc]
      refine j_loop (P := fun i => 0 ≤ i → i ≤ bW A b k → jrV 205 267 [some (.ref 49), some (.int (jI b)), some (.int (jI p)), some (.int (jI (bef A (k - 1).toNat))), some (.int (jI k)), some (.int (jI (bd A k))), some (.int (jI i)), none, none] [] E (mtl A4 (L1 ++ szL A b (told A k) i.toNat)) K) (bW A b k) (fun i ih2 i0 i1 => ?_) 0 (by omega) lr.2.1 |> fun z => by rwa [show szL A b (told A k) (0 : Int).toNat = [] from rfl, List.append_nil] at z
      refine vd_X7_tellInodes_267 b rb p rp _ r3 k rk _ rd i ⟨by omega, by omega⟩ E _ K ?_
      rw [x53]
      have ebw : A 8 (bd A k) / b = bW A b k := rfl
      rw [ebw]
      refine ⟨by omega, z1, by omega, ⟨by omega, by omega⟩, fun q5 => ?_, fun q5 => ⟨by omega, ?_⟩⟩
      · rw [show i = bW A b k by omega, ← eR1]
        exact next _ rfl _ (by omega)
      · rw [(tb _).2.2.2 i i0 q5]
        have hz := sSize_le (g := bG A b (bd A (told A k)) i) (l := b) (by omega)
        refine k_tellWord ⟨by omega, by omega⟩ (moL _ _ (by rw [List.length_append, szL_len, l1]; omega)) ?_
        rw [mtl_app, List.append_assoc]
        have := ih2 q5 (by omega) (by omega)
        rw [show (i + 1).toNat = i.toNat + 1 by omega] at this
        simp only [szL] at this
        rwa [Int.toNat_of_nonneg i0] at this
    · rw [if_pos q2] at eR eBf
      rw [if_pos q2] at lr
      have hm' := many_le T (bd A k)
      have bl2 := bef_le T k.toNat (by omega)
      have c1 := tF_ch hn2.1 (1000 * bd A k)
      have c2 := tF_ch hn2.1 (1000 * (bd A k + 1))
      -- counting its names, looking for its home
      have cnt := jcnt_many T d0
      have hbf := bf_le T (A 7 (bd A k))
      refine j_loop (P := fun i => 0 ≤ i → i ≤ A 2 10 → ∀ y, (y = 1 ∧ (∀ j, 0 ≤ j → j < i → A 57 j ≠ bd A k) ∨ y = bf A (A 7 (bd A k)) ∧ bd A k ≠ 0) → jrV 205 114 [some (.ref 49), some (.int (jI b)), some (.int (jI p)), some (.int (jI (bef A (k - 1).toNat))), some (.int (jI k)), some (.int (jI (bd A k))), some (.int (jI (jcnt (A 55) (bd A k) i.toNat))), some (.int (jI y)), some (.int (jI i))] [] E (mtl A4 L0) K) (A 2 10) (fun i ih2 i0 i1 y hy => ?_) 0 (by omega) hn2.1 1 (.inl ⟨rfl, fun j a c => by omega⟩)
      have ry : jW y := by rcases hy with h | h <;> exact ⟨by omega, by omega⟩
      have jl := jcnt_le (A 55) (bd A k) i.toNat
      have rj : jW (jcnt (A 55) (bd A k) i.toNat) := ⟨by omega, by omega⟩
      have ri : jW i := ⟨by omega, by omega⟩
      refine vd_X7_tellInodes_114 b rb p rp _ r3 k rk _ rd _ rj y ry i ri E _ K ?_
      rw [(hJ L0).1.2.1, e7A, (hJ L0).1.1 55 (by decide) (by decide)]
      refine ⟨fun q5 => ?_, fun q5 => ⟨by omega, ?_⟩⟩
      · have ei : i = A 2 10 := by omega
        have ec : jcnt (A 55) (bd A k) i.toNat = many A (bd A k) := by rw [ei]; exact cnt
        have ey : y = bf A (A 7 (bd A k)) := by
          rcases hy with ⟨e1, e2⟩ | ⟨e1, -⟩
          · by_cases e0 : bd A k = 0
            · rw [e1, e0, T.1.2.2.2.2.2.2.2]; exact ((nU_NV T).1.2.2.2.1).symm
            · exfalso
              obtain ⟨kk, w0, w1, w2, w3⟩ := (T.2.2.2.2.2.2.2.1 (bd A k) (by omega) d1).2.2.2.2.2.2
              exact e2 kk w0 (by omega) w2
          · exact e1
        rw [ec, ey]
        refine k_tellWord ⟨by omega, by omega⟩ (moL _ _ (by omega)) ?_
        rw [mtl_app]
        refine k_tellWord ⟨by omega, by omega⟩ (moL _ _ (by rw [List.length_append, l0, jw2_len]; omega)) ?_
        rw [mtl_app]
        refine k_tellWord ⟨by omega, by omega⟩ (moL _ _ (by simp only [List.length_append, l0, jw2_len]; omega)) ?_
        rw [mtl_app]
        exact next _ (by rw [eR]; simp only [List.append_assoc]) _ (by omega)
      · have step : jcnt (A 55) (bd A k) (i + 1).toNat = jcnt (A 55) (bd A k) i.toNat + (if A 55 i = bd A k then 1 else 0) := by
          rw [show (i + 1).toNat = i.toNat + 1 by omega]; simp only [jcnt]; rw [Int.toNat_of_nonneg i0]
        have mi := T.2.2.2.2.1 i i0 q5
        have on : ∀ w, (w = 0 ∨ w = 1) → w = (if A 55 i = bd A k then 1 else 0) → jrV 205 142 [some (.ref 49), some (.int (jI b)), some (.int (jI p)), some (.int (jI (bef A (k - 1).toNat))), some (.int (jI k)), some (.int (jI (bd A k))), none, some (.int (jI y)), some (.int (jI i))] [.int (jI w), .int (jI (jcnt (A 55) (bd A k) i.toNat))] E (mtl A4 L0) K := fun w w01 hw => by
          refine vd_X7_tellInodes_142 b rb p rp _ r3 k rk _ rd y ry i ri w ⟨by omega, by omega⟩ _ rj E _ K ?_
          rw [(hJ L0).1.1 57 (by decide) (by decide), (hJ L0).1.1 55 (by decide) (by decide)]
          have nx : ∀ z, (z = 1 ∧ (∀ j, 0 ≤ j → j < i + 1 → A 57 j ≠ bd A k) ∨ z = bf A (A 7 (bd A k)) ∧ bd A k ≠ 0) → jrV 205 174 [some (.ref 49), some (.int (jI b)), some (.int (jI p)), some (.int (jI (bef A (k - 1).toNat))), some (.int (jI k)), some (.int (jI (bd A k))), some (.int (jI (jcnt (A 55) (bd A k) i.toNat + w))), none, some (.int (jI i))] [.int (jI z)] E (mtl A4 L0) K := fun z hz => by
            have rz : jW z := by rcases hz with h | h <;> exact ⟨by omega, by omega⟩
            refine vd_X7_tellInodes_174 b rb p rp _ r3 k rk _ rd _ ⟨by omega, by omega⟩ i ri z rz E _ K ?_
            have := ih2 q5 (by omega) (by omega) z hz
            rwa [step, ← hw] at this
          refine ⟨by omega, fun q6 => nx y ?_, fun q6 => ⟨by omega, by omega, ?_⟩⟩
          · rcases hy with ⟨e1, e2⟩ | e
            · left
              refine ⟨e1, fun j j0 j1 => ?_⟩
              by_cases e : j = i
              · rw [e]; exact q6
              · exact e2 j j0 (by omega)
            · exact .inr e
          · rw [(hJ L0).1.2.2.2.1 (A 55 i) mi.1 (by omega)]
            refine nx _ (.inr ⟨?_, by omega⟩)
            rw [mi.2.2.2.2.2.2.2 (by rw [q6]; exact q2) |>.symm, q6]
        exact ⟨fun q6 => on 0 (.inl rfl) (by rw [if_neg q6]), fun q6 => on 1 (.inr rfl) (by rw [if_pos q6])⟩
  refine ⟨fun q2 => ?_, fun q2 => tail 1 (by rw [if_pos q2]) (by omega)⟩
  have ne0 : bd A k ≠ 0 := fun e => by
    have h1' := bd_le T (show (1 : Int) ≤ 1 by omega) nl.1
    rw [(bd_1 T).1] at h1'
    rw [e, h1'.2.2] at d2
    exact q2 d2.symm
  have hx := T.2.2.2.2.2.2.2.1 (bd A k) (by omega) d1
  refine k_namesOf ⟨by omega, by omega⟩ (by rw [(hJ _).1.2.1, e7A]; omega) ?_
  rw [(hJ _).1.1 57 (by decide) (by decide), (hJ _).1.2.1, e7A, ← hx.1]
  exact tail _ (by rw [if_neg q2]) (by omega)
end KMR
