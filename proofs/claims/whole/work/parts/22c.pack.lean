/-! THE REFERENCE STORES A BLOCK -/
/-- bytes told behind those that were told -/
def mtl (A : jA) (L : List Int) : jA := fun o j => if o = 49 ∧ j = 15 then A 49 15 + L.length else if o = 58 ∧ 6000 * A 49 14 + A 49 15 ≤ j ∧ j < 6000 * A 49 14 + A 49 15 + L.length then L.getD (j - (6000 * A 49 14 + A 49 15)).toNat 0 else A o j
theorem mtl_nil (A : jA) : mtl A [] = A := by
  funext o j; simp only [mtl, List.length_nil]
  by_cases h : o = 49 ∧ j = 15
  · rw [if_pos h, h.1, h.2]; simp
  · rw [if_neg h, if_neg (by omega)]
theorem mtl_at (A : jA) (L : List Int) : mtl A L 49 15 = A 49 15 + L.length := by simp [mtl]
theorem mtl_49 {A : jA} {L : List Int} {k : Int} (h : k ≠ 15) : mtl A L 49 k = A 49 k := by
  simp only [mtl]; rw [if_neg (by omega), if_neg (by omega)]
theorem mtl_row {A : jA} {L : List Int} {o : Nat} (h1 : o ≠ 49) (h2 : o ≠ 58) : mtl A L o = A o := by
  funext j; simp only [mtl]; rw [if_neg (by omega), if_neg (by omega)]
theorem mtl_one (A : jA) (v : Int) : jup (jup A 58 (6000 * A 49 14 + A 49 15) v) 49 15 (A 49 15 + 1) = mtl A [v] := by
  funext o j; simp only [jup, mtl, List.length_cons, List.length_nil]
  by_cases h : o = 49 ∧ j = 15
  · rw [if_pos h, if_pos h]; rfl
  · rw [if_neg h, if_neg h]
    by_cases h2 : o = 58 ∧ j = 6000 * A 49 14 + A 49 15
    · rw [if_pos h2, if_pos ⟨h2.1, by omega, by omega⟩, h2.2, Int.sub_self]; rfl
    · rw [if_neg h2, if_neg (by omega)]
theorem mtl_app (A : jA) (L M : List Int) : mtl (mtl A L) M = mtl A (L ++ M) := by
  have e15 := mtl_at A L
  have e14 : mtl A L 49 14 = A 49 14 := mtl_49 (by decide)
  funext o j
  show (if o = 49 ∧ j = 15 then mtl A L 49 15 + M.length else if o = 58 ∧ 6000 * mtl A L 49 14 + mtl A L 49 15 ≤ j ∧ j < 6000 * mtl A L 49 14 + mtl A L 49 15 + M.length then M.getD (j - (6000 * mtl A L 49 14 + mtl A L 49 15)).toNat 0 else mtl A L o j) = _
  rw [e15, e14]
  simp only [mtl, List.length_append]
  by_cases h : o = 49 ∧ j = 15
  · rw [if_pos h, if_pos h]; omega
  · rw [if_neg h, if_neg h, if_neg h]
    by_cases h2 : o = 58
    · by_cases h3 : 6000 * A 49 14 + (A 49 15 + L.length) ≤ j ∧ j < 6000 * A 49 14 + (A 49 15 + L.length) + M.length
      · rw [if_pos ⟨h2, h3⟩, if_pos ⟨h2, by omega, by omega⟩, jgetD_r (by omega)]
        congr 1; omega
      · rw [if_neg (fun z => h3 z.2)]
        by_cases h4 : 6000 * A 49 14 + A 49 15 ≤ j ∧ j < 6000 * A 49 14 + A 49 15 + L.length
        · rw [if_pos ⟨h2, h4⟩, if_pos ⟨h2, by omega, by omega⟩, jgetD_l (by omega)]
        · rw [if_neg (fun z => h4 z.2), if_neg (by omega)]
    · rw [if_neg (fun z => h2 z.1), if_neg (fun z => h2 z.1), if_neg (fun z => h2 z.1)]
/-- where it tells, there is room -/
def MO (A : jA) (n : Int) : Prop := 0 ≤ A 49 14 ∧ A 49 14 ≤ 2 ∧ 0 ≤ A 49 15 ∧ A 49 15 + n ≤ 6000
theorem k_tell {E : jE} {A : jA} {v : Int} (rv : jW v) (h : MO A 1) {K : jA → Prop} (hK : K (mtl A [v])) : jrV 203 0 [some (.ref 49), some (.int (jI v))] [] E A K := by
  obtain ⟨h1, h2, h3, h4⟩ := h
  refine vd_X7_tell_0 v rv E A K ⟨by omega, fun A2 e2 => ?_⟩
  have : A2 49 15 = A 49 15 := by rw [e2, jup_row (by decide)]
  rw [this]
  refine ⟨⟨by omega, by omega⟩, fun A6 e6 => ?_⟩
  rw [e6, e2, mtl_one]; exact hK
theorem MO.t {A : jA} {n : Int} {L : List Int} (h : MO A (L.length + n)) : MO (mtl A L) n := by
  obtain ⟨h1, h2, h3, h4⟩ := h
  unfold MO
  rw [mtl_49 (by decide), mtl_at]
  omega
theorem MO.w {A : jA} {n m : Int} (h : MO A n) (hm : m ≤ n) : MO A m := by unfold MO at h ⊢; omega
theorem k_tellWord {E : jE} {A : jA} {v : Int} (rv : jW v) (h : MO A 2) {K : jA → Prop} (hK : K (mtl A (jw2 v))) : jrV 206 0 [some (.ref 49), some (.int (jI v))] [] E A K := by
  refine vd_X7_tellWord_0 v rv E A K (k_tell ⟨by omega, by omega⟩ (h.w (by omega)) (k_tell ⟨by omega, by omega⟩ (MO.t (L := [v / 256 % 256]) (n := 1) h) ?_))
  rw [mtl_app]; exact hK
/-- the reference's packer holds a list -/
def kms (A : jA) (L : List Int) : jA := fun o j => if o = 49 ∧ j = 22 then L.length else if o = 63 ∧ 0 ≤ j ∧ j < L.length then L.getD j.toNat 0 else A o j
theorem kms_row {A : jA} {L : List Int} {o : Nat} (h1 : o ≠ 49) (h2 : o ≠ 63) : kms A L o = A o := by
  funext j; simp only [kms]; rw [if_neg (by omega), if_neg (by omega)]
theorem kms_49 {A : jA} {L : List Int} {j : Int} (h : j ≠ 22) : kms A L 49 j = A 49 j := by simp only [kms]; rw [if_neg (by omega), if_neg (by omega)]
theorem kms_n (A : jA) (L : List Int) : kms A L 49 22 = L.length := by simp [kms]
theorem kms_at {A : jA} {L : List Int} {j : Int} (h0 : 0 ≤ j) (h1 : j < L.length) : kms A L 63 j = L.getD j.toNat 0 := by
  simp only [kms]; rw [if_neg (by omega), if_pos ⟨trivial, h0, h1⟩]
theorem kms_nil (A : jA) : kms A [] = jup A 49 22 0 := by
  funext o j; simp only [kms, jup, List.length_nil]
  by_cases h : o = 49 ∧ j = 22
  · rw [if_pos h, if_pos h]; rfl
  · rw [if_neg h, if_neg h, if_neg (by omega)]
theorem kms_add (A : jA) (L : List Int) (v : Int) : jup (jup (kms A L) 63 L.length v) 49 22 (L.length + 1) = kms A (L ++ [v]) := by
  funext o j; simp only [jup, kms, List.length_append, List.length_cons, List.length_nil]
  by_cases h : o = 49 ∧ j = 22
  · rw [if_pos h, if_pos h]; omega
  · rw [if_neg h, if_neg h, if_neg h]
    by_cases h2 : o = 63
    · by_cases hj : j = L.length
      · rw [if_pos ⟨h2, hj⟩, if_pos ⟨h2, by omega, by omega⟩, hj, Int.toNat_natCast, jgetD_r (by omega), Nat.sub_self]; rfl
      · rw [if_neg (fun z => hj z.2)]
        by_cases hk : 0 ≤ j ∧ j < L.length
        · rw [if_pos ⟨h2, hk⟩, if_pos ⟨h2, by omega, by omega⟩, jgetD_l (by omega)]
        · rw [if_neg (fun z => hk z.2), if_neg (by omega)]
    · rw [if_neg (fun z => h2 z.1), if_neg (fun z => h2 z.1), if_neg (fun z => h2 z.1)]
theorem kms_add2 (A : jA) (L : List Int) (v w : Int) : jup (jup (jup (kms A L) 63 L.length v) 63 (L.length + 1) w) 49 22 (L.length + 2) = kms A (L ++ [v] ++ [w]) := by
  rw [← kms_add A (L ++ [v]) w, ← kms_add A L v]
  funext o j; simp only [jup, List.length_append, List.length_cons, List.length_nil]
  by_cases h : o = 49 ∧ j = 22
  · rw [if_pos h, if_pos h]; omega
  · rw [if_neg h, if_neg h]
    by_cases h2 : o = 63 ∧ j = L.length + 1
    · rw [if_pos h2, if_pos ⟨h2.1, by omega⟩]
    · have h2' : ¬ (o = 63 ∧ j = ((L.length + (0 + 1) : Nat) : Int)) := fun z => h2 ⟨z.1, by omega⟩
      rw [if_neg h2, if_neg h2']
      by_cases h3 : o = 63 ∧ j = L.length
      · rw [if_pos h3, if_neg h]
      · rw [if_neg h3, if_neg h]
section KP2
variable {E : jE} {K : jA → Prop} {g : Int → Int} {l : Int}
def BM (A : jA) (l : Int) (g : Int → Int) : Prop := 1 ≤ l ∧ l ≤ 32 ∧ ∀ i, 0 ≤ i → i < l → A 62 i = g i
theorem BM.k {A : jA} (h : BM A l g) (L : List Int) : BM (kms A L) l g := ⟨h.1, h.2.1, by rw [kms_row (by decide) (by decide)]; exact h.2.2⟩
theorem k_alike {A : jA} {i : Int} (h : BM A l g) (i0 : 0 ≤ i) (i1 : i < l) {K : Int → jA → Prop} (hK : K (pRun g l i) A) : jrI 137 0 [some (.ref 49), some (.int (jI i)), some (.int (jI l)), none] [] E A K := by
  obtain ⟨b5, b6, b8⟩ := h
  have ri : jW i := ⟨by omega, by omega⟩
  have rl : jW l := ⟨by omega, by omega⟩
  refine vd_X7_alike_0 i ri l rl E A K ?_
  refine vd_X7_alike_2 i ri l rl i ri E A K ⟨fun q => by omega, fun q => ⟨by omega, by omega, fun z => absurd rfl z, fun _ => ?_⟩⟩
  have key : ∀ (f : Nat) (r : Int), 1 ≤ r → i + r ≤ l → l - i - r ≤ f → K (pRn g l i f r) A → jrI 137 2 [some (.ref 49), some (.int (jI i)), some (.int (jI l)), some (.int (jI (i + r)))] [] E A K := by
    intro f
    induction f with
    | zero =>
      intro r r1 r2 r3 hk
      refine vd_X7_alike_2 i ri l rl _ ⟨by omega, by omega⟩ E A K ⟨fun _ => ⟨⟨by omega, by omega⟩, ?_⟩, fun q => by omega⟩
      rw [show i + r - i = r by omega]; exact hk
    | succ f ih =>
      intro r r1 r2 r3 hk
      simp only [pRn] at hk
      refine vd_X7_alike_2 i ri l rl _ ⟨by omega, by omega⟩ E A K ⟨fun q => ⟨⟨by omega, by omega⟩, ?_⟩, fun q => ⟨by omega, by omega, ?_⟩⟩
      · rw [show i + r - i = r by omega]; rwa [if_neg (by omega)] at hk
      · rw [b8 (i + r) (by omega) (by omega), b8 i i0 i1]
        refine ⟨fun q2 => ⟨⟨by omega, by omega⟩, ?_⟩, fun q2 => ?_⟩
        · rw [show i + r - i = r by omega]; rwa [if_neg (fun z => q2 z.2)] at hk
        · have := ih (r + 1) (by omega) (by omega) (by omega) (by rwa [if_pos ⟨by omega, q2⟩] at hk)
          rwa [← Int.add_assoc] at this
  exact key _ 1 (by omega) (by omega) (by omega) hK
theorem k_mpack {A : jA} (h : BM A l g) (hg : ∀ i, 0 ≤ i → i < l → 0 ≤ g i ∧ g i ≤ 255) (hK : K (kms A (sPk g l))) : jrV 196 0 [some (.ref 49), some (.int (jI l)), none, none, none, none] [] E A K := by
  have h' := h
  obtain ⟨b5, b6, b8⟩ := h
  have rl : jW l := ⟨by omega, by omega⟩
  refine vd_X7_pack_0 l rl E A K (fun A1 e1 => ?_)
  rw [e1, ← kms_nil]
  have key : ∀ (f : Nat) (i : Int) (L : List Int), 0 ≤ i → i ≤ l → l - i ≤ f → (L.length : Int) + (pPk g l f i).length ≤ 33 → K (kms A (L ++ pPk g l f i)) → jrV 196 7 [some (.ref 49), some (.int (jI l)), some (.int (jI i)), none, none, none] [] E (kms A L) K := by
    intro f
    induction f with
    | zero =>
      intro i L i0 i1 i2 hL hk
      have hk' : K (kms A L) := by rwa [show pPk g l 0 i = [] from rfl, List.append_nil] at hk
      exact vd_X7_pack_7 l rl i ⟨by omega, by omega⟩ E _ K ⟨fun _ => hk', fun q => by omega⟩
    | succ f ih =>
      intro i L i0 i1 i2 hL hk
      simp only [pPk] at hk hL
      have ri : jW i := ⟨by omega, by omega⟩
      refine vd_X7_pack_7 l rl i ri E _ K ⟨fun q => by rw [if_pos (by omega), List.append_nil] at hk; exact hk, fun q => ?_⟩
      rw [if_neg (by omega)] at hk hL
      obtain ⟨a1, a2, a3, a4⟩ := pRun_le (g := g) (l := l) (i := i) (by omega)
      refine k_alike (h'.k L) i0 q ⟨fun q3 => ?_, fun q3 => ?_⟩
      · rw [if_neg (by omega)] at hk hL
        obtain ⟨c1, c2, c3⟩ := pNext_le (g := g) (l := l) (i := i) (by omega)
        simp only [List.length_cons, List.length_append, pSeg_len] at hL
        -- the next run
        have fin : jrV 196 98 [some (.ref 49), some (.int (jI l)), some (.int (jI i)), none, some (.int (jI (pNext g l i))), none] [] E (kms A L) K := by
          refine vd_X7_pack_98 l rl i ri _ ⟨by omega, by omega⟩ E _ K ?_
          rw [kms_n]
          refine ⟨⟨by omega, by omega⟩, by omega, fun A3 e3 => ?_⟩
          have e22 : A3 49 22 = L.length := by rw [e3, jup_row (by decide), kms_n]
          rw [e22]
          refine ⟨⟨by omega, by omega⟩, fun A7 e7 => ?_⟩
          rw [e7, e3, kms_add]
          refine j_loop (P := fun j => i ≤ j → j ≤ pNext g l i → jrV 196 126 [some (.ref 49), some (.int (jI l)), none, none, some (.int (jI (pNext g l i))), some (.int (jI j))] [] E (kms A (L ++ [pNext g l i - i - 1] ++ pSeg g i (j - i).toNat)) K) (pNext g l i) (fun j ih2 j0 j1 => ?_) i (by omega) (by omega) |> fun z => by rwa [show (i - i).toNat = 0 by omega, show pSeg g i 0 = [] from rfl, List.append_nil] at z
          refine vd_X7_pack_126 l rl _ ⟨by omega, by omega⟩ _ ⟨by omega, by omega⟩ E _ K ⟨fun q4 => ?_, fun q4 => ?_⟩
          · have ej : j = pNext g l i := by omega
            rw [ej]
            refine vd_X7_pack_168 l rl _ ⟨by omega, by omega⟩ E _ K (ih (pNext g l i) _ (by omega) c2 (by omega) (by simp only [List.length_append, List.length_cons, List.length_nil, pSeg_len]; omega) ?_)
            rw [show L ++ [pNext g l i - i - 1] ++ pSeg g i (pNext g l i - i).toNat ++ pPk g l f (pNext g l i) = L ++ (pNext g l i - i - 1) :: (pSeg g i (pNext g l i - i).toNat ++ pPk g l f (pNext g l i)) by simp]
            exact hk
          · have eL : ((L ++ [pNext g l i - i - 1] ++ pSeg g i (j - i).toNat).length : Int) = L.length + 1 + (j - i) := by simp only [List.length_append, List.length_cons, List.length_nil, pSeg_len]; omega
            rw [kms_n]
            refine ⟨by omega, by omega, fun A3 e3 => ?_⟩
            have e22 : A3 49 22 = (L ++ [pNext g l i - i - 1] ++ pSeg g i (j - i).toNat).length := by rw [e3, jup_row (by decide), kms_n]
            rw [e22]
            refine ⟨⟨by omega, by omega⟩, fun A7 e7 => ?_⟩
            rw [kms_row (by decide) (by decide), b8 j (by omega) (by omega)] at e3
            rw [e7, e3, kms_add]
            have := ih2 (by omega) (by omega) (by omega)
            rwa [show (j + 1 - i).toNat = (j - i).toNat + 1 by omega, pSeg_succ, ← List.append_assoc, show i + (((j - i).toNat : Nat) : Int) = j by omega] at this
        have walk : ∀ (f : Nat) (t : Int), i ≤ t → t ≤ l → l - t ≤ f → pNx g l f t = pNext g l i → jrV 196 75 [some (.ref 49), some (.int (jI l)), some (.int (jI i)), none, some (.int (jI t)), none] [] E (kms A L) K := by
          intro f
          induction f with
          | zero =>
            intro t t0 t1 t2 e
            have et : t = pNext g l i := by rw [← e]; simp only [pNx]; omega
            exact vd_X7_pack_75 l rl i ri t ⟨by omega, by omega⟩ E _ K ⟨fun _ => by rw [et]; exact fin, fun q4 => by omega⟩
          | succ f ihw =>
            intro t t0 t1 t2 e
            simp only [pNx] at e
            refine vd_X7_pack_75 l rl i ri t ⟨by omega, by omega⟩ E _ K ⟨fun q4 => ?_, fun q4 => ?_⟩
            · rw [if_pos (by omega)] at e
              rw [show t = pNext g l i by omega]; exact fin
            · have r3 := pRun_3 (g := g) (l := l) (i := t) q4
              refine k_alike (h'.k L) (by omega) q4 ⟨fun q5 => ?_, fun q5 => ihw (t + 1) (by omega) (by omega) (by omega) ?_⟩
              · obtain ⟨r4, r5⟩ := r3.mp q5
                rw [if_neg (by omega), if_pos r5] at e
                rw [e]; exact fin
              · by_cases q6 : l < t + 3
                · rw [if_pos q6] at e
                  rw [← e]
                  cases f with
                  | zero => rfl
                  | succ f => simp only [pNx]; rw [if_pos (by omega)]
                · rw [if_neg q6, if_neg (fun z => by have := r3.mpr ⟨by omega, z⟩; omega)] at e
                  exact e
        refine walk ((l - i).toNat + 1) i (by omega) (by omega) (by omega) ?_
        simp only [pNx]
        by_cases q6 : l < i + 3
        · rw [if_pos q6]
          unfold pNext
          cases (l - i).toNat with
          | zero => rfl
          | succ f => simp only [pNx]; rw [if_pos (by omega)]
        · rw [if_neg q6, if_neg (fun z => by have := (pRun_3 (g := g) q).mpr ⟨by omega, z⟩; omega)]; rfl
      · rw [if_pos (by omega)] at hk hL
        simp only [List.length_cons] at hL
        rw [kms_n]
        refine ⟨⟨by omega, by omega⟩, by omega, fun A7 e7 => ?_⟩
        have e22 : A7 49 22 = L.length := by rw [e7, jup_row (by decide), kms_n]
        have e62 : A7 62 i = g i := by rw [e7, jup_row (by decide), kms_row (by decide) (by decide), b8 i i0 q]
        rw [e22, e62]
        refine ⟨by omega, by omega, fun A12 e12 => ?_⟩
        have f22 : A12 49 22 = L.length := by rw [e12, jup_row (by decide)]; exact e22
        rw [f22]
        refine ⟨⟨by omega, by omega⟩, fun A16 e16 => ?_⟩
        rw [e16, e12, e7, kms_add2]
        refine vd_X7_pack_168 l rl _ ⟨by omega, by omega⟩ E _ K (ih (i + pRun g l i) _ (by omega) a2 (by omega) (by simp only [List.length_append, List.length_cons, List.length_nil]; omega) ?_)
        rw [show L ++ [257 - pRun g l i] ++ [g i] ++ pPk g l f (i + pRun g l i) = L ++ (257 - pRun g l i) :: g i :: pPk g l f (i + pRun g l i) by simp]
        exact hk
  have hl := (pPk_len (g := g) (l := l) l.toNat 0 (by omega) (by omega)).1
  exact key l.toNat 0 [] (by omega) (by omega) (by omega) (by simp only [List.length_nil]; omega) (by rw [List.nil_append]; exact hK)
end KP2
/-- the reference has told a list -/
def SM (A B : jA) (L : List Int) : Prop := (∀ o, o ≠ 63 → o ≠ 49 → B o = mtl A L o) ∧ ∀ k, k ≠ 22 → B 49 k = mtl A L 49 k
theorem mtl_k {A : jA} {P L : List Int} : SM A (mtl (kms A P) L) L := by
  have e15 : kms A P 49 15 = A 49 15 := kms_49 (by decide)
  have e14 : kms A P 49 14 = A 49 14 := kms_49 (by decide)
  refine ⟨fun o h1 h2 => ?_, fun k hk => ?_⟩
  · funext j; simp only [mtl]; rw [e15, e14, kms_row h2 h1]
  · simp only [mtl]; rw [e15, e14, kms_49 hk]
theorem k_mstore {E : jE} {A : jA} {l : Int} {g : Int → Int} (h : BM A l g) (hg : ∀ i, 0 ≤ i → i < l → 0 ≤ g i ∧ g i ≤ 255) (hM : MO A l) {K : Int → jA → Prop} (hK : ∀ B, SM A B (sBytes g l) → K (sSize g l) B) : jrI 200 0 [some (.ref 49), some (.int (jI l)), none, none] [] E A K := by
  have h' := h
  obtain ⟨b5, b6, b8⟩ := h
  have rl : jW l := ⟨by omega, by omega⟩
  refine vd_X7_store_0 l rl E A K ?_
  refine j_loop (P := fun i => ∀ z, 0 ≤ i → i ≤ l → z = sZ g i.toNat → jrI 200 4 [some (.ref 49), some (.int (jI l)), some (.int (jI z)), some (.int (jI i))] [] E A K) l (fun i ih z i0 i1 ez => ?_) 0 1 (by omega) (by omega) rfl
  have z01 : z = 0 ∨ z = 1 := by
    rw [ez]
    cases i.toNat with
    | zero => right; rfl
    | succ n => simp only [sZ]; split <;> omega
  have st : sZ g (i + 1).toNat = if sZ g i.toNat = 1 ∧ g i = 0 then 1 else 0 := by
    rw [show (i + 1).toNat = i.toNat + 1 by omega]; simp only [sZ]; rw [Int.toNat_of_nonneg i0]
  have ri : jW i := ⟨by omega, by omega⟩
  refine vd_X7_store_4 l rl z ⟨by omega, by omega⟩ i ri E A K ⟨fun q => ?_, fun q => ?_⟩
  · have ei : i.toNat = l.toNat := by omega
    rw [ei] at ez
    refine ⟨fun q2 => ?_, fun q2 => ?_⟩
    · have hz : ¬ sZ g l.toNat = 1 := by omega
      refine k_mpack h' hg ?_
      rw [kms_n]
      have hMk : ∀ n, MO A n → MO (kms A (sPk g l)) n := fun n hn => by unfold MO at hn ⊢; rw [kms_49 (by decide), kms_49 (by decide)]; exact hn
      refine ⟨fun q3 => ?_, fun q3 => ?_⟩
      · have e1 : sSize g l = 32768 + l := by unfold sSize; rw [if_neg hz, if_neg (by omega)]
        have e2 : sBytes g l = pSeg g 0 l.toNat := by unfold sBytes; rw [if_neg hz, if_neg (by omega)]
        rw [e1, e2] at hK
        refine j_loop (P := fun j => 0 ≤ j → j ≤ l → jrI 200 86 [some (.ref 49), some (.int (jI l)), none, some (.int (jI j))] [] E (mtl (kms A (sPk g l)) (pSeg g 0 j.toNat)) K) l (fun j ih2 j0 j1 => ?_) 0 (by omega) (by omega) |> fun z => by rwa [show pSeg g 0 (0 : Int).toNat = [] from rfl, mtl_nil] at z
        refine vd_X7_store_86 l rl j ⟨by omega, by omega⟩ E _ K ⟨fun q4 => ⟨⟨by omega, by omega⟩, ?_⟩, fun q4 => ⟨by omega, ?_⟩⟩
        · rw [show j.toNat = l.toNat by omega]; exact hK _ mtl_k
        · rw [mtl_row (by decide) (by decide), kms_row (by decide) (by decide), b8 j j0 q4]
          have hgj := hg j j0 q4
          refine k_tell ⟨by omega, by omega⟩ ?_ ?_
          · refine MO.t (L := pSeg g 0 j.toNat) (n := 1) (hMk _ (hM.w ?_))
            rw [pSeg_len]; omega
          · rw [mtl_app]
            have := ih2 q4 (by omega) (by omega)
            rwa [show (j + 1).toNat = j.toNat + 1 by omega, pSeg_succ, Int.zero_add, Int.toNat_of_nonneg j0] at this
      · have e1 : sSize g l = (sPk g l).length := by unfold sSize; rw [if_neg hz, if_pos q3]
        have e2 : sBytes g l = sPk g l := by unfold sBytes; rw [if_neg hz, if_pos q3]
        rw [e1, e2] at hK
        refine j_loop (P := fun j => 0 ≤ j → j ≤ (sPk g l).length → jrI 200 55 [some (.ref 49), none, none, some (.int (jI j))] [] E (mtl (kms A (sPk g l)) ((sPk g l).take j.toNat)) K) (sPk g l).length (fun j ih2 j0 j1 => ?_) 0 (by omega) (by omega) |> fun z => by rwa [show (sPk g l).take (0 : Int).toNat = [] from rfl, mtl_nil] at z
        have tl : ((sPk g l).take j.toNat).length = j.toNat := by rw [List.length_take]; omega
        refine vd_X7_store_55 j ⟨by omega, by omega⟩ E _ K ?_
        rw [mtl_49 (by decide), kms_n, mtl_row (by decide) (by decide)]
        refine ⟨fun q4 => ?_, fun q4 => ⟨by omega, ?_⟩⟩
        · rw [show j.toNat = (sPk g l).length by omega, List.take_length]
          exact hK _ mtl_k
        · rw [kms_at j0 q4]
          have hx := pPk_b b6 hg l.toNat 0 (by omega) ((sPk g l).getD j.toNat 0) (by rw [List.getD_eq_getElem?_getD, List.getElem?_eq_getElem (by omega)]; exact List.getElem_mem _)
          refine k_tell ⟨by omega, by omega⟩ ?_ ?_
          · refine MO.t (L := (sPk g l).take j.toNat) (n := 1) (hMk _ (hM.w ?_))
            rw [tl]; omega
          · rw [mtl_app]
            have := ih2 q4 (by omega) (by omega)
            rwa [show (j + 1).toNat = j.toNat + 1 by omega, List.take_succ_eq_append_getElem (by omega : j.toNat < (sPk g l).length), show (sPk g l)[j.toNat] = (sPk g l).getD j.toNat 0 by rw [List.getD_eq_getElem?_getD, List.getElem?_eq_getElem (by omega)]; rfl] at this
    · have hz : sZ g l.toNat = 1 := by omega
      have e1 : sSize g l = 0 := by unfold sSize; rw [if_pos hz]
      have e2 : sBytes g l = [] := by unfold sBytes; rw [if_pos hz]
      rw [e1, e2] at hK
      exact hK A ⟨fun o _ _ => by rw [mtl_nil], fun k _ => by rw [mtl_nil]⟩
  · have next : ∀ y, y = sZ g (i + 1).toNat → (y = 0 ∨ y = 1) → jrI 200 27 [some (.ref 49), some (.int (jI l)), none, some (.int (jI i))] [.int (jI y)] E A K := fun y ey y01 => vd_X7_store_27 l rl i ri y ⟨by omega, by omega⟩ E A K (ih q y (by omega) (by omega) ey)
    refine ⟨fun q2 => vd_X7_store_26 l rl i ri E A K (next 0 (by rw [st, if_neg (by omega)]) (.inl rfl)), fun q2 => ⟨by omega, ?_⟩⟩
    rw [b8 i i0 q]
    exact ⟨fun q3 => vd_X7_store_26 l rl i ri E A K (next 0 (by rw [st, if_neg (fun z => q3 z.2)]) (.inl rfl)), fun q3 => next 1 (by rw [st, if_pos ⟨by omega, q3⟩]) (.inr rfl)⟩
