/-! AN IMAGE IS MADE BY THE CLASS -/
def hd6 (b n w1 w2 w3 w4 w5 w6 : Int) : List Int := [84, 73, b, 0] ++ jw2 n ++ jw2 w1 ++ jw2 w2 ++ jw2 w3 ++ jw2 w4 ++ jw2 w5 ++ jw2 w6
theorem hd6_0 (b n : Int) : hd0 b n = hd6 b n 0 0 0 0 0 0 := rfl
theorem hd6_len (b n w1 w2 w3 w4 w5 w6 : Int) : (hd6 b n w1 w2 w3 w4 w5 w6).length = 18 := rfl
/-- an image of the class holds the list L -/
def BI (B : jA) (c : Nat) (L : List Int) : Prop := B c 1 = L.length ∧ ∀ i : Int, 0 ≤ i → i < L.length → B (c + 1) i = L.getD i.toNat 0
theorem BI.app {B C : jA} {c : Nat} {L M : List Int} (h : BI B c L) (h1 : C c = jap B c M c) (h2 : C (c + 1) = jap B c M (c + 1)) : BI C c (L ++ M) := by
  obtain ⟨a, d⟩ := h
  refine ⟨by rw [h1, jap_len, a, List.length_append]; omega, fun i i0 i1 => ?_⟩
  rw [List.length_append] at i1
  rw [h2]
  by_cases q : i < L.length
  · rw [jap_lo (by omega), jgetD_l (by omega)]; exact d i i0 q
  · rw [jap_hi (by omega) (by omega), jgetD_r (by omega), a]
    congr 1; omega
theorem BI.set {B : jA} {c : Nat} {P R : List Int} {v w : Int} (h : BI B c (P ++ (jw2 v ++ R))) : BI (jset B c P.length w) c (P ++ (jw2 w ++ R)) := by
  obtain ⟨a, d⟩ := h
  have hl : (P ++ (jw2 w ++ R)).length = (P ++ (jw2 v ++ R)).length := by simp [jw2_len]
  refine ⟨by unfold jset; rw [jup_row (by omega), jup_row (by omega), hl]; exact a, fun i i0 i1 => ?_⟩
  rw [hl] at i1
  have hl2 : ((P ++ (jw2 v ++ R)).length : Int) = P.length + 2 + R.length := by simp [jw2_len]; omega
  unfold jset
  by_cases q1 : i = (P.length : Int) + 1
  · rw [q1, jup_at, jgetD_r (by omega), show ((P.length : Int) + 1).toNat - P.length = 1 by omega]; rfl
  · rw [jup_ne q1]
    by_cases q2 : i = P.length
    · rw [q2, jup_at, jgetD_r (by omega), show ((P.length : Int)).toNat - P.length = 0 by omega]; rfl
    · rw [jup_ne q2, d i i0 i1]
      by_cases q3 : i < P.length
      · rw [jgetD_l (by omega), jgetD_l (by omega)]
      · have g : ∀ v, (P ++ (jw2 v ++ R)).getD i.toNat 0 = R.getD (i.toNat - P.length - 2) 0 := fun v => by rw [jgetD_r (l := P) (by omega), jgetD_r (l := jw2 v) (by rw [jw2_len]; omega), jw2_len]
        rw [g, g]
theorem jset_row {B : jA} {c o : Nat} {i w : Int} (h : o ≠ c + 1) : jset B c i w o = B o := by unfold jset; rw [jup_row h, jup_row h]
/-- the places of an image's parts -/
def qI (A : jA) (b : Int) : Int := 18 + ((bL A b (bN A).toNat ++ tB (tAll A b)).length : Int)
def qF (A : jA) (b : Int) : Int := qI A b + ((iL A b (bN A).toNat).length : Int)
def qT (A : jA) (b : Int) : Int := qF A b + ((fL A (bN A).toNat).length : Int)
def qq (A : jA) (b : Int) : Int := 18 + ((bL A b (bN A).toNat).length : Int)
def qX (A : jA) (b : Int) : Int := qT A b + ((tL (tAll A b) (qq A b) (tAll A b).length).length : Int)
def qL (A : jA) (b : Int) : Int := qX A b + ((xL A b (bN A).toNat).length : Int)
/-- all behind the head -/
def bBody (A : jA) (b : Int) : List Int := bL A b (bN A).toNat ++ tB (tAll A b) ++ iL A b (bN A).toNat ++ fL A (bN A).toNat ++ tL (tAll A b) (qq A b) (tAll A b).length ++ xL A b (bN A).toNat
/-- the image but for its sum -/
def bIm (A : jA) (b s : Int) : List Int := hd6 b (bN A) (qI A b) (qF A b) (qT A b) (qX A b) (qL A b) s ++ bBody A b
def bSum (A : jA) (b : Int) : Int := usum (fun i => (bIm A b 0).getD i.toNat 0) (bIm A b 0).length % 65521
def bImg (A : jA) (b : Int) : List Int := bIm A b (bSum A b)
theorem bIm_len (A : jA) (b s : Int) : ((bIm A b s).length : Int) = qL A b := by
  unfold bIm bBody qL qX qT qF qI
  simp only [List.length_append, hd6_len]; omega
theorem tAll_le {A : jA} (T : TR A) {b : Int} (hb : b = 8 ∨ b = 16 ∨ b = 32) : (tAll A b).length ≤ 31 ∧ (∀ t ∈ tAll A b, 1 ≤ t.length ∧ (t.length : Int) ≤ b) ∧ ((bL A b (bN A).toNat).length : Int) + tLen (tAll A b) ≤ 100 * (bN A - 1) ∧ ((tAll A b).length : Int) ≤ bN A - 1 := by
  have nl := bN_le T
  obtain ⟨w1, w2, w3, w4, w5⟩ := bL_le T hb (bN A).toNat (by omega) (by omega)
  unfold tAll
  by_cases q : (tS A b (bN A).toNat).2.length = 0
  · rw [if_pos q, List.append_nil]
    exact ⟨by omega, w3, by omega, by omega⟩
  · rw [if_neg q, List.length_append, tLen_app]
    simp only [tLen, List.length_cons, List.length_nil]
    refine ⟨by omega, fun t ht => ?_, by omega, by omega⟩
    rcases List.mem_append.mp ht with h | h
    · exact w3 t h
    · rw [List.mem_singleton.mp h]; exact ⟨by omega, w2⟩
/-- it finds room -/
theorem q_le {A : jA} (T : TR A) {b : Int} (hb : b = 8 ∨ b = 16 ∨ b = 32) : 18 ≤ qI A b ∧ qI A b ≤ 3118 ∧ qF A b ≤ qI A b + 1128 ∧ qI A b ≤ qF A b ∧ qF A b ≤ qT A b ∧ qT A b ≤ qF A b + 1116 ∧ qX A b = qT A b + 5 * (tAll A b).length ∧ qL A b = qX A b + 2 * bN A ∧ qL A b ≤ 5581 ∧ 18 ≤ qq A b ∧ qq A b + ((tB (tAll A b)).length : Int) = qI A b := by
  have nl := bN_le T
  obtain ⟨a1, a2, a3, a4⟩ := tAll_le T hb
  have h1 := tB_len (tAll A b) (fun t ht => ⟨(a2 t ht).1, by have := (a2 t ht).2; omega⟩)
  have h2 := iL_le T hb (bN A).toNat (by omega) (by omega)
  have h3 := bef_le T (bN A).toNat (by omega)
  have h4 := tL_len (tAll A b) (qq A b) (tAll A b).length
  have h5 := xL_len A b (bN A).toNat
  unfold qL qX qT qF qI qq
  simp only [List.length_append]
  unfold qq at h4
  omega
theorem mem_bytes_app {L M : List Int} (h1 : ∀ x ∈ L, 0 ≤ x ∧ x ≤ 255) (h2 : ∀ x ∈ M, 0 ≤ x ∧ x ≤ 255) : ∀ x ∈ L ++ M, 0 ≤ x ∧ x ≤ 255 := fun x hx => by
  rcases List.mem_append.mp hx with h | h
  · exact h1 x h
  · exact h2 x h
theorem jw2_b (w : Int) : ∀ x ∈ jw2 w, 0 ≤ x ∧ x ≤ 255 := fun x hx => by
  simp only [jw2, List.mem_cons, List.not_mem_nil, or_false] at hx
  omega
/-- all of it is bytes -/
theorem body_b {A : jA} (T : TR A) {b : Int} (hb : b = 8 ∨ b = 16 ∨ b = 32) : ∀ x ∈ bBody A b, 0 ≤ x ∧ x ≤ 255 := by
  have nl := bN_le T
  have one : ∀ y : Int, 0 ≤ y ∧ y ≤ 255 → ∀ x ∈ [y], 0 ≤ x ∧ x ≤ 255 := fun y hy x hx => by rw [List.mem_singleton.mp hx]; exact hy
  have nil : ∀ x ∈ ([] : List Int), 0 ≤ x ∧ x ≤ 255 := fun x hx => by cases hx
  have hbl : ∀ k : Nat, (k : Int) ≤ bN A → ∀ x ∈ bL A b k, 0 ≤ x ∧ x ≤ 255 := by
    intro k
    induction k with
    | zero => intro _; exact nil
    | succ k ih =>
      intro hk
      simp only [bL]
      refine mem_bytes_app (ih (by omega)) ?_
      split
      · obtain ⟨d0, d1, d2⟩ := bd_le T (show (1 : Int) ≤ (k : Int) + 1 by omega) (by omega)
        obtain ⟨z1, z2, z3, -⟩ := file_sz T hb d0 d1
        have : ∀ n : Nat, (n : Int) ≤ bW A b ((k : Int) + 1) → ∀ x ∈ fBl A b (bd A ((k : Int) + 1)) n, 0 ≤ x ∧ x ≤ 255 := by
          intro n
          induction n with
          | zero => intro _; exact nil
          | succ n ih2 =>
            intro hn
            simp only [fBl]
            exact mem_bytes_app (ih2 (by omega)) (sBytes_b (by omega) (sbytes_b T d0 d1 hb (by omega) (by have : bW A b ((k : Int) + 1) = A 8 (bd A ((k : Int) + 1)) / b := rfl; omega)))
        exact this _ (by have : 0 ≤ bW A b ((k : Int) + 1) := z3; omega)
      · exact nil
  have htb : ∀ l : List (List Int), (∀ t ∈ l, (t.length : Int) ≤ 32 ∧ ∀ x ∈ t, 0 ≤ x ∧ x ≤ 255) → ∀ x ∈ tB l, 0 ≤ x ∧ x ≤ 255 := by
    intro l
    induction l with
    | nil => intro _; exact nil
    | cons t r ih =>
      intro h
      simp only [tB]
      have ht := h t (List.mem_cons_self ..)
      refine mem_bytes_app (sBytes_b (by omega) (fun i i0 i1 => ht.2 _ ?_)) (ih (fun t ht => h t (List.mem_cons_of_mem _ ht)))
      rw [List.getD_eq_getElem?_getD, List.getElem?_eq_getElem (by omega)]; exact List.getElem_mem _
  obtain ⟨a1, a2, a3, a4⟩ := tAll_le T hb
  have htS := tS_b T hb (bN A).toNat (by omega)
  have htA : ∀ t ∈ tAll A b, (t.length : Int) ≤ 32 ∧ ∀ x ∈ t, 0 ≤ x ∧ x ≤ 255 := fun t ht => by
    refine ⟨by have := (a2 t ht).2; omega, ?_⟩
    unfold tAll at ht
    rcases List.mem_append.mp ht with h | h
    · exact htS.1 t h
    · split at h
      · cases h
      · rw [List.mem_singleton.mp h]; exact htS.2
  have hil : ∀ k : Nat, (k : Int) ≤ bN A → ∀ x ∈ iL A b k, 0 ≤ x ∧ x ≤ 255 := by
    intro k
    induction k with
    | zero => intro _; exact nil
    | succ k ih =>
      intro hk
      simp only [iL]
      refine mem_bytes_app (ih (by omega)) ?_
      obtain ⟨d0, d1, d2⟩ := bd_le T (show (1 : Int) ≤ (k : Int) + 1 by omega) (by omega)
      have sx := T.2.1 _ d0 d1
      obtain ⟨t1, t2, t3, t4⟩ := told_le (A := A) (show (1 : Int) ≤ (k : Int) + 1 by omega)
      obtain ⟨r1, r2, r3, r4, r5, r6⟩ := told_rng T hb t1 (show told A ((k : Int) + 1) ≤ bN A by omega)
      unfold iR
      refine mem_bytes_app (mem_bytes_app (mem_bytes_app (mem_bytes_app (one _ (by omega)) (jw2_b _)) (jw2_b _)) (one _ ?_)) ?_
      · by_cases q : (k : Int) + 1 = 1
        · rw [if_pos q]; omega
        · rw [if_neg q]
          have ne0 : bd A ((k : Int) + 1) ≠ 0 := fun e => by
            have h1' := bd_le T (show (1 : Int) ≤ 1 by omega) nl.1
            rw [(bd_1 T).1] at h1'
            rw [e, h1'.2.2] at d2
            exact q d2.symm
          have := T.2.2.2.2.2.2.2.1 (bd A ((k : Int) + 1)) (by omega) d1
          omega
      · split
        · exact mem_bytes_app (mem_bytes_app (jw2_b _) (jw2_b _)) (jw2_b _)
        · split
          · refine mem_bytes_app (mem_bytes_app (mem_bytes_app (mem_bytes_app (jw2_b _) (jw2_b _)) (one _ (by omega))) (one _ (by omega))) ?_
            have : ∀ n : Nat, ∀ x ∈ szL A b (told A ((k : Int) + 1)) n, 0 ≤ x ∧ x ≤ 255 := by
              intro n
              induction n with
              | zero => exact nil
              | succ n ih2 => simp only [szL]; exact mem_bytes_app ih2 (jw2_b _)
            exact this _
          · exact nil
  have hfl : ∀ k : Nat, ∀ x ∈ fL A k, 0 ≤ x ∧ x ≤ 255 := by
    intro k
    induction k with
    | zero => exact nil
    | succ k ih =>
      simp only [fL]
      refine mem_bytes_app ih ?_
      have : ∀ (i : Int) (n : Nat), ∀ x ∈ nmP A i n, 0 ≤ x ∧ x ≤ 255 := by
        intro i n
        induction n with
        | zero => exact nil
        | succ n ih2 => simp only [nmP, fN]; exact mem_bytes_app ih2 (mem_bytes_app (jw2_b _) (jw2_b _))
      exact this _ _
  have htl : ∀ n : Nat, n ≤ (tAll A b).length → ∀ x ∈ tL (tAll A b) (qq A b) n, 0 ≤ x ∧ x ≤ 255 := by
    intro n
    induction n with
    | zero => intro _; exact nil
    | succ n ih =>
      intro hn
      simp only [tL, tR]
      refine mem_bytes_app (ih (by omega)) (mem_bytes_app (mem_bytes_app (jw2_b _) (jw2_b _)) (one _ ?_))
      have := a2 ((tAll A b).getD n []) (by rw [List.getD_eq_getElem?_getD, List.getElem?_eq_getElem (by omega)]; exact List.getElem_mem _)
      omega
  have hxl : ∀ k : Nat, ∀ x ∈ xL A b k, 0 ≤ x ∧ x ≤ 255 := by
    intro k
    induction k with
    | zero => exact nil
    | succ k ih => simp only [xL]; exact mem_bytes_app ih (jw2_b _)
  unfold bBody
  exact mem_bytes_app (mem_bytes_app (mem_bytes_app (mem_bytes_app (mem_bytes_app (hbl _ (by omega)) (htb _ htA)) (hil _ (by omega))) (hfl _)) (htl _ (Nat.le_refl _))) (hxl _)
theorem bIm_b {A : jA} (T : TR A) {b : Int} (hb : b = 8 ∨ b = 16 ∨ b = 32) (s : Int) : ∀ x ∈ bIm A b s, 0 ≤ x ∧ x ≤ 255 := by
  unfold bIm hd6
  refine mem_bytes_app (mem_bytes_app (mem_bytes_app (mem_bytes_app (mem_bytes_app (mem_bytes_app (mem_bytes_app (mem_bytes_app ?_ (jw2_b _)) (jw2_b _)) (jw2_b _)) (jw2_b _)) (jw2_b _)) (jw2_b _)) (jw2_b _)) (body_b T hb)
  intro x hx
  simp only [List.mem_cons, List.not_mem_nil, or_false] at hx
  omega
