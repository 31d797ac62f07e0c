section KF4
variable {E : jE} {A B : jA} {b : Int}
theorem tAl_get {l : List (List Int)} {t : List Int} {s : Nat} (h : s < l.length) : (l ++ [t]).getD s [] = l.getD s [] := by
  rw [List.getD_eq_getElem?_getD, List.getElem?_append_left h, ← List.getD_eq_getElem?_getD]
theorem tAl_end {l : List (List Int)} {t : List Int} : (l ++ [t]).getD l.length [] = t := by
  rw [List.getD_eq_getElem?_getD, List.getElem?_append_right (Nat.le_refl _)]; simp
set_option maxHeartbeats 4000000 in
theorem k_tellFile (T : TR A) (hb : b = 8 ∨ b = 16 ∨ b = 32) {X : jA} (hX : CM A X) (hm : 0 ≤ X 49 14 ∧ X 49 14 ≤ 2) (h18 : X 49 15 = 18) {k : Int} (k1 : 1 ≤ k) (k2 : k ≤ bN A) (hk : A 3 (bd A k) = 2) (ht : tw A k = 0) (hP : PM A X B b k) {K : jA → Prop} (hK : ∀ C, PM A X C b (k + 1) → K C) : jrV 204 0 [some (.ref 49), some (.int (jI k)), some (.int (jI b)), none, none, none, none, none] [] E B K := by
  have nl := bN_le T
  obtain ⟨d0, d1, d2⟩ := bd_le T k1 k2
  obtain ⟨z1, z2, z3, z4, z5, z6, z7, z8⟩ := file_sz T hb d0 d1
  have sx := T.2.1 _ d0 d1
  obtain ⟨p1, p2, p3, p4, p5, p6, p7⟩ := hP
  have rk : jW k := ⟨by omega, by omega⟩
  have rb : jW b := ⟨by omega, by omega⟩
  have rx : jW (bd A k) := ⟨by omega, by omega⟩
  have hB : CM A B := hX.fr (fun o x y => p1 o (by omega) (by omega) (by omega)) (p2 7 (by decide) (by decide) (by decide)) (p2 18 (by decide) (by decide) (by decide)) (p1 60 (by decide) (by decide) (by decide)) (p1 61 (by decide) (by decide) (by decide))
  have e53 : B 53 (bd A k) = A 8 (bd A k) := by rw [hB.1 53 (by decide) (by decide)]; exact sx.2.2.2.2.2.2.2.2.2.1
  have eL := bL_at (A := A) (b := b) k1
  rw [if_pos ⟨hk, ht⟩] at eL
  have eS := tS_at (A := A) (b := b) k1
  rw [if_pos ⟨hk, ht⟩] at eS
  have hle := (bL_le T hb k.toNat (by omega) (by omega)).1
  have tl0 := tLen_nn (tS A b k.toNat).1
  have hle2 : ((bL A b k.toNat).length : Int) ≤ 3100 := by omega
  rw [eL, List.length_append] at hle2
  have etold : told A k = k := by unfold told; rw [if_pos ht]
  have rW : jW (bW A b k) := ⟨by unfold bW; omega, by unfold bW; omega⟩
  have bw12 : 0 ≤ bW A b k ∧ bW A b k ≤ 12 := ⟨z3, z4⟩
  have ple : ∀ j : Nat, (j : Int) ≤ bW A b k → ((fBl A b (bd A k) j).length : Int) ≤ (fBl A b (bd A k) (bW A b k).toNat).length := by
    have mono : ∀ (d j : Nat), (fBl A b (bd A k) j).length ≤ (fBl A b (bd A k) (j + d)).length := by
      intro d
      induction d with
      | zero => intro j; exact Nat.le_refl _
      | succ d ih => intro j; rw [← Nat.add_assoc]; simp only [fBl, List.length_append]; have := ih j; omega
    intro j hj
    have := mono ((bW A b k).toNat - j) j
    rw [show j + ((bW A b k).toNat - j) = (bW A b k).toNat by omega] at this
    omega
  -- the tail, once the blocks are told
  have rest : ∀ C, (∀ o, o ≠ 49 → o ≠ 58 → ¬ (62 ≤ o ∧ o ≤ 69) → C o = X o) → (∀ j, j ≠ 15 → j ≠ 22 → j ≠ 27 → C 49 j = X 49 j) → C 58 = mtl X (bL A b k.toNat) 58 → C 49 15 = X 49 15 + (bL A b k.toNat).length → C 49 27 = B 49 27 → (∀ o, 66 ≤ o → o ≤ 69 → C o = B o) → C 64 k = bBeg A b k → (∀ j, j ≠ k → C 64 j = B 64 j) → (∀ i, 0 ≤ i → i < bW A b k → C 65 (13 * k + i) = sSize (bG A b (bd A k) i) b) → (∀ j, 1 ≤ j → j < k → ∀ i, 0 ≤ i → i < 13 → C 65 (13 * j + i) = B 65 (13 * j + i)) → jrV 204 39 [some (.ref 49), some (.int (jI k)), some (.int (jI b)), some (.int (jI (bd A k))), some (.int (jI (bW A b k))), some (.int (jI (bW A b k))), none, none] [] E C K := fun C c1 c2 c58 c15 c27 c66 c64 c64' c65 c65' => by
    have c53 : C 53 (bd A k) = A 8 (bd A k) := by rw [c1 53 (by decide) (by decide) (by decide), hX.1 53 (by decide) (by decide)]; exact sx.2.2.2.2.2.2.2.2.2.1
    have c54 : C 54 = A 54 := by rw [c1 54 (by decide) (by decide) (by decide), hX.1 54 (by decide) (by decide)]
    have eR : A 8 (bd A k) - bW A b k * b = A 8 (bd A k) % b := by unfold bW; omega
    have oth : ∀ D : jA, (∀ j, j ≠ k → D 64 j = B 64 j ∧ D 66 j = B 66 j ∧ D 67 j = B 67 j) → (∀ j, 1 ≤ j → j < k → ∀ i, 0 ≤ i → i < 13 → D 65 (13 * j + i) = B 65 (13 * j + i)) → D 64 k = bBeg A b k → D 66 k = tI A b k → D 67 k = tO A b k → (∀ i, 0 ≤ i → i < bW A b k → D 65 (13 * k + i) = sSize (bG A b (bd A k) i) b) → ∀ j, 1 ≤ j → j < k + 1 → A 3 (bd A j) = 2 → D 64 j = bBeg A b (told A j) ∧ D 66 j = tI A b (told A j) ∧ D 67 j = tO A b (told A j) ∧ ∀ i, 0 ≤ i → i < bW A b j → D 65 (13 * j + i) = sSize (bG A b (bd A (told A j)) i) b := fun D f1 f2 f3 f4 f5 f6 j j1 j2 j3 => by
      by_cases e : j = k
      · subst e; rw [etold]; exact ⟨f3, f4, f5, f6⟩
      · have hj := bd_le T j1 (show j ≤ bN A by omega)
        have hz := (file_sz T hb hj.1 hj.2.1).2.2.2.1
        have hz' : bW A b j ≤ 12 := hz
        obtain ⟨g1, g2, g3⟩ := f1 j e
        obtain ⟨r1, r2, r3, r4⟩ := p7 j j1 (by omega) j3
        exact ⟨by rw [g1]; exact r1, by rw [g2]; exact r2, by rw [g3]; exact r3, fun i i0 i1 => by rw [f2 j j1 (by omega) i i0 (by omega)]; exact r4 i i0 i1⟩
    refine vd_X7_tellFile_39 k rk b rb _ rx _ rW _ rW E C K ⟨fun _ => ⟨by omega, by omega, fun A3 e3 => ⟨by omega, fun A7 e7 => ?_⟩⟩, fun z => by omega⟩
    rw [c53, eR]
    have q7 : ∀ o, o ≠ 66 → o ≠ 67 → A7 o = C o := fun o o1 o2 => by rw [e7, jup_row o2, e3, jup_row o1]
    have q66 : ∀ j, j ≠ k → A7 66 j = B 66 j ∧ A7 67 j = B 67 j := fun j hj => ⟨by rw [e7, jup_row (by decide), e3, jup_ne hj, c66 66 (by decide) (by decide)], by rw [e7, jup_ne hj, e3, jup_row (by decide), c66 67 (by decide) (by decide)]⟩
    have q66k : A7 66 k = 0 ∧ A7 67 k = 0 := ⟨by rw [e7, jup_row (by decide), e3, jup_at], by rw [e7, jup_at]⟩
    have lO := tOf_len A b k
    have a27 : A7 49 27 = (tAl A b (k - 1).toNat).length := by rw [q7 49 (by decide) (by decide), c27]; exact p5
    have aT : MTt A7 (tAl A b (k - 1).toNat) := by unfold MTt; rw [q7 68 (by decide) (by decide), q7 69 (by decide) (by decide), c66 68 (by decide) (by decide), c66 69 (by decide) (by decide)]; exact p6
    have bk : ((tS A b (k - 1).toNat).2 = [] → (tS A b (k - 1).toNat).1 = []) ∧ ((tS A b (k - 1).toNat).1.length : Int) + min 1 ((tS A b (k - 1).toNat).2.length : Int) ≤ 30 ∧ ((tS A b (k - 1).toNat).2.length : Int) ≤ b := by
      by_cases h1 : k = 1
      · subst h1
        exact ⟨fun _ => rfl, by show ((0 : Nat) : Int) + min 1 ((0 : Nat) : Int) ≤ 30; omega, by show ((0 : Nat) : Int) ≤ b; omega⟩
      · have := bL_le T hb (k - 1).toNat (by omega) (by omega)
        exact ⟨this.2.2.2.1, by have := this.2.2.2.2; omega, this.2.1⟩
    have lAl : ((tAl A b (k - 1).toNat).length : Int) = (tS A b (k - 1).toNat).1.length + min 1 ((tS A b (k - 1).toNat).2.length : Int) := by
      unfold tAl
      by_cases h0 : (tS A b (k - 1).toNat).2.length = 0
      · rw [if_pos h0, List.append_nil]; omega
      · rw [if_neg h0, List.length_append, List.length_cons, List.length_nil]; omega
    refine ⟨⟨by omega, by omega⟩, fun q => ?_, fun q => ?_⟩
    · -- no tail
      have er : A 8 (bd A k) % b = 0 := by omega
      have ez : tOf A b k = [] := List.length_eq_zero_iff.mp (by omega)
      rw [ez, List.length_nil, List.append_nil, if_neg (by omega)] at eS
      have eS' : tS A b k.toNat = tS A b (k - 1).toNat := eS
      refine hK A7 ⟨fun o o1 o2 o3 => by rw [q7 o (by omega) (by omega)]; exact c1 o o1 o2 o3, fun j j1 j2 j3 => by rw [q7 49 (by decide) (by decide)]; exact c2 j j1 j2 j3, ?_, ?_, ?_, ?_, ?_⟩
      · rw [q7 58 (by decide) (by decide), show (k + 1 - 1).toNat = k.toNat by omega]; exact c58
      · rw [q7 49 (by decide) (by decide), show (k + 1 - 1).toNat = k.toNat by omega]; exact c15
      · rw [show (k + 1 - 1).toNat = k.toNat by omega]; unfold tAl at a27 ⊢; rw [eS']; exact a27
      · rw [show (k + 1 - 1).toNat = k.toNat by omega]; unfold tAl at aT ⊢; rw [eS']; exact aT
      · refine oth A7 (fun j hj => ⟨by rw [q7 64 (by decide) (by decide)]; exact c64' j hj, q66 j hj⟩) (by rw [q7 65 (by decide) (by decide)]; exact c65') (by rw [q7 64 (by decide) (by decide)]; exact c64) ?_ ?_ (by rw [q7 65 (by decide) (by decide)]; exact c65)
        · unfold tI; rw [if_neg (fun z => z.2.2 er)]; exact q66k.1
        · unfold tO; rw [if_neg (fun z => z.2.2 er)]; exact q66k.2
    · have er : A 8 (bd A k) % b ≠ 0 := by omega
      have lpos : 1 ≤ (tOf A b k).length := by omega
      -- a tail that is begun, or goes on
      have join : ∀ (D : jA) (l : List (List Int)) (cur : List Int), tS A b k.toNat = (l, cur ++ tOf A b k) → (cur.length : Int) + (tOf A b k).length ≤ b → l.length ≤ 30 → (∀ o, o ≠ 49 → o ≠ 68 → D o = A7 o) → (∀ j, j ≠ 27 → D 49 j = A7 49 j) → D 49 27 = l.length + 1 → (∀ t : Nat, t < l.length → D 68 t = (l.getD t []).length ∧ ∀ i : Int, 0 ≤ i → i < (l.getD t []).length → D 69 (32 * t + i) = (l.getD t []).getD i.toNat 0) → (D 68 l.length = cur.length ∧ ∀ i : Int, 0 ≤ i → i < cur.length → D 69 (32 * l.length + i) = cur.getD i.toNat 0) → (∀ t ∈ l, (t.length : Int) ≤ 32) → jrV 204 185 [some (.ref 49), some (.int (jI k)), some (.int (jI b)), some (.int (jI (bd A k))), some (.int (jI (bW A b k))), some (.int (jI (A 8 (bd A k) % b))), none, none] [] E D K := fun D l cur es hcur hl f1 f2 f27 f3 f4 fl32 => by
        refine vd_X7_tellFile_185 k rk b rb _ rx _ rW _ ⟨by omega, by omega⟩ E D K ⟨by omega, fun D2 g2 => ?_⟩
        rw [f27] at g2 ⊢
        rw [show (l.length : Int) + 1 - 1 = l.length by omega]
        have g68 : D2 68 l.length = cur.length := by rw [g2, jup_row (by decide)]; exact f4.1
        refine ⟨by omega, by omega, fun D7 g7 => ?_⟩
        rw [g68] at g7
        have gq : ∀ o, o ≠ 66 → o ≠ 67 → D7 o = D o := fun o o1 o2 => by rw [g7, jup_row o2, g2, jup_row o1]
        refine j_loop (P := fun i => ∀ C' : jA, 0 ≤ i → i ≤ (tOf A b k).length → (∀ o, o ≠ 68 → o ≠ 69 → C' o = D7 o) → (∀ t : Nat, t < l.length → C' 68 t = (l.getD t []).length ∧ ∀ i : Int, 0 ≤ i → i < (l.getD t []).length → C' 69 (32 * t + i) = (l.getD t []).getD i.toNat 0) → C' 68 l.length = cur.length + i → (∀ i' : Int, 0 ≤ i' → i' < cur.length + i → C' 69 (32 * l.length + i') = (cur ++ tOf A b k).getD i'.toNat 0) → jrV 204 219 [some (.ref 49), none, some (.int (jI b)), some (.int (jI (bd A k))), some (.int (jI (bW A b k))), some (.int (jI (A 8 (bd A k) % b))), some (.int (jI l.length)), some (.int (jI i))] [] E C' K) (tOf A b k).length (fun i ih2 C' i0 i1 h1 h2 h3 h4 => ?_) 0 D7 (by omega) (by omega) (fun _ _ _ => rfl) (by rw [gq 68 (by decide) (by decide), gq 69 (by decide) (by decide)]; exact f3) (by rw [gq 68 (by decide) (by decide), f4.1]; omega) (fun i' u1 u2 => by rw [gq 69 (by decide) (by decide), f4.2 i' u1 (by omega), jgetD_l (by omega)])
        refine vd_X7_tellFile_219 b rb _ rx _ rW _ ⟨by omega, by omega⟩ _ ⟨by omega, by omega⟩ i ⟨by omega, by omega⟩ E C' K ⟨fun q5 => hK C' ?_, fun q5 => ?_⟩
        · have ei : i = (tOf A b k).length := by omega
          have c'o : ∀ o, o ≠ 49 → ¬ (66 ≤ o ∧ o ≤ 69) → C' o = C o := fun o o1 o2 => by rw [h1 o (by omega) (by omega), gq o (by omega) (by omega), f1 o o1 (by omega), q7 o (by omega) (by omega)]
          have c'49 : ∀ j, j ≠ 27 → C' 49 j = C 49 j := fun j hj => by rw [h1 49 (by decide) (by decide), gq 49 (by decide) (by decide), f2 j hj, q7 49 (by decide) (by decide)]
          have eAl : tAl A b k.toNat = l ++ [cur ++ tOf A b k] := by unfold tAl; rw [es]; dsimp only; rw [if_neg (by rw [List.length_append]; omega)]
          refine ⟨fun o o1 o2 o3 => by rw [c'o o o1 (by omega)]; exact c1 o o1 o2 o3, fun j j1 j2 j3 => by rw [c'49 j j3]; exact c2 j j1 j2 j3, ?_, ?_, ?_, ?_, ?_⟩
          · rw [c'o 58 (by decide) (by decide), show (k + 1 - 1).toNat = k.toNat by omega]; exact c58
          · rw [c'49 15 (by decide), show (k + 1 - 1).toNat = k.toNat by omega]; exact c15
          · rw [show (k + 1 - 1).toNat = k.toNat by omega, eAl, h1 49 (by decide) (by decide), gq 49 (by decide) (by decide), f27, List.length_append, List.length_cons, List.length_nil]; rfl
          · rw [show (k + 1 - 1).toNat = k.toNat by omega, eAl]
            intro t ht
            rw [List.length_append, List.length_cons, List.length_nil] at ht
            by_cases e : t = l.length
            · subst e
              rw [tAl_end]
              exact ⟨by rw [h3, ei, List.length_append]; rfl, fun i' u1 u2 => h4 i' u1 (by rw [List.length_append] at u2; omega)⟩
            · rw [tAl_get (by omega)]; exact h2 t (by omega)
          · refine oth C' (fun j hj => ⟨by rw [c'o 64 (by decide) (by decide)]; exact c64' j hj, ?_, ?_⟩) (by rw [c'o 65 (by decide) (by decide)]; exact c65') (by rw [c'o 64 (by decide) (by decide)]; exact c64) ?_ ?_ (by rw [c'o 65 (by decide) (by decide)]; exact c65)
            · rw [h1 66 (by decide) (by decide), g7, jup_row (by decide), g2, jup_ne hj, f1 66 (by decide) (by decide)]; exact (q66 j hj).1
            · rw [h1 67 (by decide) (by decide), g7, jup_ne hj, g2, jup_row (by decide), f1 67 (by decide) (by decide)]; exact (q66 j hj).2
            · unfold tI; rw [if_pos ⟨hk, ht, er⟩, es, h1 66 (by decide) (by decide), g7, jup_row (by decide), g2, jup_at]
            · unfold tO; rw [if_pos ⟨hk, ht, er⟩, es, h1 67 (by decide) (by decide), g7, jup_at, List.length_append]; omega
        · rw [h3]
          have c54' : C' 54 = A 54 := by rw [h1 54 (by decide) (by decide), gq 54 (by decide) (by decide), f1 54 (by decide) (by decide), q7 54 (by decide) (by decide)]; exact c54
          rw [c54']
          have bwb : 0 ≤ b * bW A b k ∧ b * bW A b k + A 8 (bd A k) % b = A 8 (bd A k) := by rw [Int.mul_comm]; unfold bW; omega
          refine ⟨by omega, by omega, by omega, fun C4 g4 => ?_⟩
          have c468 : C4 68 l.length = cur.length + i := by rw [g4, jup_row (by decide)]; exact h3
          rw [c468]
          have hby := T.2.2.1 (bd A k) (b * bW A b k + i) d0 d1 (by omega) (by omega)
          refine ⟨by omega, ⟨by omega, by omega⟩, by omega, fun C10 g10 => ih2 (by omega) C10 (by omega) (by omega) (fun o o1 o2 => by rw [g10, jup_row o1, g4, jup_row o2]; exact h1 o o1 o2) (fun t ht => ?_) (by rw [g10, jup_at]; omega) (fun i' u1 u2 => ?_)⟩
          · have ht32 := fl32 (l.getD t []) (by rw [List.getD_eq_getElem?_getD, List.getElem?_eq_getElem ht]; exact List.getElem_mem _)
            obtain ⟨t1, t2⟩ := h2 t ht
            refine ⟨by rw [g10, jup_ne (by omega), g4, jup_row (by decide)]; exact t1, fun i' u1 u2 => ?_⟩
            rw [g10, jup_row (by decide), g4, jup_ne (by omega)]; exact t2 i' u1 u2
          · rw [g10, jup_row (by decide), g4]
            by_cases e : i' = cur.length + i
            · rw [e, jup_at, jgetD_r (by omega), show (((cur.length : Int) + i).toNat - cur.length) = i.toNat by omega]
              unfold tOf
              rw [pSeg_get (by omega), show 100 * bd A k + b * bW A b k + i = 100 * bd A k + (b * bW A b k + i) by omega, hby.1]
              congr 1
              rw [Int.mul_comm b]
              omega
            · rw [jup_ne (by omega)]; exact h4 i' u1 (by omega)
      have l32 : ∀ t ∈ (tS A b (k - 1).toNat).1, (t.length : Int) ≤ 32 := fun t ht => by
        by_cases h1 : k = 1
        · subst h1; cases ht
        · have := (bL_le T hb (k - 1).toNat (by omega) (by omega)).2.2.1 t ht; omega
      rw [a27]
      -- a new tail is begun
      have begin' : ∀ l, tAl A b (k - 1).toNat = l → tS A b k.toNat = (l, tOf A b k) → l.length ≤ 30 → (∀ t ∈ l, (t.length : Int) ≤ 32) → jrV 204 165 [some (.ref 49), some (.int (jI k)), some (.int (jI b)), some (.int (jI (bd A k))), some (.int (jI (bW A b k))), some (.int (jI (A 8 (bd A k) % b))), none, none] [] E A7 K := fun l el es hl hl32 => by
        rw [el] at a27 aT
        refine vd_X7_tellFile_165 k rk b rb _ rx _ rW _ ⟨by omega, by omega⟩ E A7 K ?_
        rw [a27]
        refine ⟨by omega, fun D2 g2 => ?_⟩
        have g27 : D2 49 27 = l.length := by rw [g2, jup_row (by decide)]; exact a27
        rw [g27]
        refine ⟨⟨by omega, by omega⟩, fun D6 g6 => join D6 l [] (by rw [List.nil_append]; exact es) (by simp only [List.length_nil]; omega) hl (fun o o1 o2 => by rw [g6, jup_row o1, g2, jup_row o2]) (fun j hj => by rw [g6, jup_ne hj, g2, jup_row (by decide)]) (by rw [g6, jup_at]) (fun t ht => ?_) ⟨by rw [g6, jup_row (by decide), g2, jup_at]; rfl, fun i' u1 u2 => by simp only [List.length_nil] at u2; omega⟩ hl32⟩
        rw [g6, jup_row (by decide), jup_row (by decide), g2, jup_ne (by omega), jup_row (by decide)]
        exact aT t ht
      by_cases h0 : (tS A b (k - 1).toNat).2.length = 0
      · have hc0 := List.length_eq_zero_iff.mp h0
        have hl0 := bk.1 hc0
        have eAl0 : tAl A b (k - 1).toNat = [] := by unfold tAl; rw [if_pos h0, hl0]; rfl
        rw [eAl0, List.length_nil]
        rw [h0, hc0, hl0, List.nil_append, if_neg (by omega)] at eS
        exact ⟨fun _ => begin' [] eAl0 eS (by simp) (fun t ht => by cases ht), fun z => absurd rfl z⟩
      · have eAl0 : tAl A b (k - 1).toNat = (tS A b (k - 1).toNat).1 ++ [(tS A b (k - 1).toNat).2] := by unfold tAl; rw [if_neg h0]
        have ln : ((tAl A b (k - 1).toNat).length : Int) = (tS A b (k - 1).toNat).1.length + 1 := by rw [eAl0, List.length_append, List.length_cons, List.length_nil]; rfl
        rw [ln, show ((tS A b (k - 1).toNat).1.length : Int) + 1 - 1 = (tS A b (k - 1).toNat).1.length by omega]
        have a68 := aT (tS A b (k - 1).toNat).1.length (by omega)
        rw [eAl0, tAl_end] at a68
        rw [a68.1]
        refine ⟨fun z => by omega, fun _ => ⟨by omega, ⟨by omega, by omega⟩, fun q3 => ?_, fun q3 => ?_⟩⟩
        · rw [if_neg (by omega)] at eS
          refine join A7 _ _ eS (by omega) (by omega) (fun _ _ _ => rfl) (fun _ _ => rfl) (by rw [a27, ln]) (fun t ht => ?_) a68 l32
          have := aT t (by omega)
          rw [eAl0, tAl_get ht] at this
          exact this
        · rw [if_pos (by omega), ← eAl0] at eS
          refine begin' _ rfl eS (by omega) (fun t ht => ?_)
          rw [eAl0] at ht
          rcases List.mem_append.mp ht with h | h
          · exact l32 t h
          · rw [List.mem_singleton.mp h]; omega
  -- the whole blocks
  refine vd_X7_tellFile_0 k rk b rb E B K ?_
  rw [hB.2.2.2.2 k k1 k2, e53, p4, h18]
  have body : ∀ y, jW y → y = bBeg A b k → jrV 204 35 [some (.ref 49), some (.int (jI k)), some (.int (jI b)), some (.int (jI (bd A k))), some (.int (jI (bW A b k))), none, none, none] [.int (jI y), .int (jI k), .ref 64] E B K := fun y ry hy => by
    refine vd_X7_tellFile_35 k rk b rb _ rx _ rW y ry k rk E B K ⟨by omega, fun A2 e2 => ?_⟩
    refine j_loop (P := fun i => ∀ C, 0 ≤ i → i ≤ bW A b k → (∀ o, o ≠ 49 → o ≠ 58 → o ≠ 62 → o ≠ 63 → o ≠ 65 → C o = A2 o) → (∀ j, j ≠ 15 → j ≠ 22 → C 49 j = B 49 j) → C 58 = mtl X (bL A b (k - 1).toNat ++ fBl A b (bd A k) i.toNat) 58 → C 49 15 = X 49 15 + ((bL A b (k - 1).toNat ++ fBl A b (bd A k) i.toNat).length : Int) → (∀ i', 0 ≤ i' → i' < i → C 65 (13 * k + i') = sSize (bG A b (bd A k) i') b) → (∀ j, 1 ≤ j → j < k → ∀ i', 0 ≤ i' → i' < 13 → C 65 (13 * j + i') = B 65 (13 * j + i')) → jrV 204 39 [some (.ref 49), some (.int (jI k)), some (.int (jI b)), some (.int (jI (bd A k))), some (.int (jI (bW A b k))), some (.int (jI i)), none, none] [] E C K) (bW A b k) (fun i ih C i0 i1 c1 c2 c58 c15 c65 c65' => ?_) 0 A2 (by omega) bw12.1 (fun _ _ _ _ _ _ => rfl) (fun j _ _ => by rw [e2, jup_row (by decide)]) (by rw [show fBl A b (bd A k) (0 : Int).toNat = [] from rfl, List.append_nil, e2, jup_row (by decide)]; exact p3) (by rw [show fBl A b (bd A k) (0 : Int).toNat = [] from rfl, List.append_nil, e2, jup_row (by decide)]; exact p4) (fun i' a c => by omega) (fun j _ _ i' _ _ => by rw [e2, jup_row (by decide)])
    by_cases q : i = bW A b k
    · rw [q] at c58 c15 c65 ⊢
      rw [← eL] at c58 c15
      refine rest C (fun o o1 o2 o3 => by rw [c1 o o1 o2 (by omega) (by omega) (by omega), e2, jup_row (by omega)]; exact p1 o o1 o2 o3) (fun j j1 j2 j3 => by rw [c2 j j1 j2]; exact p2 j j1 j2 j3) c58 c15 (c2 27 (by decide) (by decide)) (fun o o1 o2 => by rw [c1 o (by omega) (by omega) (by omega) (by omega) (by omega), e2, jup_row (by omega)]) (by rw [c1 64 (by decide) (by decide) (by decide) (by decide) (by decide), e2, jup_at]; exact hy) (fun j hj => by rw [c1 64 (by decide) (by decide) (by decide) (by decide) (by decide), e2, jup_ne hj]) c65 c65'
    · refine vd_X7_tellFile_39 k rk b rb _ rx _ rW i ⟨by omega, by omega⟩ E C K ⟨fun z => by omega, fun q2 => ?_⟩
      have c54 : C 54 = A 54 := by rw [c1 54 (by decide) (by decide) (by decide) (by decide) (by decide), e2, jup_row (by decide)]; exact hB.1 54 (by decide) (by decide)
      have i100 : i * b + b ≤ A 8 (bd A k) ∧ 0 ≤ i * b := by
        have : i < A 8 (bd A k) / b := q2
        rcases hb with rfl | rfl | rfl <;> omega
      have eF : fBl A b (bd A k) (i.toNat + 1) = fBl A b (bd A k) i.toNat ++ sBytes (bG A b (bd A k) i) b := by simp only [fBl]; rw [Int.toNat_of_nonneg i0]
      have hle3 := ple (i.toNat + 1) (by omega)
      rw [eF, List.length_append] at hle3
      rw [List.length_append] at c15
      -- the block is copied
      refine j_loop (P := fun w => ∀ D, 0 ≤ w → w ≤ b → (∀ o, o ≠ 62 → D o = C o) → (∀ w', 0 ≤ w' → w' < w → D 62 w' = bG A b (bd A k) i w') → jrV 204 49 [some (.ref 49), some (.int (jI k)), some (.int (jI b)), some (.int (jI (bd A k))), some (.int (jI (bW A b k))), some (.int (jI i)), some (.int (jI w)), none] [] E D K) b (fun w ihw D w0 w1 f1 f2 => ?_) 0 C (by omega) (by omega) (fun _ _ => rfl) (fun w' a c => by omega)
      refine vd_X7_tellFile_49 k rk b rb _ rx _ rW i ⟨by omega, by omega⟩ w ⟨by omega, by omega⟩ E D K ⟨fun q3 => ?_, fun q3 => ?_⟩
      · have ew : w = b := by omega
        have hBM : BM D b (bG A b (bd A k) i) := ⟨by omega, by omega, fun w' a c => f2 w' a (by omega)⟩
        have dMO : MO D b := by
          unfold MO
          rw [f1 49 (by decide), c2 14 (by decide) (by decide), p2 14 (by decide) (by decide) (by decide), c15, h18]
          have := ple i.toNat (by omega)
          omega
        refine k_mstore hBM (sbytes_b T d0 d1 hb i0 q2) dMO (fun G hG => ⟨by omega, fun A6 e6 => ?_⟩)
        have d49 : ∀ j, D 49 j = C 49 j := fun j => by rw [f1 49 (by decide)]
        refine ih q2 A6 (by omega) (by omega) (fun o o1 o2 o3 o4 o5 => ?_) (fun j j1 j2 => ?_) ?_ ?_ (fun i' u1 u2 => ?_) (fun j j1 j2 i' u1 u2 => ?_)
        · rw [e6, jup_row o5, hG.1 o o4 o1, mtl_row o1 o2, f1 o o3]; exact c1 o o1 o2 o3 o4 o5
        · rw [e6, jup_row (by decide), hG.2 j j2, mtl_49 j1, d49]; exact c2 j j1 j2
        · rw [e6, jup_row (by decide), hG.1 58 (by decide) (by decide), show (i + 1).toNat = i.toNat + 1 by omega, eF, ← List.append_assoc, ← mtl_app]
          funext w'
          have x14 : mtl X (bL A b (k - 1).toNat ++ fBl A b (bd A k) i.toNat) 49 14 = D 49 14 := by rw [mtl_49 (by decide), d49, c2 14 (by decide) (by decide), p2 14 (by decide) (by decide) (by decide)]
          have x15 : mtl X (bL A b (k - 1).toNat ++ fBl A b (bd A k) i.toNat) 49 15 = D 49 15 := by rw [mtl_at, d49, c15, List.length_append]
          have x58 : D 58 = mtl X (bL A b (k - 1).toNat ++ fBl A b (bd A k) i.toNat) 58 := by rw [f1 58 (by decide)]; exact c58
          generalize mtl X (bL A b (k - 1).toNat ++ fBl A b (bd A k) i.toNat) = Y at x14 x15 x58 ⊢
          simp only [mtl]
          rw [x14, x15, x58]
        · rw [e6, jup_row (by decide), hG.2 15 (by decide), mtl_at, d49, c15, show (i + 1).toNat = i.toNat + 1 by omega, eF, List.length_append, List.length_append]; omega
        · rw [e6]
          by_cases e : i' = i
          · rw [e, jup_at]
          · rw [jup_ne (by omega), hG.1 65 (by decide) (by decide), mtl_row (by decide) (by decide), f1 65 (by decide)]; exact c65 i' u1 (by omega)
        · rw [e6, jup_ne (by omega), hG.1 65 (by decide) (by decide), mtl_row (by decide) (by decide), f1 65 (by decide)]; exact c65' j j1 j2 i' u1 u2
      · rw [f1 54 (by decide), c54]
        have ebi : 100 * bd A k + b * i + w = 100 * bd A k + (i * b + w) := by rw [Int.mul_comm b i]; omega
        rw [ebi]
        refine ⟨by omega, by omega, fun A11 e11 => ihw (by omega) A11 (by omega) (by omega) (fun o ho => by rw [e11, jup_row ho]; exact f1 o ho) (fun w' u1 u2 => ?_)⟩
        rw [e11]
        by_cases e : w' = w
        · rw [e, jup_at, (T.2.2.1 (bd A k) (i * b + w) d0 d1 (by omega) (by omega)).1]
          unfold bG
          congr 1; omega
        · rw [jup_ne e]; exact f2 w' u1 (by omega)
  refine ⟨by omega, by omega, z1, by omega, rW, fun q => ?_, fun q => ?_⟩
  · exact body _ ⟨by omega, by omega⟩ (by unfold bBeg; rw [if_neg (show ¬ bW A b k = 0 from q)])
  · exact body 0 (by decide) (by unfold bBeg; rw [if_pos (show bW A b k = 0 from q)])
end KF4
