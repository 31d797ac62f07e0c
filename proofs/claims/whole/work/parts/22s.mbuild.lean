section KMB2
variable {E : jE} {A : jA} {b : Int}
/-- the first bytes of the head -/
def h16 (b n w1 w2 w3 w4 w5 : Int) : List Int := [84] ++ [73] ++ [b] ++ [0] ++ jw2 n ++ jw2 w1 ++ jw2 w2 ++ jw2 w3 ++ jw2 w4 ++ jw2 w5
theorem mtl_MB {B : jA} {L : List Int} (h : MB B) (hL : ∀ x ∈ L, 0 ≤ x ∧ x ≤ 255) : MB (mtl B L) := fun k => by
  simp only [mtl]
  split
  · omega
  · split
    · exact hL _ (by rw [List.getD_eq_getElem?_getD, List.getElem?_eq_getElem (by omega)]; exact List.getElem_mem _)
    · exact h k
/-- the first sixteen bytes and the body behind -/
theorem mh_gb (T : TR A) (hb : b = 8 ∨ b = 16 ∨ b = 32) {m : Int} (hm : 0 ≤ m ∧ m ≤ 2) {A5 A9 G : jA} (a514 : A5 49 14 = m) (a515 : A5 49 15 = 0) (a558 : ∀ j, A5 58 j = mtl A9 (bBody A b) 58 j) (x14 : A9 49 14 = m) (x15 : A9 49 15 = 18) (eG : G = mtl A5 (h16 b (bN A) (qI A b) (qF A b) (qT A b) (qX A b) (qL A b))) (x : Int) (x0 : 0 ≤ x) (x1 : x < qL A b) (n16 : x ≠ 16) (n17 : x ≠ 17) (s : Int) : mb G m x = (bIm A b s).getD x.toNat 0 := by
  obtain ⟨g1, g2, g3, g4, g5, g6, g7, g8, g9, g10, g11⟩ := q_le T hb
  clear g1 g2 g3 g4 g5 g6 g7 g8 g10 g11
  obtain ⟨H, eH⟩ : ∃ H, H = h16 b (bN A) (qI A b) (qF A b) (qT A b) (qX A b) (qL A b) := ⟨_, rfl⟩
  have lH : H.length = 16 := by rw [eH]; rfl
  rw [← eH] at eG
  have lB : ((bBody A b).length : Int) = qL A b - 18 := by
    have := bIm_len A b 0
    unfold bIm at this
    rw [List.length_append, hd6_len] at this
    omega
  unfold mb
  rw [if_pos (by omega), eG]
  simp only [mtl]
  rw [a514, a515, if_neg (by omega)]
  by_cases q1 : x < 16
  · rw [if_pos ⟨trivial, by omega, by omega⟩]
    have : bIm A b s = H ++ (jw2 s ++ bBody A b) := by rw [eH]; unfold bIm hd6 h16; simp only [List.append_assoc]; rfl
    rw [this, jgetD_l (by omega)]
    congr 1; omega
  · rw [if_neg (by omega), a558]
    simp only [mtl]
    rw [x14, x15, if_neg (by omega), if_pos ⟨trivial, by omega, by omega⟩]
    unfold bIm
    rw [jgetD_r (by rw [hd6_len]; omega), hd6_len]
    congr 1; omega
/-- the sum put in -/
theorem mh_img {m : Int} (hm : 0 ≤ m ∧ m ≤ 2) (hq : qL A b ≤ 5581) {G G2 G6 C : jA} (gb : ∀ x : Int, 0 ≤ x → x < qL A b → x ≠ 16 → x ≠ 17 → ∀ s, mb G m x = (bIm A b s).getD x.toNat 0) (e2' : G2 = jup G 58 (6000 * m + 16) (bSum A b / 256 % 256)) (e6' : G6 = jup G2 58 (6000 * m + 16 + 1) (bSum A b % 256)) (c58 : C 58 = G6 58) (x : Int) (x0 : 0 ≤ x) (x1 : x < qL A b) : mb C m x = (bImg A b).getD x.toNat 0 := by
  obtain ⟨H, eH⟩ : ∃ H, H = h16 b (bN A) (qI A b) (qF A b) (qT A b) (qX A b) (qL A b) := ⟨_, rfl⟩
  have lH : H.length = 16 := by rw [eH]; rfl
  have e16 : mb C m x = if x = 17 then bSum A b % 256 else if x = 16 then bSum A b / 256 % 256 else mb G m x := by
    unfold mb
    rw [if_pos (by omega), c58, e6']
    by_cases q17 : x = 17
    · rw [if_pos q17, q17, show 6000 * m + 17 = 6000 * m + 16 + 1 by omega, jup_at]
    · rw [if_neg q17, jup_ne (by omega), e2']
      by_cases q16 : x = 16
      · rw [if_pos q16, q16, jup_at]
      · rw [if_neg q16, jup_ne (by omega), if_pos (by omega)]
  have eI : bImg A b = H ++ (jw2 (bSum A b) ++ bBody A b) := by rw [eH]; unfold bImg bIm hd6 h16; simp only [List.append_assoc]; rfl
  rw [e16]
  by_cases q17 : x = 17
  · rw [if_pos q17, q17, eI, jgetD_r (by omega), lH]; rfl
  · rw [if_neg q17]
    by_cases q16 : x = 16
    · rw [if_pos q16, q16, eI, jgetD_r (by omega), lH]; rfl
    · rw [if_neg q16]
      exact gb x x0 x1 q16 q17 _
/-- the head is written, the sum is put -/
theorem k_mhead (T : TR A) (hb : b = 8 ∨ b = 16 ∨ b = 32) {m : Int} (hm : 0 ≤ m ∧ m ≤ 2) {W A9 : jA} {k : Int} (hk : k = bN A + 1) (w14 : W 49 14 = m) (w15 : W 49 15 = qL A b) (w18 : W 49 18 = bN A) (w11 : W 49 11 = m) (w58 : ∀ j, W 58 j = mtl A9 (bBody A b) 58 j) (x14 : A9 49 14 = m) (x15 : A9 49 15 = 18) (m9MB : MB A9) {K : Int → jA → Prop} (hK : ∀ C, (∀ o, o ≠ 49 → o ≠ 58 → o ≠ 59 → C o = W o) → (∀ j, j ≠ 11 → j ≠ 15 → C 49 j = W 49 j) → C 49 11 = m + 1 → (∀ j, j ≠ m → C 59 j = W 59 j) → C 59 m = qL A b → (∀ j, ¬ (6000 * m ≤ j ∧ j < 6000 * m + 6000) → C 58 j = A9 58 j) → MB C → (∀ x : Int, 0 ≤ x → x < qL A b → mb C m x = (bImg A b).getD x.toNat 0) → K m C) : jrI 142 443 [some (.ref 49), some (.int (jI b)), some (.int (jI (qI A b))), some (.int (jI (qF A b))), some (.int (jI (qT A b))), some (.int (jI (qX A b))), some (.int (jI k))] [] E W K := by
  have nl := bN_le T
  have rb : jW b := ⟨by omega, by omega⟩
  obtain ⟨g1, g2, g3, g4, g5, g6, g7, g8, g9, g10, g11⟩ := q_le T hb
  obtain ⟨t1, t2, t3, t4⟩ := tAll_le T hb
  have bb := body_b T hb
  have rI : jW (qI A b) := ⟨by omega, by omega⟩
  have rF : jW (qF A b) := ⟨by omega, by omega⟩
  have rT : jW (qT A b) := ⟨by omega, by omega⟩
  have rX : jW (qX A b) := ⟨by omega, by omega⟩
  have rL : jW (qL A b) := ⟨by omega, by omega⟩
  have rN : jW (bN A) := ⟨by omega, by omega⟩
  have q18 : 18 ≤ qL A b := by omega
  clear g1 g2 g3 g4 g5 g6 g7 g8 g10 g11 t1 t2 t3 t4
  refine vd_X7_build_443 b rb _ rI _ rF _ rT _ rX k ⟨by omega, by omega⟩ E _ K ?_
  rw [w18, w14, w15]
  refine ⟨fun q => ⟨by omega, ?_⟩, fun q => by omega⟩
  intro A2 e2 A5 e5
  have a5o : ∀ o, o ≠ 49 → o ≠ 59 → A5 o = W o := fun o o1 o2 => by rw [e5, jup_row o1, e2, jup_row o2]
  have a549 : ∀ j, j ≠ 15 → A5 49 j = W 49 j := fun j hj => by rw [e5, jup_ne hj, e2, jup_row (by decide)]
  have a515 : A5 49 15 = 0 := by rw [e5, jup_at]
  have a514 : A5 49 14 = m := by rw [a549 14 (by decide)]; exact w14
  have a559 : A5 59 m = qL A b := by rw [e5, jup_row (by decide), e2, jup_at]
  have a559' : ∀ j, j ≠ m → A5 59 j = W 59 j := fun j hj => by rw [e5, jup_row (by decide), e2, jup_ne hj]
  have a518 : A5 49 18 = bN A := by rw [a549 18 (by decide)]; exact w18
  have a558 : ∀ j, A5 58 j = mtl A9 (bBody A b) 58 j := fun j => by rw [a5o 58 (by decide) (by decide)]; exact w58 j
  have m5MB : MB A5 := fun k => by rw [a558]; exact mtl_MB m9MB bb k
  clear e2 e5
  have mo5 : ∀ L : List Int, ∀ n, (L.length : Int) + n ≤ 100 → MO (mtl A5 L) n := fun L n hn => MO.t (by unfold MO; rw [a514, a515]; omega)
  have mo5' : MO A5 1 := by unfold MO; rw [a514, a515]; omega
  refine k_tell (by decide) mo5' (k_tell (by decide) (mo5 _ _ (by simp)) ?_)
  rw [mtl_app]
  refine k_tell ⟨by omega, by omega⟩ (mo5 _ _ (by simp)) ?_
  rw [mtl_app]
  refine k_tell (by decide) (mo5 _ _ (by simp)) ?_
  rw [mtl_app, mtl_49 (by decide), a518]
  refine k_tellWord ⟨by omega, by omega⟩ (mo5 _ _ (by simp)) ?_
  rw [mtl_app]
  refine k_tellWord rI (mo5 _ _ (by simp [jw2_len])) ?_
  rw [mtl_app]
  refine k_tellWord rF (mo5 _ _ (by simp [jw2_len])) ?_
  rw [mtl_app]
  refine k_tellWord rT (mo5 _ _ (by simp [jw2_len])) ?_
  rw [mtl_app]
  refine k_tellWord rX (mo5 _ _ (by simp [jw2_len])) ?_
  rw [mtl_app, mtl_49 (by decide), a514, mtl_row (show (59 : Nat) ≠ 49 by decide) (by decide), a559]
  refine ⟨by omega, k_tellWord ⟨by omega, by omega⟩ (mo5 _ _ (by simp [jw2_len])) ?_⟩
  rw [mtl_app]
  obtain ⟨H, eH⟩ : ∃ H, H = h16 b (bN A) (qI A b) (qF A b) (qT A b) (qX A b) (qL A b) := ⟨_, rfl⟩
  have eH' : [84] ++ [73] ++ [b] ++ [0] ++ jw2 (bN A) ++ jw2 (qI A b) ++ jw2 (qF A b) ++ jw2 (qT A b) ++ jw2 (qX A b) ++ jw2 (qL A b) = H := by rw [eH]; rfl
  rw [eH']
  have lH : H.length = 16 := by rw [eH]; rfl
  have HB : ∀ x ∈ H, 0 ≤ x ∧ x ≤ 255 := by
    rw [eH]
    intro x hx
    refine bIm_b T hb 0 x ?_
    unfold bIm hd6
    refine List.mem_append_left _ (List.mem_append_left _ ?_)
    exact hx
  obtain ⟨G, eG⟩ : ∃ G, G = mtl A5 H := ⟨_, rfl⟩
  rw [← eG]
  have gMB : MB G := by rw [eG]; exact mtl_MB m5MB HB
  have g59 : G 59 = A5 59 := by rw [eG, mtl_row (by decide) (by decide)]
  have g14 : G 49 14 = m := by rw [eG, mtl_49 (by decide)]; exact a514
  have g59m : G 59 m = qL A b := by rw [g59]; exact a559
  have gb := mh_gb T hb hm a514 a515 a558 x14 x15 (eG.trans (by rw [eH]))
  rw [g14]
  refine k_sumOf gMB hm (by rw [g59m]; omega) ?_
  rw [g59m]
  have esum : usum (mb G m) (qL A b).toNat % 65521 = bSum A b := by
    unfold bSum
    have hl := bIm_len A b 0
    rw [show (bIm A b 0).length = (qL A b).toNat by omega]
    rw [usum_skip (fun x x0 x1 h6 h7' => gb x x0 (by omega) h6 h7' 0)]
  rw [esum]
  have sl : 0 ≤ bSum A b ∧ bSum A b < 65521 := ⟨Int.emod_nonneg _ (by decide), Int.emod_lt_of_pos _ (by decide)⟩
  refine vd_X7_putWord_0 16 (by decide) _ ⟨by omega, by omega⟩ E G _ ?_
  rw [g14]
  refine ⟨by omega, fun G2 e2' => ?_⟩
  have g214 : G2 49 14 = m := by rw [e2', jup_row (by decide)]; exact g14
  rw [g214]
  refine ⟨by omega, fun G6 e6' => ?_⟩
  have g611 : G6 49 11 = m := by rw [e6', jup_row (by decide), e2', jup_row (by decide), eG, mtl_49 (by decide), a549 11 (by decide)]; exact w11
  rw [g611]
  refine ⟨⟨by omega, by omega⟩, fun C ec => ?_⟩
  have c11 : C 49 11 = m + 1 := by rw [ec, jup_at]
  rw [c11]
  refine ⟨⟨by omega, by omega⟩, ?_⟩
  rw [show m + 1 - 1 = m by omega]
  have c58 : C 58 = G6 58 := by rw [ec, jup_row (by decide)]
  have c59 : C 59 = A5 59 := by rw [ec, jup_row (by decide), e6', jup_row (by decide), e2', jup_row (by decide), g59]
  refine hK C (fun o o1 o2 o3 => ?_) (fun j j11 j15 => ?_) c11 (fun j hj => by rw [c59]; exact a559' j hj) (by rw [c59]; exact a559) (fun j hj => ?_) (fun k => ?_) (mh_img hm g9 gb e2' e6' c58)
  · rw [ec, jup_row o1, e6', jup_row o2, e2', jup_row o2, eG, mtl_row o1 o2, a5o o o1 o3]
  · rw [ec, jup_ne j11, e6', jup_row (by decide), e2', jup_row (by decide), eG, mtl_49 j15, a549 j j15]
  · have lB : ((bBody A b).length : Int) = qL A b - 18 := by
      have := bIm_len A b 0
      unfold bIm at this
      rw [List.length_append, hd6_len] at this
      omega
    rw [c58, e6', jup_ne (by omega), e2', jup_ne (by omega), eG]
    simp only [mtl]
    rw [a514, a515, if_neg (by omega), if_neg (by omega), a558]
    simp only [mtl]
    rw [x14, x15, if_neg (by omega), if_neg (by omega)]
  · rw [c58, e6', e2']
    simp only [jup]
    have := gMB k
    split
    · omega
    · split
      · omega
      · exact this
end KMB2
