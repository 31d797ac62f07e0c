/-- what read answers -/
def MR (A : jA) (v x : Int) : Int := if ¬ (0 ≤ v ∧ v < A 38 11) then -1 else if x < 0 then -2 else if vK A v ≠ 2 then -3 else if uw (lu A (A 42 (v * 3))) (uRow (lu A (A 42 (v * 3))) (A 43 (v * 3)) + 6) ≤ x then -2 else uRead (lu A (A 42 (v * 3))) (uRow (lu A (A 42 (v * 3))) (A 43 (v * 3))) x
theorem MR_same {A B : jA} {v x : Int} (h39 : B 39 = A 39) (h58 : B 58 = A 58) (h42 : B 42 = A 42) (h43 : B 43 = A 43) (h11 : B 38 11 = A 38 11) : MR B v x = MR A v x := by
  unfold MR vK
  rw [lu_eq h39 h58, h42, h43, h11]
theorem c_read {v x : Int} (rv : jW v) (rx : jW x) {E : jE} {A : jA} (G : GI A) (hl : LR E A) (W : VW A) {K : Int → jA → Prop} (h : K (MR A v x) A) : jrI 134 0 [some (.ref 1), some (.int (jI v)), some (.int (jI x))] [] E A K := by
  have hE := hl.2.2.2.2.2
  unfold MR at h
  refine vd_X6_read_0 v rv x rx E A K (k_hasView rv (fun v0 v1 => ⟨fun _ => ?_, fun z => absurd z (by decide)⟩) (fun hno => ⟨fun z => absurd rfl z, fun _ => by rw [if_pos hno] at h; exact h⟩))
  rw [if_neg (fun z => z ⟨v0, v1⟩)] at h
  obtain ⟨hS, hM, hP⟩ := W.2.2.2 v v0 v1
  have h60 := W.2.2.1
  obtain ⟨hI, m0, m2, l0, l3, k1, k4⟩ := hS.img hl G
  have w4 := uw_le hI.2.2 4
  have sk : jS (A 43 (v * 3)) := ⟨by omega, by omega⟩
  have hv : 0 ≤ v ∧ v < 60 := ⟨v0, by omega⟩
  refine ⟨fun x0 => ?_, fun x0 => by rw [if_pos x0] at h; exact h⟩
  rw [if_neg (by omega)] at h
  refine k_vkindOf hl G hv hS ⟨fun q => ?_, fun q => by rw [if_pos (show vK A v ≠ 2 from q)] at h; exact h⟩
  rw [if_neg (fun z => z q)] at h
  refine vd_X3_sizeOf_0 v rv E A _ (k_vkindOf hl G hv hS ⟨fun z => absurd q z, fun _ => ?_⟩)
  refine k_upper hv ⟨l0, l3⟩ ⟨hE _ (by omega), k_vnumberOf hv (k_sizeOf hI.1.1 sk ?_)⟩
  rw [hI.size k1 k4, if_pos q]
  refine ⟨fun q2 => ?_, fun q2 => by rw [if_pos q2] at h; exact h⟩
  rw [if_neg (by omega)] at h
  exact vd_X3_byteOf_0 v rv x rx E A _ (k_upper hv ⟨l0, l3⟩ ⟨hE _ (by omega), k_vnumberOf hv (k_fileByte hI k1 k4 q x0 q2 h)⟩)
theorem m_read {v x : Int} (rv : jW v) (rx : jW x) {E : jE} {A : jA} (G : GI A) (hl : LR E A) (W : VW A) {K : Int → jA → Prop} (h : K (MR A v x) (jup A 49 0 0)) : jrI 198 0 [some (.ref 49), some (.int (jI v)), some (.int (jI x)), none, none, none, none, none, none, none] [] E A K := by
  rw [← MR_same (A := A) (B := jup A 49 0 0) (v := v) (x := x) (jup_row (by decide)) (jup_row (by decide)) (jup_row (by decide)) (jup_row (by decide)) (by rw [jup_row (by decide)])] at h
  have G1 := G.thr
  have l1 := hl.thr
  have W1 := W.thr
  refine vd_X7_read_0 v rv x rx E A K (fun A1 e1 => ?_)
  subst e1
  generalize jup A 49 0 0 = B at *
  clear G hl W A
  have w37 := W1.1
  have W2 := W1.2.1
  have h60 := W1.2.2.1
  unfold MR at h
  refine k_isView rv (by omega) (fun v0 v1 => ⟨fun _ => ⟨by omega, by omega, ?_⟩, fun z => absurd z (by decide)⟩) (fun hno => ⟨fun z => absurd rfl z, fun _ => by rw [if_pos (by omega)] at h; exact h⟩)
  rw [if_neg (fun z => z ⟨v0, by omega⟩)] at h
  obtain ⟨hS, hM, hP⟩ := W1.2.2.2 v v0 (by omega)
  obtain ⟨hI, m0, m2, l0, l3, k1, k4⟩ := hS.img l1 G1
  have hv : 0 ≤ v ∧ v < 60 := ⟨v0, by omega⟩
  have e76 : B 76 (3 * v) = B 39 (B 42 (v * 3)) := by have := (hM.2 0 (by omega) (by have := hS.1; omega)).1; rwa [Int.add_zero, Int.add_zero] at this
  have e77 : B 77 (3 * v) = B 43 (v * 3) := by have := (hM.2 0 (by omega) (by have := hS.1; omega)).2; rwa [Int.add_zero, Int.add_zero] at this
  have hb := G1.2.2.2.1
  have V := hI.2.1
  have hm : 0 ≤ B 39 (B 42 (v * 3)) ∧ B 39 (B 42 (v * 3)) ≤ 2 := ⟨m0, m2⟩
  have el : lu B (B 42 (v * 3)) = mb B (B 39 (B 42 (v * 3))) := rfl
  have rm : jW (B 39 (B 42 (v * 3))) := ⟨by omega, by omega⟩
  have hu := hI.2.2
  have w4 := uw_le hu 4
  have hr := V.row hu k1 k4
  have ln := V.lens
  have rrow : jW (uRow (lu B (B 42 (v * 3))) (B 43 (v * 3))) := ⟨by omega, by omega⟩
  have h3 := V.1.2.2.1
  rw [e76, e77]
  refine k_inode hb hm ⟨k1, by show uw (lu B (B 42 (v * 3))) 12 + 2 * (B 43 (v * 3) - 1) < 5999; omega⟩ ?_
  rw [show mRow B (B 39 (B 42 (v * 3))) (B 43 (v * 3)) = uRow (lu B (B 42 (v * 3))) (B 43 (v * 3)) from rfl]
  refine k_mkindOf l1 G1 hv hS hM ⟨fun q => ?_, fun q => ?_⟩
  · refine vd_X7_read_53 x rx _ rm _ rrow 0 (by decide) E B K ⟨fun _ => vd_X7_read_83 x rx _ rm _ rrow 0 (by decide) E B K ⟨fun z => absurd rfl z, fun _ => ⟨fun x0 => ?_, fun x0 => ?_⟩⟩, fun z => absurd rfl z⟩
    · rw [if_neg (by omega), if_pos (show vK B v ≠ 2 from q)] at h
      exact h
    · rw [if_pos x0] at h; exact h
  · have b7 := hr.2.2.2.2.2.2 (by omega)
    have hs := uw_le hu (uRow (lu B (B 42 (v * 3))) (B 43 (v * 3)) + 6)
    have wS : mw B (B 39 (B 42 (v * 3))) (uRow (lu B (B 42 (v * 3))) (B 43 (v * 3)) + 6) = uw (lu B (B 42 (v * 3))) (uRow (lu B (B 42 (v * 3))) (B 43 (v * 3)) + 6) := rfl
    have q' : vK B v = 2 := q
    refine vd_X7_read_53 x rx _ rm _ rrow 1 (by decide) E B K ⟨fun z => absurd z (by decide), fun _ => k_mword hb hm (by omega) ?_⟩
    rw [wS]
    refine k_in rx (by decide) ⟨by omega, by omega⟩ (fun x0 x1 => ⟨fun _ => ?_, fun z => absurd z (by decide)⟩) (fun hx => ⟨fun z => absurd rfl z, fun _ => ?_⟩)
    · rw [if_neg (by omega), if_neg (fun z => z q'), if_neg (by omega)] at h
      obtain ⟨hf, r18, hrow, hblk, htl⟩ := read_of V hu k1 k4 q x0 (show x < uw (lu B (B 42 (v * 3))) (uRow (lu B (B 42 (v * 3))) (B 43 (v * 3)) + 6) by omega)
      obtain ⟨d1, d2, d3, d4, d5, d6, d7, d8, d9⟩ := bdiv (b := lu B (B 42 (v * 3)) 2) (s := uw (lu B (B 42 (v * 3))) (uRow (lu B (B 42 (v * 3))) (B 43 (v * 3)) + 6)) h3 x0 hs.1
      unfold uRead at h
      refine vd_X7_read_83 x rx _ rm _ rrow 1 (by decide) E B K ⟨fun _ => k_mbyteAt hm (by omega) (k_mword hb hm (by omega) ?_), fun z => absurd z (by decide)⟩
      rw [wS, show mb B (B 39 (B 42 (v * 3))) 2 = lu B (B 42 (v * 3)) 2 from rfl]
      refine ⟨hs.1, by omega, ⟨by omega, by omega⟩, fun q2 => ?_, fun q2 => ?_⟩
      · rw [if_neg (by omega)] at h
        obtain ⟨t1, t2, t3, t4, t5⟩ := htl (by omega)
        have w10 := uw_le hu 10
        have b10 := hu (uRow (lu B (B 42 (v * 3))) (B 43 (v * 3)) + 10)
        have b11 := hu (uRow (lu B (B 42 (v * 3))) (B 43 (v * 3)) + 11)
        refine k_mword hb hm (by omega) (k_mbyteAt hm (by omega) ?_)
        rw [show mw B (B 39 (B 42 (v * 3))) 10 = uw (lu B (B 42 (v * 3))) 10 from rfl, show mb B (B 39 (B 42 (v * 3))) (uRow (lu B (B 42 (v * 3))) (B 43 (v * 3)) + 10) = lu B (B 42 (v * 3)) (uRow (lu B (B 42 (v * 3))) (B 43 (v * 3)) + 10) from rfl]
        refine k_mword hb hm (by omega) (k_mword hb hm (by omega) (k_mbyteAt hm (by omega) ⟨x0, by omega, ?_⟩))
        exact k_opened hb hm V t5 (uw_le hu _) (uw_le hu _) ⟨by have := d4; have := b11.1; exact Int.add_nonneg b11.1 d4, t4⟩ (by omega) h
      · rw [if_pos (by omega)] at h
        obtain ⟨hU, hlt⟩ := hblk (by omega)
        refine k_mword hb hm (by omega) ?_
        refine j_loop (P := fun j => 0 ≤ j → j ≤ x / lu B (B 42 (v * 3)) 2 → jrI 198 147 [some (.ref 49), none, some (.int (jI x)), some (.int (jI (B 39 (B 42 (v * 3))))), some (.int (jI (uRow (lu B (B 42 (v * 3))) (B 43 (v * 3))))), none, some (.int (jI (lu B (B 42 (v * 3)) 2))), none, some (.int (jI (uPlace (lu B (B 42 (v * 3))) (uRow (lu B (B 42 (v * 3))) (B 43 (v * 3))) j.toNat))), some (.int (jI j))] [] E B K) (x / lu B (B 42 (v * 3)) 2) (fun j ih j0 j1 => ?_) 0 (by omega) d1
        have pl := uPlace_le V hu hf j.toNat (by omega)
        refine vd_X7_read_147 x rx _ rm _ rrow _ ⟨by omega, by omega⟩ _ ⟨by omega, by omega⟩ j ⟨by omega, by omega⟩ E B K ⟨x0, by omega, ⟨by omega, by omega⟩, fun q3 => ⟨x0, by omega, ?_⟩, fun q3 => ?_⟩
        · have ej : j = x / lu B (B 42 (v * 3)) 2 := by omega
          rw [ej] at pl ⊢
          refine k_mword hb hm (by omega) ⟨x0, by omega, ?_⟩
          exact k_opened hb hm V hU pl (uw_le hu _) ⟨d4, d5⟩ (by omega) h
        · refine k_mword hb hm (by omega) (k_lies (uw_le hu _) ?_)
          have := ih q3 (by omega) (by omega)
          rw [show (j + 1).toNat = j.toNat + 1 by omega] at this
          simp only [uPlace] at this
          rwa [Int.toNat_of_nonneg j0] at this
    · by_cases x0 : x < 0
      · rw [if_pos x0] at h; exact h
      · rw [if_neg x0, if_neg (fun z => z q'), if_pos (by omega)] at h; exact h
theorem p_read {v x : Int} (rv : jW v) (rx : jW x) {E : jE} {A : jA} (G : GI A) (hl : LR E A) (W : VW A) : jrI 134 0 [some (.ref 1), some (.int (jI v)), some (.int (jI x))] [] E A (fun y B => jrI 198 0 [some (.ref 49), some (.int (jI v)), some (.int (jI x)), none, none, none, none, none, none, none] [] E B (fun z C => y = z ∧ C = jup A 49 0 0)) := c_read rv rx G hl W (m_read rv rx G hl W ⟨rfl, rfl⟩)
theorem p_count {x : Int} (rx : jW x) {E : jE} {A : jA} (T : TR A) (P : TP A) (G : GI A) (hl : LR E A) (W : VW A) : jrI 112 0 [some (.ref 1), some (.int (jI x))] [] E A (fun y B => jrI 148 0 [some (.ref 49), some (.int (jI x))] [] E B (fun z C => y = z ∧ C = jup A 49 0 0)) := by
  have a1 : jup A 49 0 0 49 1 = A 2 9 := by rw [jup_ne (by decide)]; exact T.1.2.2.1
  have a2 : jup A 49 0 0 49 11 = A 1 6 := by rw [jup_ne (by decide)]; exact G.1
  have a3 : jup A 49 0 0 49 35 = A 38 10 := by rw [jup_ne (by decide)]; exact hl.1
  have a4 : jup A 49 0 0 49 37 = A 38 11 := by rw [jup_ne (by decide)]; exact W.1
  have a5 : jup A 49 0 0 49 34 = A 19 1 := by rw [jup_ne (by decide)]; exact P.1
  refine vd_X6_count_0 x rx E A _ ⟨fun q => ?_, fun n0 => ⟨fun q => ?_, fun n1 => ⟨fun q => ?_, fun n2 => ⟨fun q => ?_, fun n3 => ⟨fun q => ?_, fun n4 => ?_⟩⟩⟩⟩⟩
  all_goals
    refine vd_X7_count_0 x rx E A _ (fun A1 e1 => ?_)
    subst e1
    rw [a1, a2, a3, a4, a5]
    refine ⟨fun r => ?_, fun m0 => ⟨fun r => ?_, fun m1 => ⟨fun r => ?_, fun m2 => ⟨fun r => ?_, fun m3 => ⟨fun r => ?_, fun m4 => ?_⟩⟩⟩⟩⟩
    all_goals first | exact ⟨rfl, rfl⟩ | omega
theorem m_out {x i : Int} (rx : jW x) (ri : jW i) {E : jE} {A : jA} (G : GI A) {K : Int → jA → Prop} (h0 : ¬ (0 ≤ x ∧ x < A 1 6) → K (-1) (jup A 49 0 0)) (h1 : 0 ≤ x → x < A 1 6 → 0 ≤ i → i < A 59 x → K (mb A x i) (jup A 49 0 0)) (h2 : 0 ≤ x → x < A 1 6 → ¬ (0 ≤ i ∧ i < A 59 x) → K 0 (jup (jup A 49 0 0) 49 0 1)) : jrI 193 0 [some (.ref 49), some (.int (jI x)), some (.int (jI i))] [] E A K := by
  have g := G.thr
  have a2 : jup A 49 0 0 49 11 = A 1 6 := by rw [jup_ne (by decide)]; exact G.1
  have a59 : jup A 49 0 0 59 = A 59 := jup_row (by decide)
  have g2 := G.2.1
  have g3 := G.2.2.1
  refine vd_X7_out_0 x rx i ri E A K (fun A1 e1 => ?_)
  subst e1
  refine k_isImage rx (by omega) (fun x0 x1 => ⟨fun _ => ⟨⟨x0, by omega⟩, ?_⟩, fun z => absurd z (by decide)⟩) (fun hx => ⟨fun z => absurd rfl z, fun _ => h0 (by omega)⟩)
  have hl := (G.2.2.2.2.2 x x0 (by omega)).2.1
  have hl1 := hl.1
  have hl2 := hl.2.1
  rw [a59]
  refine k_in ri (by decide) ⟨by omega, by omega⟩ (fun i0 i1 => ⟨fun _ => ?_, fun z => absurd z (by decide)⟩) (fun hi => ⟨fun z => absurd rfl z, fun _ A17 e17 => ?_⟩)
  · refine k_mbyteAt ⟨x0, by omega⟩ (by omega) ?_
    rw [show mb (jup A 49 0 0) x i = mb A x i by unfold mb; rw [jup_row (by decide)]]
    exact h1 x0 (by omega) i0 (by omega)
  · rw [e17]; exact h2 x0 (by omega) (by omega)
theorem c_out {x i : Int} (rx : jW x) (ri : jW i) {E : jE} {A : jA} (hA : jOK A) (G : GI A) {Q : Option Value → zx_S → Prop} (h0 : ¬ (0 ≤ x ∧ x < A 1 6) → Q (some (.int (jI (-1)))) (js E A)) (h1 : 0 ≤ x → x < A 1 6 → 0 ≤ i → i < A 59 x → Q (some (.int (jI (mb A x i)))) (js E A)) (h2 : 0 ≤ x → x < A 1 6 → ¬ (0 ≤ i ∧ i < A 59 x) → Q (some (.retAddr 0)) (zx_nw (js E A) 0 0 6)) : zw 131 0 [some (.ref 1), some (.int (jI x)), some (.int (jI i))] [] (js E A) Q := by
  have g3 := G.2.2.1
  refine vc_X6_out_0 1 (jI x) (jI i) (js E A) Q ⟨rfl, ?_⟩
  refine zwI.mono ((k_hasImage rx (K := fun v B => B = A ∧ (v = 1 ∧ 0 ≤ x ∧ x < A 1 6 ∨ v = 0 ∧ ¬ (0 ≤ x ∧ x < A 1 6))) (fun h1 h2 => ⟨rfl, .inl ⟨rfl, h1, h2⟩⟩) (fun h => ⟨rfl, .inr ⟨rfl, h⟩⟩)).z hA) (fun v σ ⟨w, B, e1, e2, e3, e4, e5, e6⟩ => ?_)
  subst e5 e3 e1
  rcases e6 with ⟨rfl, x0, x1⟩ | ⟨rfl, hx⟩
  · refine ⟨fun _ => ?_, fun q => absurd q (by decide)⟩
    obtain ⟨hC, hV⟩ := G.2.2.2.2.2 x x0 x1
    have hn := hC.2.1
    have hR : zR (js E B) 12 (Int32.toNatClampNeg (jI x)) = some (13 + 2 * x.toNat) := by
      rw [jI_nat rx]
      have : x = 0 ∨ x = 1 ∨ x = 2 := by omega
      rcases this with rfl | rfl | rfl <;> rfl
    have hI : zI (js E B) (13 + 2 * x.toNat) 1 = jI (B 59 x) := by show jI (B (13 + 2 * x.toNat) 1) = _; rw [hn]
    have rn : jW (B 59 x) := ⟨by have := hV.1.1; omega, by have := hV.1.2.1; omega⟩
    have hk := (jim_at x0 (by omega)).K
    rw [show (0 : Int32) = jI 0 from rfl, jI_lt ri (by decide)]
    refine ⟨fun i0 => vc_X6_out_27 _ _ (h2 x0 x1 (by omega)), fun i0 => ⟨rfl, 12, rfl, rfl, j_in (n := 3) (by omega) (by omega), 13 + 2 * x.toNat, hR, hk, ?_⟩⟩
    rw [hI, jI_lt ri rn]
    refine ⟨fun i1 => ⟨j_in (n := 3) (by omega) (by omega), 13 + 2 * x.toNat, hR, hk, ?_⟩, fun i1 => vc_X6_out_27 _ _ (h2 x0 x1 (by omega))⟩
    refine zwI.mono ((k_byteAt hC.1 ri (K := fun v C => C = B ∧ v = cb B (13 + 2 * x.toNat) i) ⟨rfl, rfl⟩).z hA) (fun v σ ⟨w, C, e1, e2, e3, e4, e5, e6⟩ => ?_)
    subst e5 e3 e1 e6
    rw [hC.b (by omega) i1]
    exact h1 x0 x1 (by omega) i1
  · exact ⟨fun q => absurd rfl q, fun _ => h0 hx⟩
/-- a cell more -/
def jnw (E : jE) : jE := (fun a => if a = E.2.2.2.1 then 0 else E.1 a, E.2.1, fun a => if a = E.2.2.2.1 then (fun _ => 0) else E.2.2.1 a, E.2.2.2.1 + 1, E.2.2.2.2 + 6)
def jzr (A : jA) (n : Nat) : jA := fun a j => if a = n then 0 else A a j
theorem js_nw (E : jE) (A : jA) (hn : 79 ≤ E.2.2.2.1) : zx_nw (js E A) 0 0 6 = js (jnw E) (jzr A E.2.2.2.1) := by
  have hK : jK E.2.2.2.1 = 0 := by unfold jK; rw [List.getD_eq_getElem?_getD, List.getElem?_eq_none (by show 79 ≤ _; exact hn)]; rfl
  have hR : ∀ k, jR E.2.1 E.2.2.2.1 k = none := fun k => by
    unfold jR
    rw [if_neg (by omega), List.getD_eq_getElem?_getD (l := jRl), List.getElem?_eq_none (by show 50 ≤ _; omega)]; rfl
  unfold zx_nw js jnw jzr zK zN zI zR zJ zn zs
  dsimp only
  refine Prod.ext ?_ (Prod.ext ?_ (Prod.ext ?_ (Prod.ext ?_ rfl)))
  · funext a
    dsimp only
    by_cases ha : a = E.2.2.2.1
    · rw [if_pos ha, ha, hK]
    · rw [if_neg ha]
  · funext a
    dsimp only
    by_cases ha : a = E.2.2.2.1
    · rw [if_pos ha, if_pos ha, if_neg (by omega)]
    · rw [if_neg ha, if_neg ha]
  · funext a k
    dsimp only
    by_cases ha : a = E.2.2.2.1
    · rw [if_pos ha, if_pos ha]; rfl
    · rw [if_neg ha, if_neg ha]
  · funext a k
    dsimp only
    by_cases ha : a = E.2.2.2.1
    · rw [if_pos ha, ha, hR]
    · rw [if_neg ha]
