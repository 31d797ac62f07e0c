section KMB
variable {E : jE} {A B : jA} {b : Int}
/-- the reference on its way: L is told behind what Z had told; found may be anything -/
def MF (Z B : jA) (L : List Int) : Prop := (∀ o, o ≠ 49 → B o = mtl Z L o) ∧ ∀ j, j ≠ 19 → B 49 j = mtl Z L 49 j
theorem MF.app {Z B C : jA} {L M : List Int} (h : MF Z B L) (h1 : ∀ o, o ≠ 49 → C o = mtl B M o) (h2 : ∀ j, j ≠ 19 → C 49 j = mtl B M 49 j) : MF Z C (L ++ M) := by
  have e14 := h.2 14 (by decide)
  have e15 := h.2 15 (by decide)
  refine ⟨fun o ho => ?_, fun j hj => ?_⟩
  · rw [h1 o ho, ← mtl_app]; exact mtl_congr (h.1 o ho) e14 e15
  · rw [h2 j hj, ← mtl_app]
    by_cases q : j = 15
    · rw [q, mtl_at, mtl_at, e15]
    · rw [mtl_49 q, mtl_49 q]; exact h.2 j hj
theorem MF.f {Z B : jA} {L : List Int} (h : MF Z B L) (k : Int) : MF Z (jup B 49 19 k) L := ⟨fun o ho => by rw [jup_row ho]; exact h.1 o ho, fun j hj => by rw [jup_ne hj]; exact h.2 j hj⟩
theorem MF.mo {Z B : jA} {L : List Int} (h : MF Z B L) {n : Int} (hm : MO Z (L.length + n)) : MO B n := by
  have := hm.t
  unfold MO at this ⊢
  rw [h.2 14 (by decide), h.2 15 (by decide)]; exact this
theorem k_mfolders (T : TR A) {Z : jA} (h : CM A Z) {p : Int} (hp : Z 49 15 = p) (hmo : MO Z 1116) {x2 x3 : Int} (r2 : jW x2) (r3 : jW x3) (rb : jW b) {K : Int → jA → Prop} (hK : ∀ B, MF Z B (fL A (bN A).toNat) → jrI 142 386 [some (.ref 49), some (.int (jI b)), some (.int (jI x2)), some (.int (jI x3)), some (.int (jI (p + (fL A (bN A).toNat).length))), some (.int (jI 0)), none] [] E B K) : jrI 142 282 [some (.ref 49), some (.int (jI b)), some (.int (jI x2)), some (.int (jI x3)), some (.int (jI 1)), none, none] [] E Z K := by
  have nl := bN_le T
  have hn2 : 0 ≤ A 2 10 ∧ A 2 10 ≤ 279 := ⟨T.1.2.2.2.1, T.1.2.2.2.2.1⟩
  refine j_loop (P := fun k => ∀ B : jA, 1 ≤ k → k ≤ bN A + 1 → MF Z B (fL A (k - 1).toNat) → jrI 142 282 [some (.ref 49), some (.int (jI b)), some (.int (jI x2)), some (.int (jI x3)), some (.int (jI k)), none, none] [] E B K) (bN A + 1) (fun k ih B k1 k2 hM => ?_) 1 Z (by omega) (by omega) ⟨fun o _ => by rw [show fL A (1 - 1 : Int).toNat = [] from rfl, mtl_nil], fun j _ => by rw [show fL A (1 - 1 : Int).toNat = [] from rfl, mtl_nil]⟩
  have rk : jW k := ⟨by omega, by omega⟩
  have cm : ∀ {C : jA} {L : List Int}, MF Z C L → CM A C := fun {C L} hC => h.fr (fun o x y => by rw [hC.1 o (by omega), mtl_row (by omega) (by omega)]) (by rw [hC.2 7 (by decide), mtl_49 (by decide)]) (by rw [hC.2 18 (by decide), mtl_49 (by decide)]) (by rw [hC.1 60 (by decide), mtl_row (by decide) (by decide)]) (by rw [hC.1 61 (by decide), mtl_row (by decide) (by decide)])
  have hB := cm hM
  refine vd_X7_build_282 b rb x2 r2 x3 r3 k rk E B K ?_
  rw [hB.2.2.1]
  refine ⟨fun q => ?_, fun q => ?_⟩
  · rw [show (k - 1).toNat = (bN A).toNat by omega] at hM
    rw [hM.2 15 (by decide), mtl_at, hp]
    exact hK B hM
  obtain ⟨d0, d1, d2⟩ := bd_le T k1 q
  have sx := T.2.1 _ d0 d1
  have eF := fL_at (A := A) k1
  have bl := bef_le T k.toNat (by omega)
  have hm := many_le T (bd A k)
  have lF : ((fL A (k - 1).toNat).length : Int) + 4 * many A (bd A k) ≤ 1116 := by
    have := bl.2.2
    rw [eF, List.length_append, nmP_len] at this
    omega
  rw [hB.2.2.2.2 k k1 q, hB.1 50 (by decide) (by decide), sx.1]
  generalize hx : bd A k = x at *
  have rx : jW x := ⟨by omega, by omega⟩
  have c1 := tF_ch hn2.1 (1000 * x)
  have c2 := tF_ch hn2.1 (1000 * (x + 1))
  have le := T.tfle (show 1000 * x ≤ 1000 * (x + 1) by omega)
  have emany : many A x = tF A (1000 * (x + 1)) - tF A (1000 * x) := rfl
  -- one name after the other
  have walk := j_loop (P := fun i => ∀ B : jA, tF A (1000 * x) ≤ i → i ≤ tF A (1000 * (x + 1)) → MF Z B (fL A (k - 1).toNat ++ nmP A (tF A (1000 * x)) (i - tF A (1000 * x)).toNat) → (i < tF A (1000 * (x + 1)) → ∀ kk, 0 ≤ kk → kk < A 2 10 → A 57 kk = A 11 i → jrI 142 326 [some (.ref 49), some (.int (jI b)), some (.int (jI x2)), some (.int (jI x3)), some (.int (jI k)), some (.int (jI x)), some (.int (jI (A 10 i - 1000 * x)))] [] E (jup B 49 19 kk) K) ∧ (tF A (1000 * (x + 1)) ≤ i → ∀ C, MF Z C (fL A (k - 1).toNat ++ nmP A (tF A (1000 * x)) (i - tF A (1000 * x)).toNat) → jrI 142 326 [some (.ref 49), some (.int (jI b)), some (.int (jI x2)), some (.int (jI x3)), some (.int (jI k)), some (.int (jI x)), some (.int (jI 1000))] [] E C K)) (tF A (1000 * (x + 1))) (fun i ih2 B i0 i1 hM => by
    generalize hLL : fL A (k - 1).toNat ++ nmP A (tF A (1000 * x)) (i - tF A (1000 * x)).toNat = LL at hM ⊢
    have lLL : (LL.length : Int) = (fL A (k - 1).toNat).length + 4 * (i - tF A (1000 * x)) := by rw [← hLL, List.length_append, nmP_len]; omega
    refine ⟨fun q3 kk kk0 kk1 ekk => ?_, fun q3 C hC => ?_⟩
    · obtain ⟨r0, r1, r2', r3'⟩ := T.range i0 q3
      obtain ⟨kq, z0, z1, e1, e3, m1, m2, m3, m4, m5, m6, m7, m8⟩ := T.name r0 r1
      have eff : A 55 kq = x := by omega
      have hMk := hM.f kk
      have nm : A 10 i - 1000 * x = A 56 kq := by rw [eff] at e1; omega
      have nm2 : A 10 i % 1000 = A 56 kq := by rw [eff] at e1; omega
      rw [nm]
      refine vd_X7_build_326 b rb x2 r2 x3 r3 k rk x rx _ ⟨by omega, by omega⟩ E _ K ⟨fun z => by omega, fun _ => ?_⟩
      refine k_tellWord ⟨by omega, by omega⟩ (hMk.mo (hmo.w (by omega))) ?_
      have hM1 := hMk.app (C := mtl (jup B 49 19 kk) (jw2 (A 56 kq))) (fun _ _ => rfl) (fun _ _ => rfl)
      have f19 : mtl (jup B 49 19 kk) (jw2 (A 56 kq)) 49 19 = kk := by rw [mtl_49 (by decide), jup_at]
      rw [f19, (cm hM1).1 57 (by decide) (by decide), ekk, (cm hM1).2.2.2.1 (A 11 i) (by omega) (by omega)]
      have hbf := bf_le T (A 11 i)
      refine ⟨by omega, by omega, ?_⟩
      refine k_tellWord ⟨by omega, by omega⟩ (hM1.mo (hmo.w (by rw [List.length_append, jw2_len]; omega))) ?_
      have hM2 := hM1.app (C := mtl (mtl (jup B 49 19 kk) (jw2 (A 56 kq))) (jw2 (bf A (A 11 i)))) (fun _ _ => rfl) (fun _ _ => rfl)
      have eN : LL ++ jw2 (A 56 kq) ++ jw2 (bf A (A 11 i)) = fL A (k - 1).toNat ++ nmP A (tF A (1000 * x)) (i + 1 - tF A (1000 * x)).toNat := by
        rw [show (i + 1 - tF A (1000 * x)).toNat = (i - tF A (1000 * x)).toNat + 1 by omega]
        simp only [nmP, fN]
        rw [show tF A (1000 * x) + (((i - tF A (1000 * x)).toNat : Nat) : Int) = i by omega, nm2, ← hLL]
        simp only [List.append_assoc]
      rw [eN] at hM2
      have w := ih2 q3 _ (by omega) (by omega) hM2
      have hC := cm hM2
      have ep : tF A (1000 * x + A 56 kq + 1) = i + 1 := by rw [show 1000 * x + A 56 kq + 1 = A 10 i + 1 by omega]; exact tF_next T r0 r1
      refine k_mnext T (fun o a b c => hC.1 o b c) hC.2.1 (by omega) (by omega) (fun k2 z1 z2 z3 z4 => ?_) (fun z1 k2 => ?_)
      · rw [ep] at z1 z4 ⊢
        exact w.1 z1 k2 z2 z3 z4
      · rw [ep] at z1
        exact w.2 z1 _ (hM2.f k2)
    · refine vd_X7_build_326 b rb x2 r2 x3 r3 k rk x rx 1000 (by decide) E C K ⟨fun _ => ih (by omega) C (by omega) (by omega) ?_, fun z => absurd z (by decide)⟩
      rw [show (k + 1 - 1).toNat = k.toNat by omega, eF, emany, show tF A (1000 * (x + 1)) = i by omega, hLL]
      exact hC) (tF A (1000 * x)) B (Int.le_refl _) le (by rw [show (tF A (1000 * x) - tF A (1000 * x)).toNat = 0 by omega, show nmP A (tF A (1000 * x)) 0 = [] from rfl, List.append_nil]; exact hM)
  rw [show (tF A (1000 * x) - tF A (1000 * x)).toNat = 0 by omega, show nmP A (tF A (1000 * x)) 0 = [] from rfl, List.append_nil] at walk
  refine ⟨by omega, by omega, fun q2 => ?_, fun q2 => ?_⟩
  · have h0 := many_0 T q2
    exact vd_X7_build_324 b rb x2 r2 x3 r3 k rk x rx 1000 (by decide) E B K (walk.2 (by omega) B hM)
  · have ep : tF A (1000 * x + 0 + 1) = tF A (1000 * x) := by
      refine tF_eq hn2.1 c1.1 c1.2.1 (fun j j0 j1 => by have := c1.2.2.1 j j0 j1; omega) (fun z => ?_)
      have := c1.2.2.2 z
      obtain ⟨kq, z0, z1, e1, e3, m1, m2, m3, m4, m5, m6, m7, m8⟩ := T.name c1.1 z
      omega
    refine k_mnext T (fun o a b c => hB.1 o b c) hB.2.1 (by omega) (by omega) (fun k2 z1 z2 z3 z4 => ?_) (fun z1 k2 => ?_)
    · rw [ep] at z1 z4 ⊢
      obtain ⟨r0, r1, r2', r3'⟩ := T.range (Int.le_refl _) z1
      exact vd_X7_build_324 b rb x2 r2 x3 r3 k rk x rx _ ⟨by omega, by omega⟩ E _ K (walk.1 z1 k2 z2 z3 z4)
    · rw [ep] at z1
      exact vd_X7_build_324 b rb x2 r2 x3 r3 k rk x rx 1000 (by decide) E _ K (walk.2 z1 _ (hM.f k2))
theorem k_mtailrows {Z : jA} {l : List (List Int)} {q : Int} (h27 : Z 49 27 = l.length) (h70 : ∀ t : Nat, t < l.length → Z 70 t = tP q l t ∧ Z 71 t = sSize (tFn (l.getD t [])) (l.getD t []).length) (h68 : ∀ t : Nat, t < l.length → Z 68 t = (l.getD t []).length) (hl : l.length ≤ 31) (hq : 0 ≤ q ∧ q + ((tB l).length : Int) ≤ 65535) (hl2 : ∀ t ∈ l, 1 ≤ t.length ∧ (t.length : Int) ≤ 32) {p : Int} (hp : Z 49 15 = p) (hmo : MO Z (5 * l.length)) {x2 x3 x4 : Int} (r2 : jW x2) (r3 : jW x3) (r4 : jW x4) (rb : jW b) {K : Int → jA → Prop} (hK : jrI 142 443 [some (.ref 49), some (.int (jI b)), some (.int (jI x2)), some (.int (jI x3)), some (.int (jI x4)), some (.int (jI (p + (tL l q l.length).length))), some (.int (jI 1))] [] E (mtl Z (tL l q l.length)) K) : jrI 142 386 [some (.ref 49), some (.int (jI b)), some (.int (jI x2)), some (.int (jI x3)), some (.int (jI x4)), some (.int (jI 0)), none] [] E Z K := by
  refine j_loop (P := fun t => 0 ≤ t → t ≤ l.length → jrI 142 386 [some (.ref 49), some (.int (jI b)), some (.int (jI x2)), some (.int (jI x3)), some (.int (jI x4)), some (.int (jI t)), none] [] E (mtl Z (tL l q t.toNat)) K) l.length (fun t ih t0 t1 => ?_) 0 (by omega) (by omega) |> fun z => by rwa [show tL l q (0 : Int).toNat = [] from rfl, mtl_nil] at z
  refine vd_X7_build_386 b rb x2 r2 x3 r3 x4 r4 t ⟨by omega, by omega⟩ E _ K ?_
  rw [mtl_49 (by decide), h27, mtl_row (show (70 : Nat) ≠ 49 by decide) (by decide)]
  refine ⟨fun z => ?_, fun z => ⟨by omega, ?_⟩⟩
  · rw [show t.toNat = l.length by omega, mtl_at, hp]; exact hK
  have hlt : t.toNat < l.length := by omega
  have ht := h70 t.toNat hlt
  have ht8 := h68 t.toNat hlt
  rw [Int.toNat_of_nonneg t0] at ht ht8
  have hln : 1 ≤ (l.getD t.toNat []).length ∧ ((l.getD t.toNat []).length : Int) ≤ 32 := hl2 _ (by rw [List.getD_eq_getElem?_getD, List.getElem?_eq_getElem hlt]; exact List.getElem_mem _)
  have hz := sSize_le (g := tFn (l.getD t.toNat [])) (l := ((l.getD t.toNat []).length : Int)) (by omega)
  have htp : 0 ≤ tP q l t.toNat ∧ tP q l t.toNat ≤ 65535 := by
    unfold tP
    have : (tB (l.take t.toNat)).length ≤ (tB l).length := by
      have e := tB_app (l.take t.toNat) (l.drop t.toNat)
      rw [List.take_append_drop] at e
      rw [e, List.length_append]; omega
    omega
  have lt := tL_len l q t.toNat
  have mo : ∀ L : List Int, ∀ n, (L.length : Int) + n ≤ 5 * l.length → MO (mtl Z L) n := fun L n hn => MO.t (hmo.w hn)
  rw [ht.1]
  refine k_tellWord ⟨by omega, by omega⟩ (mo _ _ (by rw [lt]; omega)) ?_
  rw [mtl_app, mtl_row (show (71 : Nat) ≠ 49 by decide) (by decide), ht.2]
  refine ⟨by omega, k_tellWord ⟨by omega, by omega⟩ (mo _ _ (by rw [List.length_append, lt, jw2_len]; omega)) ?_⟩
  rw [mtl_app, mtl_row (show (68 : Nat) ≠ 49 by decide) (by decide), ht8]
  refine ⟨by omega, k_tell ⟨by omega, by omega⟩ (mo _ _ (by simp only [List.length_append, lt, jw2_len]; omega)) ?_⟩
  rw [mtl_app]
  have := ih z (by omega) (by omega)
  rw [show (t + 1).toNat = t.toNat + 1 by omega] at this
  simp only [tL, tR, ← List.append_assoc] at this
  exact this
theorem usum_skip {u v : Int → Int} {n : Nat} (h : ∀ x : Int, 0 ≤ x → x < n → x ≠ 16 → x ≠ 17 → u x = v x) : usum u n = usum v n := by
  induction n with
  | zero => rfl
  | succ n ih =>
    simp only [usum]
    rw [ih (fun x a b => h x a (by omega))]
    by_cases q : n = 16 ∨ n = 17
    · rw [if_pos q, if_pos q]
    · rw [if_neg q, if_neg q, h n (by omega) (by omega) (by omega) (by omega)]
end KMB
