theorem szL_get {A : jA} {b s : Int} {u : Int → Int} (hb : b = 8 ∨ b = 16 ∨ b = 32) {p : Int} (n : Nat) (h : AT u p (szL A b s n)) : ∀ j : Nat, j < n → uw u (p + 2 * j) = sSize (bG A b (bd A s) j) b := by
  induction n with
  | zero => intro j hj; omega
  | succ n ih =>
    intro j hj
    simp only [szL] at h
    by_cases e : j = n
    · subst e
      have h1 := h.r
      rw [szL_len] at h1
      rw [show p + ((2 * j : Nat) : Int) = p + 2 * (j : Int) by omega] at h1
      have hz := sSize_le (g := bG A b (bd A s) j) (l := b) (by omega)
      exact h1.w' hz.1 (by omega)
    · exact ih h.l j (by omega)
set_option maxHeartbeats 4000000 in
theorem VA_built {A : jA} (T : TR A) {b : Int} (hb : b = 8 ∨ b = 16 ∨ b = 32) {u : Int → Int} (hu : ∀ x : Int, 0 ≤ x → x < qL A b → u x = (bImg A b).getD x.toNat 0) (hub : UB u) : VA u (qL A b) := by
  have nl := bN_le T
  obtain ⟨g1, g2, g3, g4, g5, g6, g7, g8, g9, g10, g11⟩ := q_le T hb
  obtain ⟨t1, t2, t3, t4⟩ := tAll_le T hb
  have il := bIm_len A b (bSum A b)
  have at0 : AT u 0 (bImg A b) := fun k k0 k1 => by rw [Int.zero_add]; exact hu k k0 (by unfold bImg at k1; omega)
  have sl : 0 ≤ bSum A b ∧ bSum A b < 65521 := ⟨Int.emod_nonneg _ (by decide), Int.emod_lt_of_pos _ (by decide)⟩
  have atH : AT u 0 ([84, 73, b, 0] ++ (jw2 (bN A) ++ (jw2 (qI A b) ++ (jw2 (qF A b) ++ (jw2 (qT A b) ++ (jw2 (qX A b) ++ (jw2 (qL A b) ++ (jw2 (bSum A b) ++ bBody A b)))))))) := by
    have e : bImg A b = [84, 73, b, 0] ++ (jw2 (bN A) ++ (jw2 (qI A b) ++ (jw2 (qF A b) ++ (jw2 (qT A b) ++ (jw2 (qX A b) ++ (jw2 (qL A b) ++ (jw2 (bSum A b) ++ bBody A b))))))) := by unfold bImg bIm hd6; simp only [List.append_assoc]
    rw [← e]; exact at0
  have u2 : u 2 = b := by have := atH.l 2 (by omega) (show (2 : Int) < ((4 : Nat) : Int) by omega); rw [Int.zero_add] at this; exact this
  have a4 := atH.r
  rw [show (0 : Int) + (([84, 73, b, 0] : List Int).length : Int) = 4 from rfl] at a4
  have w4 : uw u 4 = bN A := a4.w (by omega) (by omega)
  have w6 : uw u 6 = qI A b := a4.nx.w (by omega) (by omega)
  have w8 : uw u 8 = qF A b := a4.nx.nx.w (by omega) (by omega)
  have w10 : uw u 10 = qT A b := a4.nx.nx.nx.w (by omega) (by omega)
  have w12 : uw u 12 = qX A b := a4.nx.nx.nx.nx.w (by omega) (by omega)
  have aB : AT u 18 (bBody A b) := a4.nx.nx.nx.nx.nx.nx.nx
  have eb : bBody A b = bL A b (bN A).toNat ++ (tB (tAll A b) ++ (iL A b (bN A).toNat ++ (fL A (bN A).toNat ++ (tL (tAll A b) (qq A b) (tAll A b).length ++ xL A b (bN A).toNat)))) := by unfold bBody; simp only [List.append_assoc]
  rw [eb] at aB
  have aTB : AT u (qq A b) (tB (tAll A b)) := aB.r.l
  have aI : AT u (qI A b) (iL A b (bN A).toNat) := by have := aB.r.r.l; rwa [show 18 + ((bL A b (bN A).toNat).length : Int) + (tB (tAll A b)).length = qI A b by unfold qI; rw [List.length_append]; omega] at this
  have aF : AT u (qF A b) (fL A (bN A).toNat) := by have := aB.r.r.r.l; rwa [show 18 + ((bL A b (bN A).toNat).length : Int) + (tB (tAll A b)).length + (iL A b (bN A).toNat).length = qF A b by unfold qF qI; rw [List.length_append]; omega] at this
  have aT : AT u (qT A b) (tL (tAll A b) (qq A b) (tAll A b).length) := by have := aB.r.r.r.r.l; rwa [show 18 + ((bL A b (bN A).toNat).length : Int) + (tB (tAll A b)).length + (iL A b (bN A).toNat).length + (fL A (bN A).toNat).length = qT A b by unfold qT qF qI; rw [List.length_append]; omega] at this
  have aX : AT u (qX A b) (xL A b (bN A).toNat) := by have := aB.r.r.r.r.r; rwa [show 18 + ((bL A b (bN A).toNat).length : Int) + (tB (tAll A b)).length + (iL A b (bN A).toNat).length + (fL A (bN A).toNat).length + (tL (tAll A b) (qq A b) (tAll A b).length).length = qX A b by unfold qX qT qF qI; rw [List.length_append]; omega] at this
  have aBl : AT u 18 (bL A b (bN A).toNat) := aB.l
  have eT5 : (qX A b - qT A b) / 5 = (tAll A b).length := by omega
  have tl2 : ∀ t ∈ tAll A b, 1 ≤ t.length ∧ (t.length : Int) ≤ 32 := fun t ht => ⟨(t2 t ht).1, by have := (t2 t ht).2; omega⟩
  have tg := tL_get (tAll A b).length (Nat.le_refl _) aT (by omega) tl2
  -- rows
  have row : ∀ k, 1 ≤ k → k ≤ bN A → uRow u k = qI A b + (iL A b (k - 1).toNat).length ∧ AT u (uRow u k) (iR A b k) ∧ uRow u k + (iR A b k).length ≤ qF A b := fun k k1 k2 => by
    have e : uRow u k = qI A b + (iL A b (k - 1).toNat).length := by
      unfold uRow
      rw [w6, w12]
      have := xL_get T hb (bN A).toNat (by omega) aX (k - 1).toNat (by omega)
      rw [show qX A b + 2 * (((k - 1).toNat : Nat) : Int) = qX A b + 2 * (k - 1) by omega] at this
      rw [this]
    obtain ⟨a, c⟩ := iL_get (bN A).toNat aI k k1 (by omega)
    refine ⟨e, by rw [e]; exact a, ?_⟩
    rw [e]; unfold qF; omega
  -- what a row tells
  have told' : ∀ k, 1 ≤ k → k ≤ bN A → uKind u k = A 3 (bd A k) ∧ (A 3 (bd A k) = 1 → uw u (uRow u k + 6) = 4 * bef A (k - 1).toNat ∧ uMany u k = many A (bd A k)) ∧ (A 3 (bd A k) = 2 → uw u (uRow u k + 6) = A 8 (bd A k) ∧ uw u (uRow u k + 8) = bBeg A b (told A k) ∧ u (uRow u k + 10) = tI A b (told A k) ∧ u (uRow u k + 11) = tO A b (told A k) ∧ ∀ j : Nat, (j : Int) < bW A b k → uw u (uRow u k + 12 + 2 * j) = sSize (bG A b (bd A (told A k)) j) b) := fun k k1 k2 => by
    obtain ⟨r1, r2, r3⟩ := row k k1 k2
    obtain ⟨d0, d1, d2⟩ := bd_le T k1 k2
    obtain ⟨z1, z2, z3, z4, -⟩ := file_sz T hb d0 d1
    obtain ⟨o1, o2, o3, o4⟩ := told_le (A := A) k1
    obtain ⟨v1, v2, v3, v4, v5, v6⟩ := told_rng T hb o1 (show told A k ≤ bN A by omega)
    unfold iR at r2
    simp only [List.append_assoc] at r2
    have h0 := r2.l.hd
    have r6 : AT u (uRow u k + 6) (if A 3 (bd A k) = 1 then jw2 (4 * bef A (k - 1).toNat) ++ (jw2 (many A (bd A k)) ++ jw2 (bf A (A 7 (bd A k)))) else if A 3 (bd A k) = 2 then jw2 (A 8 (bd A k)) ++ (jw2 (bBeg A b (told A k)) ++ ([tI A b (told A k)] ++ ([tO A b (told A k)] ++ szL A b (told A k) (bW A b k).toNat))) else []) := by
      have := r2.r.nx.nx.r
      rwa [show uRow u k + (([A 3 (bd A k)] : List Int).length : Int) + 2 + 2 + (([if k = 1 then 1 else A 6 (bd A k)] : List Int).length : Int) = uRow u k + 6 by simp only [List.length_cons, List.length_nil]; omega] at this
    refine ⟨h0, fun q => ?_, fun q => ?_⟩
    · rw [if_pos q] at r6
      have bl := bef_le T (k - 1).toNat (by omega)
      have hm := many_le T (bd A k)
      refine ⟨r6.w (by omega) (by omega), ?_⟩
      have := r6.nx.w hm.1 (by omega)
      rwa [show uRow u k + 6 + 2 = uRow u k + 8 by omega] at this
    · rw [if_neg (by omega), if_pos q] at r6
      have r8 := r6.nx
      have r10 := r8.nx
      have r11 := r10.r
      have r12 := r11.r
      rw [show uRow u k + 6 + 2 = uRow u k + 8 by omega] at r8
      rw [show uRow u k + 6 + 2 + 2 = uRow u k + 10 by omega] at r10
      rw [show uRow u k + 6 + 2 + 2 + (([tI A b (told A k)] : List Int).length : Int) = uRow u k + 11 by simp only [List.length_cons, List.length_nil]; omega] at r11
      rw [show uRow u k + 6 + 2 + 2 + (([tI A b (told A k)] : List Int).length : Int) + (([tO A b (told A k)] : List Int).length : Int) = uRow u k + 12 by simp only [List.length_cons, List.length_nil]; omega] at r12
      refine ⟨r6.w z1 (by omega), r8.w v1 (by omega), r10.l.hd, r11.l.hd, fun j hj => szL_get hb (bW A b k).toNat r12 j (by omega)⟩
  -- names
  have nms : ∀ k, 1 ≤ k → k ≤ bN A → A 3 (bd A k) = 1 → qF A b + 4 * bef A (k - 1).toNat + 4 * many A (bd A k) ≤ qT A b ∧ ∀ i, 0 ≤ i → i < many A (bd A k) → uName u k i = A 10 (tF A (1000 * bd A k) + i) % 1000 ∧ uNum u k i = bf A (A 11 (tF A (1000 * bd A k) + i)) := fun k k1 k2 hk => by
    obtain ⟨q0, q1⟩ := (told' k k1 k2).2.1 hk
    obtain ⟨a, c⟩ := fL_get T (bN A).toNat (by omega) aF k k1 (by omega)
    have bl := bef_le T (bN A).toNat (by omega)
    have hm := many_le T (bd A k)
    have c1 := tF_ch T.1.2.2.2.1 (1000 * bd A k)
    have c2 := tF_ch T.1.2.2.2.1 (1000 * (bd A k + 1))
    have em : many A (bd A k) = tF A (1000 * (bd A k + 1)) - tF A (1000 * bd A k) := rfl
    refine ⟨by unfold qT; omega, fun i i0 i1 => ?_⟩
    have := nmP_get T c1.1 (many A (bd A k)).toNat (by omega) a i.toNat (by omega)
    rw [Int.toNat_of_nonneg i0] at this
    unfold uName uNum
    rw [w8, q0]
    exact this
  refine ⟨⟨by omega, g9, by rw [u2]; exact hb, by rw [w6]; omega, by rw [w6, w8]; omega, by rw [w8, w10]; omega, by rw [w10, w12]; omega, by rw [w4]; omega, by rw [w12, w4]; omega⟩, fun t t0 t1' => ?_, fun k k1 k2 => ?_, fun k k1 k2 hk => ?_, ?_⟩
  · -- tails
    rw [w12, w10, eT5] at t1'
    obtain ⟨x1, x2, x3⟩ := tg t.toNat (by omega)
    rw [Int.toNat_of_nonneg t0] at x1 x2 x3
    rw [w10, x1, x2, x3, u2]
    have hmem : (tAll A b).getD t.toNat [] ∈ tAll A b := by rw [List.getD_eq_getElem?_getD, List.getElem?_eq_getElem (by omega)]; exact List.getElem_mem _
    have hl := t2 _ hmem
    obtain ⟨y1, y2⟩ := tB_get (tAll A b) aTB t.toNat (by omega)
    refine ⟨by omega, hl.2, UC_store (by omega) ?_ (by rw [w6]; omega) y1⟩
    unfold tP; omega
  · -- rows
    rw [w4] at k2
    obtain ⟨r1, r2, r3⟩ := row k k1 k2
    obtain ⟨d0, d1, d2⟩ := bd_le T k1 k2
    obtain ⟨z1, z2, z3, z4, z5, z6, z7, z8⟩ := file_sz T hb d0 d1
    have sx := T.2.1 _ d0 d1
    obtain ⟨e0, -, e2⟩ := told' k k1 k2
    have lr := iR_len T hb k1 k2
    rw [w6, w8, e0]
    refine ⟨by omega, ?_⟩
    by_cases q1 : A 3 (bd A k) = 1
    · left; rw [if_pos q1] at lr; exact ⟨q1, by omega⟩
    · rw [if_neg q1] at lr
      by_cases q2 : A 3 (bd A k) = 2
      · right; left
        rw [if_pos q2] at lr
        obtain ⟨f1, f2, f3, f4, f5⟩ := e2 q2
        obtain ⟨o1, o2, o3, o4⟩ := told_le (A := A) k1
        obtain ⟨o5, o6⟩ := o4 q2
        have bws : bW A b (told A k) = bW A b k := by unfold bW; rw [o6]
        have ebw : A 8 (bd A k) / b = bW A b k := rfl
        refine ⟨q2, by rw [f1, u2, ebw]; omega, fun hz => ?_, fun j j0 j1 => ?_⟩
        · rw [f1, u2] at hz
          rw [f3, f4, f1, u2, w10, w12, eT5]
          have hz' : A 8 (bd A (told A k)) % b ≠ 0 := by rw [← o6]; exact hz
          obtain ⟨y1, y2, y3⟩ := tail_of T hb o1 (show told A k ≤ bN A by omega) o5 o3 hz'
          obtain ⟨-, -, x3⟩ := tg (tI A b (told A k) - 1).toNat (by omega)
          rw [Int.toNat_of_nonneg (by omega)] at x3
          refine ⟨y1, y2, ?_⟩
          rw [x3, o6]; exact y3
        · rw [f1, u2, ebw] at j1
          have hj := f5 j.toNat (by omega)
          rw [Int.toNat_of_nonneg j0] at hj
          rw [hj, u2]
          obtain ⟨d0', d1', -⟩ := bd_le T o1 (show told A k ≤ bN A by omega)
          -- where the block lies
          have pl : ∀ i : Nat, (i : Int) ≤ bW A b k → uPlace u (uRow u k) i = bBeg A b (told A k) + (fBl A b (bd A (told A k)) i).length := by
            intro i
            induction i with
            | zero => intro _; simp only [uPlace, fBl, List.length_nil]; rw [f2]; omega
            | succ i ih =>
              intro hi
              simp only [uPlace, fBl, List.length_append]
              rw [ih (by omega), f5 i (by omega)]
              have := (sBytes_len (g := bG A b (bd A (told A k)) i) (l := b) (by omega)).2
              omega
          rw [pl j.toNat (by omega)]
          have ne : ¬ bW A b (told A k) = 0 := by omega
          have eBg : bBeg A b (told A k) = 18 + ((bL A b (told A k - 1).toNat).length : Int) := by unfold bBeg; rw [if_neg ne]
          obtain ⟨y1, y2⟩ := bL_get (bN A).toNat aBl (told A k) o1 (by omega) o5 o3
          rw [bws] at y1 y2
          obtain ⟨x1, x2⟩ := fBl_get (bW A b k).toNat y1 j.toNat (by omega)
          rw [Int.toNat_of_nonneg j0] at x1 x2
          rw [eBg]
          refine UC_store (by omega) (by omega) ?_ x1
          rw [w6]
          unfold qq at g11
          omega
      · right; right
        rw [if_neg q2] at lr
        exact ⟨by omega, by omega⟩
  · -- folders
    rw [w4] at k2
    obtain ⟨e0, e1, -⟩ := told' k k1 k2
    rw [e0] at hk
    obtain ⟨d0, d1, d2⟩ := bd_le T k1 k2
    obtain ⟨f1, f2⟩ := e1 hk
    obtain ⟨h1, h2⟩ := nms k k1 k2 hk
    have bl := bef_le T (k - 1).toNat (by omega)
    have em : many A (bd A k) = tF A (1000 * (bd A k + 1)) - tF A (1000 * bd A k) := rfl
    have hNC := (nU_NV T).2 k k1 (by have : bN A = (nU A).2.2 := rfl; omega) k2 hk
    rw [f1, f2, w8, w10, w4]
    refine ⟨by omega, by omega, fun i i0 i1 => ?_, fun i j i0 ij j1 => ?_⟩
    · obtain ⟨x1, x2⟩ := h2 i i0 i1
      obtain ⟨r0, r1, r2, r3⟩ := T.range (f := bd A k) (i := tF A (1000 * bd A k) + i) (by omega) (by omega)
      obtain ⟨kq, z0, z1, e1', e3, m1, m2, m3, m4, m5, m6, m7, m8⟩ := T.name r0 r1
      have nz := hNC (tF A (1000 * bd A k) + i) (by show tF A (1000 * bd A k) ≤ _; omega) (by show _ < tF A (1000 * (bd A k + 1)); omega)
      have nz' : bf A (A 11 (tF A (1000 * bd A k) + i)) ≠ 0 := nz
      have bl' := bf_le T (A 11 (tF A (1000 * bd A k) + i))
      rw [x1, x2]
      exact ⟨by omega, by omega, by omega, bl'.2⟩
    · rw [(h2 i i0 (by omega)).1, (h2 j (by omega) j1).1]
      obtain ⟨r0, r1, r2, r3⟩ := T.range (f := bd A k) (i := tF A (1000 * bd A k) + i) (by omega) (by omega)
      obtain ⟨s0, s1, s2, s3⟩ := T.range (f := bd A k) (i := tF A (1000 * bd A k) + j) (by omega) (by omega)
      have := T.2.2.2.1 (tF A (1000 * bd A k) + i) (tF A (1000 * bd A k) + j) r0 (by omega) s1
      omega
  · -- each folder has one name
    obtain ⟨b1, b2⟩ := bd_1 T
    refine ⟨by rw [(told' 1 (by omega) nl.1).1]; exact b2, fun f i g j f1 f4 hf i0 i1 g1' g4 hg j0 j1 e ht => ?_⟩
    rw [w4] at f4 g4
    obtain ⟨ef0, ef1, -⟩ := told' f f1 f4
    obtain ⟨eg0, eg1, -⟩ := told' g g1' g4
    rw [ef0] at hf
    rw [eg0] at hg
    rw [(ef1 hf).2] at i1
    rw [(eg1 hg).2] at j1
    obtain ⟨fd0, fd1, fd2⟩ := bd_le T f1 f4
    obtain ⟨gd0, gd1, gd2⟩ := bd_le T g1' g4
    have xf := ((nms f f1 f4 hf).2 i i0 i1).2
    have xg := ((nms g g1' g4 hg).2 j j0 j1).2
    have emf : many A (bd A f) = tF A (1000 * (bd A f + 1)) - tF A (1000 * bd A f) := rfl
    have emg : many A (bd A g) = tF A (1000 * (bd A g + 1)) - tF A (1000 * bd A g) := rfl
    obtain ⟨r0, r1, r2, r3⟩ := T.range (f := bd A f) (i := tF A (1000 * bd A f) + i) (by omega) (by omega)
    obtain ⟨s0, s1, s2, s3⟩ := T.range (f := bd A g) (i := tF A (1000 * bd A g) + j) (by omega) (by omega)
    have nz : bf A (A 11 (tF A (1000 * bd A f) + i)) ≠ 0 := (nU_NV T).2 f f1 (by have : bN A = (nU A).2.2 := rfl; omega) f4 hf (tF A (1000 * bd A f) + i) (by show tF A (1000 * bd A f) ≤ _; omega) (by show _ < tF A (1000 * (bd A f + 1)); omega)
    have nz2 : bf A (A 11 (tF A (1000 * bd A g) + j)) ≠ 0 := (nU_NV T).2 g g1' (by have : bN A = (nU A).2.2 := rfl; omega) g4 hg (tF A (1000 * bd A g) + j) (by show tF A (1000 * bd A g) ≤ _; omega) (by show _ < tF A (1000 * (bd A g + 1)); omega)
    have back : ∀ y, bf A y ≠ 0 → bd A (bf A y) = y := fun y hy => by
      rcases (nU_NV T).1.2.2.2.2.2 y with z | z
      · exact absurd z hy
      · exact z.2.2
    obtain ⟨kf, kf0, kf1, kfe, kft, km1, km2, km3, km4, km5, km6, km7, km8⟩ := T.name r0 r1
    obtain ⟨kg, kg0, kg1, kge, kgt, kn1, kn2, kn3, kn4, kn5, kn6, kn7, kn8⟩ := T.name s0 s1
    have same : A 11 (tF A (1000 * bd A f) + i) = A 11 (tF A (1000 * bd A g) + j) := by
      rw [← back _ nz, ← back _ nz2, ← xf, ← xg, e]
    have ht' : A 3 (A 11 (tF A (1000 * bd A f) + i)) = 1 := by
      have hr : 1 ≤ uNum u f i ∧ uNum u f i ≤ bN A := by rw [xf]; have := bf_le T (A 11 (tF A (1000 * bd A f) + i)); omega
      rw [(told' _ hr.1 hr.2).1, xf, back _ nz] at ht
      exact ht
    have ne1 : uNum u f i ≠ 1 := fun z => by
      rw [xf] at z
      have := back _ nz
      rw [z, b1] at this
      omega
    have hx := T.2.2.2.2.2.2.2.1 (A 11 (tF A (1000 * bd A f) + i)) (by omega) (by omega)
    have one : jcnt (A 57) (A 11 (tF A (1000 * bd A f) + i)) (A 2 10).toNat = 1 := by rw [← hx.1]; exact hx.2.2.2.1 (by omega)
    have ek : kf = kg := by
      false_or_by_contra
      by_cases q : kf < kg
      · have := jcnt_two (f := A 57) (x := A 11 (tF A (1000 * bd A f) + i)) (n := (A 2 10).toNat) kf0 q (by omega) kft.symm (by rw [same]; exact kgt.symm)
        omega
      · have := jcnt_two (f := A 57) (x := A 11 (tF A (1000 * bd A f) + i)) (n := (A 2 10).toNat) kg0 (show kg < kf by omega) (by omega) (by rw [same]; exact kgt.symm) kft.symm
        omega
    subst ek
    have efg : bd A f = bd A g := by omega
    have efg' : f = g := by rw [← fd2, ← gd2, efg]
    refine ⟨ne1, efg', ?_⟩
    subst efg'
    false_or_by_contra
    by_cases q : i < j
    · have := T.2.2.2.1 (tF A (1000 * bd A f) + i) (tF A (1000 * bd A f) + j) r0 (by omega) s1; omega
    · have := T.2.2.2.1 (tF A (1000 * bd A f) + j) (tF A (1000 * bd A f) + i) s0 (by omega) r1; omega
