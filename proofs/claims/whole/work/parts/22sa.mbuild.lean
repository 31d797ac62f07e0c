section KMB3
variable {E : jE} {A : jA} {b : Int}
set_option maxHeartbeats 4000000 in
theorem k_mbuild (T : TR A) (hb : b = 8 ∨ b = 16 ∨ b = 32) {A0 : jA} (h50 : ∀ o, 50 ≤ o → o ≤ 57 → A0 o = A o) (h7 : A0 49 7 = A 49 7) {m : Int} (hm : 0 ≤ m ∧ m ≤ 2) (h11 : A0 49 11 = m) (hMB : MB A0) {K : Int → jA → Prop} (hK : ∀ C, (∀ o, o ≠ 49 → o ≠ 58 → o ≠ 59 → ¬ (60 ≤ o ∧ o ≤ 72) → C o = A0 o) → (∀ j, j ≠ 0 → j ≠ 11 → j ≠ 14 → j ≠ 15 → j ≠ 18 → j ≠ 19 → j ≠ 22 → j ≠ 27 → C 49 j = A0 49 j) → C 49 0 = 0 → C 49 11 = m + 1 → (∀ j, j ≠ m → C 59 j = A0 59 j) → C 59 m = qL A b → (∀ j, ¬ (6000 * m ≤ j ∧ j < 6000 * m + 6000) → C 58 j = A0 58 j) → MB C → (∀ x : Int, 0 ≤ x → x < qL A b → mb C m x = (bImg A b).getD x.toNat 0) → K m C) : jrI 142 0 [some (.ref 49), some (.int (jI b)), none, none, none, none, none] [] E A0 K := by
  have nl := bN_le T
  have rb : jW b := ⟨by omega, by omega⟩
  obtain ⟨g1, g2, g3, g4, g5, g6, g7, g8, g9, g10, g11⟩ := q_le T hb
  obtain ⟨t1, t2, t3, t4⟩ := tAll_le T hb
  have bb := body_b T hb
  have main : jrI 142 26 [some (.ref 49), some (.int (jI b)), none, none, none, none, none] [] E (jup A0 49 0 0) K := by
    refine vd_X7_build_26 b rb E _ K ?_
    rw [jup_ne (by decide), h11]
    refine ⟨fun _ M1 e1 => ?_, fun z => by omega⟩
    have m1o : ∀ o, o ≠ 49 → M1 o = A0 o := fun o ho => by rw [e1, jup_row ho, jup_row ho]
    have m149 : ∀ j, j ≠ 0 → j ≠ 14 → M1 49 j = A0 49 j := fun j j1 j2 => by rw [e1, jup_ne j2, jup_ne j1]
    have m114 : M1 49 14 = m := by rw [e1, jup_at]
    have m10 : M1 49 0 = 0 := by rw [e1, jup_ne (by decide), jup_at]
    refine k_mnumber T (fun o x y => by rw [m1o o (by omega)]; exact h50 o x y) (by rw [m149 7 (by decide) (by decide)]; exact h7) (fun C n2 A6 e6 A9 e9 => ?_)
    obtain ⟨n2a, n2b, n2c, n2d, n2e⟩ := n2
    have x9 : ∀ o, o ≠ 49 → A9 o = C o := fun o ho => by rw [e9, jup_row ho, e6, jup_row ho]
    have x949 : ∀ j, j ≠ 15 → j ≠ 27 → A9 49 j = C 49 j := fun j j1 j2 => by rw [e9, jup_ne j2, e6, jup_ne j1]
    have cmX : CM A A9 := ⟨fun o x y => by rw [x9 o (by omega), n2a o (by omega) (by omega) (by omega), m1o o (by omega)]; exact h50 o x y, by rw [x949 7 (by decide) (by decide), n2b 7 (by decide) (by decide), m149 7 (by decide) (by decide)]; exact h7, by rw [x949 18 (by decide) (by decide)]; exact n2c, by rw [x9 60 (by decide)]; exact n2d, by rw [x9 61 (by decide)]; exact n2e⟩
    have x14 : A9 49 14 = m := by rw [x949 14 (by decide) (by decide), n2b 14 (by decide) (by decide)]; exact m114
    have x15 : A9 49 15 = 18 := by rw [e9, jup_ne (by decide), e6, jup_at]
    have x27 : A9 49 27 = 0 := by rw [e9, jup_at]
    refine k_mfiles T hb cmX (by omega) x15 x27 (fun Z pm => ?_)
    obtain ⟨p1, p2, p3, p4, p5, p6, p7⟩ := pm
    rw [show (bN A + 1 - 1).toNat = (bN A).toNat by omega] at p3 p4 p5 p6
    have z15 : Z 49 15 = qq A b := by rw [p4, x15]; rfl
    have z14 : Z 49 14 = m := by rw [p2 14 (by decide) (by decide) (by decide)]; exact x14
    have eAl : tAl A b (bN A).toNat = tAll A b := rfl
    rw [eAl] at p5 p6
    have tb : ∀ t ∈ tAll A b, ∀ x ∈ t, 0 ≤ x ∧ x ≤ 255 := fun t ht => by
      have htS := tS_b T hb (bN A).toNat (by omega)
      unfold tAll at ht
      rcases List.mem_append.mp ht with h | h
      · exact htS.1 t h
      · split at h
        · cases h
        · rw [List.mem_singleton.mp h]; exact htS.2
    refine k_mtails z15 (by omega) (by omega) p5 p6 t1 (fun t ht => ⟨(t2 t ht).1, by have := (t2 t ht).2; omega⟩) tb (by unfold qq; omega) rb (fun B b1 b2 b58 b15 b70 => ?_)
    have b14 : B 49 14 = m := by rw [b2 14 (by decide) (by decide)]; exact z14
    have bq15 : B 49 15 = qI A b := by rw [b15]; exact g11
    have mrB : MR2 A B b := by
      refine ⟨cmX.fr (fun o x y => by rw [b1 o (by omega) (by omega) (by omega) (by omega) (by omega) (by omega)]; exact p1 o (by omega) (by omega) (by omega)) (by rw [b2 7 (by decide) (by decide)]; exact p2 7 (by decide) (by decide) (by decide)) (by rw [b2 18 (by decide) (by decide)]; exact p2 18 (by decide) (by decide) (by decide)) (by rw [b1 60 (by decide) (by decide) (by decide) (by decide) (by decide) (by decide)]; exact p1 60 (by decide) (by decide) (by decide)) (by rw [b1 61 (by decide) (by decide) (by decide) (by decide) (by decide) (by decide)]; exact p1 61 (by decide) (by decide) (by decide)), fun j j1 j2 j3 => ?_⟩
      rw [b1 64 (by decide) (by decide) (by decide) (by decide) (by decide) (by decide), b1 65 (by decide) (by decide) (by decide) (by decide) (by decide) (by decide), b1 66 (by decide) (by decide) (by decide) (by decide) (by decide) (by decide), b1 67 (by decide) (by decide) (by decide) (by decide) (by decide) (by decide)]
      exact p7 j j1 (by omega) j3
    rw [bq15]
    refine k_tellInodes T hb mrB (by omega) bq15 (by omega) (by omega) (fun C1 i1 i72 => ?_)
    have c15 : C1 49 15 = qF A b := by rw [i1 49 (by decide), mtl_at, bq15]; rfl
    have c14 : C1 49 14 = m := by rw [i1 49 (by decide), mtl_49 (by decide)]; exact b14
    rw [c15]
    have cm1 : CM A C1 := (mrB.t (L := iL A b (bN A).toNat)).1.fr (fun o x y => i1 o (by omega)) (by rw [i1 49 (by decide)]) (by rw [i1 49 (by decide)]) (i1 60 (by decide)) (i1 61 (by decide))
    have mo1 : MO C1 1116 := by unfold MO; rw [c14, c15]; omega
    refine k_mfolders T cm1 c15 mo1 ⟨by omega, by omega⟩ ⟨by omega, by omega⟩ rb (fun C2 f2 => ?_)
    rw [show qF A b + ((fL A (bN A).toNat).length : Int) = qT A b from rfl]
    have d15 : C2 49 15 = qT A b := by rw [f2.2 15 (by decide), mtl_at, c15]; rfl
    have d14 : C2 49 14 = m := by rw [f2.2 14 (by decide), mtl_49 (by decide)]; exact c14
    have c2B : ∀ o, o ≠ 49 → o ≠ 58 → o ≠ 72 → C2 o = B o := fun o o1 o2 o3 => by rw [f2.1 o o1, mtl_row o1 o2, i1 o o3, mtl_row o1 o2]
    have d27 : C2 49 27 = (tAll A b).length := by rw [f2.2 27 (by decide), mtl_49 (by decide), i1 49 (by decide), mtl_49 (by decide), b2 27 (by decide) (by decide)]; exact p5
    have mo2 : MO C2 (5 * (tAll A b).length) := by unfold MO; rw [d14, d15]; omega
    refine k_mtailrows d27 (by rw [c2B 70 (by decide) (by decide) (by decide), c2B 71 (by decide) (by decide) (by decide)]; exact b70) (fun t ht => by rw [c2B 68 (by decide) (by decide) (by decide), b1 68 (by decide) (by decide) (by decide) (by decide) (by decide) (by decide)]; exact (p6 t ht).1) t1 (by omega) (fun t ht => ⟨(t2 t ht).1, by have := (t2 t ht).2; omega⟩) d15 mo2 ⟨by omega, by omega⟩ ⟨by omega, by omega⟩ ⟨by omega, by omega⟩ rb ?_
    rw [show qT A b + ((tL (tAll A b) (qq A b) (tAll A b).length).length : Int) = qX A b from rfl]
    obtain ⟨C3, e3⟩ : ∃ C, C = mtl C2 (tL (tAll A b) (qq A b) (tAll A b).length) := ⟨_, rfl⟩
    rw [← e3]
    have f15 : C3 49 15 = qX A b := by rw [e3, mtl_at, d15]; rfl
    have f14 : C3 49 14 = m := by rw [e3, mtl_49 (by decide)]; exact d14
    have f18 : C3 49 18 = bN A := by rw [e3, mtl_49 (by decide), f2.2 18 (by decide), mtl_49 (by decide)]; exact cm1.2.2.1
    have f72 : ∀ k, 1 ≤ k → k ≤ bN A → C3 72 k = ((iL A b (k - 1).toNat).length : Int) := fun k k1 k2 => by rw [e3, mtl_row (by decide) (by decide), f2.1 72 (by decide), mtl_row (by decide) (by decide)]; exact i72 k k1 k2
    have iln := iL_le T hb (bN A).toNat (by omega) (by omega)
    have mono : ∀ (d k : Nat), (iL A b k).length ≤ (iL A b (k + d)).length := by
      intro d
      induction d with
      | zero => intro k; exact Nat.le_refl _
      | succ d ih => intro k; rw [← Nat.add_assoc]; simp only [iL, List.length_append]; have := ih k; omega
    -- the exports
    have rI : jW (qI A b) := ⟨by omega, by omega⟩
    have rF : jW (qF A b) := ⟨by omega, by omega⟩
    have rT : jW (qT A b) := ⟨by omega, by omega⟩
    have rX : jW (qX A b) := ⟨by omega, by omega⟩
    refine j_loop (P := fun k => 1 ≤ k → k ≤ bN A + 1 → jrI 142 443 [some (.ref 49), some (.int (jI b)), some (.int (jI (qI A b))), some (.int (jI (qF A b))), some (.int (jI (qT A b))), some (.int (jI (qX A b))), some (.int (jI k))] [] E (mtl C3 (xL A b (k - 1).toNat)) K) (bN A + 1) (fun k ih k1 k2 => ?_) 1 (by omega) (by omega) |> fun z => by rwa [show xL A b (1 - 1 : Int).toNat = [] from rfl, mtl_nil] at z
    by_cases q : k ≤ bN A
    · refine vd_X7_build_443 b rb _ rI _ rF _ rT _ rX k ⟨by omega, by omega⟩ E _ K ?_
      rw [mtl_49 (by decide), f18, mtl_49 (by decide), f14, mtl_row (show (72 : Nat) ≠ 49 by decide) (by decide)]
      refine ⟨fun q' => by omega, fun _ => ⟨by omega, ?_⟩⟩
      rw [f72 k k1 q]
      have m1 := mono ((bN A).toNat - (k - 1).toNat) (k - 1).toNat
      rw [show (k - 1).toNat + ((bN A).toNat - (k - 1).toNat) = (bN A).toNat by omega] at m1
      refine k_tellWord ⟨by omega, by omega⟩ (MO.t (by unfold MO; rw [f14, f15, xL_len]; omega)) ?_
      rw [mtl_app]
      have := ih (by omega) (by omega) (by omega)
      rw [show (k + 1 - 1).toNat = (k - 1).toNat + 1 by omega] at this
      exact this
    have hk : k = bN A + 1 := by omega
    rw [show (k - 1).toNat = (bN A).toNat by omega]
    have m9MB : MB A9 := fun k => by rw [x9 58 (by decide), n2a 58 (by decide) (by decide) (by decide), m1o 58 (by decide)]; exact hMB k
    -- the whole body is told
    have body : ∀ j, mtl C3 (xL A b (bN A).toNat) 58 j = mtl A9 (bBody A b) 58 j := by
      intro j
      have eb : bBody A b = bL A b (bN A).toNat ++ (tB (tAll A b) ++ (iL A b (bN A).toNat ++ (fL A (bN A).toNat ++ (tL (tAll A b) (qq A b) (tAll A b).length ++ xL A b (bN A).toNat)))) := by unfold bBody; simp only [List.append_assoc]
      rw [eb, ← mtl_app, ← mtl_app, ← mtl_app, ← mtl_app, ← mtl_app]
      have s1 : Z 58 = mtl A9 (bL A b (bN A).toNat) 58 ∧ Z 49 14 = mtl A9 (bL A b (bN A).toNat) 49 14 ∧ Z 49 15 = mtl A9 (bL A b (bN A).toNat) 49 15 := ⟨p3, by rw [mtl_49 (by decide)]; exact p2 14 (by decide) (by decide) (by decide), by rw [mtl_at]; exact p4⟩
      generalize mtl A9 (bL A b (bN A).toNat) = Y1 at s1 ⊢
      have s2 : B 58 = mtl Y1 (tB (tAll A b)) 58 ∧ B 49 14 = mtl Y1 (tB (tAll A b)) 49 14 ∧ B 49 15 = mtl Y1 (tB (tAll A b)) 49 15 := ⟨by rw [b58]; exact mtl_congr s1.1 s1.2.1 s1.2.2, by rw [mtl_49 (by decide), b2 14 (by decide) (by decide)]; exact s1.2.1, by rw [mtl_at, b15, ← s1.2.2, z15]⟩
      generalize mtl Y1 (tB (tAll A b)) = Y2 at s2 ⊢
      have s3 : C1 58 = mtl Y2 (iL A b (bN A).toNat) 58 ∧ C1 49 14 = mtl Y2 (iL A b (bN A).toNat) 49 14 ∧ C1 49 15 = mtl Y2 (iL A b (bN A).toNat) 49 15 := ⟨by rw [i1 58 (by decide)]; exact mtl_congr s2.1 s2.2.1 s2.2.2, by rw [mtl_49 (by decide), i1 49 (by decide), mtl_49 (by decide)]; exact s2.2.1, by rw [mtl_at, i1 49 (by decide), mtl_at, s2.2.2]⟩
      generalize mtl Y2 (iL A b (bN A).toNat) = Y3 at s3 ⊢
      have s4 : C2 58 = mtl Y3 (fL A (bN A).toNat) 58 ∧ C2 49 14 = mtl Y3 (fL A (bN A).toNat) 49 14 ∧ C2 49 15 = mtl Y3 (fL A (bN A).toNat) 49 15 := ⟨by rw [f2.1 58 (by decide)]; exact mtl_congr s3.1 s3.2.1 s3.2.2, by rw [mtl_49 (by decide), f2.2 14 (by decide), mtl_49 (by decide)]; exact s3.2.1, by rw [mtl_at, f2.2 15 (by decide), mtl_at, s3.2.2]⟩
      generalize mtl Y3 (fL A (bN A).toNat) = Y4 at s4 ⊢
      have s5 : C3 58 = mtl Y4 (tL (tAll A b) (qq A b) (tAll A b).length) 58 ∧ C3 49 14 = mtl Y4 (tL (tAll A b) (qq A b) (tAll A b).length) 49 14 ∧ C3 49 15 = mtl Y4 (tL (tAll A b) (qq A b) (tAll A b).length) 49 15 := ⟨by rw [e3]; exact mtl_congr s4.1 s4.2.1 s4.2.2, by rw [e3, mtl_49 (by decide), mtl_49 (by decide)]; exact s4.2.1, by rw [e3, mtl_at, mtl_at, s4.2.2]⟩
      rw [mtl_congr s5.1 s5.2.1 s5.2.2]
    have o49 : ∀ j, j ≠ 0 → j ≠ 14 → j ≠ 15 → j ≠ 18 → j ≠ 19 → j ≠ 22 → j ≠ 27 → mtl C3 (xL A b (bN A).toNat) 49 j = A0 49 j := fun j j0 j1 j2 j3 j4 j5 j6 => by
      rw [mtl_49 j2, e3, mtl_49 j2, f2.2 j j4, mtl_49 j2, i1 49 (by decide), mtl_49 j2, b2 j j2 j5, p2 j j2 j5 j6, x949 j j2 j6, n2b j j3 j4, m149 j j0 j1]
    have wo : ∀ o, o ≠ 49 → o ≠ 58 → ¬ (60 ≤ o ∧ o ≤ 72) → mtl C3 (xL A b (bN A).toNat) o = A0 o := fun o o1 o2 o4 => by
      rw [mtl_row o1 o2, e3, mtl_row o1 o2, f2.1 o o1, mtl_row o1 o2, i1 o (by omega), mtl_row o1 o2, b1 o o1 o2 (by omega) (by omega) (by omega) (by omega), p1 o o1 o2 (by omega), x9 o o1, n2a o o1 (by omega) (by omega), m1o o o1]
    have w0 : mtl C3 (xL A b (bN A).toNat) 49 0 = 0 := by
      rw [mtl_49 (by decide), e3, mtl_49 (by decide), f2.2 0 (by decide), mtl_49 (by decide), i1 49 (by decide), mtl_49 (by decide), b2 0 (by decide) (by decide), p2 0 (by decide) (by decide) (by decide), x949 0 (by decide) (by decide), n2b 0 (by decide) (by decide)]; exact m10
    refine k_mhead T hb hm hk (by rw [mtl_49 (by decide)]; exact f14) (by rw [mtl_at, f15]; rfl) (by rw [mtl_49 (by decide)]; exact f18) (by rw [o49 11 (by decide) (by decide) (by decide) (by decide) (by decide) (by decide) (by decide)]; exact h11) body x14 x15 m9MB (fun C d1 d2 d3 d4 d5 d6 d7 d8 => ?_)
    refine hK C (fun o o1 o2 o3 o4 => by rw [d1 o o1 o2 o3]; exact wo o o1 o2 o4) (fun j j0 j11 j1 j2 j3 j4 j5 j6 => by rw [d2 j j11 j2]; exact o49 j j0 j1 j2 j3 j4 j5 j6) (by rw [d2 0 (by decide) (by decide)]; exact w0) d3 (fun j hj => by rw [d4 j hj, wo 59 (by decide) (by decide) (by decide)]) d5 (fun j hj => by rw [d6 j hj, x9 58 (by decide), n2a 58 (by decide) (by decide) (by decide), m1o 58 (by decide)]) d7 d8
  refine vd_X7_build_0 b rb E A0 K (fun A1 e1 => ?_)
  rw [e1]
  exact ⟨fun _ => main, fun n1 => ⟨fun _ => main, fun n2 => ⟨fun _ => main, fun n3 => by omega⟩⟩⟩
end KMB3
