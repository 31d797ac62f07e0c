section KB
variable {E : jE} {A S : jA} {b : Int} {c : Nat}
/-- the class on its way: L stands in its image -/
def FB (A S : jA) (c : Nat) (b : Int) (L : List Int) : Prop := (∀ o, ¬ (21 ≤ o ∧ o ≤ 35) → o ≠ c → o ≠ c + 1 → S o = A o) ∧ CR2 A S b ∧ BI S c L ∧ (∀ k, 0 ≤ S (c + 1) k ∧ S (c + 1) k ≤ 255) ∧ ∀ f, f ≠ 1 → S c f = A c f
theorem jap_b {L : List Int} (h : ∀ k, 0 ≤ S (c + 1) k ∧ S (c + 1) k ≤ 255) (hL : ∀ x ∈ L, 0 ≤ x ∧ x ≤ 255) : ∀ k, 0 ≤ jap S c L (c + 1) k ∧ jap S c L (c + 1) k ≤ 255 := fun k => by
  by_cases q : S c 1 ≤ k ∧ k < S c 1 + L.length
  · rw [jap_hi q.1 q.2]
    exact hL _ (by rw [List.getD_eq_getElem?_getD, List.getElem?_eq_getElem (by omega)]; exact List.getElem_mem _)
  · simp only [jap]
    rw [if_neg (by omega), if_neg (by omega)]; exact h k
theorem FB.app {S' : jA} {L M : List Int} (hc : jim c) (h : FB A S c b L) (h1 : ∀ o, o ≠ 31 → S' o = jap S c M o) (hM : ∀ x ∈ M, 0 ≤ x ∧ x ≤ 255) : FB A S' c b (L ++ M) := by
  have hcc : c = 13 ∨ c = 15 ∨ c = 17 ∨ c = 19 ∨ c = 47 := hc
  obtain ⟨a1, a2, a3, a4, a5⟩ := h
  refine ⟨fun o o1 o2 o3 => by rw [h1 o (by omega), jap_row o2 o3]; exact a1 o o1 o2 o3, (a2.jap hc (L := M)).fr (fun o x y z => h1 o (by omega)) (by rw [h1 21 (by decide)]), a3.app (h1 c (by omega)) (h1 (c + 1) (by omega)), by rw [h1 (c + 1) (by omega)]; exact jap_b a4 hM, fun f hf => by rw [h1 c (by omega), jap_fld hf]; exact a5 f hf⟩
theorem FB.set {P R : List Int} {v w : Int} (hc : jim c) (h : FB A S c b (P ++ (jw2 v ++ R))) : FB A (jset S c P.length w) c b (P ++ (jw2 w ++ R)) := by
  have hcc : c = 13 ∨ c = 15 ∨ c = 17 ∨ c = 19 ∨ c = 47 := hc
  obtain ⟨a1, a2, a3, a4, a5⟩ := h
  refine ⟨fun o o1 o2 o3 => by rw [jset_row o3]; exact a1 o o1 o2 o3, a2.fr (fun o x y z => jset_row (by omega)) (by rw [jset_row (by omega)]), a3.set, fun k => ?_, fun f hf => by rw [jset_row (by omega)]; exact a5 f hf⟩
  unfold jset
  simp only [jup]
  split
  · omega
  · split
    · omega
    · exact a4 k
set_option maxHeartbeats 4000000 in
theorem k_become (T : TR A) (hb : b = 8 ∨ b = 16 ∨ b = 32) (hc : jim c) (hN : (jN (c + 1) : Int) = 5581) (hI : IM A c) {K : jA → Prop} (hK : ∀ B', (∀ o, ¬ (21 ≤ o ∧ o ≤ 35) → o ≠ c → o ≠ c + 1 → B' o = A o) → BI B' c (bImg A b) → IM B' c → K (cHead B' c)) : jrV 3 0 [some (.ref 21), some (.ref 2), some (.int (jI b)), some (.ref c)] [] E A K := by
  have hcc : c = 13 ∨ c = 15 ∨ c = 17 ∨ c = 19 ∨ c = 47 := hc
  have nl := bN_le T
  have rb : jW b := ⟨by omega, by omega⟩
  obtain ⟨g1, g2, g3, g4, g5, g6, g7, g8, g9, g10, g11⟩ := q_le T hb
  obtain ⟨t1, t2, t3, t4⟩ := tAll_le T hb
  have bb := body_b T hb
  unfold bBody at bb
  have bb5 : ∀ x ∈ xL A b (bN A).toNat, 0 ≤ x ∧ x ≤ 255 := fun x hx => bb x (List.mem_append_right _ hx)
  have bb4 : ∀ x ∈ tL (tAll A b) (qq A b) (tAll A b).length, 0 ≤ x ∧ x ≤ 255 := fun x hx => bb x (List.mem_append_left _ (List.mem_append_right _ hx))
  have bb3 : ∀ x ∈ fL A (bN A).toNat, 0 ≤ x ∧ x ≤ 255 := fun x hx => bb x (List.mem_append_left _ (List.mem_append_left _ (List.mem_append_right _ hx)))
  have bb2 : ∀ x ∈ iL A b (bN A).toNat, 0 ≤ x ∧ x ≤ 255 := fun x hx => bb x (List.mem_append_left _ (List.mem_append_left _ (List.mem_append_left _ (List.mem_append_right _ hx))))
  have bb1 : ∀ x ∈ bL A b (bN A).toNat ++ tB (tAll A b), 0 ≤ x ∧ x ≤ 255 := fun x hx => bb x (List.mem_append_left _ (List.mem_append_left _ (List.mem_append_left _ (List.mem_append_left _ hx))))
  refine vd_X0_become_0 b rb c hc E A K (k_giveNumbers T (fun C1 n1 => ?_))
  have cb1 : CB A C1 := ⟨fun o x y => n1.1 o (by omega) (by omega) (by omega), n1.2.2.1, n1.2.2.2.1, n1.2.2.2.2⟩
  refine k_putHead hb (n := bN A) ⟨nl.1, by omega⟩ n1.2.2.1 hc hN ?_
  obtain ⟨X1, eX1⟩ : ∃ X, X = jap (jup C1 c 1 0) c (hd0 b (bN A)) := ⟨_, rfl⟩
  rw [← eX1]
  have x1r : ∀ o, o ≠ c → o ≠ c + 1 → X1 o = C1 o := fun o o1 o2 => by rw [eX1, jap_row o1 o2, jup_row o1]
  have cbX1 : CB A X1 := cb1.fr (fun o x y => x1r o (by omega) (by omega)) (by rw [x1r 21 (by omega) (by omega)]) (x1r 24 (by omega) (by omega)) (x1r 25 (by omega) (by omega))
  have x1l : X1 c 1 = 18 := by rw [eX1, jap_len, jup_at]; rfl
  have hdb : ∀ x ∈ hd0 b (bN A), 0 ≤ x ∧ x ≤ 255 := fun x hx => by
    unfold hd0 at hx
    rcases List.mem_append.mp hx with h | h
    · rcases List.mem_append.mp h with h | h
      · simp only [List.mem_cons, List.not_mem_nil, or_false] at h; omega
      · exact jw2_b _ x h
    · simp only [List.mem_cons, List.not_mem_nil, or_false, or_self] at h; omega
  refine k_putBlocks T hb cbX1 hc hN x1l (fun B2 p2 => ?_)
  obtain ⟨p2a, p2b, p2c⟩ := p2
  rw [show (bN A + 1 - 1).toNat = (bN A).toNat by omega] at p2a
  have b2r : ∀ o, o ≠ 22 → o ≠ 23 → o ≠ 26 → o ≠ 27 → o ≠ 28 → o ≠ c → o ≠ c + 1 → B2 o = X1 o := fun o a1 a2 a3 a4 a5 a6 a7 => by rw [p2a o a1 a2 a3 a4 a5, jap_row a6 a7]
  have cb2 : CB A B2 := cbX1.fr (fun o x y => b2r o (by omega) (by omega) (by omega) (by omega) (by omega) (by omega) (by omega)) (by rw [b2r 21 (by omega) (by omega) (by omega) (by omega) (by omega) (by omega) (by omega)]) (b2r 24 (by omega) (by omega) (by omega) (by omega) (by omega) (by omega) (by omega)) (b2r 25 (by omega) (by omega) (by omega) (by omega) (by omega) (by omega) (by omega))
  have b2l : B2 c 1 = qq A b := by rw [p2a c (by omega) (by omega) (by omega) (by omega) (by omega), jap_len, x1l]; rfl
  refine k_putTailBlocks T hb cb2 (fun j j1 j2 => p2b j j1 (by omega)) hc hN b2l rfl (fun B3 p3 => ?_)
  obtain ⟨p3a, p3b, p3c, p3d, p3e⟩ := p3
  have b3r : ∀ o, o ≠ 21 → o ≠ 22 → o ≠ 23 → o ≠ 29 → o ≠ 30 → ¬ (32 ≤ o ∧ o ≤ 35) → o ≠ c → o ≠ c + 1 → B3 o = B2 o := fun o a1 a2 a3 a4 a5 a6 a7 a8 => by rw [p3a o a1 a2 a3 a4 a5 a6, jap_row a7 a8]
  have cb3 : CB A B3 := cb2.fr (fun o x y => b3r o (by omega) (by omega) (by omega) (by omega) (by omega) (by omega) (by omega) (by omega)) p3b (b3r 24 (by omega) (by omega) (by omega) (by omega) (by omega) (by omega) (by omega) (by omega)) (b3r 25 (by omega) (by omega) (by omega) (by omega) (by omega) (by omega) (by omega) (by omega))
  have cr3 : CR2 A B3 b := by
    refine ⟨cb3, fun j j1 j2 => ⟨?_, p3e j j1 j2⟩, fun j j1 j2 j3 j4 => ?_⟩
    · rw [b3r 26 (by omega) (by omega) (by omega) (by omega) (by omega) (by omega) (by omega) (by omega)]; exact p2b j j1 (by omega)
    · rw [b3r 27 (by omega) (by omega) (by omega) (by omega) (by omega) (by omega) (by omega) (by omega), b3r 28 (by omega) (by omega) (by omega) (by omega) (by omega) (by omega) (by omega) (by omega)]; exact p2c j j1 (by omega) j3 j4
  have x1bi : BI X1 c (hd0 b (bN A)) := by
    have h0 : BI (jup C1 c 1 0) c [] := ⟨by rw [jup_at]; rfl, fun i a d => by simp only [List.length_nil] at d; omega⟩
    have := h0.app (M := hd0 b (bN A)) (C := X1) (by rw [eX1]) (by rw [eX1])
    rwa [List.nil_append] at this
  have jj : ∀ o, o = c ∨ o = c + 1 → B3 o = jap X1 c (bL A b (bN A).toNat ++ tB (tAll A b)) o := fun o ho => by
    rw [p3a o (by omega) (by omega) (by omega) (by omega) (by omega) (by omega), ← jap_app]
    exact jap_congr (p2a o (by omega) (by omega) (by omega) (by omega) (by omega)) (p2a c (by omega) (by omega) (by omega) (by omega) (by omega))
  have fb3 : FB A B3 c b (hd6 b (bN A) 0 0 0 0 0 0 ++ (bL A b (bN A).toNat ++ tB (tAll A b))) := by
    refine ⟨fun o o1 o2 o3 => ?_, cr3, x1bi.app (jj c (.inl rfl)) (jj (c + 1) (.inr rfl)), ?_, fun f hf => ?_⟩
    · rw [b3r o (by omega) (by omega) (by omega) (by omega) (by omega) (by omega) o2 o3, b2r o (by omega) (by omega) (by omega) (by omega) (by omega) o2 o3, x1r o o2 o3]; exact n1.1 o (by omega) (by omega) (by omega)
    · rw [jj (c + 1) (.inr rfl)]
      refine jap_b ?_ bb1
      rw [eX1]
      refine jap_b ?_ hdb
      rw [jup_row (by omega), n1.1 (c + 1) (by omega) (by omega) (by omega)]
      exact hI.2.2.2.1
    · rw [jj c (.inl rfl), jap_fld hf, eX1, jap_fld hf, jup_ne hf, n1.1 c (by omega) (by omega) (by omega)]
  have ln : ∀ {S : jA} {L : List Int}, FB A S c b L → S c 1 = L.length := fun h => h.2.2.1.1
  have l3 : B3 c 1 = qI A b := by rw [ln fb3, List.length_append, hd6_len]; unfold qI; omega
  rw [l3]
  refine k_setWord hc ⟨by omega, by omega⟩ (by omega) (by omega) (by omega) ?_
  have fb4 : FB A (jset B3 c 6 (qI A b)) c b (hd6 b (bN A) (qI A b) 0 0 0 0 0 ++ (bL A b (bN A).toNat ++ tB (tAll A b))) := FB.set (P := [84, 73, b, 0] ++ jw2 (bN A)) (v := 0) (w := qI A b) (R := jw2 0 ++ jw2 0 ++ jw2 0 ++ jw2 0 ++ jw2 0 ++ (bL A b (bN A).toNat ++ tB (tAll A b))) hc fb3
  obtain ⟨S4, e4⟩ : ∃ S, S = jset B3 c 6 (qI A b) := ⟨_, rfl⟩
  rw [← e4] at fb4 ⊢
  have tt4 : TT S4 (qq A b) (tAll A b) ∧ S4 21 14 = (tAll A b).length := by
    rw [e4]; unfold TT; rw [jset_row (by omega), jset_row (by omega), jset_row (by omega), jset_row (by omega)]; exact ⟨p3d, p3c⟩
  have l4 : S4 c 1 = qI A b := by rw [ln fb4, List.length_append, hd6_len]; unfold qI; omega
  refine k_putInodes T hb fb4.2.1 hc hN l4 (by omega) (by omega) (fun S5 s5 s31 => ?_)
  have fb5 := fb4.app hc s5 bb2
  have l5 : S5 c 1 = qF A b := by rw [ln fb5]; simp only [List.length_append, hd6_len]; unfold qF qI; simp only [List.length_append]; omega
  have tt5 : TT S5 (qq A b) (tAll A b) ∧ S5 21 14 = (tAll A b).length := by
    unfold TT; rw [s5 32 (by decide), s5 33 (by decide), s5 34 (by decide), s5 21 (by decide), jap_row (by omega) (by omega), jap_row (by omega) (by omega), jap_row (by omega) (by omega), jap_row (by omega) (by omega)]; exact tt4
  rw [l5]
  refine k_setWord hc ⟨by omega, by omega⟩ (by omega) (by omega) (by omega) ?_
  have fb6 : FB A (jset S5 c 8 (qF A b)) c b (hd6 b (bN A) (qI A b) (qF A b) 0 0 0 0 ++ (bL A b (bN A).toNat ++ tB (tAll A b)) ++ iL A b (bN A).toNat) := FB.set (P := [84, 73, b, 0] ++ jw2 (bN A) ++ jw2 (qI A b)) (v := 0) (w := qF A b) (R := jw2 0 ++ jw2 0 ++ jw2 0 ++ jw2 0 ++ (bL A b (bN A).toNat ++ tB (tAll A b)) ++ iL A b (bN A).toNat) hc fb5
  obtain ⟨S6, e6⟩ : ∃ S, S = jset S5 c 8 (qF A b) := ⟨_, rfl⟩
  rw [← e6] at fb6 ⊢
  have l6 : S6 c 1 = qF A b := by rw [e6, jset_row (by omega)]; exact l5
  refine k_putFolders T fb6.2.1.1 hc l6 (by omega) (by omega) ?_
  have fb7 := fb6.app (S' := jap S6 c (fL A (bN A).toNat)) hc (fun _ _ => rfl) bb3
  obtain ⟨S7, e7⟩ : ∃ S, S = jap S6 c (fL A (bN A).toNat) := ⟨_, rfl⟩
  rw [← e7] at fb7 ⊢
  have l7 : S7 c 1 = qT A b := by rw [e7, jap_len, l6]; rfl
  rw [l7]
  refine k_setWord hc ⟨by omega, by omega⟩ (by omega) (by omega) (by omega) ?_
  have fb8 : FB A (jset S7 c 10 (qT A b)) c b (hd6 b (bN A) (qI A b) (qF A b) (qT A b) 0 0 0 ++ (bL A b (bN A).toNat ++ tB (tAll A b)) ++ iL A b (bN A).toNat ++ fL A (bN A).toNat) := FB.set (P := [84, 73, b, 0] ++ jw2 (bN A) ++ jw2 (qI A b) ++ jw2 (qF A b)) (v := 0) (w := qT A b) (R := jw2 0 ++ jw2 0 ++ jw2 0 ++ (bL A b (bN A).toNat ++ tB (tAll A b)) ++ iL A b (bN A).toNat ++ fL A (bN A).toNat) hc fb7
  obtain ⟨S8, e8⟩ : ∃ S, S = jset S7 c 10 (qT A b) := ⟨_, rfl⟩
  rw [← e8] at fb8 ⊢
  have r8 : ∀ o, o ≠ c → o ≠ c + 1 → S8 o = S5 o := fun o o1 o2 => by rw [e8, jset_row o2, e7, jap_row o1 o2, e6, jset_row o2]
  have tt8 : TT S8 (qq A b) (tAll A b) ∧ S8 21 14 = (tAll A b).length := by
    unfold TT; rw [r8 32 (by omega) (by omega), r8 33 (by omega) (by omega), r8 34 (by omega) (by omega), r8 21 (by omega) (by omega)]; exact tt5
  have l8 : S8 c 1 = qT A b := by rw [e8, jset_row (by omega)]; exact l7
  refine k_putTails tt8.1 tt8.2 (by omega) (by omega) (fun t ht => ⟨(t2 t ht).1, by have := (t2 t ht).2; omega⟩) hc l8 (by omega) (by omega) ?_
  have fb9 := fb8.app (S' := jap S8 c (tL (tAll A b) (qq A b) (tAll A b).length)) hc (fun _ _ => rfl) bb4
  obtain ⟨S9, e9⟩ : ∃ S, S = jap S8 c (tL (tAll A b) (qq A b) (tAll A b).length) := ⟨_, rfl⟩
  rw [← e9] at fb9 ⊢
  have l9 : S9 c 1 = qX A b := by rw [e9, jap_len, l8]; rfl
  rw [l9]
  refine k_setWord hc ⟨by omega, by omega⟩ (by omega) (by omega) (by omega) ?_
  have fb10 : FB A (jset S9 c 12 (qX A b)) c b (hd6 b (bN A) (qI A b) (qF A b) (qT A b) (qX A b) 0 0 ++ (bL A b (bN A).toNat ++ tB (tAll A b)) ++ iL A b (bN A).toNat ++ fL A (bN A).toNat ++ tL (tAll A b) (qq A b) (tAll A b).length) := FB.set (P := [84, 73, b, 0] ++ jw2 (bN A) ++ jw2 (qI A b) ++ jw2 (qF A b) ++ jw2 (qT A b)) (v := 0) (w := qX A b) (R := jw2 0 ++ jw2 0 ++ (bL A b (bN A).toNat ++ tB (tAll A b)) ++ iL A b (bN A).toNat ++ fL A (bN A).toNat ++ tL (tAll A b) (qq A b) (tAll A b).length) hc fb9
  obtain ⟨S10, e10⟩ : ∃ S, S = jset S9 c 12 (qX A b) := ⟨_, rfl⟩
  rw [← e10] at fb10 ⊢
  have r10 : ∀ o, o ≠ c → o ≠ c + 1 → S10 o = S5 o := fun o o1 o2 => by rw [e10, jset_row o2, e9, jap_row o1 o2, r8 o o1 o2]
  have l10 : S10 c 1 = qX A b := by rw [e10, jset_row (by omega)]; exact l9
  have iln := iL_le T hb (bN A).toNat (by omega) (by omega)
  refine k_putExports T fb10.2.1.1.2.1 (by rw [r10 31 (by omega) (by omega)]; exact s31) (by omega) hc l10 (by omega) (by omega) ?_
  have fb11 := fb10.app (S' := jap S10 c (xL A b (bN A).toNat)) hc (fun _ _ => rfl) bb5
  obtain ⟨S11, e11⟩ : ∃ S, S = jap S10 c (xL A b (bN A).toNat) := ⟨_, rfl⟩
  rw [← e11] at fb11 ⊢
  have l11 : S11 c 1 = qL A b := by rw [e11, jap_len, l10]; rfl
  rw [l11]
  refine k_setWord hc ⟨by omega, by omega⟩ (by omega) (by omega) (by omega) ?_
  have fb12 : FB A (jset S11 c 14 (qL A b)) c b (bIm A b 0) := by
    have := FB.set (P := [84, 73, b, 0] ++ jw2 (bN A) ++ jw2 (qI A b) ++ jw2 (qF A b) ++ jw2 (qT A b) ++ jw2 (qX A b)) (v := 0) (w := qL A b) (R := jw2 0 ++ (bL A b (bN A).toNat ++ tB (tAll A b)) ++ iL A b (bN A).toNat ++ fL A (bN A).toNat ++ tL (tAll A b) (qq A b) (tAll A b).length ++ xL A b (bN A).toNat) hc (by
      have e : [84, 73, b, 0] ++ jw2 (bN A) ++ jw2 (qI A b) ++ jw2 (qF A b) ++ jw2 (qT A b) ++ jw2 (qX A b) ++ (jw2 0 ++ (jw2 0 ++ (bL A b (bN A).toNat ++ tB (tAll A b)) ++ iL A b (bN A).toNat ++ fL A (bN A).toNat ++ tL (tAll A b) (qq A b) (tAll A b).length ++ xL A b (bN A).toNat)) = hd6 b (bN A) (qI A b) (qF A b) (qT A b) (qX A b) 0 0 ++ (bL A b (bN A).toNat ++ tB (tAll A b)) ++ iL A b (bN A).toNat ++ fL A (bN A).toNat ++ tL (tAll A b) (qq A b) (tAll A b).length ++ xL A b (bN A).toNat := by
        unfold hd6; simp only [List.append_assoc]
      rw [e]; exact fb11)
    have e : [84, 73, b, 0] ++ jw2 (bN A) ++ jw2 (qI A b) ++ jw2 (qF A b) ++ jw2 (qT A b) ++ jw2 (qX A b) ++ (jw2 (qL A b) ++ (jw2 0 ++ (bL A b (bN A).toNat ++ tB (tAll A b)) ++ iL A b (bN A).toNat ++ fL A (bN A).toNat ++ tL (tAll A b) (qq A b) (tAll A b).length ++ xL A b (bN A).toNat)) = bIm A b 0 := by
      unfold bIm bBody hd6; simp only [List.append_assoc]
    rw [e] at this
    exact this
  obtain ⟨S12, e12⟩ : ∃ S, S = jset S11 c 14 (qL A b) := ⟨_, rfl⟩
  rw [← e12] at fb12 ⊢
  have l12 : S12 c 1 = qL A b := by rw [e12, jset_row (by omega)]; exact l11
  have im : ∀ {S : jA} {L : List Int}, FB A S c b L → S c 1 ≤ 5581 → IM S c := fun {S L} h hl => ⟨hc, by rw [h.2.2.1.1]; omega, by rw [hN]; exact hl, h.2.2.2.1, fun f f2 f7 => by rw [h.2.2.2.2 f (by omega)]; exact hI.2.2.2.2 f f2 f7⟩
  have bIl := bIm_len A b 0
  refine k_sum (u := fun i => (bIm A b 0).getD i.toNat 0) (im fb12 (by omega)) (fun k => ?_) (fun x x0 x1 => fb12.2.2.1.2 x x0 (by rw [← fb12.2.2.1.1]; exact x1)) (by omega) ?_
  · show 0 ≤ (bIm A b 0).getD k.toNat 0 ∧ (bIm A b 0).getD k.toNat 0 ≤ 255
    by_cases hk : k.toNat < (bIm A b 0).length
    · exact bIm_b T hb 0 _ (by rw [List.getD_eq_getElem?_getD, List.getElem?_eq_getElem hk]; exact List.getElem_mem _)
    · rw [List.getD_eq_getElem?_getD, List.getElem?_eq_none (by omega)]; decide
  · rw [fb12.2.2.1.1, Int.toNat_natCast, show usum (fun i => (bIm A b 0).getD i.toNat 0) (bIm A b 0).length % 65521 = bSum A b from rfl]
    have sl : 0 ≤ bSum A b ∧ bSum A b < 65521 := ⟨Int.emod_nonneg _ (by decide), Int.emod_lt_of_pos _ (by decide)⟩
    refine k_setWord hc ⟨by omega, by omega⟩ (by omega) (by omega) (by omega) ?_
    have fb13 : FB A (jset S12 c 16 (bSum A b)) c b (bImg A b) := FB.set (P := [84, 73, b, 0] ++ jw2 (bN A) ++ jw2 (qI A b) ++ jw2 (qF A b) ++ jw2 (qT A b) ++ jw2 (qX A b) ++ jw2 (qL A b)) (v := 0) (w := bSum A b) (R := bBody A b) hc fb12
    have l13 : jset S12 c 16 (bSum A b) c 1 = qL A b := by rw [jset_row (by omega)]; exact l12
    have i13 := im fb13 (by omega)
    exact k_readHead i13 (hK _ fb13.1 fb13.2.2.1 i13)
end KB
