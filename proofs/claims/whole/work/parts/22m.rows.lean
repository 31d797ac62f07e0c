section KR2
variable {E : jE} {A B : jA} {b : Int}
theorem bf_le (T : TR A) (x : Int) : 0 ≤ bf A x ∧ bf A x ≤ bN A := by
  have hh := (nU_NV T).1.2.2.2.2.2 x
  have h1 := (nU_NV T).1.1
  have e : bf A x = (nU A).1 x := rfl
  have e' : bN A = (nU A).2.2 := rfl
  omega
theorem k_putFolders (T : TR A) {X : jA} (h : CB A X) {c : Nat} (hc : jim c) {p : Int} (hp : X c 1 = p) (p0 : 0 ≤ p) (p1 : p + 1116 ≤ jN (c + 1)) {K : jA → Prop} (hK : K (jap X c (fL A (bN A).toNat))) : jrV 14 0 [some (.ref 21), some (.ref 2), some (.ref c), none, none, none, none] [] E X K := by
  have nl := bN_le T
  have hcc : c = 13 ∨ c = 15 ∨ c = 17 ∨ c = 19 ∨ c = 47 := hc
  have hn2 : 0 ≤ A 2 10 ∧ A 2 10 ≤ 279 := ⟨T.1.2.2.2.1, T.1.2.2.2.2.1⟩
  have hJ : ∀ L, CB A (jap X c L) := fun L => h.fr (fun o x y => jap_row (by omega) (by omega)) (by rw [jap_row (by omega) (by omega)]) (jap_row (by omega) (by omega)) (jap_row (by omega) (by omega))
  refine vd_X0_putFolders_0 c hc E X K ?_
  refine j_loop (P := fun k => 1 ≤ k → k ≤ bN A + 1 → jrV 14 2 [some (.ref 21), some (.ref 2), some (.ref c), some (.int (jI k)), none, none, none] [] E (jap X c (fL A (k - 1).toNat)) K) (bN A + 1) (fun k ih k1 k2 => ?_) 1 (by omega) (by omega) |> fun z => by rwa [show fL A (1 - 1 : Int).toNat = [] from rfl, jap_nil] at z
  have rk : jW k := ⟨by omega, by omega⟩
  have hB := hJ (fL A (k - 1).toNat)
  refine vd_X0_putFolders_2 c hc k rk E _ K ?_
  rw [hB.2.1]
  refine ⟨fun q => by rw [show (k - 1).toNat = (bN A).toNat by omega]; exact hK, fun q => ⟨by omega, ?_⟩⟩
  obtain ⟨d0, d1, d2⟩ := bd_le T k1 q
  have e2 : ∀ L, jap X c L 2 = A 2 := fun L => (hJ L).1 2 (by decide) (by decide)
  have e10 : ∀ L, jap X c L 10 = A 10 := fun L => (hJ L).1 10 (by decide) (by decide)
  have etf : ∀ L y, tF (jap X c L) y = tF A y := fun L y => tF_same (e10 L) (by rw [e2]) y
  rw [hB.2.2.2 k k1 q]
  have c1 := tF_ch hn2.1 (1000 * bd A k)
  have c2 := tF_ch hn2.1 (1000 * (bd A k + 1))
  have le := T.tfle (show 1000 * bd A k ≤ 1000 * (bd A k + 1) by omega)
  refine k_firstNameOf (by omega) (by rw [e2]; exact hn2) (k_firstNameOf (by omega) (by rw [e2]; exact hn2) ?_)
  rw [etf, etf]
  have bl := bef_le T k.toNat (by omega)
  have eF := fL_at (A := A) k1
  have hm := many_le T (bd A k)
  have lF : ((fL A (k - 1).toNat).length : Int) + 4 * many A (bd A k) ≤ 1116 := by
    have := bl.2.2
    rw [eF, List.length_append, nmP_len] at this
    omega
  refine j_loop (P := fun i => tF A (1000 * bd A k) ≤ i → i ≤ tF A (1000 * (bd A k + 1)) → jrV 14 36 [some (.ref 21), some (.ref 2), some (.ref c), some (.int (jI k)), none, some (.int (jI (tF A (1000 * (bd A k + 1))))), some (.int (jI i))] [] E (jap X c (fL A (k - 1).toNat ++ nmP A (tF A (1000 * bd A k)) (i - tF A (1000 * bd A k)).toNat)) K) (tF A (1000 * (bd A k + 1))) (fun i ih2 i0 i1 => ?_) (tF A (1000 * bd A k)) (Int.le_refl _) le |> fun z => by rwa [show (tF A (1000 * bd A k) - tF A (1000 * bd A k)).toNat = 0 by omega, show nmP A (tF A (1000 * bd A k)) 0 = [] from rfl, List.append_nil] at z
  generalize hLL : fL A (k - 1).toNat ++ nmP A (tF A (1000 * bd A k)) (i - tF A (1000 * bd A k)).toNat = LL
  have lLL : (LL.length : Int) = (fL A (k - 1).toNat).length + 4 * (i - tF A (1000 * bd A k)) := by rw [← hLL, List.length_append, nmP_len]; omega
  have emany : many A (bd A k) = tF A (1000 * (bd A k + 1)) - tF A (1000 * bd A k) := rfl
  refine vd_X0_putFolders_36 c hc k rk _ ⟨by omega, by omega⟩ i ⟨by omega, by omega⟩ E _ K ⟨fun q2 => ?_, fun q2 => ?_⟩
  · have := ih (by omega) (by omega) (by omega)
    rw [show (k + 1 - 1).toNat = k.toNat by omega, eF, emany, show tF A (1000 * (bd A k + 1)) = i by omega, hLL] at this
    exact this
  · obtain ⟨r0, r1, r2, r3⟩ := T.range i0 q2
    obtain ⟨kq, z0, z1, e1, e3, m1, m2, m3, m4, m5, m6, m7, m8⟩ := T.name r0 r1
    refine vd_X5_nameAt_0 i ⟨by omega, by omega⟩ E _ _ ⟨by omega, ?_⟩
    rw [e10]
    refine ⟨by omega, ?_⟩
    refine k_putWord hc ⟨by omega, by omega⟩ (by rw [jap_len]; omega) (by rw [jap_len, hp]; omega) ?_
    rw [jap_app, (hJ _).1 11 (by decide) (by decide), (hJ _).2.2.1 (A 11 i) (by omega) (by omega)]
    have hbf := bf_le T (A 11 i)
    refine ⟨by omega, by omega, ?_⟩
    refine k_putWord hc ⟨by omega, by omega⟩ (by rw [jap_len]; omega) (by rw [jap_len, hp, List.length_append, jw2_len]; omega) ?_
    rw [jap_app, List.append_assoc]
    have := ih2 q2 (by omega) (by omega)
    rw [show (i + 1 - tF A (1000 * bd A k)).toNat = (i - tF A (1000 * bd A k)).toNat + 1 by omega] at this
    simp only [nmP] at this
    rw [show tF A (1000 * bd A k) + (((i - tF A (1000 * bd A k)).toNat : Nat) : Int) = i by omega, ← List.append_assoc, hLL] at this
    exact this
theorem k_putTails {X : jA} {l : List (List Int)} {q : Int} (hT : TT X q l) (h14 : X 21 14 = l.length) (hl : l.length ≤ 32) (hq : 0 ≤ q ∧ q + ((tB l).length : Int) ≤ 65535) (hl2 : ∀ t ∈ l, 1 ≤ t.length ∧ (t.length : Int) ≤ 32) {c : Nat} (hc : jim c) {p : Int} (hp : X c 1 = p) (p0 : 0 ≤ p) (p1 : p + 5 * l.length ≤ jN (c + 1)) {K : jA → Prop} (hK : K (jap X c (tL l q l.length))) : jrV 18 0 [some (.ref 21), some (.ref c), none] [] E X K := by
  have hcc : c = 13 ∨ c = 15 ∨ c = 17 ∨ c = 19 ∨ c = 47 := hc
  refine vd_X0_putTails_0 c hc E X K ?_
  refine j_loop (P := fun t => 0 ≤ t → t ≤ l.length → jrV 18 2 [some (.ref 21), some (.ref c), some (.int (jI t))] [] E (jap X c (tL l q t.toNat)) K) l.length (fun t ih t0 t1 => ?_) 0 (by omega) (by omega) |> fun z => by rwa [show tL l q (0 : Int).toNat = [] from rfl, jap_nil] at z
  refine vd_X0_putTails_2 c hc t ⟨by omega, by omega⟩ E _ K ?_
  have r : ∀ L o, o = 21 ∨ o = 32 ∨ o = 33 ∨ o = 34 → jap X c L o = X o := fun L o ho => jap_row (by omega) (by omega)
  rw [r _ 21 (by omega), h14, r _ 32 (by omega)]
  refine ⟨fun q2 => by rw [show t.toNat = l.length by omega]; exact hK, fun q2 => ⟨by omega, ?_⟩⟩
  have ht := hT t.toNat (by omega)
  rw [Int.toNat_of_nonneg t0] at ht
  rw [ht.1]
  have hln : 1 ≤ (l.getD t.toNat []).length ∧ ((l.getD t.toNat []).length : Int) ≤ 32 := hl2 _ (by rw [List.getD_eq_getElem?_getD, List.getElem?_eq_getElem (by omega)]; exact List.getElem_mem _)
  have hz := sSize_le (g := tFn (l.getD t.toNat [])) (l := ((l.getD t.toNat []).length : Int)) (by omega)
  have htp : 0 ≤ tP q l t.toNat ∧ tP q l t.toNat ≤ 65535 := by
    unfold tP
    have : (tB (l.take t.toNat)).length ≤ (tB l).length := by
      have e := tB_app (l.take t.toNat) (l.drop t.toNat)
      rw [List.take_append_drop] at e
      rw [e, List.length_append]; omega
    omega
  have lt := tL_len l q t.toNat
  refine k_putWord hc ⟨by omega, by omega⟩ (by rw [jap_len]; omega) (by rw [jap_len, hp, lt]; omega) ?_
  rw [jap_app, r _ 33 (by omega), ht.2.1]
  refine ⟨by omega, ?_⟩
  refine k_putWord hc ⟨by omega, by omega⟩ (by rw [jap_len]; omega) (by rw [jap_len, hp, List.length_append, lt, jw2_len]; omega) ?_
  rw [jap_app, r _ 34 (by omega), ht.2.2]
  refine ⟨by omega, ?_⟩
  refine k_putByte hc ⟨by omega, by omega⟩ (by rw [jap_len]; omega) (by rw [jap_len, hp]; simp only [List.length_append, lt, jw2_len]; omega) ?_
  rw [jap_app, show ((l.getD t.toNat []).length : Int) % 256 = (l.getD t.toNat []).length by omega]
  have := ih q2 (by omega) (by omega)
  rw [show (t + 1).toNat = t.toNat + 1 by omega] at this
  simp only [tL, tR, ← List.append_assoc] at this
  exact this
theorem k_putExports (T : TR A) {X : jA} (h13 : X 21 13 = bN A) (h31 : ∀ k, 1 ≤ k → k ≤ bN A → X 31 k = ((iL A b (k - 1).toNat).length : Int)) (hle : ((iL A b (bN A).toNat).length : Int) ≤ 2000) {c : Nat} (hc : jim c) {p : Int} (hp : X c 1 = p) (p0 : 0 ≤ p) (p1 : p + 2 * bN A ≤ jN (c + 1)) {K : jA → Prop} (hK : K (jap X c (xL A b (bN A).toNat))) : jrV 12 0 [some (.ref 21), some (.ref c), none] [] E X K := by
  have nl := bN_le T
  have hcc : c = 13 ∨ c = 15 ∨ c = 17 ∨ c = 19 ∨ c = 47 := hc
  have mono : ∀ (d k : Nat), (iL A b k).length ≤ (iL A b (k + d)).length := by
    intro d
    induction d with
    | zero => intro k; exact Nat.le_refl _
    | succ d ih => intro k; rw [← Nat.add_assoc]; simp only [iL, List.length_append]; have := ih k; omega
  refine vd_X0_putExports_0 c hc E X K ?_
  refine j_loop (P := fun k => 1 ≤ k → k ≤ bN A + 1 → jrV 12 2 [some (.ref 21), some (.ref c), some (.int (jI k))] [] E (jap X c (xL A b (k - 1).toNat)) K) (bN A + 1) (fun k ih k1 k2 => ?_) 1 (by omega) (by omega) |> fun z => by rwa [show xL A b (1 - 1 : Int).toNat = [] from rfl, jap_nil] at z
  refine vd_X0_putExports_2 c hc k ⟨by omega, by omega⟩ E _ K ?_
  rw [jap_row (show (21 : Nat) ≠ c by omega) (show (21 : Nat) ≠ c + 1 by omega), h13, jap_row (show (31 : Nat) ≠ c by omega) (show (31 : Nat) ≠ c + 1 by omega)]
  refine ⟨fun q => by rw [show (k - 1).toNat = (bN A).toNat by omega]; exact hK, fun q => ⟨by omega, ?_⟩⟩
  rw [h31 k k1 q]
  have m1 := mono ((bN A).toNat - (k - 1).toNat) (k - 1).toNat
  rw [show (k - 1).toNat + ((bN A).toNat - (k - 1).toNat) = (bN A).toNat by omega] at m1
  refine k_putWord hc ⟨by omega, by omega⟩ (by rw [jap_len]; omega) (by rw [jap_len, hp, xL_len]; omega) ?_
  rw [jap_app]
  have := ih (by omega) (by omega) (by omega)
  rw [show (k + 1 - 1).toNat = (k - 1).toNat + 1 by omega] at this
  exact this
/-- the head as it is begun -/
def hd0 (b n : Int) : List Int := [84, 73, b, 0] ++ jw2 n ++ [0, 0, 0, 0, 0, 0, 0, 0, 0, 0, 0, 0]
theorem k_putHead (hb : b = 8 ∨ b = 16 ∨ b = 32) {X : jA} {n : Int} (hn : 1 ≤ n ∧ n ≤ 32) (h13 : X 21 13 = n) {c : Nat} (hc : jim c) (hN : (jN (c + 1) : Int) = 5581) {K : jA → Prop} (hK : K (jap (jup X c 1 0) c (hd0 b n))) : jrV 15 0 [some (.ref 21), some (.int (jI b)), some (.ref c), none] [] E X K := by
  have hcc : c = 13 ∨ c = 15 ∨ c = 17 ∨ c = 19 ∨ c = 47 := hc
  refine vd_X0_putHead_0 b ⟨by omega, by omega⟩ c hc E X K (fun A1 e1 => ?_)
  have a1 : A1 c 1 = 0 := by rw [e1, jup_at]
  have a13 : ∀ L, jap A1 c L 21 13 = n := fun L => by rw [jap_row (by omega) (by omega), e1, jup_row (by omega)]; exact h13
  rw [← e1] at hK
  refine k_putByte hc (by decide) (by omega) (by omega) (k_putByte hc (by decide) (by rw [jap_len]; omega) (by rw [jap_len, a1]; simp only [List.length_cons, List.length_nil]; omega) ?_)
  rw [jap_app]
  refine k_putByte hc ⟨by omega, by omega⟩ (by rw [jap_len]; omega) (by rw [jap_len, a1]; simp only [List.length_append, List.length_cons, List.length_nil]; omega) ?_
  rw [jap_app]
  refine k_putByte hc (by decide) (by rw [jap_len]; omega) (by rw [jap_len, a1]; simp only [List.length_append, List.length_cons, List.length_nil]; omega) ?_
  rw [jap_app, a13]
  refine k_putWord hc ⟨by omega, by omega⟩ (by rw [jap_len]; omega) (by rw [jap_len, a1]; simp only [List.length_append, List.length_cons, List.length_nil]; omega) ?_
  rw [jap_app]
  have e0 : [(84 : Int) % 256] ++ [73 % 256] ++ [b % 256] ++ [0 % 256] ++ jw2 n = [84, 73, b, 0] ++ jw2 n := by
    rw [show b % 256 = b by omega]; rfl
  rw [e0]
  have st : ∀ (y : Int) (L : List Int), 6 ≤ y → y < 18 → (L.length : Int) = y → jrV 15 38 [none, none, some (.ref c), some (.int (jI (y + 2)))] [] E (jap A1 c (L ++ [0, 0])) K → jrV 15 38 [none, none, some (.ref c), some (.int (jI y))] [] E (jap A1 c L) K := fun y L y0 y1 hL hk => by
    refine vd_X0_putHead_38 c hc y ⟨by omega, by omega⟩ E _ K ⟨fun z => by omega, fun _ => k_putWord hc (by decide) (by rw [jap_len]; omega) (by rw [jap_len, a1]; omega) ?_⟩
    rw [jap_app]; exact hk
  refine st 6 _ (by omega) (by omega) rfl (st 8 _ (by omega) (by omega) rfl (st 10 _ (by omega) (by omega) rfl (st 12 _ (by omega) (by omega) rfl (st 14 _ (by omega) (by omega) rfl (st 16 _ (by omega) (by omega) rfl ?_)))))
  exact vd_X0_putHead_38 c hc 18 (by decide) E _ K ⟨fun _ => hK, fun z => absurd z (by decide)⟩
/-- a word set within an image -/
def jset (B : jA) (c : Nat) (i w : Int) : jA := jup (jup B (c + 1) i (w / 256 % 256)) (c + 1) (i + 1) (w % 256)
theorem k_setWord {c : Nat} (hc : jim c) {i w : Int} (rw' : jW w) (i0 : 0 ≤ i) (i1 : i + 1 < B c 1) (hl : B c 1 ≤ jN (c + 1)) {K : jA → Prop} (hK : K (jset B c i w)) : jrV 43 0 [some (.ref c), some (.int (jI i)), some (.int (jI w))] [] E B K := by
  have hN := jN_le (c + 1)
  refine vd_X1_setWord_0 c hc i ⟨by omega, by omega⟩ w rw' E B K ⟨fun z => by omega, fun _ => ⟨⟨by omega, by omega⟩, fun z => by omega, fun _ => ⟨by omega, fun A3 e3 => ⟨by omega, fun A7 e7 => ?_⟩⟩⟩⟩
  rw [e7, e3]; exact hK
end KR2
