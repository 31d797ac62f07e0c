/-! AN IMAGE THAT IS MADE IS RIGHT -/
section KV
variable {A : jA} {b : Int} {u : Int → Int}
theorem AT.w {p w : Int} {R : List Int} (h : AT u p (jw2 w ++ R)) (h0 : 0 ≤ w) (h1 : w ≤ 65535) : uw u p = w := by
  have a := AT.hd (x := w / 256 % 256) (L := [w % 256] ++ R) h
  have c := AT.hd (x := w % 256) (L := R) (AT.tl (x := w / 256 % 256) (L := [w % 256] ++ R) h)
  unfold uw
  rw [a, c]; omega
theorem AT.w' {p w : Int} (h : AT u p (jw2 w)) (h0 : 0 ≤ w) (h1 : w ≤ 65535) : uw u p = w := AT.w (R := []) (by rw [List.append_nil]; exact h) h0 h1
theorem AT.nx {p w : Int} {R : List Int} (h : AT u p (jw2 w ++ R)) : AT u (p + 2) R := by have := h.r; rwa [jw2_len] at this
theorem xL_get (T : TR A) (hb : b = 8 ∨ b = 16 ∨ b = 32) {p : Int} (n : Nat) (hn : (n : Int) ≤ bN A) (h : AT u p (xL A b n)) : ∀ k : Nat, k < n → uw u (p + 2 * k) = (iL A b k).length := by
  induction n with
  | zero => intro k hk; omega
  | succ n ih =>
    intro k hk
    simp only [xL] at h
    by_cases e : k = n
    · subst e
      have := h.r
      rw [xL_len] at this
      have hle : ((iL A b k).length : Int) ≤ 1200 := by
        by_cases h0 : k = 0
        · subst h0; simp [iL]
        · have := iL_le T hb k (by omega) (by omega); have := bN_le T; omega
      rw [show p + 2 * (k : Int) = p + ((2 * k : Nat) : Int) by omega]
      exact AT.w' this (by omega) (by omega)
    · exact ih (by omega) h.l k (by omega)
theorem iL_get {p : Int} (n : Nat) (h : AT u p (iL A b n)) : ∀ k : Int, 1 ≤ k → k ≤ n → AT u (p + (iL A b (k - 1).toNat).length) (iR A b k) ∧ ((iL A b (k - 1).toNat).length : Int) + (iR A b k).length ≤ (iL A b n).length := by
  induction n with
  | zero => intro k a c; omega
  | succ n ih =>
    intro k k1 k2
    simp only [iL] at h ⊢
    rw [List.length_append]
    by_cases e : k = (n : Int) + 1
    · rw [e, show ((n : Int) + 1 - 1).toNat = n by omega]
      exact ⟨h.r, by omega⟩
    · obtain ⟨a, c⟩ := ih h.l k k1 (by omega)
      exact ⟨a, by omega⟩
theorem bL_get {p : Int} (n : Nat) (h : AT u p (bL A b n)) : ∀ k : Int, 1 ≤ k → k ≤ n → A 3 (bd A k) = 2 → tw A k = 0 → AT u (p + (bL A b (k - 1).toNat).length) (fBl A b (bd A k) (bW A b k).toNat) ∧ ((bL A b (k - 1).toNat).length : Int) + (fBl A b (bd A k) (bW A b k).toNat).length ≤ (bL A b n).length := by
  induction n with
  | zero => intro k a c; omega
  | succ n ih =>
    intro k k1 k2 k3 k4
    simp only [bL] at h ⊢
    rw [List.length_append]
    by_cases e : k = (n : Int) + 1
    · rw [e] at k3 k4
      rw [e, show ((n : Int) + 1 - 1).toNat = n by omega]
      rw [if_pos ⟨k3, k4⟩] at h ⊢
      exact ⟨h.r, by omega⟩
    · obtain ⟨a, c⟩ := ih h.l k k1 (by omega) k3 k4
      exact ⟨a, by omega⟩
theorem fBl_get {p x : Int} (n : Nat) (h : AT u p (fBl A b x n)) : ∀ j : Nat, j < n → AT u (p + (fBl A b x j).length) (sBytes (bG A b x j) b) ∧ (fBl A b x j).length + (sBytes (bG A b x j) b).length ≤ (fBl A b x n).length := by
  induction n with
  | zero => intro j hj; omega
  | succ n ih =>
    intro j hj
    simp only [fBl] at h ⊢
    rw [List.length_append]
    by_cases e : j = n
    · subst e; exact ⟨h.r, by omega⟩
    · obtain ⟨a, c⟩ := ih h.l j (by omega)
      exact ⟨a, by omega⟩
theorem tB_get {p : Int} (l : List (List Int)) (h : AT u p (tB l)) : ∀ t : Nat, t < l.length → AT u (tP p l t) (sBytes (tFn (l.getD t [])) (l.getD t []).length) ∧ tP p l t + (sBytes (tFn (l.getD t [])) (l.getD t []).length).length ≤ p + (tB l).length := by
  intro t ht
  have e : l = l.take t ++ (l.getD t [] :: l.drop (t + 1)) := by
    rw [List.getD_eq_getElem?_getD, List.getElem?_eq_getElem ht]
    exact (List.take_append_drop t l).symm.trans (by rw [List.drop_eq_getElem_cons ht]; rfl)
  have e2 : tB l = tB (l.take t) ++ (sBytes (tFn (l.getD t [])) (l.getD t []).length ++ tB (l.drop (t + 1))) := by
    have := tB_app (l.take t) (l.getD t [] :: l.drop (t + 1))
    rw [← e] at this
    exact this
  rw [e2] at h ⊢
  unfold tP
  refine ⟨h.r.l, ?_⟩
  simp only [List.length_append]; omega
theorem tL_get {q p : Int} {l : List (List Int)} (n : Nat) (hn : n ≤ l.length) (h : AT u p (tL l q n)) (hq : 0 ≤ q ∧ q + ((tB l).length : Int) ≤ 65535) (hl2 : ∀ t ∈ l, 1 ≤ t.length ∧ (t.length : Int) ≤ 32) : ∀ t : Nat, t < n → uw u (p + 5 * t) = tP q l t ∧ uw u (p + 5 * t + 2) = sSize (tFn (l.getD t [])) (l.getD t []).length ∧ u (p + 5 * t + 4) = (l.getD t []).length := by
  induction n with
  | zero => intro t ht; omega
  | succ n ih =>
    intro t ht
    simp only [tL] at h
    by_cases e : t = n
    · subst e
      have h1 := h.r
      rw [tL_len] at h1
      rw [show p + ((5 * t : Nat) : Int) = p + 5 * (t : Int) by omega] at h1
      unfold tR at h1
      rw [List.append_assoc] at h1
      have hln : 1 ≤ (l.getD t []).length ∧ ((l.getD t []).length : Int) ≤ 32 := hl2 _ (by rw [List.getD_eq_getElem?_getD, List.getElem?_eq_getElem (by omega)]; exact List.getElem_mem _)
      have hz := sSize_le (g := tFn (l.getD t [])) (l := ((l.getD t []).length : Int)) (by omega)
      have htp : 0 ≤ tP q l t ∧ tP q l t ≤ 65535 := by
        unfold tP
        have : (tB (l.take t)).length ≤ (tB l).length := by
          have e := tB_app (l.take t) (l.drop t)
          rw [List.take_append_drop] at e
          rw [e, List.length_append]; omega
        omega
      refine ⟨h1.w htp.1 htp.2, h1.nx.w hz.1 (by omega), ?_⟩
      have := h1.nx.nx.hd
      rwa [show p + 5 * (t : Int) + 2 + 2 = p + 5 * (t : Int) + 4 by omega] at this
    · exact ih (by omega) h.l t (by omega)
theorem nmP_get (T : TR A) {p i : Int} (i0 : 0 ≤ i) (n : Nat) (hn : i + n ≤ A 2 10) (h : AT u p (nmP A i n)) : ∀ j : Nat, j < n → uw u (p + 4 * j) = A 10 (i + j) % 1000 ∧ uw u (p + 4 * j + 2) = bf A (A 11 (i + j)) := by
  induction n with
  | zero => intro j hj; omega
  | succ n ih =>
    intro j hj
    simp only [nmP] at h
    by_cases e : j = n
    · subst e
      have h1 := h.r
      rw [nmP_len] at h1
      rw [show p + ((4 * j : Nat) : Int) = p + 4 * (j : Int) by omega] at h1
      unfold fN at h1
      have hbf := bf_le T (A 11 (i + j))
      have nl := bN_le T
      exact ⟨h1.w (by omega) (by omega), h1.nx.w' hbf.1 (by omega)⟩
    · exact ih (by omega) h.l j (by omega)
theorem fL_get (T : TR A) {p : Int} (n : Nat) (hn : (n : Int) ≤ bN A) (h : AT u p (fL A n)) : ∀ k : Int, 1 ≤ k → k ≤ n → AT u (p + 4 * bef A (k - 1).toNat) (nmP A (tF A (1000 * bd A k)) (many A (bd A k)).toNat) ∧ bef A (k - 1).toNat + many A (bd A k) ≤ bef A n := by
  induction n with
  | zero => intro k a c; omega
  | succ n ih =>
    intro k k1 k2
    simp only [fL] at h
    have hm := many_le T (bd A ((n : Int) + 1))
    have hz := many_0 T (x := bd A ((n : Int) + 1))
    have eb : bef A (n + 1) = bef A n + (if A 3 (bd A ((n : Int) + 1)) = 1 then many A (bd A ((n : Int) + 1)) else 0) := rfl
    have eb' : bef A (n + 1) = bef A n + many A (bd A ((n : Int) + 1)) := by
      rw [eb]
      by_cases q : A 3 (bd A ((n : Int) + 1)) = 1
      · rw [if_pos q]
      · rw [if_neg q, hz q]
    rw [eb']
    by_cases e : k = (n : Int) + 1
    · have bl := bef_le T n (by omega)
      rw [e, show ((n : Int) + 1 - 1).toNat = n by omega, ← bl.2.2]
      exact ⟨h.r, by omega⟩
    · obtain ⟨a, c⟩ := ih (by omega) h.l k k1 (by omega)
      exact ⟨a, by omega⟩
/-- a tail that was begun stays, and only grows -/
theorem tS_keep (k d : Nat) (hne : (tS A b k).2 ≠ []) : ((tS A b k).1.length < (tS A b (k + d)).1.length ∧ (tS A b k).2.length ≤ ((tS A b (k + d)).1.getD (tS A b k).1.length []).length) ∨ ((tS A b k).1.length = (tS A b (k + d)).1.length ∧ (tS A b k).2.length ≤ (tS A b (k + d)).2.length) := by
  induction d with
  | zero => right; exact ⟨rfl, Nat.le_refl _⟩
  | succ d ih =>
    have eT : tS A b (k + d + 1) = if A 3 (bd A (((k + d : Nat) : Int) + 1)) = 2 ∧ tw A (((k + d : Nat) : Int) + 1) = 0 then (if b < (tS A b (k + d)).2.length + (tOf A b (((k + d : Nat) : Int) + 1)).length then ((tS A b (k + d)).1 ++ [(tS A b (k + d)).2], tOf A b (((k + d : Nat) : Int) + 1)) else ((tS A b (k + d)).1, (tS A b (k + d)).2 ++ tOf A b (((k + d : Nat) : Int) + 1))) else tS A b (k + d) := rfl
    rw [← Nat.add_assoc, eT]
    split
    · split
      · dsimp only
        left
        rw [List.length_append, List.length_cons, List.length_nil]
        rcases ih with ⟨a, c⟩ | ⟨a, c⟩
        · refine ⟨by omega, ?_⟩
          rw [tAl_get a]; exact c
        · refine ⟨by omega, ?_⟩
          rw [a, tAl_end]; exact c
      · dsimp only
        rcases ih with h | ⟨a, c⟩
        · left; exact h
        · right; exact ⟨a, by rw [List.length_append]; omega⟩
    · exact ih
theorem tail_of (T : TR A) (hb : b = 8 ∨ b = 16 ∨ b = 32) {s : Int} (s1 : 1 ≤ s) (s2 : s ≤ bN A) (h2 : A 3 (bd A s) = 2) (h0 : tw A s = 0) (hr : A 8 (bd A s) % b ≠ 0) : 1 ≤ tI A b s ∧ tI A b s ≤ (tAll A b).length ∧ tO A b s + A 8 (bd A s) % b ≤ ((tAll A b).getD (tI A b s - 1).toNat []).length := by
  obtain ⟨d0, d1, d2⟩ := bd_le T s1 s2
  obtain ⟨z1, z2, z3, z4, z5, z6, z7, z8⟩ := file_sz T hb d0 d1
  have lO := tOf_len A b s
  have eS := tS_at (A := A) (b := b) s1
  rw [if_pos ⟨h2, h0⟩] at eS
  have eI : tI A b s = ((tS A b s.toNat).1.length : Int) + 1 := by unfold tI; rw [if_pos ⟨h2, h0, hr⟩]
  have eO : tO A b s = ((tS A b s.toNat).2.length : Int) - (tOf A b s).length := by unfold tO; rw [if_pos ⟨h2, h0, hr⟩]
  have ge : (tOf A b s).length ≤ (tS A b s.toNat).2.length := by
    rw [eS]
    split
    · exact Nat.le_refl _
    · dsimp only; rw [List.length_append]; omega
  have hne : (tS A b s.toNat).2 ≠ [] := fun z => by rw [z] at ge; simp only [List.length_nil] at ge; omega
  have keep := tS_keep (A := A) (b := b) s.toNat ((bN A).toNat - s.toNat) hne
  rw [show s.toNat + ((bN A).toNat - s.toNat) = (bN A).toNat by omega] at keep
  rw [eI, eO, show ((tS A b s.toNat).1.length : Int) + 1 - 1 = (tS A b s.toNat).1.length by omega, Int.toNat_natCast]
  unfold tAll
  have np := List.length_pos_iff.mpr hne
  rcases keep with ⟨a, c⟩ | ⟨a, c⟩
  · refine ⟨by omega, by rw [List.length_append]; omega, ?_⟩
    rw [List.getD_eq_getElem?_getD, List.getElem?_append_left a, ← List.getD_eq_getElem?_getD]; omega
  · have hz : ¬ (tS A b (bN A).toNat).2.length = 0 := by omega
    rw [if_neg hz]
    refine ⟨by omega, by rw [List.length_append, List.length_cons, List.length_nil]; omega, ?_⟩
    rw [a, tAl_end]; omega
end KV
