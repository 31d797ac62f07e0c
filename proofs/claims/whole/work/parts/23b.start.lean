/-! THE START: the cells are made one after another -/
/-- the references, in the order in which they are written -/
def gOps : List (Nat × Nat × Nat) := [(2, 0, 3), (2, 1, 4), (2, 2, 5), (2, 3, 6), (2, 4, 7), (2, 5, 8), (2, 6, 9), (2, 7, 10), (2, 8, 11), (1, 0, 2), (1, 1, 12), (13, 0, 14), (12, 0, 13), (15, 0, 16), (12, 1, 15), (17, 0, 18), (12, 2, 17), (19, 0, 20), (1, 2, 19), (22, 0, 23), (21, 0, 22), (21, 1, 24), (21, 2, 25), (21, 3, 26), (21, 4, 27), (21, 5, 28), (21, 6, 29), (21, 7, 30), (21, 8, 31), (21, 9, 32), (21, 10, 33), (21, 11, 34), (21, 12, 35), (1, 3, 21), (36, 0, 37), (1, 4, 36), (38, 0, 39), (38, 1, 40), (38, 2, 41), (38, 3, 42), (38, 4, 43), (38, 5, 44), (38, 6, 45), (38, 7, 46), (47, 0, 48), (40, 0, 47), (40, 1, 47), (40, 2, 47), (1, 5, 38), (49, 2, 50), (49, 3, 51), (49, 4, 52), (49, 5, 53), (49, 6, 54), (49, 8, 55), (49, 9, 56), (49, 10, 57), (49, 12, 58), (49, 13, 59), (49, 16, 60), (49, 17, 61), (49, 20, 62), (49, 21, 63), (49, 23, 64), (49, 24, 65), (49, 25, 66), (49, 26, 67), (49, 28, 68), (49, 29, 69), (49, 30, 70), (49, 31, 71), (49, 32, 72), (49, 33, 73), (49, 36, 74), (49, 38, 75), (49, 39, 76), (49, 40, 77)]
def gRf (i a k : Nat) : Option Nat := ((gOps.take i).find? (fun p => p.1 == a && p.2.1 == k)).map (fun p => p.2.2)
def gi (xs : Nat → Int32) (n q a k : Nat) : Int32 := if a = 3 ∧ k = 0 ∧ 1 ≤ q then 1 else if a = 2 ∧ k = 9 ∧ 2 ≤ q then 1 else if a = 49 ∧ k = 1 ∧ 3 ≤ q then 1 else if a = 50 ∧ k = 0 ∧ 4 ≤ q then 1 else if 1 ≤ a ∧ a < n then 0 else xs k
def gs (L : Nat) (xs : Nat → Int32) (n s i q : Nat) : zx_S := (fun a => if a < n then jK a else 0, fun a => if 1 ≤ a ∧ a < n then jN a else L, gi xs n q, gRf i, fun _ _ => 0, n, s)
theorem gs_0 (L : Nat) (xs : Nat → Int32) : zl_s0 L xs = gs L xs 1 0 0 0 := by
  unfold zl_s0 gs
  refine Prod.ext ?_ (Prod.ext ?_ (Prod.ext ?_ (Prod.ext ?_ rfl)))
  · funext a
    show (if a = 0 then 4 else 0) = if a < 1 then jK a else 0
    by_cases h : a = 0
    · rw [if_pos h, if_pos (by omega), h]; rfl
    · rw [if_neg h, if_neg (by omega)]
  · funext a
    show L = if 1 ≤ a ∧ a < 1 then jN a else L
    rw [if_neg (by omega)]
  · funext a k
    show xs k = gi xs 1 0 a k
    unfold gi
    rw [if_neg (by omega), if_neg (by omega), if_neg (by omega), if_neg (by omega), if_neg (by omega)]
  · funext a k
    rfl
section GS
variable {L : Nat} {xs : Nat → Int32} {P : zx_S → Prop} {n s i q : Nat}
theorem gK {a kd : Nat} (h : a < n) (hk : jK a = kd) : zK (gs L xs n s i q) a = kd := by
  show (if a < n then jK a else 0) = kd
  rw [if_pos h]; exact hk
theorem gF {a k b : Nat} (h : gRf i a k = some b) : zR (gs L xs n s i q) a k = some b := h
theorem gin {x : Int32} {a : Nat} (h1 : 1 ≤ a) (h2 : a < n) (h : zx_in x (jN a) = true) : zx_in x (zN (gs L xs n s i q) a) = true := by
  have : zN (gs L xs n s i q) a = jN a := by
    show (if 1 ≤ a ∧ a < n then jN a else L) = jN a
    rw [if_pos ⟨h1, h2⟩]
  rw [this]; exact h
theorem gN {kd ln sl n' s' : Nat} (hk : kd = jK n) (hl : ln = jN n) (hc : ((1 ≤ n ∧ (n ≠ 3 ∨ q < 1) ∧ (n ≠ 2 ∨ q < 2) ∧ (n ≠ 49 ∨ q < 3) ∧ (n ≠ 50 ∨ q < 4)) ∧ (gOps.take i).all (fun p => p.1 != n) = true)) (hn : n' = n + 1) (hs : s' = s + sl) (h : P (gs L xs n' s' i q)) : ∀ σ1 : zx_S, σ1 = zx_nw (gs L xs n s i q) kd ln sl → P σ1 := by
  intro σ1 e1
  obtain ⟨⟨c0, c1, c2, c3, c4⟩, c5⟩ := hc
  have : zx_nw (gs L xs n s i q) kd ln sl = gs L xs n' s' i q := by
    rw [hn, hs]
    refine Prod.ext ?_ (Prod.ext ?_ (Prod.ext ?_ (Prod.ext ?_ (Prod.ext ?_ rfl))))
    · funext a
      show (if a = n then kd else if a < n then jK a else 0) = if a < n + 1 then jK a else 0
      by_cases h : a = n
      · rw [if_pos h, if_pos (by omega), hk, h]
      · rw [if_neg h]
        by_cases h2 : a < n
        · rw [if_pos h2, if_pos (by omega)]
        · rw [if_neg h2, if_neg (by omega)]
    · funext a
      show (if a = n then ln else if 1 ≤ a ∧ a < n then jN a else L) = if 1 ≤ a ∧ a < n + 1 then jN a else L
      by_cases h : a = n
      · rw [if_pos h, if_pos (by omega), hl, h]
      · rw [if_neg h]
        by_cases h2 : 1 ≤ a ∧ a < n
        · rw [if_pos h2, if_pos (by omega)]
        · rw [if_neg h2, if_neg (by omega)]
    · funext a k
      show (if a = n then (fun _ => 0) else gi xs n q a) k = gi xs (n + 1) q a k
      by_cases h : a = n
      · rw [if_pos h]
        unfold gi
        rw [if_neg (by omega), if_neg (by omega), if_neg (by omega), if_neg (by omega), if_pos (by omega)]
      · rw [if_neg h]
        unfold gi
        by_cases h2 : 1 ≤ a ∧ a < n
        · rw [if_pos h2, if_pos (show 1 ≤ a ∧ a < n + 1 by omega)]
        · rw [if_neg h2, if_neg (show ¬ (1 ≤ a ∧ a < n + 1) by omega)]
    · funext a k
      show (if a = n then (fun _ => none) else gRf i a) k = gRf i a k
      by_cases h : a = n
      · rw [if_pos h, h]
        unfold gRf
        have : (gOps.take i).find? (fun p => p.1 == n && p.2.1 == k) = none := by
          rw [List.find?_eq_none]
          intro p hp
          have := (List.all_eq_true.mp c5) p hp
          simp at this
          simp [this]
        rw [this]; rfl
      · rw [if_neg h]
    · funext a k
      show (if a = n then (fun _ => 0) else fun _ => 0) k = (0 : Int64)
      split <;> rfl
  rw [e1, this]; exact h
theorem gR {o k v v' i' : Nat} (hv : v = v') (hi : i' = i + 1) (ho : gOps[i]? = some (o, k, v')) (hn : gRf i o k = none) (h : P (gs L xs n s i' q)) : ∀ σ1 : zx_S, σ1 = zx_pR (gs L xs n s i q) o k (some v) → P σ1 := by
  intro σ1 e1
  have : zx_pR (gs L xs n s i q) o k (some v) = gs L xs n s i' q := by
    rw [hi]
    refine Prod.ext rfl (Prod.ext rfl (Prod.ext rfl (Prod.ext ?_ rfl)))
    funext a j
    show (if a = o then va_up (gRf i o) k (some v) else gRf i a) j = gRf (i + 1) a j
    have e : gRf (i + 1) a j = if a = o ∧ j = k then some v' else gRf i a j := by
      by_cases hh : a = o ∧ j = k
      · rw [if_pos hh, hh.1, hh.2]
        unfold gRf at hn ⊢
        rw [List.take_add_one, ho, List.find?_append]
        rw [Option.map_eq_none_iff] at hn
        rw [hn]
        simp
      · rw [if_neg hh]
        unfold gRf
        rw [List.take_add_one, ho, List.find?_append]
        have : ([(o, k, v')] : List (Nat × Nat × Nat)).find? (fun p => p.1 == a && p.2.1 == j) = none := by
          rw [List.find?_eq_none]
          intro p hp
          rw [List.mem_singleton.mp hp]
          simp
          intro x y
          exact hh ⟨x.symm, y.symm⟩
        show (((gOps.take i).find? _).or (([(o, k, v')] : List (Nat × Nat × Nat)).find? _)).map _ = _
        rw [this, Option.or_none]
    rw [e, hv]
    by_cases h1 : a = o
    · rw [if_pos h1, h1]
      unfold va_up
      by_cases h2 : j = k
      · rw [if_pos h2, if_pos ⟨rfl, h2⟩]
      · rw [if_neg h2, if_neg (fun z => h2 z.2)]
    · rw [if_neg h1, if_neg (fun z => h1 z.1)]
  rw [e1, this]; exact h
theorem gI {o k q' : Nat} {v : Int32} (he : ∀ a j, gi xs n q' a j = if a = o ∧ j = k then v else gi xs n q a j) (h : P (gs L xs n s i q')) : ∀ σ1 : zx_S, σ1 = zx_pI (gs L xs n s i q) o k v → P σ1 := by
  intro σ1 e1
  have : zx_pI (gs L xs n s i q) o k v = gs L xs n s i q' := by
    refine Prod.ext rfl (Prod.ext rfl (Prod.ext ?_ rfl))
    funext a j
    show (if a = o then upd (gi xs n q o) k v else gi xs n q a) j = gi xs n q' a j
    rw [he]
    by_cases h1 : a = o
    · rw [if_pos h1, h1]
      unfold upd
      by_cases h2 : j = k
      · rw [if_pos h2, if_pos ⟨rfl, h2⟩]
      · rw [if_neg h2, if_neg (fun z => h2 z.2)]
    · rw [if_neg h1, if_neg (fun z => h1 z.1)]
  rw [e1, this]; exact h
theorem gi_1 (a j : Nat) : gi xs n 1 a j = if a = 3 ∧ j = 0 then 1 else gi xs n 0 a j := by
  unfold gi
  repeat' split
  all_goals first
    | rfl
    | (exfalso; omega)
theorem gi_2 (a j : Nat) : gi xs n 2 a j = if a = 2 ∧ j = 9 then 1 else gi xs n 1 a j := by
  unfold gi
  repeat' split
  all_goals first
    | rfl
    | (exfalso; omega)
theorem gi_3 (a j : Nat) : gi xs n 3 a j = if a = 49 ∧ j = 1 then 1 else gi xs n 2 a j := by
  unfold gi
  repeat' split
  all_goals first
    | rfl
    | (exfalso; omega)
theorem gi_4 (a j : Nat) : gi xs n 4 a j = if a = 50 ∧ j = 0 then 1 else gi xs n 3 a j := by
  unfold gi
  repeat' split
  all_goals first
    | rfl
    | (exfalso; omega)
theorem gI0 {o k : Nat} {v : Int32} (he : zI (gs L xs n s i q) o k = v) (h : P (gs L xs n s i q)) : ∀ σ1 : zx_S, σ1 = zx_pI (gs L xs n s i q) o k v → P σ1 := by
  refine gI (fun a j => ?_) h
  by_cases h1 : a = o ∧ j = k
  · rw [if_pos h1, ← he, h1.1, h1.2]; rfl
  · rw [if_neg h1]
end GS
theorem g_first (L : Nat) (xs : Nat → Int32) {K : zx_S → Prop} (h : K (gs L xs 49 26505 49 2)) : ∀ σ1 : zx_S, σ1 = zx_nw (gs L xs 1 0 0 0) 19 0 7 → zwV 122 0 [some (.ref 1), none] [] σ1 K := by
  refine gN (n' := 2) (s' := 7) (by decide) (by decide) (by decide) rfl (by decide) ?_
  refine vc_X6_init_0 1 _ _ ?_
  refine gN (n' := 3) (s' := 18) (by decide) (by decide) (by decide) rfl (by decide) ?_
  refine vc_X5_init_0 2 _ _ ?_
  refine gN (n' := 4) (s' := 50) (by decide) (by decide) (by decide) rfl (by decide) ?_
  refine ⟨gK (a := 2) (by decide) (by decide), ?_⟩
  refine gR (v' := 3) (i' := 1) rfl rfl (by decide) (by decide) ?_
  refine gN (n' := 5) (s' := 82) (by decide) (by decide) (by decide) rfl (by decide) ?_
  refine ⟨gK (a := 2) (by decide) (by decide), ?_⟩
  refine gR (v' := 4) (i' := 2) rfl rfl (by decide) (by decide) ?_
  refine gN (n' := 6) (s' := 114) (by decide) (by decide) (by decide) rfl (by decide) ?_
  refine ⟨gK (a := 2) (by decide) (by decide), ?_⟩
  refine gR (v' := 5) (i' := 3) rfl rfl (by decide) (by decide) ?_
  refine gN (n' := 7) (s' := 146) (by decide) (by decide) (by decide) rfl (by decide) ?_
  refine ⟨gK (a := 2) (by decide) (by decide), ?_⟩
  refine gR (v' := 6) (i' := 4) rfl rfl (by decide) (by decide) ?_
  refine gN (n' := 8) (s' := 178) (by decide) (by decide) (by decide) rfl (by decide) ?_
  refine ⟨gK (a := 2) (by decide) (by decide), ?_⟩
  refine gR (v' := 7) (i' := 5) rfl rfl (by decide) (by decide) ?_
  refine gN (n' := 9) (s' := 210) (by decide) (by decide) (by decide) rfl (by decide) ?_
  refine ⟨gK (a := 2) (by decide) (by decide), ?_⟩
  refine gR (v' := 8) (i' := 6) rfl rfl (by decide) (by decide) ?_
  refine gN (n' := 10) (s' := 3410) (by decide) (by decide) (by decide) rfl (by decide) ?_
  refine ⟨gK (a := 2) (by decide) (by decide), ?_⟩
  refine gR (v' := 9) (i' := 7) rfl rfl (by decide) (by decide) ?_
  refine gN (n' := 11) (s' := 3689) (by decide) (by decide) (by decide) rfl (by decide) ?_
  refine ⟨gK (a := 2) (by decide) (by decide), ?_⟩
  refine gR (v' := 10) (i' := 8) rfl rfl (by decide) (by decide) ?_
  refine gN (n' := 12) (s' := 3968) (by decide) (by decide) (by decide) rfl (by decide) ?_
  refine ⟨gK (a := 2) (by decide) (by decide), ?_⟩
  refine gR (v' := 11) (i' := 9) rfl rfl (by decide) (by decide) ?_
  refine vc_X5_reset_0 2 _ _ ?_
  refine ⟨gK (a := 2) (by decide) (by decide), ?_⟩
  refine gI0 rfl ?_
  refine gI0 rfl ?_
  refine vc_X5_startNode_0 2 0 1 _ _ ?_
  rw [show zI (gs L xs 12 3968 9 0) 2 9 = 0 from rfl, show Int32.toNatClampNeg 0 = 0 by decide]
  refine ⟨gK (a := 2) (by decide) (by decide), ?_⟩
  refine ⟨3, gF (by decide), ?_⟩
  refine ⟨gK (a := 3) (by decide) (by decide), ?_⟩
  refine ⟨gin (by decide) (by decide) (by decide), ?_⟩
  refine gI (q' := 1) gi_1 ?_
  refine ⟨7, gF (by decide), ?_⟩
  refine ⟨gK (a := 7) (by decide) (by decide), ?_⟩
  refine ⟨gin (by decide) (by decide) (by decide), ?_⟩
  refine gI0 rfl ?_
  refine ⟨4, gF (by decide), ?_⟩
  refine ⟨gK (a := 4) (by decide) (by decide), ?_⟩
  refine ⟨gin (by decide) (by decide) (by decide), ?_⟩
  refine gI0 rfl ?_
  refine ⟨5, gF (by decide), ?_⟩
  refine ⟨gK (a := 5) (by decide) (by decide), ?_⟩
  refine ⟨gin (by decide) (by decide) (by decide), ?_⟩
  refine gI0 rfl ?_
  refine ⟨8, gF (by decide), ?_⟩
  refine ⟨gK (a := 8) (by decide) (by decide), ?_⟩
  refine ⟨gin (by decide) (by decide) (by decide), ?_⟩
  refine gI0 rfl ?_
  refine ⟨6, gF (by decide), ?_⟩
  refine ⟨gK (a := 6) (by decide) (by decide), ?_⟩
  refine ⟨gin (by decide) (by decide) (by decide), ?_⟩
  refine gI0 rfl ?_
  rw [show zI (gs L xs 12 3968 9 1) 2 9 + 1 = 1 from by rw [show zI (gs L xs 12 3968 9 1) 2 9 = 0 from rfl]; decide]
  refine gI (q' := 2) gi_2 ?_
  refine ⟨gK (a := 1) (by decide) (by decide), ?_⟩
  refine gR (v' := 2) (i' := 10) rfl rfl (by decide) (by decide) ?_
  refine gN (n' := 13) (s' := 3971) (by decide) (by decide) (by decide) rfl (by decide) ?_
  refine ⟨gK (a := 1) (by decide) (by decide), ?_⟩
  refine gR (v' := 12) (i' := 11) rfl rfl (by decide) (by decide) ?_
  refine vc_X6_init_25 1 0 _ _ ⟨fun h => absurd h (by decide), fun _ => ?_⟩
  refine ⟨gK (a := 1) (by decide) (by decide), ?_⟩
  refine ⟨12, gF (by decide), ?_⟩
  refine gN (n' := 14) (s' := 3979) (by decide) (by decide) (by decide) rfl (by decide) ?_
  refine vc_X1_init_0 13 5581 _ _ ⟨by decide, ?_⟩
  refine gN (n' := 15) (s' := 9560) (by decide) (by decide) (by decide) rfl (by decide) ?_
  refine ⟨gK (a := 13) (by decide) (by decide), ?_⟩
  refine gR (v' := 14) (i' := 12) rfl rfl (by decide) (by decide) ?_
  refine ⟨gK (a := 12) (by decide) (by decide), ?_⟩
  refine ⟨gK (a := 13) (by decide) (by decide), ?_⟩
  refine ⟨gin (by decide) (by decide) (by decide), ?_⟩
  refine gR (v' := 13) (i' := 13) rfl rfl (by decide) (by decide) ?_
  rw [show (0 : Int32) + Int32.ofInt 1 = 1 by decide]
  refine vc_X6_init_25 1 1 _ _ ⟨fun h => absurd h (by decide), fun _ => ?_⟩
  refine ⟨gK (a := 1) (by decide) (by decide), ?_⟩
  refine ⟨12, gF (by decide), ?_⟩
  refine gN (n' := 16) (s' := 9568) (by decide) (by decide) (by decide) rfl (by decide) ?_
  refine vc_X1_init_0 15 5581 _ _ ⟨by decide, ?_⟩
  refine gN (n' := 17) (s' := 15149) (by decide) (by decide) (by decide) rfl (by decide) ?_
  refine ⟨gK (a := 15) (by decide) (by decide), ?_⟩
  refine gR (v' := 16) (i' := 14) rfl rfl (by decide) (by decide) ?_
  refine ⟨gK (a := 12) (by decide) (by decide), ?_⟩
  refine ⟨gK (a := 15) (by decide) (by decide), ?_⟩
  refine ⟨gin (by decide) (by decide) (by decide), ?_⟩
  refine gR (v' := 15) (i' := 15) rfl rfl (by decide) (by decide) ?_
  rw [show (1 : Int32) + Int32.ofInt 1 = 2 by decide]
  refine vc_X6_init_25 1 2 _ _ ⟨fun h => absurd h (by decide), fun _ => ?_⟩
  refine ⟨gK (a := 1) (by decide) (by decide), ?_⟩
  refine ⟨12, gF (by decide), ?_⟩
  refine gN (n' := 18) (s' := 15157) (by decide) (by decide) (by decide) rfl (by decide) ?_
  refine vc_X1_init_0 17 5581 _ _ ⟨by decide, ?_⟩
  refine gN (n' := 19) (s' := 20738) (by decide) (by decide) (by decide) rfl (by decide) ?_
  refine ⟨gK (a := 17) (by decide) (by decide), ?_⟩
  refine gR (v' := 18) (i' := 16) rfl rfl (by decide) (by decide) ?_
  refine ⟨gK (a := 12) (by decide) (by decide), ?_⟩
  refine ⟨gK (a := 17) (by decide) (by decide), ?_⟩
  refine ⟨gin (by decide) (by decide) (by decide), ?_⟩
  refine gR (v' := 17) (i' := 17) rfl rfl (by decide) (by decide) ?_
  rw [show (2 : Int32) + Int32.ofInt 1 = 3 by decide]
  refine vc_X6_init_25 1 3 _ _ ⟨fun _ => ?_, fun h => absurd (by decide) h⟩
  refine gN (n' := 20) (s' := 20746) (by decide) (by decide) (by decide) rfl (by decide) ?_
  refine vc_X1_init_0 19 4000 _ _ ⟨by decide, ?_⟩
  refine gN (n' := 21) (s' := 24746) (by decide) (by decide) (by decide) rfl (by decide) ?_
  refine ⟨gK (a := 19) (by decide) (by decide), ?_⟩
  refine gR (v' := 20) (i' := 18) rfl rfl (by decide) (by decide) ?_
  refine ⟨gK (a := 1) (by decide) (by decide), ?_⟩
  refine gR (v' := 19) (i' := 19) rfl rfl (by decide) (by decide) ?_
  refine gN (n' := 22) (s' := 24762) (by decide) (by decide) (by decide) rfl (by decide) ?_
  refine vc_X0_init_0 21 _ _ ?_
  refine gN (n' := 23) (s' := 24764) (by decide) (by decide) (by decide) rfl (by decide) ?_
  refine vc_X4_init_0 22 _ _ ?_
  refine gN (n' := 24) (s' := 24797) (by decide) (by decide) (by decide) rfl (by decide) ?_
  refine ⟨gK (a := 22) (by decide) (by decide), ?_⟩
  refine gR (v' := 23) (i' := 20) rfl rfl (by decide) (by decide) ?_
  refine ⟨gK (a := 21) (by decide) (by decide), ?_⟩
  refine gR (v' := 22) (i' := 21) rfl rfl (by decide) (by decide) ?_
  refine gN (n' := 25) (s' := 24829) (by decide) (by decide) (by decide) rfl (by decide) ?_
  refine ⟨gK (a := 21) (by decide) (by decide), ?_⟩
  refine gR (v' := 24) (i' := 22) rfl rfl (by decide) (by decide) ?_
  refine gN (n' := 26) (s' := 24862) (by decide) (by decide) (by decide) rfl (by decide) ?_
  refine ⟨gK (a := 21) (by decide) (by decide), ?_⟩
  refine gR (v' := 25) (i' := 23) rfl rfl (by decide) (by decide) ?_
  refine gN (n' := 27) (s' := 24895) (by decide) (by decide) (by decide) rfl (by decide) ?_
  refine ⟨gK (a := 21) (by decide) (by decide), ?_⟩
  refine gR (v' := 26) (i' := 24) rfl rfl (by decide) (by decide) ?_
  refine gN (n' := 28) (s' := 24928) (by decide) (by decide) (by decide) rfl (by decide) ?_
  refine ⟨gK (a := 21) (by decide) (by decide), ?_⟩
  refine gR (v' := 27) (i' := 25) rfl rfl (by decide) (by decide) ?_
  refine gN (n' := 29) (s' := 25324) (by decide) (by decide) (by decide) rfl (by decide) ?_
  refine ⟨gK (a := 21) (by decide) (by decide), ?_⟩
  refine gR (v' := 28) (i' := 26) rfl rfl (by decide) (by decide) ?_
  refine gN (n' := 30) (s' := 25357) (by decide) (by decide) (by decide) rfl (by decide) ?_
  refine ⟨gK (a := 21) (by decide) (by decide), ?_⟩
  refine gR (v' := 29) (i' := 27) rfl rfl (by decide) (by decide) ?_
  refine gN (n' := 31) (s' := 25390) (by decide) (by decide) (by decide) rfl (by decide) ?_
  refine ⟨gK (a := 21) (by decide) (by decide), ?_⟩
  refine gR (v' := 30) (i' := 28) rfl rfl (by decide) (by decide) ?_
  refine gN (n' := 32) (s' := 25423) (by decide) (by decide) (by decide) rfl (by decide) ?_
  refine ⟨gK (a := 21) (by decide) (by decide), ?_⟩
  refine gR (v' := 31) (i' := 29) rfl rfl (by decide) (by decide) ?_
  refine gN (n' := 33) (s' := 25455) (by decide) (by decide) (by decide) rfl (by decide) ?_
  refine ⟨gK (a := 21) (by decide) (by decide), ?_⟩
  refine gR (v' := 32) (i' := 30) rfl rfl (by decide) (by decide) ?_
  refine gN (n' := 34) (s' := 25487) (by decide) (by decide) (by decide) rfl (by decide) ?_
  refine ⟨gK (a := 21) (by decide) (by decide), ?_⟩
  refine gR (v' := 33) (i' := 31) rfl rfl (by decide) (by decide) ?_
  refine gN (n' := 35) (s' := 25519) (by decide) (by decide) (by decide) rfl (by decide) ?_
  refine ⟨gK (a := 21) (by decide) (by decide), ?_⟩
  refine gR (v' := 34) (i' := 32) rfl rfl (by decide) (by decide) ?_
  refine gN (n' := 36) (s' := 25551) (by decide) (by decide) (by decide) rfl (by decide) ?_
  refine ⟨gK (a := 21) (by decide) (by decide), ?_⟩
  refine gR (v' := 35) (i' := 33) rfl rfl (by decide) (by decide) ?_
  refine ⟨gK (a := 1) (by decide) (by decide), ?_⟩
  refine gR (v' := 21) (i' := 34) rfl rfl (by decide) (by decide) ?_
  refine gN (n' := 37) (s' := 25552) (by decide) (by decide) (by decide) rfl (by decide) ?_
  refine vc_X2_init_0 36 _ _ ?_
  refine gN (n' := 38) (s' := 26050) (by decide) (by decide) (by decide) rfl (by decide) ?_
  refine ⟨gK (a := 36) (by decide) (by decide), ?_⟩
  refine gR (v' := 37) (i' := 35) rfl rfl (by decide) (by decide) ?_
  refine ⟨gK (a := 1) (by decide) (by decide), ?_⟩
  refine gR (v' := 36) (i' := 36) rfl rfl (by decide) (by decide) ?_
  refine gN (n' := 39) (s' := 26062) (by decide) (by decide) (by decide) rfl (by decide) ?_
  refine vc_X3_init_0 38 _ _ ?_
  refine gN (n' := 40) (s' := 26065) (by decide) (by decide) (by decide) rfl (by decide) ?_
  refine ⟨gK (a := 38) (by decide) (by decide), ?_⟩
  refine gR (v' := 39) (i' := 37) rfl rfl (by decide) (by decide) ?_
  refine gN (n' := 41) (s' := 26068) (by decide) (by decide) (by decide) rfl (by decide) ?_
  refine ⟨gK (a := 38) (by decide) (by decide), ?_⟩
  refine gR (v' := 40) (i' := 38) rfl rfl (by decide) (by decide) ?_
  refine gN (n' := 42) (s' := 26128) (by decide) (by decide) (by decide) rfl (by decide) ?_
  refine ⟨gK (a := 38) (by decide) (by decide), ?_⟩
  refine gR (v' := 41) (i' := 39) rfl rfl (by decide) (by decide) ?_
  refine gN (n' := 43) (s' := 26308) (by decide) (by decide) (by decide) rfl (by decide) ?_
  refine ⟨gK (a := 38) (by decide) (by decide), ?_⟩
  refine gR (v' := 42) (i' := 40) rfl rfl (by decide) (by decide) ?_
  refine gN (n' := 44) (s' := 26488) (by decide) (by decide) (by decide) rfl (by decide) ?_
  refine ⟨gK (a := 38) (by decide) (by decide), ?_⟩
  refine gR (v' := 43) (i' := 41) rfl rfl (by decide) (by decide) ?_
  refine gN (n' := 45) (s' := 26491) (by decide) (by decide) (by decide) rfl (by decide) ?_
  refine ⟨gK (a := 38) (by decide) (by decide), ?_⟩
  refine gR (v' := 44) (i' := 42) rfl rfl (by decide) (by decide) ?_
  refine gN (n' := 46) (s' := 26494) (by decide) (by decide) (by decide) rfl (by decide) ?_
  refine ⟨gK (a := 38) (by decide) (by decide), ?_⟩
  refine gR (v' := 45) (i' := 43) rfl rfl (by decide) (by decide) ?_
  refine gN (n' := 47) (s' := 26497) (by decide) (by decide) (by decide) rfl (by decide) ?_
  refine ⟨gK (a := 38) (by decide) (by decide), ?_⟩
  refine gR (v' := 46) (i' := 44) rfl rfl (by decide) (by decide) ?_
  refine gN (n' := 48) (s' := 26505) (by decide) (by decide) (by decide) rfl (by decide) ?_
  refine vc_X1_init_0 47 0 _ _ ⟨by decide, ?_⟩
  refine gN (n' := 49) (s' := 26505) (by decide) (by decide) (by decide) rfl (by decide) ?_
  refine ⟨gK (a := 47) (by decide) (by decide), ?_⟩
  refine gR (v' := 48) (i' := 45) rfl rfl (by decide) (by decide) ?_
  refine vc_X3_init_77 38 47 0 _ _ ⟨fun h => absurd h (by decide), fun _ => ?_⟩
  refine ⟨gK (a := 38) (by decide) (by decide), ?_⟩
  refine ⟨40, gF (by decide), ?_⟩
  refine ⟨gK (a := 40) (by decide) (by decide), ?_⟩
  refine ⟨gK (a := 47) (by decide) (by decide), ?_⟩
  refine ⟨gin (by decide) (by decide) (by decide), ?_⟩
  refine gR (v' := 47) (i' := 46) rfl rfl (by decide) (by decide) ?_
  rw [show (0 : Int32) + Int32.ofInt 1 = 1 by decide]
  refine vc_X3_init_77 38 47 1 _ _ ⟨fun h => absurd h (by decide), fun _ => ?_⟩
  refine ⟨gK (a := 38) (by decide) (by decide), ?_⟩
  refine ⟨40, gF (by decide), ?_⟩
  refine ⟨gK (a := 40) (by decide) (by decide), ?_⟩
  refine ⟨gK (a := 47) (by decide) (by decide), ?_⟩
  refine ⟨gin (by decide) (by decide) (by decide), ?_⟩
  refine gR (v' := 47) (i' := 47) rfl rfl (by decide) (by decide) ?_
  rw [show (1 : Int32) + Int32.ofInt 1 = 2 by decide]
  refine vc_X3_init_77 38 47 2 _ _ ⟨fun h => absurd h (by decide), fun _ => ?_⟩
  refine ⟨gK (a := 38) (by decide) (by decide), ?_⟩
  refine ⟨40, gF (by decide), ?_⟩
  refine ⟨gK (a := 40) (by decide) (by decide), ?_⟩
  refine ⟨gK (a := 47) (by decide) (by decide), ?_⟩
  refine ⟨gin (by decide) (by decide) (by decide), ?_⟩
  refine gR (v' := 47) (i' := 48) rfl rfl (by decide) (by decide) ?_
  rw [show (2 : Int32) + Int32.ofInt 1 = 3 by decide]
  refine vc_X3_init_77 38 47 3 _ _ ⟨fun _ => ?_, fun h => absurd (by decide) h⟩
  refine ⟨gK (a := 1) (by decide) (by decide), ?_⟩
  refine gR (v' := 38) (i' := 49) rfl rfl (by decide) (by decide) ?_
  exact h
theorem g_start (L : Nat) (xs : Nat → Int32) {K : Int32 → zx_S → Prop} (h : zwI 211 23 [some (.ref 0), some (.ref 1), some (.ref 49), some (.ref 78), some (.int 0), none, none] [] (gs L xs 79 55066 77 4) K) : zwI 211 0 [some (.ref 0), none, none, none, none, none, none] [] (zl_s0 L xs) K := by
  rw [gs_0]
  refine vc_L_law_0 0 _ K ?_
  refine g_first L xs ?_
  refine gN (n' := 50) (s' := 26546) (by decide) (by decide) (by decide) rfl (by decide) ?_
  refine vc_X7_init_0 49 _ _ ?_
  refine gN (n' := 51) (s' := 26578) (by decide) (by decide) (by decide) rfl (by decide) ?_
  refine ⟨gK (a := 49) (by decide) (by decide), ?_⟩
  refine gR (v' := 50) (i' := 50) rfl rfl (by decide) (by decide) ?_
  refine gN (n' := 52) (s' := 26610) (by decide) (by decide) (by decide) rfl (by decide) ?_
  refine ⟨gK (a := 49) (by decide) (by decide), ?_⟩
  refine gR (v' := 51) (i' := 51) rfl rfl (by decide) (by decide) ?_
  refine gN (n' := 53) (s' := 26642) (by decide) (by decide) (by decide) rfl (by decide) ?_
  refine ⟨gK (a := 49) (by decide) (by decide), ?_⟩
  refine gR (v' := 52) (i' := 52) rfl rfl (by decide) (by decide) ?_
  refine gN (n' := 54) (s' := 26674) (by decide) (by decide) (by decide) rfl (by decide) ?_
  refine ⟨gK (a := 49) (by decide) (by decide), ?_⟩
  refine gR (v' := 53) (i' := 53) rfl rfl (by decide) (by decide) ?_
  refine gN (n' := 55) (s' := 29874) (by decide) (by decide) (by decide) rfl (by decide) ?_
  refine ⟨gK (a := 49) (by decide) (by decide), ?_⟩
  refine gR (v' := 54) (i' := 54) rfl rfl (by decide) (by decide) ?_
  refine gN (n' := 56) (s' := 30174) (by decide) (by decide) (by decide) rfl (by decide) ?_
  refine ⟨gK (a := 49) (by decide) (by decide), ?_⟩
  refine gR (v' := 55) (i' := 55) rfl rfl (by decide) (by decide) ?_
  refine gN (n' := 57) (s' := 30474) (by decide) (by decide) (by decide) rfl (by decide) ?_
  refine ⟨gK (a := 49) (by decide) (by decide), ?_⟩
  refine gR (v' := 56) (i' := 56) rfl rfl (by decide) (by decide) ?_
  refine gN (n' := 58) (s' := 30774) (by decide) (by decide) (by decide) rfl (by decide) ?_
  refine ⟨gK (a := 49) (by decide) (by decide), ?_⟩
  refine gR (v' := 57) (i' := 57) rfl rfl (by decide) (by decide) ?_
  refine gN (n' := 59) (s' := 48774) (by decide) (by decide) (by decide) rfl (by decide) ?_
  refine ⟨gK (a := 49) (by decide) (by decide), ?_⟩
  refine gR (v' := 58) (i' := 58) rfl rfl (by decide) (by decide) ?_
  refine gN (n' := 60) (s' := 48777) (by decide) (by decide) (by decide) rfl (by decide) ?_
  refine ⟨gK (a := 49) (by decide) (by decide), ?_⟩
  refine gR (v' := 59) (i' := 59) rfl rfl (by decide) (by decide) ?_
  refine gN (n' := 61) (s' := 48809) (by decide) (by decide) (by decide) rfl (by decide) ?_
  refine ⟨gK (a := 49) (by decide) (by decide), ?_⟩
  refine gR (v' := 60) (i' := 60) rfl rfl (by decide) (by decide) ?_
  refine gN (n' := 62) (s' := 48842) (by decide) (by decide) (by decide) rfl (by decide) ?_
  refine ⟨gK (a := 49) (by decide) (by decide), ?_⟩
  refine gR (v' := 61) (i' := 61) rfl rfl (by decide) (by decide) ?_
  refine gN (n' := 63) (s' := 48874) (by decide) (by decide) (by decide) rfl (by decide) ?_
  refine ⟨gK (a := 49) (by decide) (by decide), ?_⟩
  refine gR (v' := 62) (i' := 62) rfl rfl (by decide) (by decide) ?_
  refine gN (n' := 64) (s' := 48954) (by decide) (by decide) (by decide) rfl (by decide) ?_
  refine ⟨gK (a := 49) (by decide) (by decide), ?_⟩
  refine gR (v' := 63) (i' := 63) rfl rfl (by decide) (by decide) ?_
  refine gN (n' := 65) (s' := 48987) (by decide) (by decide) (by decide) rfl (by decide) ?_
  refine ⟨gK (a := 49) (by decide) (by decide), ?_⟩
  refine gR (v' := 64) (i' := 64) rfl rfl (by decide) (by decide) ?_
  refine gN (n' := 66) (s' := 49416) (by decide) (by decide) (by decide) rfl (by decide) ?_
  refine ⟨gK (a := 49) (by decide) (by decide), ?_⟩
  refine gR (v' := 65) (i' := 65) rfl rfl (by decide) (by decide) ?_
  refine gN (n' := 67) (s' := 49449) (by decide) (by decide) (by decide) rfl (by decide) ?_
  refine ⟨gK (a := 49) (by decide) (by decide), ?_⟩
  refine gR (v' := 66) (i' := 66) rfl rfl (by decide) (by decide) ?_
  refine gN (n' := 68) (s' := 49482) (by decide) (by decide) (by decide) rfl (by decide) ?_
  refine ⟨gK (a := 49) (by decide) (by decide), ?_⟩
  refine gR (v' := 67) (i' := 67) rfl rfl (by decide) (by decide) ?_
  refine gN (n' := 69) (s' := 49514) (by decide) (by decide) (by decide) rfl (by decide) ?_
  refine ⟨gK (a := 49) (by decide) (by decide), ?_⟩
  refine gR (v' := 68) (i' := 68) rfl rfl (by decide) (by decide) ?_
  refine gN (n' := 70) (s' := 50538) (by decide) (by decide) (by decide) rfl (by decide) ?_
  refine ⟨gK (a := 49) (by decide) (by decide), ?_⟩
  refine gR (v' := 69) (i' := 69) rfl rfl (by decide) (by decide) ?_
  refine gN (n' := 71) (s' := 50570) (by decide) (by decide) (by decide) rfl (by decide) ?_
  refine ⟨gK (a := 49) (by decide) (by decide), ?_⟩
  refine gR (v' := 70) (i' := 70) rfl rfl (by decide) (by decide) ?_
  refine gN (n' := 72) (s' := 50602) (by decide) (by decide) (by decide) rfl (by decide) ?_
  refine ⟨gK (a := 49) (by decide) (by decide), ?_⟩
  refine gR (v' := 71) (i' := 71) rfl rfl (by decide) (by decide) ?_
  refine gN (n' := 73) (s' := 50635) (by decide) (by decide) (by decide) rfl (by decide) ?_
  refine ⟨gK (a := 49) (by decide) (by decide), ?_⟩
  refine gR (v' := 72) (i' := 72) rfl rfl (by decide) (by decide) ?_
  refine gN (n' := 74) (s' := 54635) (by decide) (by decide) (by decide) rfl (by decide) ?_
  refine ⟨gK (a := 49) (by decide) (by decide), ?_⟩
  refine gR (v' := 73) (i' := 73) rfl rfl (by decide) (by decide) ?_
  refine gN (n' := 75) (s' := 54638) (by decide) (by decide) (by decide) rfl (by decide) ?_
  refine ⟨gK (a := 49) (by decide) (by decide), ?_⟩
  refine gR (v' := 74) (i' := 74) rfl rfl (by decide) (by decide) ?_
  refine gN (n' := 76) (s' := 54699) (by decide) (by decide) (by decide) rfl (by decide) ?_
  refine ⟨gK (a := 49) (by decide) (by decide), ?_⟩
  refine gR (v' := 75) (i' := 75) rfl rfl (by decide) (by decide) ?_
  refine gN (n' := 77) (s' := 54882) (by decide) (by decide) (by decide) rfl (by decide) ?_
  refine ⟨gK (a := 49) (by decide) (by decide), ?_⟩
  refine gR (v' := 76) (i' := 76) rfl rfl (by decide) (by decide) ?_
  refine gN (n' := 78) (s' := 55065) (by decide) (by decide) (by decide) rfl (by decide) ?_
  refine ⟨gK (a := 49) (by decide) (by decide), ?_⟩
  refine gR (v' := 77) (i' := 77) rfl rfl (by decide) (by decide) ?_
  refine gI (q' := 3) gi_3 ?_
  refine ⟨50, gF (by decide), ?_⟩
  refine ⟨gK (a := 50) (by decide) (by decide), ?_⟩
  refine ⟨gin (by decide) (by decide) (by decide), ?_⟩
  rw [show Int32.toNatClampNeg 0 = 0 by decide]
  refine gI (q' := 4) gi_4 ?_
  refine gN (n' := 79) (s' := 55066) (by decide) (by decide) (by decide) rfl (by decide) ?_
  exact h
