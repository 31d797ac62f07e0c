/-! THE SMALL MACHINE OVER WHOLE NUMBERS: all cells are made once, so kinds, lengths and references stand; what changes is one table A of whole numbers -/
abbrev jI (e : Int) : Int32 := Int32.ofInt e
abbrev jJ (e : Int) : Int64 := Int64.ofInt e
abbrev jW (e : Int) : Prop := -2147483648 ≤ e ∧ e ≤ 2147483647
abbrev jA : Type := Nat → Int → Int
/-- lengths of cells elsewhere, the laid images, the longs, cells made, slots made -/
abbrev jE : Type := (Nat → Nat) × (Nat → Nat) × (Nat → Nat → Int64) × Nat × Nat
def jKl : List Nat := [4, 19, 18, 1, 1, 1, 1, 1, 1, 1, 1, 1, 3, 14, 1, 14, 1, 14, 1, 14, 1, 13, 17, 1, 1, 1, 1, 1, 1, 1, 1, 1, 1, 1, 1, 1, 15, 1, 16, 1, 3, 1, 1, 1, 1, 1, 1, 14, 1, 20, 1, 1, 1, 1, 1, 1, 1, 1, 1, 1, 1, 1, 1, 1, 1, 1, 1, 1, 1, 1, 1, 1, 1, 1, 1, 1, 1, 1, 2]
def jNl : List Nat := [0, 0, 0, 32, 32, 32, 32, 32, 32, 3200, 279, 279, 3, 0, 5581, 0, 5581, 0, 5581, 0, 4000, 0, 0, 33, 32, 33, 33, 33, 396, 33, 33, 33, 32, 32, 32, 32, 0, 498, 0, 3, 3, 60, 180, 180, 3, 3, 3, 0, 0, 0, 32, 32, 32, 32, 3200, 300, 300, 300, 18000, 3, 32, 33, 32, 80, 33, 429, 33, 33, 32, 1024, 32, 32, 33, 4000, 3, 61, 183, 183, 1]
def jRl : List (List (Option Nat)) := [[], [some 2, some 12, some 19, some 21, some 36, some 38], [some 3, some 4, some 5, some 6, some 7, some 8, some 9, some 10, some 11], [], [], [], [], [], [], [], [], [], [some 13, some 15, some 17], [some 14], [], [some 16], [], [some 18], [], [some 20], [],
  [some 22, some 24, some 25, some 26, some 27, some 28, some 29, some 30, some 31, some 32, some 33, some 34, some 35], [some 23], [], [], [], [], [], [], [], [], [], [], [], [], [], [some 37], [], [some 39, some 40, some 41, some 42, some 43, some 44, some 45, some 46], [], [], [], [], [], [], [], [], [some 48], [],
  [none, none, some 50, some 51, some 52, some 53, some 54, none, some 55, some 56, some 57, none, some 58, some 59, none, none, some 60, some 61, none, none, some 62, some 63, none, some 64, some 65, some 66, some 67, none, some 68, some 69, some 70, some 71, some 72, some 73, none, none, some 74, none, some 75, some 76, some 77]]
def jK (a : Nat) : Nat := jKl.getD a 0
def jN (a : Nat) : Nat := jNl.getD a 0
def jR (r : Nat → Nat) (a k : Nat) : Option Nat := if a = 40 then (if k < 3 then some (r k) else none) else (jRl.getD a []).getD k none
/-- the state -/
def js (E : jE) (A : jA) : zx_S := (jK, fun a => if 1 ≤ a ∧ a < 79 then jN a else E.1 a, fun a k => jI (A a (k : Int)), jR E.2.1, E.2.2.1, E.2.2.2.1, E.2.2.2.2)
def jup (A : jA) (o : Nat) (i v : Int) : jA := fun a j => if a = o ∧ j = i then v else A a j
def jOK (A : jA) : Prop := ∀ a k, jW (A a k)
/-- an Image -/
def jim (a : Nat) : Prop := a = 13 ∨ a = 15 ∨ a = 17 ∨ a = 19 ∨ a = 47
def jrI (y pc : Nat) (L : zx_L) (st : List Value) (E : jE) (A : jA) (K : Int → jA → Prop) : Prop := jOK A → zw y pc L st (js E A) (fun r σ => ∃ (w : Int) (B : jA), r = some (.int (jI w)) ∧ jW w ∧ σ = js E B ∧ jOK B ∧ K w B)
def jrV (y pc : Nat) (L : zx_L) (st : List Value) (E : jE) (A : jA) (K : jA → Prop) : Prop := jOK A → zw y pc L st (js E A) (fun r σ => ∃ (B : jA), r = none ∧ σ = js E B ∧ jOK B ∧ K B)
def jrR (y pc : Nat) (L : zx_L) (st : List Value) (E : jE) (A : jA) (K : Nat → jA → Prop) : Prop := jOK A → zw y pc L st (js E A) (fun r σ => ∃ (w : Nat) (B : jA), r = some (.ref w) ∧ σ = js E B ∧ jOK B ∧ K w B)
abbrev jQI (E : jE) (K : Int → jA → Prop) : Option Value → zx_S → Prop := fun r σ => ∃ (w : Int) (B : jA), r = some (.int (jI w)) ∧ jW w ∧ σ = js E B ∧ jOK B ∧ K w B
abbrev jQV (E : jE) (K : jA → Prop) : Option Value → zx_S → Prop := fun r σ => ∃ (B : jA), r = none ∧ σ = js E B ∧ jOK B ∧ K B
abbrev jQR (E : jE) (K : Nat → jA → Prop) : Option Value → zx_S → Prop := fun r σ => ∃ (w : Nat) (B : jA), r = some (.ref w) ∧ σ = js E B ∧ jOK B ∧ K w B
theorem jrI.mono {y pc : Nat} {L : zx_L} {st : List Value} {E : jE} {A : jA} {K K' : Int → jA → Prop} (h : jrI y pc L st E A K) (hk : ∀ v B, jW v → jOK B → K v B → K' v B) : jrI y pc L st E A K' := fun hA => zw.mono (h hA) (fun _ _ ⟨w, B, a, b, c, e, f⟩ => ⟨w, B, a, b, c, e, hk w B b e f⟩)
theorem jrV.mono {y pc : Nat} {L : zx_L} {st : List Value} {E : jE} {A : jA} {K K' : jA → Prop} (h : jrV y pc L st E A K) (hk : ∀ B, jOK B → K B → K' B) : jrV y pc L st E A K' := fun hA => zw.mono (h hA) (fun _ _ ⟨B, a, c, e, f⟩ => ⟨B, a, c, e, hk B e f⟩)
theorem jrR.mono {y pc : Nat} {L : zx_L} {st : List Value} {E : jE} {A : jA} {K K' : Nat → jA → Prop} (h : jrR y pc L st E A K) (hk : ∀ v B, jOK B → K v B → K' v B) : jrR y pc L st E A K' := fun hA => zw.mono (h hA) (fun _ _ ⟨w, B, a, c, e, f⟩ => ⟨w, B, a, c, e, hk w B e f⟩)
/-- what is known of the table is known for the run -/
theorem jrI.ok {y pc : Nat} {L : zx_L} {st : List Value} {E : jE} {A : jA} {K : Int → jA → Prop} (h : jOK A → jrI y pc L st E A K) : jrI y pc L st E A K := fun hA => h hA hA
theorem jrV.ok {y pc : Nat} {L : zx_L} {st : List Value} {E : jE} {A : jA} {K : jA → Prop} (h : jOK A → jrV y pc L st E A K) : jrV y pc L st E A K := fun hA => h hA hA
theorem jrR.ok {y pc : Nat} {L : zx_L} {st : List Value} {E : jE} {A : jA} {K : Nat → jA → Prop} (h : jOK A → jrR y pc L st E A K) : jrR y pc L st E A K := fun hA => h hA hA
theorem jI_toInt {a : Int} (h : jW a) : (jI a).toInt = a := Int32.toInt_ofInt_of_le (by omega) (by omega)
theorem jI_lt {a b : Int} (ha : jW a) (hb : jW b) : jI a < jI b ↔ a < b := by rw [Int32.lt_iff_toInt_lt, jI_toInt ha, jI_toInt hb]
theorem jI_le {a b : Int} (ha : jW a) (hb : jW b) : jI a ≤ jI b ↔ a ≤ b := by rw [Int32.le_iff_toInt_le, jI_toInt ha, jI_toInt hb]
theorem jI_eq {a b : Int} (ha : jW a) (hb : jW b) : jI a = jI b ↔ a = b := by rw [← Int32.toInt_inj, jI_toInt ha, jI_toInt hb]
theorem jI_nat {a : Int} (h : jW a) : (jI a).toNatClampNeg = a.toNat := Int32.toNatClampNeg_ofInt_of_le (by omega) (by omega)
theorem jI_0 : jI 0 = 0 := rfl
theorem jI_1 : jI 1 = 1 := rfl
theorem jW_0 : jW 0 := ⟨by decide, by decide⟩
theorem jI_of (x : Int32) : ∃ a, jW a ∧ x = jI a := ⟨x.toInt, ⟨by have := x.le_toInt; omega, by have := x.toInt_lt; omega⟩, (Int32.ofInt_toInt x).symm⟩
theorem jOK.up {A A1 : jA} {o : Nat} {i v : Int} (h : jOK A) (hv : jW v) (e : A1 = jup A o i v) : jOK A1 := by
  subst e
  intro a k
  unfold jup
  split
  · exact hv
  · exact h a k
theorem js_up (E : jE) (A : jA) (o k : Nat) (i v : Int) (hk : (k : Int) = i) : js E (jup A o i v) = zx_pI (js E A) o k (jI v) := by
  unfold js zx_pI jup zK zN zI zR zJ zn zs upd
  refine congrArg _ (congrArg _ (congrArg (fun f => (f, _)) (funext fun a => funext fun j => ?_)))
  by_cases ha : a = o
  · subst ha
    by_cases hj : j = k
    · subst hj
      rw [if_pos ⟨rfl, hk⟩, if_pos rfl, if_pos rfl]
    · rw [if_neg (fun q => hj (by omega)), if_pos rfl, if_neg hj]
  · rw [if_neg (fun q => ha q.1), if_neg ha]
theorem jK_lt {a k : Nat} (h : jK a = k) (h0 : k ≠ 0) (h4 : k ≠ 4) : 1 ≤ a ∧ a < 79 := by
  constructor
  · refine Nat.pos_of_ne_zero (fun q => h4 ?_)
    rw [← h, q]; rfl
  · refine Nat.lt_of_not_le (fun q => h0 ?_)
    rw [← h]
    unfold jK
    rw [List.getD_eq_getElem?_getD, List.getElem?_eq_none (by simp only [jKl, List.length_cons, List.length_nil]; omega)]
    rfl
theorem jN_of {E : jE} {A : jA} {a : Nat} (h : jK a = 1 ∨ jK a = 3 ∨ jK a = 2) : zN (js E A) a = jN a := if_pos (by rcases h with h | h | h <;> exact jK_lt h (by decide) (by decide))
theorem jN_le (a : Nat) : jN a ≤ 18000 := by
  unfold jN
  have h : ∀ x ∈ jNl, x ≤ 18000 := by decide
  by_cases q : a < jNl.length
  · rw [List.getD_eq_getElem?_getD, List.getElem?_eq_getElem q]
    exact h _ (List.getElem_mem q)
  · rw [List.getD_eq_getElem?_getD, List.getElem?_eq_none (by omega)]
    decide
theorem jim.K {a : Nat} (h : jim a) : jK a = 14 := by rcases h with rfl | rfl | rfl | rfl | rfl <;> rfl
theorem jim.B {a : Nat} (h : jim a) : jK (a + 1) = 1 := by rcases h with rfl | rfl | rfl | rfl | rfl <;> rfl
theorem jim.R {a : Nat} (h : jim a) (r : Nat → Nat) : jR r a 0 = some (a + 1) := by rcases h with rfl | rfl | rfl | rfl | rfl <;> rfl
theorem jim_at {i : Int} (h0 : 0 ≤ i) (h3 : i < 3) : jim (13 + 2 * i.toNat) := by
  rcases (by omega : i = 0 ∨ i = 1 ∨ i = 2) with rfl | rfl | rfl
  · exact Or.inl rfl
  · exact Or.inr (Or.inl rfl)
  · exact Or.inr (Or.inr (Or.inl rfl))
section JW
variable {y pc : Nat} {L L1 : zx_L} {st : List Value} {E : jE} {A A1 : jA} {σ : zx_S} {Q : Option Value → zx_S → Prop} {M : zx_M}
theorem jw_iconst (hM : zt_M y = some M) {n v : Int} (hd : decode M.2.1 pc = .ok (.iconst n, 1)) (hv : n = v) (k : zw y (pc + 1) L (.int (jI v) :: st) σ Q) : zw y pc L st σ Q := zw_iconst hM hd (by rw [hv]) k
theorem jw_bipush (hM : zt_M y = some M) {n v : Int} (hd : decode M.2.1 pc = .ok (.bipush n, 2)) (hv : (Int8.ofInt n).toInt32 = jI v) (k : zw y (pc + 2) L (.int (jI v) :: st) σ Q) : zw y pc L st σ Q := zw_bipush hM hd hv k
theorem jw_sipush (hM : zt_M y = some M) {n v : Int} (hd : decode M.2.1 pc = .ok (.sipush n, 3)) (hv : (Int16.ofInt n).toInt32 = jI v) (k : zw y (pc + 3) L (.int (jI v) :: st) σ Q) : zw y pc L st σ Q := zw_sipush hM hd hv k
theorem jw_ldc (hM : zt_M y = some M) {i : Nat} {v : Int32} {w : Int} (hd : decode M.2.1 pc = .ok (.ldc i, 2)) (hv : zt_K M.2.2.2.2.1 i = some v) (hw : v = jI w) (k : zw y (pc + 2) L (.int (jI w) :: st) σ Q) : zw y pc L st σ Q := zw_ldc hM hd hv (by rw [hw]; exact k)
theorem jw_ldc2 (hM : zt_M y = some M) {i : Nat} {v : Int64} {w : Int} (hd : decode M.2.1 pc = .ok (.ldc2_w i, 3)) (hv : zt_J M.2.2.2.2.1 i = some v) (hw : v = jJ w) (k : zw y (pc + 3) L (.long (jJ w) :: st) σ Q) : zw y pc L st σ Q := zw_ldc2 hM hd hv (by rw [hw]; exact k)
theorem jw_lconst (hM : zt_M y = some M) {n : Fin 2} {w : Int} (hd : decode M.2.1 pc = .ok (.lconst n, 1)) (hw : Int64.ofNat (n : Nat) = jJ w) (k : zw y (pc + 1) L (.long (jJ w) :: st) σ Q) : zw y pc L st σ Q := zw_go hM hd rfl rfl rfl rfl (by rw [hw]; exact k)
theorem jw_add (hM : zt_M y = some M) {a b : Int} (hd : decode M.2.1 pc = .ok (.iadd, 1)) (k : zw y (pc + 1) L (.int (jI (a + b)) :: st) σ Q) : zw y pc L (.int (jI b) :: .int (jI a) :: st) σ Q := zw_go hM hd rfl rfl rfl rfl (by show zw _ _ _ (.int (jI a + jI b) :: _) _ _; rw [← Int32.ofInt_add]; exact k)
theorem jw_sub (hM : zt_M y = some M) {a b : Int} (hd : decode M.2.1 pc = .ok (.isub, 1)) (k : zw y (pc + 1) L (.int (jI (a - b)) :: st) σ Q) : zw y pc L (.int (jI b) :: .int (jI a) :: st) σ Q := zw_go hM hd rfl rfl rfl rfl (by show zw _ _ _ (.int (jI a - jI b) :: _) _ _; rw [← Int32.ofInt_sub]; exact k)
theorem jw_mul (hM : zt_M y = some M) {a b : Int} (hd : decode M.2.1 pc = .ok (.imul, 1)) (k : zw y (pc + 1) L (.int (jI (a * b)) :: st) σ Q) : zw y pc L (.int (jI b) :: .int (jI a) :: st) σ Q := zw_go hM hd rfl rfl rfl rfl (by show zw _ _ _ (.int (jI a * jI b) :: _) _ _; rw [← Int32.ofInt_mul]; exact k)
theorem jw_ladd (hM : zt_M y = some M) {a b : Int} (hd : decode M.2.1 pc = .ok (.ladd, 1)) (k : zw y (pc + 1) L (.long (jJ (a + b)) :: st) σ Q) : zw y pc L (.long (jJ b) :: .long (jJ a) :: st) σ Q := zw_go hM hd rfl rfl rfl rfl (by show zw _ _ _ (.long (jJ a + jJ b) :: _) _ _; rw [← Int64.ofInt_add]; exact k)
theorem jw_lmul (hM : zt_M y = some M) {a b : Int} (hd : decode M.2.1 pc = .ok (.lmul, 1)) (k : zw y (pc + 1) L (.long (jJ (a * b)) :: st) σ Q) : zw y pc L (.long (jJ b) :: .long (jJ a) :: st) σ Q := zw_go hM hd rfl rfl rfl rfl (by show zw _ _ _ (.long (jJ a * jJ b) :: _) _ _; rw [← Int64.ofInt_mul]; exact k)
theorem jw_i2l (hM : zt_M y = some M) {a : Int} (ha : jW a) (hd : decode M.2.1 pc = .ok (.i2l, 1)) (k : zw y (pc + 1) L (.long (jJ a) :: st) σ Q) : zw y pc L (.int (jI a) :: st) σ Q := zw_go hM hd rfl rfl rfl rfl (by rw [show (jI a).toInt64 = jJ a from Int32.toInt64_ofInt (by exact ha.1) (by exact ha.2)]; exact k)
theorem jw_l2i (hM : zt_M y = some M) {a : Int} (hd : decode M.2.1 pc = .ok (.l2i, 1)) (k : zw y (pc + 1) L (.int (jI a) :: st) σ Q) : zw y pc L (.long (jJ a) :: st) σ Q := zw_go hM hd rfl rfl rfl rfl (by rw [show (jJ a).toInt32 = jI a from Int64.toInt32_ofInt]; exact k)
theorem jw_div (hM : zt_M y = some M) {a b : Int} (hd : decode M.2.1 pc = .ok (.idiv, 1)) (ha : jW a) (hb : jW b) (h0 : 0 ≤ a) (h1 : 0 < b) (k : zw y (pc + 1) L (.int (jI (a / b)) :: st) σ Q) : zw y pc L (.int (jI b) :: .int (jI a) :: st) σ Q := by
  refine zw_div hM hd ?_ ?_
  · rw [← jI_0, jI_eq hb jW_0]; omega
  · rw [← Int32.ofInt_tdiv (by exact ha.1) (by exact ha.2) (by exact hb.1) (by exact hb.2), Int.tdiv_eq_ediv_of_nonneg h0]
    exact k
theorem jw_rem (hM : zt_M y = some M) {a b : Int} (hd : decode M.2.1 pc = .ok (.irem, 1)) (ha : jW a) (hb : jW b) (h0 : 0 ≤ a) (h1 : 0 < b) (k : zw y (pc + 1) L (.int (jI (a % b)) :: st) σ Q) : zw y pc L (.int (jI b) :: .int (jI a) :: st) σ Q := by
  refine zw_rem hM hd ?_ ?_
  · rw [← jI_0, jI_eq hb jW_0]; omega
  · rw [← Int32.ofInt_tdiv (by exact ha.1) (by exact ha.2) (by exact hb.1) (by exact hb.2), Int.tdiv_eq_ediv_of_nonneg h0, ← Int32.ofInt_mul, ← Int32.ofInt_sub, show a - a / b * b = a % b by rw [Int.mul_comm]; have := Int.emod_add_mul_ediv a b; omega]
    exact k
theorem jw_lrem (hM : zt_M y = some M) {a b : Int} (hd : decode M.2.1 pc = .ok (.lrem, 1)) (ha : a < 9223372036854775807) (hb : b < 9223372036854775807) (h0 : 0 ≤ a) (h1 : 0 < b) (k : zw y (pc + 1) L (.long (jJ (a % b)) :: st) σ Q) : zw y pc L (.long (jJ b) :: .long (jJ a) :: st) σ Q := by
  refine zw_lrem hM hd ?_ ?_
  · intro q
    have q2 := congrArg Int64.toInt q
    rw [Int64.toInt_ofInt_of_le (by omega) (by omega)] at q2
    have q3 : b = 0 := q2
    omega
  · rw [← Int64.ofInt_tdiv (show -9223372036854775808 ≤ a by omega) (show a ≤ 9223372036854775807 by omega) (show -9223372036854775808 ≤ b by omega) (show b ≤ 9223372036854775807 by omega), Int.tdiv_eq_ediv_of_nonneg h0, ← Int64.ofInt_mul, ← Int64.ofInt_sub, show a - a / b * b = a % b by rw [Int.mul_comm]; have := Int.emod_add_mul_ediv a b; omega]
    exact k
theorem jI_shr {a s : Int} (ha : jW a) (h0 : 0 ≤ s) (h1 : s < 32) : jI a >>> (jI s &&& 31) = jI (a / 2 ^ s.toNat) := by
  have hk : ∃ n : Nat, n < 32 ∧ s = (n : Int) := ⟨s.toNat, by omega, by omega⟩
  obtain ⟨n, hn, rfl⟩ := hk
  have key : ∀ n : Nat, n < 32 → ((jI (n : Int) &&& 31).toBitVec.smod 32).toNat = n := by decide
  have h2 := pk_shr (jI a) (jI (n : Int) &&& 31) n (key n hn)
  rw [jI_toInt ha] at h2
  refine Int32.toInt_inj.mp ?_
  have e9 : ((2 ^ n : Nat) : Int) = (2 : Int) ^ n := by rw [Int.natCast_pow]; rfl
  rw [h2, Int.toNat_natCast, Int.shiftRight_eq_div_pow, e9]
  refine (jI_toInt ?_).symm
  have hp : (1 : Int) ≤ 2 ^ n := by
    have h9 : (1 : Int) ≤ ((2 ^ n : Nat) : Int) := by
      have := Nat.pow_pos (n := n) (show 0 < 2 by decide)
      omega
    rw [Int.natCast_pow] at h9
    exact h9
  by_cases hs : 0 ≤ a
  · have q1 := Int.ediv_le_self (2 ^ n) hs
    have q2 := Int.ediv_nonneg hs (show (0 : Int) ≤ 2 ^ n by omega)
    have := ha.2
    exact ⟨by omega, by omega⟩
  · have q1 : a ≤ a / 2 ^ n := Int.le_ediv_of_mul_le (by omega) (by
      have := Int.mul_le_mul_of_nonpos_left (show a ≤ 0 by omega) hp
      omega)
    have q2 := Int.ediv_neg_of_neg_of_pos (show a < 0 by omega) (show (0 : Int) < 2 ^ n by omega)
    have := ha.1
    exact ⟨by omega, by omega⟩
end JW
