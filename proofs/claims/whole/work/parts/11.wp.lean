/-! RUNS OF THE SMALL MACHINE: zw y pc L st σ Q: from there method y comes to its end, and Q of its answer and the state behind it (by program: wip/tools/mkwp.py) -/
theorem zx_fuel : ∀ (f y pc : Nat) (L : zx_L) (st : List Value) (σ : zx_S) (x : Option Value × zx_S), zx f y pc L st σ = some x → ∀ g, f ≤ g → zx g y pc L st σ = some x := by
  intro f
  induction f with
  | zero => intro y pc L st σ x h; cases h
  | succ f ih =>
    intro y pc L st σ x h g hg
    obtain ⟨g, rfl⟩ : ∃ g', g = g' + 1 := ⟨g - 1, by omega⟩
    have hg' : f ≤ g := by omega
    unfold zx at h ⊢
    cases hM : zt_M y with
    | none => rw [hM] at h; cases h
    | some M =>
      rw [hM] at h
      dsimp only at h ⊢
      cases hd : decode M.2.1 pc with
      | error er => rw [hd] at h; cases h
      | ok il =>
        obtain ⟨ins, len⟩ := il
        rw [hd] at h
        dsimp only at h ⊢
        cases hc : zx_cal M.2.2.2.2.1 ins with
        | some kz =>
          obtain ⟨kd, z⟩ := kz
          rw [hc] at h
          dsimp only at h ⊢
          cases hZ : zt_M z with
          | none => rw [hZ] at h; cases h
          | some Z =>
            rw [hZ] at h
            dsimp only at h ⊢
            by_cases h6 : kd = 6
            · rw [if_pos h6] at h ⊢
              split at h
              next a p1 p0 x' rs =>
                split at h
                next hcc =>
                  rw [if_pos hcc]
                  cases hq : zx f z 0 (zx_entry [.ref x', .int p0, .int p1] Z.2.2.1) [] σ with
                  | none => rw [hq] at h; cases h
                  | some rq =>
                    obtain ⟨q, σ1⟩ := rq
                    rw [hq] at h
                    rw [ih _ _ _ _ _ _ hq g hg']
                    dsimp only at h ⊢
                    cases ho : zx_out q a rs σ1 with
                    | none => rw [ho] at h; cases h
                    | some oo =>
                      obtain ⟨st1, σ2⟩ := oo
                      rw [ho] at h
                      exact ih _ _ _ _ _ _ h g hg'
                next => cases h
              next => cases h
            · rw [if_neg h6] at h ⊢
              split at h
              next hcc =>
                rw [if_pos hcc]
                cases hq : zx f z 0 (zx_entry ((st.take Z.2.2.2.2.2.1).reverse) Z.2.2.1) [] σ with
                | none => rw [hq] at h; cases h
                | some rq =>
                  obtain ⟨q, σ1⟩ := rq
                  rw [hq] at h
                  rw [ih _ _ _ _ _ _ hq g hg']
                  dsimp only at h ⊢
                  cases ho : zx_back q (st.drop Z.2.2.2.2.2.1) with
                  | none => rw [ho] at h; cases h
                  | some st1 =>
                    rw [ho] at h
                    exact ih _ _ _ _ _ _ h g hg'
              next => cases h
        | none =>
          rw [hc] at h
          dsimp only at h ⊢
          by_cases ht : zx_thr M.2.2.2.2.1 ins = true
          · rw [if_pos ht] at h ⊢
            exact h
          · rw [if_neg ht] at h ⊢
            cases hr : zx_ret M.2.2.2.1 ins len st with
            | some r => rw [hr] at h; exact h
            | none =>
              rw [hr] at h
              dsimp only at h ⊢
              split at h
              next pc1 L1 st1 σ1 hs =>
                exact ih _ _ _ _ _ _ h g hg'
              next => cases h
def zw (y pc : Nat) (L : zx_L) (st : List Value) (σ : zx_S) (Q : Option Value → zx_S → Prop) : Prop := ∃ (f : Nat) (r : Option Value) (σ1 : zx_S), zx f y pc L st σ = some (r, σ1) ∧ Q r σ1
theorem zw.mono {y pc : Nat} {L : zx_L} {st : List Value} {σ : zx_S} {Q Q' : Option Value → zx_S → Prop} (h : zw y pc L st σ Q) (hq : ∀ r σ1, Q r σ1 → Q' r σ1) : zw y pc L st σ Q' := by
  obtain ⟨f, r, σ1, h1, h2⟩ := h
  exact ⟨f, r, σ1, h1, hq r σ1 h2⟩
/-- ends with an int, with nothing, with a reference -/
def zwI (y pc : Nat) (L : zx_L) (st : List Value) (σ : zx_S) (K : Int32 → zx_S → Prop) : Prop := zw y pc L st σ (fun r σ1 => ∃ v, r = some (.int v) ∧ K v σ1)
def zwV (y pc : Nat) (L : zx_L) (st : List Value) (σ : zx_S) (K : zx_S → Prop) : Prop := zw y pc L st σ (fun r σ1 => r = none ∧ K σ1)
def zwR (y pc : Nat) (L : zx_L) (st : List Value) (σ : zx_S) (K : Nat → zx_S → Prop) : Prop := zw y pc L st σ (fun r σ1 => ∃ a, r = some (.ref a) ∧ K a σ1)
theorem zwI.mono {y pc : Nat} {L : zx_L} {st : List Value} {σ : zx_S} {K K' : Int32 → zx_S → Prop} (h : zwI y pc L st σ K) (hk : ∀ v σ1, K v σ1 → K' v σ1) : zwI y pc L st σ K' := zw.mono h (fun _ _ ⟨v, a, b⟩ => ⟨v, a, hk v _ b⟩)
theorem zwV.mono {y pc : Nat} {L : zx_L} {st : List Value} {σ : zx_S} {K K' : zx_S → Prop} (h : zwV y pc L st σ K) (hk : ∀ σ1, K σ1 → K' σ1) : zwV y pc L st σ K' := zw.mono h (fun _ _ ⟨a, b⟩ => ⟨a, hk _ b⟩)
theorem zwR.mono {y pc : Nat} {L : zx_L} {st : List Value} {σ : zx_S} {K K' : Nat → zx_S → Prop} (h : zwR y pc L st σ K) (hk : ∀ v σ1, K v σ1 → K' v σ1) : zwR y pc L st σ K' := zw.mono h (fun _ _ ⟨v, a, b⟩ => ⟨v, a, hk v _ b⟩)
section ZWR
variable {y pc len pc1 : Nat} {L L1 : zx_L} {st st1 : List Value} {σ σ1 : zx_S} {Q : Option Value → zx_S → Prop} {M : zx_M} {ins : Instr}
/-- an instruction -/
theorem zw_go (hM : zt_M y = some M) (hd : decode M.2.1 pc = .ok (ins, len)) (hc : zx_cal M.2.2.2.2.1 ins = none) (ht : zx_thr M.2.2.2.2.1 ins = false) (hr : zx_ret M.2.2.2.1 ins len st = none) (h : zx_step M.2.2.2.2.1 (M.1.name == "<init>") (decide (1 ≤ M.2.2.2.2.2.2.1 ∧ 40 ≤ M.2.2.2.2.2.2.2)) ins len pc L st σ = some (pc1, L1, st1, σ1)) (k : zw y pc1 L1 st1 σ1 Q) : zw y pc L st σ Q := by
  obtain ⟨f, r, σ2, h1, h2⟩ := k
  refine ⟨f + 1, r, σ2, ?_, h2⟩
  unfold zx
  rw [hM]
  dsimp only
  rw [hd]
  dsimp only
  rw [hc]
  dsimp only
  rw [if_neg (by rw [ht]; decide), hr]
  dsimp only
  rw [h]
  exact h1
/-- a method's end -/
theorem zw_ret (hM : zt_M y = some M) (hd : decode M.2.1 pc = .ok (ins, len)) (hc : zx_cal M.2.2.2.2.1 ins = none) (ht : zx_thr M.2.2.2.2.1 ins = false) {r : Option Value} (hr : zx_ret M.2.2.2.1 ins len st = some r) (k : Q r σ) : zw y pc L st σ Q := by
  refine ⟨1, r, σ, ?_, k⟩
  unfold zx
  rw [hM]
  dsimp only
  rw [hd]
  dsimp only
  rw [hc]
  dsimp only
  rw [if_neg (by rw [ht]; decide), hr]
/-- a throw -/
theorem zw_thr (hM : zt_M y = some M) (hd : decode M.2.1 pc = .ok (ins, len)) (hc : zx_cal M.2.2.2.2.1 ins = none) (ht : zx_thr M.2.2.2.2.1 ins = true) (k : Q (some (.retAddr 0)) (zx_nw σ 0 0 6)) : zw y pc L [] σ Q := by
  refine ⟨1, _, _, ?_, k⟩
  unfold zx
  rw [hM]
  dsimp only
  rw [hd]
  dsimp only
  rw [hc]
  dsimp only
  rw [if_pos ht]
/-- a call -/
theorem zw_call {kd z : Nat} {Z : zx_M} {as rest : List Value} {E : zx_L} (hM : zt_M y = some M) (hd : decode M.2.1 pc = .ok (ins, 3)) (hc : zx_cal M.2.2.2.2.1 ins = some (kd, z)) (hZ : zt_M z = some Z) (h6 : (kd == 6) = false)
    (hst : st = as.reverse ++ rest) (hn : as.length = Z.2.2.2.2.2.1) (hroom : (decide (Z.2.2.2.2.2.2.1 < M.2.2.2.2.2.2.1) && decide (19 + Z.2.2.1 + Z.2.2.2.2.2.2.2 ≤ M.2.2.2.2.2.2.2) && decide (Z.2.2.2.2.2.1 ≤ Z.2.2.1)) = true) (hsum : Nat.ble ((rest.map fun v => v.category).sum) 8 = true) (hargs : zx_args kd Z.2.2.2.2.1 as σ = true) (hE : zx_entry as Z.2.2.1 = E)
    (k : zw z 0 E [] σ (fun r σ1 => ∃ st1, zx_back r rest = some st1 ∧ zw y (pc + 3) L st1 σ1 Q)) : zw y pc L st σ Q := by
  obtain ⟨f, r, σ2, h1, st1, h2, f2, r2, σ3, h3, h4⟩ := k
  have e1 : st.take Z.2.2.2.2.2.1 = as.reverse := by rw [hst, ← hn, ← List.length_reverse, List.take_left]
  have e2 : st.drop Z.2.2.2.2.2.1 = rest := by rw [hst, ← hn, ← List.length_reverse, List.drop_left]
  refine ⟨max f f2 + 1, r2, σ3, ?_, h4⟩
  unfold zx
  rw [hM]
  dsimp only
  rw [hd]
  dsimp only
  rw [hc]
  dsimp only
  rw [hZ]
  dsimp only
  rw [if_neg (fun q => by rw [q] at h6; cases h6), e1, e2, List.reverse_reverse]
  simp only [Bool.and_eq_true, decide_eq_true_eq] at hroom
  rw [if_pos ⟨rfl, by rw [hst, ← hn]; simp, hroom.1.1, hroom.1.2, Nat.le_of_ble_eq_true hsum, hroom.2, hargs⟩, hE, zx_fuel _ _ _ _ _ _ _ h1 _ (Nat.le_max_left _ _)]
  dsimp only
  rw [h2]
  exact zx_fuel _ _ _ _ _ _ _ h3 _ (Nat.le_max_right _ _)
theorem zw_callI {kd z : Nat} {Z : zx_M} {as rest : List Value} {E : zx_L} (hM : zt_M y = some M) (hd : decode M.2.1 pc = .ok (ins, 3)) (hc : zx_cal M.2.2.2.2.1 ins = some (kd, z)) (hZ : zt_M z = some Z) (h6 : (kd == 6) = false) (hst : st = as.reverse ++ rest) (hn : as.length = Z.2.2.2.2.2.1) (hroom : (decide (Z.2.2.2.2.2.2.1 < M.2.2.2.2.2.2.1) && decide (19 + Z.2.2.1 + Z.2.2.2.2.2.2.2 ≤ M.2.2.2.2.2.2.2) && decide (Z.2.2.2.2.2.1 ≤ Z.2.2.1)) = true) (hsum : Nat.ble ((rest.map fun v => v.category).sum) 8 = true) (hargs : zx_args kd Z.2.2.2.2.1 as σ = true) (hE : zx_entry as Z.2.2.1 = E)
    {K : Int32 → zx_S → Prop} (k : zwI z 0 E [] σ K) (kk : ∀ v σ1, K v σ1 → zw y (pc + 3) L (.int v :: rest) σ1 Q) : zw y pc L st σ Q :=
  zw_call hM hd hc hZ h6 hst hn hroom hsum hargs hE (zw.mono k (fun _ σ1 ⟨v, e, h⟩ => by subst e; exact ⟨_, rfl, kk v σ1 h⟩))
theorem zw_callV {kd z : Nat} {Z : zx_M} {as rest : List Value} {E : zx_L} (hM : zt_M y = some M) (hd : decode M.2.1 pc = .ok (ins, 3)) (hc : zx_cal M.2.2.2.2.1 ins = some (kd, z)) (hZ : zt_M z = some Z) (h6 : (kd == 6) = false) (hst : st = as.reverse ++ rest) (hn : as.length = Z.2.2.2.2.2.1) (hroom : (decide (Z.2.2.2.2.2.2.1 < M.2.2.2.2.2.2.1) && decide (19 + Z.2.2.1 + Z.2.2.2.2.2.2.2 ≤ M.2.2.2.2.2.2.2) && decide (Z.2.2.2.2.2.1 ≤ Z.2.2.1)) = true) (hsum : Nat.ble ((rest.map fun v => v.category).sum) 8 = true) (hargs : zx_args kd Z.2.2.2.2.1 as σ = true) (hE : zx_entry as Z.2.2.1 = E)
    {K : zx_S → Prop} (k : zwV z 0 E [] σ K) (kk : ∀ σ1, K σ1 → zw y (pc + 3) L rest σ1 Q) : zw y pc L st σ Q :=
  zw_call hM hd hc hZ h6 hst hn hroom hsum hargs hE (zw.mono k (fun _ σ1 ⟨e, h⟩ => by subst e; exact ⟨_, rfl, kk σ1 h⟩))
theorem zw_callR {kd z : Nat} {Z : zx_M} {as rest : List Value} {E : zx_L} (hM : zt_M y = some M) (hd : decode M.2.1 pc = .ok (ins, 3)) (hc : zx_cal M.2.2.2.2.1 ins = some (kd, z)) (hZ : zt_M z = some Z) (h6 : (kd == 6) = false) (hst : st = as.reverse ++ rest) (hn : as.length = Z.2.2.2.2.2.1) (hroom : (decide (Z.2.2.2.2.2.2.1 < M.2.2.2.2.2.2.1) && decide (19 + Z.2.2.1 + Z.2.2.2.2.2.2.2 ≤ M.2.2.2.2.2.2.2) && decide (Z.2.2.2.2.2.1 ≤ Z.2.2.1)) = true) (hsum : Nat.ble ((rest.map fun v => v.category).sum) 8 = true) (hargs : zx_args kd Z.2.2.2.2.1 as σ = true) (hE : zx_entry as Z.2.2.1 = E)
    {K : Nat → zx_S → Prop} (k : zwR z 0 E [] σ K) (kk : ∀ v σ1, K v σ1 → zw y (pc + 3) L (.ref v :: rest) σ1 Q) : zw y pc L st σ Q :=
  zw_call hM hd hc hZ h6 hst hn hroom hsum hargs hE (zw.mono k (fun _ σ1 ⟨v, e, h⟩ => by subst e; exact ⟨_, rfl, kk v σ1 h⟩))
theorem zw_icmp_eq (hM : zt_M y = some M) {x y9 : Int32} {off : Int} {tgt : Nat} (hd : decode M.2.1 pc = .ok (.if_icmp .eq off, 3)) (hr : zx_ret M.2.2.2.1 (.if_icmp .eq off) 3 (.int y9 :: .int x :: st) = none) (ht : zx_tgt pc off = some tgt) (kt : x = y9 → zw y tgt L st σ Q) (kf : ¬ x = y9 → zw y (pc + 3) L st σ Q) : zw y pc L (.int y9 :: .int x :: st) σ Q := by
  by_cases q : x = y9
  · exact zw_go hM hd rfl rfl hr (by simp only [zx_step, zx_jmp, ht]; rw [show zx_cmp .eq x y9 = true from decide_eq_true q]; rfl) (kt q)
  · exact zw_go hM hd rfl rfl hr (by simp only [zx_step, zx_jmp, ht]; rw [show zx_cmp .eq x y9 = false from decide_eq_false q]; rfl) (kf q)
theorem zw_if_eq (hM : zt_M y = some M) {x : Int32} {off : Int} {tgt : Nat} (hd : decode M.2.1 pc = .ok (.ifCond .eq off, 3)) (hr : zx_ret M.2.2.2.1 (.ifCond .eq off) 3 (.int x :: st) = none) (ht : zx_tgt pc off = some tgt) (kt : x = 0 → zw y tgt L st σ Q) (kf : ¬ x = 0 → zw y (pc + 3) L st σ Q) : zw y pc L (.int x :: st) σ Q := by
  by_cases q : x = 0
  · exact zw_go hM hd rfl rfl hr (by simp only [zx_step, zx_jmp, ht]; rw [show zx_cmp .eq x 0 = true from decide_eq_true q]; rfl) (kt q)
  · exact zw_go hM hd rfl rfl hr (by simp only [zx_step, zx_jmp, ht]; rw [show zx_cmp .eq x 0 = false from decide_eq_false q]; rfl) (kf q)
theorem zw_icmp_ne (hM : zt_M y = some M) {x y9 : Int32} {off : Int} {tgt : Nat} (hd : decode M.2.1 pc = .ok (.if_icmp .ne off, 3)) (hr : zx_ret M.2.2.2.1 (.if_icmp .ne off) 3 (.int y9 :: .int x :: st) = none) (ht : zx_tgt pc off = some tgt) (kt : ¬ x = y9 → zw y tgt L st σ Q) (kf : x = y9 → zw y (pc + 3) L st σ Q) : zw y pc L (.int y9 :: .int x :: st) σ Q := by
  by_cases q : ¬ x = y9
  · exact zw_go hM hd rfl rfl hr (by simp only [zx_step, zx_jmp, ht]; rw [show zx_cmp .ne x y9 = true from decide_eq_true q]; rfl) (kt q)
  · exact zw_go hM hd rfl rfl hr (by simp only [zx_step, zx_jmp, ht]; rw [show zx_cmp .ne x y9 = false from decide_eq_false q]; rfl) (kf (Decidable.of_not_not q))
theorem zw_if_ne (hM : zt_M y = some M) {x : Int32} {off : Int} {tgt : Nat} (hd : decode M.2.1 pc = .ok (.ifCond .ne off, 3)) (hr : zx_ret M.2.2.2.1 (.ifCond .ne off) 3 (.int x :: st) = none) (ht : zx_tgt pc off = some tgt) (kt : ¬ x = 0 → zw y tgt L st σ Q) (kf : x = 0 → zw y (pc + 3) L st σ Q) : zw y pc L (.int x :: st) σ Q := by
  by_cases q : ¬ x = 0
  · exact zw_go hM hd rfl rfl hr (by simp only [zx_step, zx_jmp, ht]; rw [show zx_cmp .ne x 0 = true from decide_eq_true q]; rfl) (kt q)
  · exact zw_go hM hd rfl rfl hr (by simp only [zx_step, zx_jmp, ht]; rw [show zx_cmp .ne x 0 = false from decide_eq_false q]; rfl) (kf (Decidable.of_not_not q))
theorem zw_icmp_lt (hM : zt_M y = some M) {x y9 : Int32} {off : Int} {tgt : Nat} (hd : decode M.2.1 pc = .ok (.if_icmp .lt off, 3)) (hr : zx_ret M.2.2.2.1 (.if_icmp .lt off) 3 (.int y9 :: .int x :: st) = none) (ht : zx_tgt pc off = some tgt) (kt : x < y9 → zw y tgt L st σ Q) (kf : ¬ x < y9 → zw y (pc + 3) L st σ Q) : zw y pc L (.int y9 :: .int x :: st) σ Q := by
  by_cases q : x < y9
  · exact zw_go hM hd rfl rfl hr (by simp only [zx_step, zx_jmp, ht]; rw [show zx_cmp .lt x y9 = true from decide_eq_true q]; rfl) (kt q)
  · exact zw_go hM hd rfl rfl hr (by simp only [zx_step, zx_jmp, ht]; rw [show zx_cmp .lt x y9 = false from decide_eq_false q]; rfl) (kf q)
theorem zw_if_lt (hM : zt_M y = some M) {x : Int32} {off : Int} {tgt : Nat} (hd : decode M.2.1 pc = .ok (.ifCond .lt off, 3)) (hr : zx_ret M.2.2.2.1 (.ifCond .lt off) 3 (.int x :: st) = none) (ht : zx_tgt pc off = some tgt) (kt : x < 0 → zw y tgt L st σ Q) (kf : ¬ x < 0 → zw y (pc + 3) L st σ Q) : zw y pc L (.int x :: st) σ Q := by
  by_cases q : x < 0
  · exact zw_go hM hd rfl rfl hr (by simp only [zx_step, zx_jmp, ht]; rw [show zx_cmp .lt x 0 = true from decide_eq_true q]; rfl) (kt q)
  · exact zw_go hM hd rfl rfl hr (by simp only [zx_step, zx_jmp, ht]; rw [show zx_cmp .lt x 0 = false from decide_eq_false q]; rfl) (kf q)
theorem zw_icmp_ge (hM : zt_M y = some M) {x y9 : Int32} {off : Int} {tgt : Nat} (hd : decode M.2.1 pc = .ok (.if_icmp .ge off, 3)) (hr : zx_ret M.2.2.2.1 (.if_icmp .ge off) 3 (.int y9 :: .int x :: st) = none) (ht : zx_tgt pc off = some tgt) (kt : y9 ≤ x → zw y tgt L st σ Q) (kf : ¬ y9 ≤ x → zw y (pc + 3) L st σ Q) : zw y pc L (.int y9 :: .int x :: st) σ Q := by
  by_cases q : y9 ≤ x
  · exact zw_go hM hd rfl rfl hr (by simp only [zx_step, zx_jmp, ht]; rw [show zx_cmp .ge x y9 = true from decide_eq_true q]; rfl) (kt q)
  · exact zw_go hM hd rfl rfl hr (by simp only [zx_step, zx_jmp, ht]; rw [show zx_cmp .ge x y9 = false from decide_eq_false q]; rfl) (kf q)
theorem zw_if_ge (hM : zt_M y = some M) {x : Int32} {off : Int} {tgt : Nat} (hd : decode M.2.1 pc = .ok (.ifCond .ge off, 3)) (hr : zx_ret M.2.2.2.1 (.ifCond .ge off) 3 (.int x :: st) = none) (ht : zx_tgt pc off = some tgt) (kt : 0 ≤ x → zw y tgt L st σ Q) (kf : ¬ 0 ≤ x → zw y (pc + 3) L st σ Q) : zw y pc L (.int x :: st) σ Q := by
  by_cases q : 0 ≤ x
  · exact zw_go hM hd rfl rfl hr (by simp only [zx_step, zx_jmp, ht]; rw [show zx_cmp .ge x 0 = true from decide_eq_true q]; rfl) (kt q)
  · exact zw_go hM hd rfl rfl hr (by simp only [zx_step, zx_jmp, ht]; rw [show zx_cmp .ge x 0 = false from decide_eq_false q]; rfl) (kf q)
theorem zw_icmp_gt (hM : zt_M y = some M) {x y9 : Int32} {off : Int} {tgt : Nat} (hd : decode M.2.1 pc = .ok (.if_icmp .gt off, 3)) (hr : zx_ret M.2.2.2.1 (.if_icmp .gt off) 3 (.int y9 :: .int x :: st) = none) (ht : zx_tgt pc off = some tgt) (kt : y9 < x → zw y tgt L st σ Q) (kf : ¬ y9 < x → zw y (pc + 3) L st σ Q) : zw y pc L (.int y9 :: .int x :: st) σ Q := by
  by_cases q : y9 < x
  · exact zw_go hM hd rfl rfl hr (by simp only [zx_step, zx_jmp, ht]; rw [show zx_cmp .gt x y9 = true from decide_eq_true q]; rfl) (kt q)
  · exact zw_go hM hd rfl rfl hr (by simp only [zx_step, zx_jmp, ht]; rw [show zx_cmp .gt x y9 = false from decide_eq_false q]; rfl) (kf q)
theorem zw_if_gt (hM : zt_M y = some M) {x : Int32} {off : Int} {tgt : Nat} (hd : decode M.2.1 pc = .ok (.ifCond .gt off, 3)) (hr : zx_ret M.2.2.2.1 (.ifCond .gt off) 3 (.int x :: st) = none) (ht : zx_tgt pc off = some tgt) (kt : 0 < x → zw y tgt L st σ Q) (kf : ¬ 0 < x → zw y (pc + 3) L st σ Q) : zw y pc L (.int x :: st) σ Q := by
  by_cases q : 0 < x
  · exact zw_go hM hd rfl rfl hr (by simp only [zx_step, zx_jmp, ht]; rw [show zx_cmp .gt x 0 = true from decide_eq_true q]; rfl) (kt q)
  · exact zw_go hM hd rfl rfl hr (by simp only [zx_step, zx_jmp, ht]; rw [show zx_cmp .gt x 0 = false from decide_eq_false q]; rfl) (kf q)
theorem zw_icmp_le (hM : zt_M y = some M) {x y9 : Int32} {off : Int} {tgt : Nat} (hd : decode M.2.1 pc = .ok (.if_icmp .le off, 3)) (hr : zx_ret M.2.2.2.1 (.if_icmp .le off) 3 (.int y9 :: .int x :: st) = none) (ht : zx_tgt pc off = some tgt) (kt : x ≤ y9 → zw y tgt L st σ Q) (kf : ¬ x ≤ y9 → zw y (pc + 3) L st σ Q) : zw y pc L (.int y9 :: .int x :: st) σ Q := by
  by_cases q : x ≤ y9
  · exact zw_go hM hd rfl rfl hr (by simp only [zx_step, zx_jmp, ht]; rw [show zx_cmp .le x y9 = true from decide_eq_true q]; rfl) (kt q)
  · exact zw_go hM hd rfl rfl hr (by simp only [zx_step, zx_jmp, ht]; rw [show zx_cmp .le x y9 = false from decide_eq_false q]; rfl) (kf q)
theorem zw_if_le (hM : zt_M y = some M) {x : Int32} {off : Int} {tgt : Nat} (hd : decode M.2.1 pc = .ok (.ifCond .le off, 3)) (hr : zx_ret M.2.2.2.1 (.ifCond .le off) 3 (.int x :: st) = none) (ht : zx_tgt pc off = some tgt) (kt : x ≤ 0 → zw y tgt L st σ Q) (kf : ¬ x ≤ 0 → zw y (pc + 3) L st σ Q) : zw y pc L (.int x :: st) σ Q := by
  by_cases q : x ≤ 0
  · exact zw_go hM hd rfl rfl hr (by simp only [zx_step, zx_jmp, ht]; rw [show zx_cmp .le x 0 = true from decide_eq_true q]; rfl) (kt q)
  · exact zw_go hM hd rfl rfl hr (by simp only [zx_step, zx_jmp, ht]; rw [show zx_cmp .le x 0 = false from decide_eq_false q]; rfl) (kf q)
theorem zw_getI (hM : zt_M y = some M) {i ci k o : Nat} (hd : decode M.2.1 pc = .ok (.getfield i, 3)) (hF : zt_F M.2.2.2.2.1 i = some (ci, k)) (hty : zt_ty ci k = .int) (hk : zK σ o = 10 + ci) (kk : zw y (pc + 3) L (.int (zI σ o k) :: st) σ Q) : zw y pc L (.ref o :: st) σ Q :=
  zw_go hM hd rfl rfl rfl (by simp only [zx_step, hF, hk]; simp only [zx_fv, hty]; rfl) kk
theorem zw_getR (hM : zt_M y = some M) {i ci k o a : Nat} (hd : decode M.2.1 pc = .ok (.getfield i, 3)) (hF : zt_F M.2.2.2.2.1 i = some (ci, k)) (hty : (zt_ty ci k == .int) = false) (hk : zK σ o = 10 + ci) (hr : zR σ o k = some a) (kk : zw y (pc + 3) L (.ref a :: st) σ Q) : zw y pc L (.ref o :: st) σ Q := by
  refine zw_go hM hd rfl rfl rfl ?_ kk
  simp only [zx_step, hF, hk, ↓reduceIte]
  unfold zx_fv
  split
  next q => rw [q] at hty; cases hty
  next => rw [hr]; rfl
theorem zw_putI (hM : zt_M y = some M) {i ci k o : Nat} {v : Int32} (hd : decode M.2.1 pc = .ok (.putfield i, 3)) (hF : zt_F M.2.2.2.2.1 i = some (ci, k)) (hty : zt_ty ci k = .int) (hf : zt_fin ci k = false) (hk : zK σ o = 10 + ci) (e1 : σ1 = zx_pI σ o k v) (kk : zw y (pc + 3) L st σ1 Q) : zw y pc L (.int v :: .ref o :: st) σ Q :=
  zw_go hM hd rfl rfl rfl (by subst e1; simp only [zx_step, hF, hty, hk, hf]; simp) kk
theorem zw_putR (hM : zt_M y = some M) {i ci k o v : Nat} {ty : FieldType} (hd : decode M.2.1 pc = .ok (.putfield i, 3)) (hF : zt_F M.2.2.2.2.1 i = some (ci, k)) (hty : zt_ty ci k = ty) (hob : (match ty with | .object _ => true | .array _ => true | _ => false) = true) (hf : zt_fin ci k = true → (M.1.name == "<init>") = true ∧ ci = 3 + M.2.2.2.2.1) (hk : zK σ o = 10 + ci) (e1 : σ1 = zx_pR σ o k (some v)) (kk : zw y (pc + 3) L st σ1 Q) : zw y pc L (.ref v :: .ref o :: st) σ Q := by
  subst e1
  refine zw_go hM hd rfl rfl rfl ?_ kk
  simp only [zx_step, hF, hty]
  cases ty with
  | object nm => dsimp only; rw [if_pos trivial, if_pos ⟨hk, hf⟩]
  | array t => dsimp only; rw [if_pos trivial, if_pos ⟨hk, hf⟩]
  | _ => cases hob
theorem zw_iald (hM : zt_M y = some M) {a : Nat} {i : Int32} (hd : decode M.2.1 pc = .ok (.iaload, 1)) (hk : (zK σ a = 1 ∨ zK σ a = 4) ∧ zx_in i (zN σ a) = true) (kk : zw y (pc + 1) L (.int (zI σ a i.toNatClampNeg) :: st) σ Q) : zw y pc L (.int i :: .ref a :: st) σ Q :=
  zw_go hM hd rfl rfl rfl (by simp only [zx_step, ↓reduceIte]; rw [if_pos hk]) kk
theorem zw_lald (hM : zt_M y = some M) {a : Nat} {i : Int32} (hd : decode M.2.1 pc = .ok (.laload, 1)) (hk : zK σ a = 2 ∧ zx_in i (zN σ a) = true) (kk : zw y (pc + 1) L (.long (zJ σ a i.toNatClampNeg) :: st) σ Q) : zw y pc L (.int i :: .ref a :: st) σ Q :=
  zw_go hM hd rfl rfl rfl (by simp only [zx_step, ↓reduceIte]; rw [if_pos hk]) kk
theorem zw_aald (hM : zt_M y = some M) {a v : Nat} {i : Int32} (hd : decode M.2.1 pc = .ok (.aaload, 1)) (hk : zK σ a = 3 ∧ zx_in i (zN σ a) = true) (hv : zR σ a i.toNatClampNeg = some v) (kk : zw y (pc + 1) L (.ref v :: st) σ Q) : zw y pc L (.int i :: .ref a :: st) σ Q :=
  zw_go hM hd rfl rfl rfl (by simp only [zx_step, ↓reduceIte]; rw [if_pos hk, hv]; rfl) kk
theorem zw_iast (hM : zt_M y = some M) {a : Nat} {i v : Int32} (hd : decode M.2.1 pc = .ok (.iastore, 1)) (hk : zK σ a = 1 ∧ zx_in i (zN σ a) = true) (e1 : σ1 = zx_pI σ a i.toNatClampNeg v) (kk : zw y (pc + 1) L st σ1 Q) : zw y pc L (.int v :: .int i :: .ref a :: st) σ Q :=
  zw_go hM hd rfl rfl rfl (by subst e1; simp only [zx_step, ↓reduceIte]; rw [if_pos hk]) kk
theorem zw_aast (hM : zt_M y = some M) {a v : Nat} {i : Int32} (hd : decode M.2.1 pc = .ok (.aastore, 1)) (hk : zK σ a = 3 ∧ zK σ v = 14 ∧ zx_in i (zN σ a) = true) (e1 : σ1 = zx_pR σ a i.toNatClampNeg (some v)) (kk : zw y (pc + 1) L st σ1 Q) : zw y pc L (.ref v :: .int i :: .ref a :: st) σ Q :=
  zw_go hM hd rfl rfl rfl (by subst e1; simp only [zx_step, ↓reduceIte]; rw [if_pos hk]) kk
theorem zw_alen (hM : zt_M y = some M) {a : Nat} (hd : decode M.2.1 pc = .ok (.arraylength, 1)) (hk : zK σ a = 1 ∨ zK σ a = 4) (kk : zw y (pc + 1) L (.int (Int32.ofNat (zN σ a)) :: st) σ Q) : zw y pc L (.ref a :: st) σ Q :=
  zw_go hM hd rfl rfl rfl (by simp only [zx_step, ↓reduceIte]; rw [if_pos hk]) kk
theorem zw_newI (hM : zt_M y = some M) {n : Int32} (hd : decode M.2.1 pc = .ok (.newarray .int, 2)) (hk : ¬ n < 0 ∧ n.toNatClampNeg ≤ 100000) (e1 : σ1 = zx_nw σ 1 n.toNatClampNeg n.toNatClampNeg) (kk : zw y (pc + 2) L (.ref (zn σ) :: st) σ1 Q) : zw y pc L (.int n :: st) σ Q :=
  zw_go hM hd rfl rfl rfl (by subst e1; simp only [zx_step, ↓reduceIte]; rw [if_pos hk]) kk
theorem zw_newJ (hM : zt_M y = some M) {n : Int32} (hd : decode M.2.1 pc = .ok (.newarray .long, 2)) (hk : ¬ n < 0 ∧ n.toNatClampNeg ≤ 100000) (e1 : σ1 = zx_nw σ 2 n.toNatClampNeg n.toNatClampNeg) (kk : zw y (pc + 2) L (.ref (zn σ) :: st) σ1 Q) : zw y pc L (.int n :: st) σ Q :=
  zw_go hM hd rfl rfl rfl (by subst e1; simp only [zx_step, ↓reduceIte]; rw [if_pos hk]) kk
theorem zw_newO (hM : zt_M y = some M) {n : Int32} {i : Nat} (hd : decode M.2.1 pc = .ok (.anewarray i, 3)) (hA : zt_A M.2.2.2.2.1 i = true) (hk : ¬ n < 0 ∧ n.toNatClampNeg ≤ 100000) (e1 : σ1 = zx_nw σ 3 n.toNatClampNeg n.toNatClampNeg) (kk : zw y (pc + 3) L (.ref (zn σ) :: st) σ1 Q) : zw y pc L (.int n :: st) σ Q :=
  zw_go hM hd rfl rfl rfl (by subst e1; simp only [zx_step, ↓reduceIte, hA]; rw [if_pos hk]) kk
theorem zw_new (hM : zt_M y = some M) {i ci n : Nat} (hd : decode M.2.1 pc = .ok (.new i, 3)) (hN : zt_N M.2.2.2.2.1 i = some (ci, n)) (ht : zx_thr M.2.2.2.2.1 (.new i) = false) (e1 : σ1 = zx_nw σ (10 + ci) 0 n) (kk : zw y (pc + 3) L (.ref (zn σ) :: st) σ1 Q) : zw y pc L st σ Q :=
  zw_go hM hd rfl ht rfl (by subst e1; simp only [zx_step, ↓reduceIte, hN]) kk
theorem zw_div (hM : zt_M y = some M) {x d : Int32} (hd : decode M.2.1 pc = .ok (.idiv, 1)) (hz : ¬ d = 0) (kk : zw y (pc + 1) L (.int (x / d) :: st) σ Q) : zw y pc L (.int d :: .int x :: st) σ Q :=
  zw_go hM hd rfl rfl rfl (by simp only [zx_step, zx_binz, ↓reduceIte]; rw [if_neg hz]) kk
theorem zw_rem (hM : zt_M y = some M) {x d : Int32} (hd : decode M.2.1 pc = .ok (.irem, 1)) (hz : ¬ d = 0) (kk : zw y (pc + 1) L (.int (x - x / d * d) :: st) σ Q) : zw y pc L (.int d :: .int x :: st) σ Q :=
  zw_go hM hd rfl rfl rfl (by simp only [zx_step, zx_binz, ↓reduceIte]; rw [if_neg hz]) kk
theorem zw_lrem (hM : zt_M y = some M) {x d : Int64} (hd : decode M.2.1 pc = .ok (.lrem, 1)) (hz : ¬ d = 0) (kk : zw y (pc + 1) L (.long (x - x / d * d) :: st) σ Q) : zw y pc L (.long d :: .long x :: st) σ Q :=
  zw_go hM hd rfl rfl rfl (by simp only [zx_step, ↓reduceIte]; rw [if_neg hz]) kk
theorem zw_cpy (hM : zt_M y = some M) {i a b z : Nat} {n dp sp : Int32} (hd : decode M.2.1 pc = .ok (.invokestatic i, 3)) (hC : zt_C M.2.2.2.2.1 i = some (5, z)) (hroom : decide (1 ≤ M.2.2.2.2.2.2.1 ∧ 40 ≤ M.2.2.2.2.2.2.2) = true) (hs : Nat.ble ((.int n :: .int dp :: .ref b :: .int sp :: .ref a :: st : List Value).map fun v => v.category).sum 13 = true)
    (hk : zK σ a = 1 ∧ zK σ b = 1 ∧ ¬ sp < 0 ∧ ¬ dp < 0 ∧ ¬ n < 0 ∧ sp.toNatClampNeg + n.toNatClampNeg ≤ zN σ a ∧ dp.toNatClampNeg + n.toNatClampNeg ≤ zN σ b) (e1 : σ1 = zx_pA σ b (va_cpy (zI σ a) (zI σ b) sp.toNatClampNeg dp.toNatClampNeg n.toNatClampNeg)) (kk : zw y (pc + 3) L st σ1 Q) : zw y pc L (.int n :: .int dp :: .ref b :: .int sp :: .ref a :: st) σ Q :=
  zw_go hM hd (by simp only [zx_cal, hC]) rfl rfl (by subst e1; simp only [zx_step, hC]; rw [if_pos ⟨trivial, hroom, Nat.le_of_ble_eq_true hs⟩, if_pos hk]) kk
theorem zw_min (hM : zt_M y = some M) {i z : Nat} {x v : Int32} (hd : decode M.2.1 pc = .ok (.invokestatic i, 3)) (hC : zt_C M.2.2.2.2.1 i = some (4, z)) (hroom : decide (1 ≤ M.2.2.2.2.2.2.1 ∧ 40 ≤ M.2.2.2.2.2.2.2) = true) (hs : Nat.ble ((.int v :: .int x :: st : List Value).map fun v => v.category).sum 13 = true) (kk : zw y (pc + 3) L (.int (if v < x then v else x) :: st) σ Q) : zw y pc L (.int v :: .int x :: st) σ Q :=
  zw_go hM hd (by simp only [zx_cal, hC]) rfl rfl (by simp only [zx_step, hC]; rw [if_pos ⟨trivial, hroom, Nat.le_of_ble_eq_true hs⟩]) kk
theorem zw_obj (hM : zt_M y = some M) {i z a : Nat} (hd : decode M.2.1 pc = .ok (.invokespecial i, 3)) (hC : zt_C M.2.2.2.2.1 i = some (3, z)) (hroom : decide (1 ≤ M.2.2.2.2.2.2.1 ∧ 40 ≤ M.2.2.2.2.2.2.2) = true) (hs : Nat.ble ((.ref a :: st : List Value).map fun v => v.category).sum 9 = true) (kk : zw y (pc + 3) L st σ Q) : zw y pc L (.ref a :: st) σ Q :=
  zw_go hM hd (by simp only [zx_cal, hC]) rfl rfl (by simp only [zx_step, hC]; rw [if_pos ⟨trivial, hroom, Nat.le_of_ble_eq_true hs⟩]) kk
end ZWR
