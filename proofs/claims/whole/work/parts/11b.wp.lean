/-! MORE ROWS: constants, switches, ends, locals that are known less -/
section ZWX
variable {y pc len pc1 : Nat} {L L1 : zx_L} {st st1 : List Value} {σ σ1 : zx_S} {Q : Option Value → zx_S → Prop} {M : zx_M} {ins : Instr}
theorem zw_iconst (hM : zt_M y = some M) {n : Int} {v : Int32} (hd : decode M.2.1 pc = .ok (.iconst n, 1)) (hv : Int32.ofInt n = v) (k : zw y (pc + 1) L (.int v :: st) σ Q) : zw y pc L st σ Q :=
  zw_go hM hd rfl rfl rfl (by subst hv; rfl) k
theorem zw_bipush (hM : zt_M y = some M) {n : Int} {v : Int32} (hd : decode M.2.1 pc = .ok (.bipush n, 2)) (hv : (Int8.ofInt n).toInt32 = v) (k : zw y (pc + 2) L (.int v :: st) σ Q) : zw y pc L st σ Q :=
  zw_go hM hd rfl rfl rfl (by subst hv; rfl) k
theorem zw_sipush (hM : zt_M y = some M) {n : Int} {v : Int32} (hd : decode M.2.1 pc = .ok (.sipush n, 3)) (hv : (Int16.ofInt n).toInt32 = v) (k : zw y (pc + 3) L (.int v :: st) σ Q) : zw y pc L st σ Q :=
  zw_go hM hd rfl rfl rfl (by subst hv; rfl) k
theorem zw_ldc (hM : zt_M y = some M) {i : Nat} {v : Int32} (hd : decode M.2.1 pc = .ok (.ldc i, 2)) (hv : zt_K M.2.2.2.2.1 i = some v) (k : zw y (pc + 2) L (.int v :: st) σ Q) : zw y pc L st σ Q :=
  zw_go hM hd rfl rfl rfl (by simp only [zx_step, hv]; rfl) k
theorem zw_ldc2 (hM : zt_M y = some M) {i : Nat} {v : Int64} (hd : decode M.2.1 pc = .ok (.ldc2_w i, 3)) (hv : zt_J M.2.2.2.2.1 i = some v) (k : zw y (pc + 3) L (.long v :: st) σ Q) : zw y pc L st σ Q :=
  zw_go hM hd rfl rfl rfl (by simp only [zx_step, hv]; rfl) k
theorem zw_goto (hM : zt_M y = some M) {off : Int} {tgt : Nat} (hd : decode M.2.1 pc = .ok (.goto off, 3)) (ht : zx_tgt pc off = some tgt) (k : zw y tgt L st σ Q) : zw y pc L st σ Q :=
  zw_go hM hd rfl rfl rfl (by simp only [zx_step, zx_jmp, ht]; rfl) k
theorem zw_sw (hM : zt_M y = some M) {dflt lo hi off : Int} {offs : Array Int} {x : Int32} {tgt : Nat} (hd : decode M.2.1 pc = .ok (.tableswitch dflt lo hi offs, len)) (hx : zx_sw dflt lo hi offs x = some off) (ht : zx_tgt pc off = some tgt) (k : zw y tgt L st σ Q) : zw y pc L (.int x :: st) σ Q :=
  zw_go hM hd rfl rfl rfl (by simp only [zx_step, hx, zx_jmp, ht]; rfl) k
theorem zw_reti (hM : zt_M y = some M) {v : Int32} (hd : decode M.2.1 pc = .ok (.ireturn, 1)) (hr : M.2.2.2.1 = some .int) {K : Int32 → zx_S → Prop} (k : K v σ) : zwI y pc L [.int v] σ K :=
  zw_ret hM hd rfl rfl (by rw [hr]; rfl) ⟨v, rfl, k⟩
theorem zw_retz (hM : zt_M y = some M) {v : Int32} (hd : decode M.2.1 pc = .ok (.ireturn, 1)) (hr : M.2.2.2.1 = some .boolean) (hv : v = 0 ∨ v = 1) {K : Int32 → zx_S → Prop} (k : K v σ) : zwI y pc L [.int v] σ K :=
  zw_ret hM hd rfl rfl (by rw [hr]; simp only [zx_ret, ↓reduceIte]; rw [if_pos hv]) ⟨v, rfl, k⟩
theorem zw_retv (hM : zt_M y = some M) (hd : decode M.2.1 pc = .ok (.return_, 1)) (hr : M.2.2.2.1 = none) {K : zx_S → Prop} (k : K σ) : zwV y pc L [] σ K :=
  zw_ret hM hd rfl rfl (by rw [hr]; rfl) ⟨rfl, k⟩
theorem zw_reta (hM : zt_M y = some M) {v : Nat} {nm : String} (hd : decode M.2.1 pc = .ok (.areturn, 1)) (hr : M.2.2.2.1 = some (.object nm)) {K : Nat → zx_S → Prop} (k : K v σ) : zwR y pc L [.ref v] σ K :=
  zw_ret hM hd rfl rfl (by rw [hr]; rfl) ⟨v, rfl, k⟩
end ZWX
theorem zx_calV {c i z : Nat} (h : zt_C c i = some (0, z)) : zx_cal c (.invokevirtual i) = some (0, z) := by simp only [zx_cal, h]
theorem zx_calS {c i z : Nat} (h : zt_C c i = some (1, z)) : zx_cal c (.invokestatic i) = some (1, z) := by simp only [zx_cal, h]
theorem zx_calI {c i z : Nat} (h : zt_C c i = some (2, z)) : zx_cal c (.invokespecial i) = some (2, z) := by simp only [zx_cal, h]
theorem zx_args0 {c o : Nat} {as : List Value} {σ : zx_S} (hk : zK σ o = 13 + c) (ha : as.all (fun v => v.category == 1) = true) : zx_args 0 c (.ref o :: as) σ = true := by
  simp only [zx_args, List.all_cons, ha, hk]
  simp [Value.category]
theorem zx_sw_in {dflt lo hi off : Int} {offs : Array Int} {x c : Int32} (hx : x = c) (h : zx_sw dflt lo hi offs c = some off) : zx_sw dflt lo hi offs x = some off := by rw [hx]; exact h
theorem zx_sw_out {dflt lo hi : Int} {offs : Array Int} {x : Int32} (h : x.toInt < lo ∨ hi < x.toInt) : zx_sw dflt lo hi offs x = some dflt := if_pos h
theorem zx_ne {x c : Int32} {n : Int} (h : ¬ x = c) (hc : c.toInt = n) : x.toInt ≠ n := fun q => h (Int32.toInt_inj.mp (q.trans hc.symm))
/-- locals that are known less -/
def zx_leP : zx_L → zx_L → Prop
  | [], [] => True
  | none :: a, _ :: b => zx_leP a b
  | some v :: a, some w :: b => v = w ∧ zx_leP a b
  | _, _ => False
def zx_le (A B : zx_L) : Prop := A.length = B.length ∧ ∀ (i : Nat) (v : Value), A[i]? = some (some v) → B[i]? = some (some v)
theorem zx_le_of : ∀ {A B : zx_L}, zx_leP A B → zx_le A B
  | [], [], _ => ⟨rfl, fun i v h => by cases h⟩
  | none :: a, _ :: b, h => by
    have ih := zx_le_of (A := a) (B := b) h
    refine ⟨by simp [ih.1], fun i v hi => ?_⟩
    cases i with
    | zero => cases hi
    | succ i => exact ih.2 i v hi
  | some v :: a, some w :: b, h => by
    obtain ⟨rfl, h⟩ := h
    have ih := zx_le_of (A := a) (B := b) h
    refine ⟨by simp [ih.1], fun i u hi => ?_⟩
    cases i with
    | zero => exact hi
    | succ i => exact ih.2 i u hi
theorem zx_le.get {A B : zx_L} (h : zx_le A B) {i : Nat} {v : Value} (hi : zx_get A i = some v) : zx_get B i = some v := by
  unfold zx_get at hi ⊢
  split at hi
  next w e => cases hi; rw [h.2 i v e]
  next => cases hi
theorem zx_le.clob {A B : zx_L} (h : zx_le A B) (i : Nat) : zx_le (zx_clob A i) (zx_clob B i) := by
  refine ⟨by rw [zx_clob_len, zx_clob_len]; exact h.1, fun j v hj => ?_⟩
  obtain ⟨g1, g2⟩ := zx_clob_get hj
  have g3 := h.2 j v g1
  unfold zx_clob
  split
  · exact g3
  next i' =>
    split
    next w e =>
      split
      next hc =>
        by_cases ej : j = i'
        · subst ej
          rw [g3] at e
          cases e
          exact absurd ⟨rfl, hc⟩ g2
        · rw [List.getElem?_set_ne (Ne.symm ej)]; exact g3
      next => exact g3
    next => exact g3
theorem zx_le.set {A B : zx_L} (h : zx_le A B) (i : Nat) (x : Option Value) : zx_le (A.set i x) (B.set i x) := by
  refine ⟨by simp [h.1], fun j v hj => ?_⟩
  by_cases e : j = i
  · subst e
    by_cases hl : j < A.length
    · rw [List.getElem?_set_self hl] at hj
      rw [List.getElem?_set_self (by rw [← h.1]; exact hl)]
      exact hj
    · rw [List.getElem?_eq_none (by simpa using hl)] at hj; cases hj
  · rw [List.getElem?_set_ne (Ne.symm e)] at hj ⊢
    exact h.2 j v hj
set_option maxHeartbeats 4000000 in
theorem zx_step_le {c : Nat} {ini room : Bool} {ins : Instr} {len pc pc1 : Nat} {A A1 B : zx_L} {st st1 : List Value} {σ σ1 : zx_S} (hl : zx_le A B) (h : zx_step c ini room ins len pc A st σ = some (pc1, A1, st1, σ1)) : ∃ B1, zx_step c ini room ins len pc B st σ = some (pc1, B1, st1, σ1) ∧ zx_le A1 B1 := by
  have hlen := hl.1
  have hst1 : ∀ i v, zx_le (zx_st1 A i v) (zx_st1 B i v) := fun i v => (hl.clob i).set i _
  have hst2 : ∀ i v, zx_le (zx_st2 A i v) (zx_st2 B i v) := fun i v => ((hl.clob i).set i _).set (i + 1) _
  cases ins with
  | iload_n k =>
    simp only [zx_step, zx_ild] at h ⊢
    split at h
    next q =>
      rw [if_pos q]
      split at h
      next x ex => cases h; rw [hl.get ex]; exact ⟨_, rfl, hl⟩
      next => cases h
    next => cases h
  | iload k =>
    simp only [zx_step, zx_ild] at h ⊢
    split at h
    next q =>
      rw [if_pos q]
      split at h
      next x ex => cases h; rw [hl.get ex]; exact ⟨_, rfl, hl⟩
      next => cases h
    next => cases h
  | lload_n k =>
    simp only [zx_step, zx_lld] at h ⊢
    split at h
    next q =>
      rw [if_pos q]
      split at h
      next x ex => cases h; rw [hl.get ex]; exact ⟨_, rfl, hl⟩
      next => cases h
    next => cases h
  | aload_n k =>
    simp only [zx_step, zx_ald] at h ⊢
    split at h
    next q =>
      rw [if_pos q]
      split at h
      next x ex => cases h; rw [hl.get ex]; exact ⟨_, rfl, hl⟩
      next => cases h
    next => cases h
  | aload k =>
    simp only [zx_step, zx_ald] at h ⊢
    split at h
    next q =>
      rw [if_pos q]
      split at h
      next x ex => cases h; rw [hl.get ex]; exact ⟨_, rfl, hl⟩
      next => cases h
    next => cases h
  | istore_n k =>
    simp only [zx_step, zx_ist, hlen] at h ⊢
    split at h
    next q =>
      rw [if_pos q]
      split at h
      next x r => cases h; exact ⟨_, rfl, hst1 _ _⟩
      next => cases h
    next => cases h
  | istore k =>
    simp only [zx_step, zx_ist, hlen] at h ⊢
    split at h
    next q =>
      rw [if_pos q]
      split at h
      next x r => cases h; exact ⟨_, rfl, hst1 _ _⟩
      next => cases h
    next => cases h
  | astore_n k =>
    simp only [zx_step, zx_ast, hlen] at h ⊢
    split at h
    next q =>
      rw [if_pos q]
      split at h
      next x r => cases h; exact ⟨_, rfl, hst1 _ _⟩
      next => cases h
    next => cases h
  | astore k =>
    simp only [zx_step, zx_ast, hlen] at h ⊢
    split at h
    next q =>
      rw [if_pos q]
      split at h
      next x r => cases h; exact ⟨_, rfl, hst1 _ _⟩
      next => cases h
    next => cases h
  | lstore_n k =>
    simp only [zx_step, zx_lst, hlen] at h ⊢
    split at h
    next q =>
      rw [if_pos q]
      split at h
      next x r => cases h; exact ⟨_, rfl, hst2 _ _⟩
      next => cases h
    next => cases h
  | iinc i n =>
    simp only [zx_step, hlen] at h ⊢
    split at h
    next q =>
      rw [if_pos q]
      split at h
      next x ex => cases h; rw [hl.get ex]; exact ⟨_, rfl, hst1 _ _⟩
      next => cases h
    next => cases h
  | putfield i =>
    simp only [zx_step] at h ⊢
    split at h
    next q =>
      rw [if_pos q]
      split at h
      next ci k hF =>
        split at h
        next v o r hty =>
          split at h
          next hk => cases h; (try dsimp only); rw [if_pos hk]; exact ⟨_, rfl, hl⟩
          next => cases h
        next nm v o r hty =>
          split at h
          next hk => cases h; (try dsimp only); rw [if_pos hk]; exact ⟨_, rfl, hl⟩
          next => cases h
        next nm v o r hty =>
          split at h
          next hk => cases h; (try dsimp only); rw [if_pos hk]; exact ⟨_, rfl, hl⟩
          next => cases h
        next => cases h
      next => cases h
    next => cases h
  | invokestatic i =>
    simp only [zx_step] at h ⊢
    split at h
    next q =>
      rw [if_pos q]
      split at h
      next z y x r hC => cases h; (try dsimp only); exact ⟨_, rfl, hl⟩
      next z n dp b sp a r hC =>
        split at h
        next hk => cases h; (try dsimp only); rw [if_pos hk]; exact ⟨_, rfl, hl⟩
        next => cases h
      next => cases h
    next => cases h
  | _ =>
    simp only [zx_step, reduceCtorEq] at h ⊢ <;> (try simp only [zx_push, zx_bin, zx_binz, zx_binl, zx_jmp] at h ⊢) <;> (repeat' split at h) <;> first
      | (cases h; done)
      | (cases h; exact ⟨_, rfl, hl⟩)
      | (cases h; refine ⟨B, ?_, hl⟩; simp_all; done)
theorem zx_weak : ∀ (f y pc : Nat) (A B : zx_L) (st : List Value) (σ : zx_S) (x : Option Value × zx_S), zx_le A B → zx f y pc A st σ = some x → zx f y pc B st σ = some x := by
  intro f
  induction f with
  | zero => intro y pc A B st σ x hl h; cases h
  | succ f ih =>
    intro y pc A B st σ x hl h
    unfold zx at h ⊢
    cases hM : zt_M y with
    | none => rw [hM] at h; cases h
    | some M =>
      rw [hM] at h
      dsimp only at h ⊢
      cases hd : decode M.2.1 pc with
      | error er => rw [hd] at h; cases h
      | ok il =>
        obtain ⟨ins, len⟩ := il
        rw [hd] at h
        dsimp only at h ⊢
        cases hc : zx_cal M.2.2.2.2.1 ins with
        | some kz =>
          obtain ⟨kd, z⟩ := kz
          rw [hc] at h
          dsimp only at h ⊢
          cases hZ : zt_M z with
          | none => rw [hZ] at h; cases h
          | some Z =>
            rw [hZ] at h
            dsimp only at h ⊢
            by_cases h6 : kd = 6
            · rw [if_pos h6] at h ⊢
              split at h
              next a p1 p0 x' rs =>
                split at h
                next hcc =>
                  rw [if_pos hcc]
                  split at h
                  next q σ1 hq =>
                    split at h
                    next st1 σ2 ho => exact ih _ _ _ _ _ _ _ hl h
                    next => cases h
                  next => cases h
                next => cases h
              next => cases h
            · rw [if_neg h6] at h ⊢
              split at h
              next hcc =>
                rw [if_pos hcc]
                split at h
                next q σ1 hq =>
                  split at h
                  next st1 ho => exact ih _ _ _ _ _ _ _ hl h
                  next => cases h
                next => cases h
              next => cases h
        | none =>
          rw [hc] at h
          dsimp only at h ⊢
          by_cases ht : zx_thr M.2.2.2.2.1 ins = true
          · rw [if_pos ht] at h ⊢
            exact h
          · rw [if_neg ht] at h ⊢
            cases hr : zx_ret M.2.2.2.1 ins len st with
            | some r => rw [hr] at h; exact h
            | none =>
              rw [hr] at h
              dsimp only at h ⊢
              split at h
              next pc1 A1 st1 σ1 hs =>
                obtain ⟨B1, g1, g2⟩ := zx_step_le hl hs
                rw [g1]
                exact ih _ _ _ _ _ _ _ g2 h
              next => cases h
theorem zw_weak {y pc : Nat} {A B : zx_L} {st : List Value} {σ : zx_S} {Q : Option Value → zx_S → Prop} (hl : zx_leP A B) (h : zw y pc A st σ Q) : zw y pc B st σ Q := by
  obtain ⟨f, r, σ1, h1, h2⟩ := h
  exact ⟨f, r, σ1, zx_weak _ _ _ _ _ _ _ _ (zx_le_of hl) h1, h2⟩
theorem zw_weak2 {y pc : Nat} {A B : zx_L} {st : List Value} {σ : zx_S} {Q : Option Value → zx_S → Prop} (h : zw y pc A st σ Q) (hl : zx_leP A B) : zw y pc B st σ Q := zw_weak hl h
