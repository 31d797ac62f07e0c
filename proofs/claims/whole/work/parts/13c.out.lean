/-! THE LAW'S OWN out: TreeImages.out answers or throws; the law's out catches that -/
/-- the class's exception and what is above it -/
def zo_up : List String := ["java/lang/IndexOutOfBoundsException", "java/lang/RuntimeException", "java/lang/Exception"]
abbrev zo_XE : String := RJx00060
def zo_ws : List Cond := [Cond.codeWith yL_out cL_out 5 (some .int) [(0, 10, 13, 13)], Cond.classLink RL 13 zo_XE, Cond.methodLink RL 71 yL_out, Cond.static yL_out, Cond.initialized RL, Cond.methodLink RL 7 yX6_out, Cond.instanceMethod yX6_out, Cond.selects RX6 yX6_out yX6_out, Cond.initialized RX6, Cond.code yX6_out cX6_out 3 (some .int), Cond.classLink RX6 127 zo_XE, Cond.initialized zo_XE] ++ (vx_at0 RX6 129 zo_XE zo_up).filter goodWord
theorem zo_ws_in : ∀ w ∈ zo_ws, w ∈ lw_tbl := by decide +kernel
theorem zo_ws_good : zo_ws.all goodWord = true := by decide +kernel
def zo_all : List Cond := zo_ws ++ zt_all
theorem zo_all_good : GoodIn lw_tbl zo_all := fun w hw => by
  rcases List.mem_append.mp hw with h | h
  · exact ⟨zo_ws_in w h, good_of_word (List.all_eq_true.mp zo_ws_good w h)⟩
  · exact zt_good w h
theorem zo_good {ws : List Cond} (h : ∀ w ∈ ws, w ∈ zo_all) : GoodIn zo_all ws := fun w hw => ⟨h w hw, (zo_all_good w (h w hw)).2⟩
def zo_B : List Cond := [Cond.castable zo_XE zo_XE, Cond.declares ⟨"java/lang/IndexOutOfBoundsException", "<init>", "()V"⟩, Cond.declares ⟨"java/lang/RuntimeException", "<init>", "()V"⟩, Cond.declares ⟨"java/lang/Exception", "<init>", "()V"⟩, Cond.declares ⟨"java/lang/Throwable", "<init>", "()V"⟩]
theorem zo_bad : ∀ w ∈ (vx_at0 RX6 129 zo_XE zo_up).filter (fun w => !goodWord w), w ∈ zo_B := by decide +kernel
theorem zo_B_in : ∀ w ∈ zo_B, w ∈ lw_tbl := by decide +kernel
theorem zo_ot : ∀ w ∈ Cond.classLink RX6 127 zo_XE :: Cond.initialized zo_XE :: vx_at0 RX6 129 zo_XE zo_up, vx_ot w = true := by decide +kernel
/-- what the law's start says besides -/
def zo_G (S0 : State) (base : Nat) : Prop := (∀ w ∈ zo_B, w.before #[] S0 = true) ∧ vx_Zq Bundle.tN "UNASSIGNED_STACK" Bundle.steD (fun q => base ≤ q) S0 S0.heap ∧ vx_Zq Bundle.tN "SUPPRESSED_SENTINEL" Bundle.listD (fun q => base ≤ q) S0 S0.heap
theorem zo_move {s U : State} {a b : Array Value} (h : s.vm.Alike U.vm) {w : Cond} (hw : w ∈ zo_B) (hc : w.before a s = true) : w.before b U = true := by
  have h1 : w.before a (s.setVm U.vm) = true := by
    simp only [zo_B, List.mem_cons, List.not_mem_nil, or_false] at hw
    rcases hw with rfl | rfl | rfl | rfl | rfl
    · rw [Cond.castable_setVm h]; exact hc
    all_goals (rw [Cond.declares_setVm h]; exact hc)
  have ht : w.onTables = true := by
    simp only [zo_B, List.mem_cons, List.not_mem_nil, or_false] at hw
    rcases hw with rfl | rfl | rfl | rfl | rfl <;> rfl
  exact va_tabs ht (rfl : (s.setVm U.vm).vm = U.vm) h1
theorem zo_big {cc : ByteArray} {pc : Nat} (h : cc.size ≤ pc) (r : Instr × Nat) : decode cc pc ≠ .ok r := by
  have hu : (Reader.u1 : Decoder Nat).runAt cc pc = .error (HasTruncated.truncated pc) := by
    have h2 : ¬ pc < cc.size := by omega
    have e : (Reader.u1 : Decoder Nat).runAt cc pc = ((if h : pc < cc.size then (do set (pc + 1); return cc[pc].toNat) else throw (HasTruncated.truncated pc) : Decoder Nat)).runAt cc pc := rfl
    rw [e, dif_neg h2]
    rfl
  have hk : ∃ k : Nat → Decoder Instr, Decoder.instr pc = (Reader.u1 >>= k) := ⟨_, rfl⟩
  obtain ⟨k, hk⟩ := hk
  intro e
  unfold decode at e
  rw [hk] at e
  have e1 : (Reader.u1 >>= k : Decoder Instr).runAt cc pc = ((Reader.u1 : Decoder Nat).runAt cc pc >>= fun q => (k q.1).runAt cc q.2) := rfl
  rw [e1, hu] at e
  cases e
theorem zo_pc {pc len i : Nat} (h : decode cX6_out pc = .ok (.new i, len)) : pc = 27 ∧ len = 3 := by
  have hs : cX6_out.size = 46 := by decide +kernel
  by_cases hp : pc < 46
  · have key : (List.range 46).all (fun pc => match decode cX6_out pc with
      | .ok (.new _, len) => pc == 27 && len == 3
      | _ => true) = true := by decide +kernel
    have k2 := List.all_eq_true.mp key pc (List.mem_range.mpr hp)
    rw [h] at k2
    simpa using k2
  · exact absurd h (zo_big (by omega) _)
set_option maxHeartbeats 4000000 in
/-- kinds and lengths are kept -/
theorem zx_step_k {c : Nat} {ini room : Bool} {ins : Instr} {len pc pc1 : Nat} {L L1 : zx_L} {st st1 : List Value} {σ σ1 : zx_S} (h : zx_step c ini room ins len pc L st σ = some (pc1, L1, st1, σ1)) {k : Nat} (hk : k < zn σ) : zK σ1 k = zK σ k ∧ zN σ1 k = zN σ k := by
  have hn : ∀ kd ln sl, zK (zx_nw σ kd ln sl) k = zK σ k ∧ zN (zx_nw σ kd ln sl) k = zN σ k := fun kd ln sl => ⟨if_neg (Nat.ne_of_lt hk), if_neg (Nat.ne_of_lt hk)⟩
  cases ins <;> simp only [zx_step, reduceCtorEq] at h <;> try simp only [zx_push, zx_ild, zx_lld, zx_ald, zx_ist, zx_ast, zx_lst, zx_bin, zx_binz, zx_binl, zx_jmp] at h
  all_goals (repeat' split at h)
  all_goals first
    | (cases h; done)
    | (cases h; exact ⟨rfl, rfl⟩)
    | (cases h; exact hn _ _ _)
theorem zx_keep : ∀ (f y pc : Nat) (L : zx_L) (st : List Value) (σ : zx_S) (r : Option Value) (σ1 : zx_S), zx f y pc L st σ = some (r, σ1) → ∀ k, k < zn σ → zK σ1 k = zK σ k ∧ zN σ1 k = zN σ k := by
  intro f
  induction f with
  | zero => intro y pc L st σ r σ1 h; cases h
  | succ f ih =>
    intro y pc L st σ r σ1 h k hk
    unfold zx at h
    split at h
    next => cases h
    next M hM =>
      split at h
      next => cases h
      next ins len hd =>
        split at h
        next kd z hz =>
          split at h
          next => cases h
          next Z hZ =>
            split at h
            next h6 =>
              split at h
              next a p1 p0 x rs =>
                split at h
                next hc =>
                  split at h
                  next q σ2 hq =>
                    split at h
                    next st3 σ3 ho =>
                      have m1 := zx_mono _ _ _ _ _ _ _ _ hq
                      have h3 : zn σ3 = zn σ2 ∧ zK σ3 = zK σ2 ∧ zN σ3 = zN σ2 := by
                        unfold zx_out at ho
                        split at ho
                        · cases ho; exact ⟨rfl, rfl, rfl⟩
                        · cases ho; exact ⟨rfl, rfl, rfl⟩
                        · cases ho
                      have h1 := ih _ _ _ _ _ _ _ hq k hk
                      have h2 := ih _ _ _ _ _ _ _ h k (by omega)
                      rw [h3.2.1, h3.2.2] at h2
                      exact ⟨h2.1.trans h1.1, h2.2.trans h1.2⟩
                    next => cases h
                  next => cases h
                next => cases h
              next => cases h
            next h6 =>
              split at h
              next hc =>
                split at h
                next q σ2 hq =>
                  split at h
                  next st3 ho =>
                    have m1 := zx_mono _ _ _ _ _ _ _ _ hq
                    have h1 := ih _ _ _ _ _ _ _ hq k hk
                    have h2 := ih _ _ _ _ _ _ _ h k (by omega)
                    exact ⟨h2.1.trans h1.1, h2.2.trans h1.2⟩
                  next => cases h
                next => cases h
              next => cases h
        next hz =>
          split at h
          next ht =>
            split at h
            next =>
              cases h
              exact ⟨if_neg (Nat.ne_of_lt hk), if_neg (Nat.ne_of_lt hk)⟩
            next => cases h
          next ht =>
            split at h
            next r' hr =>
              cases h
              exact ⟨rfl, rfl⟩
            next hr =>
              split at h
              next pc1 L1 st1 σ2 hs =>
                have m1 := (zx_step_n hs).2
                have h1 := zx_step_k hs hk
                have h2 := ih _ _ _ _ _ _ _ h k (by omega)
                exact ⟨h2.1.trans h1.1, h2.2.trans h1.2⟩
              next => cases h
