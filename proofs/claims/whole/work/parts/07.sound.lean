/-! WHAT THE SMALL MACHINE RUNS, THE REAL ONE RUNS -/
/-- instructions that make a cell -/
def zx_al : Instr → Bool
  | .newarray _ => true
  | .anewarray _ => true
  | .new _ => true
  | _ => false
set_option maxHeartbeats 4000000 in
theorem zx_step_n {c : Nat} {ini room : Bool} {ins : Instr} {len pc pc1 : Nat} {L L1 : zx_L} {st st1 : List Value} {σ σ1 : zx_S} (h : zx_step c ini room ins len pc L st σ = some (pc1, L1, st1, σ1)) : (zx_al ins = false → zn σ1 = zn σ ∧ zs σ1 = zs σ) ∧ zn σ ≤ zn σ1 ∧ zs σ ≤ zs σ1 := by
  have hz : ∀ σ2 : zx_S, zn σ2 = zn σ → zs σ2 = zs σ → (zx_al ins = false → zn σ2 = zn σ ∧ zs σ2 = zs σ) ∧ zn σ ≤ zn σ2 ∧ zs σ ≤ zs σ2 := fun σ2 a b => ⟨fun _ => ⟨a, b⟩, by omega, by omega⟩
  cases ins <;> simp only [zx_step, reduceCtorEq] at h <;> try simp only [zx_push, zx_ild, zx_lld, zx_ald, zx_ist, zx_ast, zx_lst, zx_bin, zx_binz, zx_binl, zx_jmp] at h
  all_goals (repeat' split at h)
  all_goals first
    | (cases h; done)
    | (cases h; exact hz _ rfl rfl)
    | (cases h; exact ⟨fun q => absurd q (by simp [zx_al]), Nat.le_succ _, Nat.le_add_right _ _⟩)
theorem zx_mono : ∀ (f y pc : Nat) (L : zx_L) (st : List Value) (σ : zx_S) (r : Option Value) (σ1 : zx_S), zx f y pc L st σ = some (r, σ1) → zn σ ≤ zn σ1 ∧ zs σ ≤ zs σ1 := by
  intro f
  induction f with
  | zero => intro y pc L st σ r σ1 h; cases h
  | succ f ih =>
    intro y pc L st σ r σ1 h
    unfold zx at h
    split at h
    next => cases h
    next M hM =>
      split at h
      next => cases h
      next ins len hd =>
        split at h
        next kd z hz =>
          split at h
          next => cases h
          next Z hZ =>
            split at h
            next h6 =>
              split at h
              next a p1 p0 x rs =>
                split at h
                next hc =>
                  split at h
                  next q σ2 hq =>
                    split at h
                    next st3 σ3 ho =>
                      have h1 := ih _ _ _ _ _ _ _ hq
                      have h2 := ih _ _ _ _ _ _ _ h
                      have h3 : zn σ3 = zn σ2 ∧ zs σ3 = zs σ2 := by
                        unfold zx_out at ho
                        split at ho
                        · cases ho; exact ⟨rfl, rfl⟩
                        · cases ho; exact ⟨rfl, rfl⟩
                        · cases ho
                      omega
                    next => cases h
                  next => cases h
                next => cases h
              next => cases h
            next h6 =>
              split at h
              next hc =>
                split at h
                next q σ2 hq =>
                  split at h
                  next st3 ho =>
                    have h1 := ih _ _ _ _ _ _ _ hq
                    have h2 := ih _ _ _ _ _ _ _ h
                    omega
                  next => cases h
                next => cases h
              next => cases h
        next hz =>
          split at h
          next ht =>
            split at h
            next =>
              cases h
              exact ⟨Nat.le_succ _, Nat.le_add_right _ _⟩
            next => cases h
          next ht =>
            split at h
            next r' hr =>
              cases h
              exact ⟨Nat.le_refl _, Nat.le_refl _⟩
            next hr =>
              split at h
              next pc1 L1 st1 σ2 hs =>
                have h1 := (zx_step_n hs).2
                have h2 := ih _ _ _ _ _ _ _ h
                omega
              next => cases h
theorem zr_K.warm {D : va_G} {cI cJ cO : ClassId} {S0 s U : State} (h : zr_K D cI cJ cO S0 s) (hW : s.WarmedH U.vm) : zr_K D cI cJ cO S0 U := by
  obtain ⟨h1, h2, h3, h4⟩ := h
  refine ⟨va_K.moved hW.alike h1, ?_, va_AO.moved hW.alike h3, h4.trans hW.alike⟩
  have h5 : ∀ w ∈ zt_nest, (∃ a i x b, w = Cond.methodLinkNest a i x b) := by
    intro w hw
    simp only [zt_nest, List.mem_cons, List.not_mem_nil, or_false] at hw
    rcases hw with rfl | rfl | rfl | rfl <;> exact ⟨_, _, _, _, rfl⟩
  intro w hw
  obtain ⟨a, i, x, b, rfl⟩ := h5 w hw
  exact va_Nw.warmM hW (h2 _ hw)
theorem zr_K.blind {D : va_G} {cI cJ cO : ClassId} {S0 U : State} (h : zr_K D cI cJ cO S0 U) (g : JFrame) (mk : MethodId) (a : Array Value) : zr_K D cI cJ cO S0 (U.calling g mk a) := by
  obtain ⟨h1, h2, h3, h4⟩ := h
  refine ⟨va_K.moved (u := U) (U := U.calling g mk a) (Vm.Alike.refl U.vm) h1, fun w hw => ?_, va_AO.moved (u := U) (U := U.calling g mk a) (Vm.Alike.refl U.vm) h3, h4⟩
  have h5 : ∀ w ∈ zt_nest, w.onTables = true := by decide +kernel
  exact va_Nw.same (h5 w hw) (rfl : U.vm = (U.calling g mk a).vm) (h2 w hw)
section ZW
variable {p : Program} {l : Launch} {e : Env} {R : Room} {s : State} {m : MethodId} {args : Array Value} {below : List Frame} {meth : Method} {c : Code} {Q : State → Prop} {D : va_G} {cI cJ cO : ClassId} {ad : Nat → Nat} {base : Nat} {S0 : State} {M : zx_M} {pc len pc1 : Nat} {L L1 : zx_L} {st st1 : List Value} {σ σ1 : zx_S} {cells slots : Nat}
set_option maxHeartbeats 4000000 in
theorem zr_step (F : zr_Fr p s m args meth c M D cI cJ cO ad base S0) {room : Bool} (hroom : room = true → 1 ≤ R.frames ∧ 40 ≤ R.locals) {ins : Instr} (hd : decode M.2.1 pc = .ok (ins, len)) (h : zx_step M.2.2.2.2.1 (M.1.name == "<init>") room ins len pc L st σ = some (pc1, L1, st1, σ1)) (hcl : cells + (zn σ1 - zn σ) ≤ R.cells) (hsl : slots + (zs σ1 - zs σ) ≤ R.slots)
    (k : zr_W p l e R s m args below meth c Q D cI cJ cO ad base S0 M.2.2.1 pc1 L1 st1 σ1 (cells + (zn σ1 - zn σ)) (slots + (zs σ1 - zs σ))) : zr_W p l e R s m args below meth c Q D cI cJ cO ad base S0 M.2.2.1 pc L st σ cells slots := by
  have hn := (zx_step_n h).1
  have kk : zx_al ins = false → zr_W p l e R s m args below meth c Q D cI cJ cO ad base S0 M.2.2.1 pc1 L1 st1 σ1 cells slots := fun q => by
    obtain ⟨e1, e2⟩ := hn q
    rw [e1, e2, Nat.sub_self, Nat.sub_self] at k
    exact k
  cases ins with
  | iconst n => exact zs_iconst F hd h (kk rfl)
  | bipush n => exact zs_bipush F hd h (kk rfl)
  | sipush n => exact zs_sipush F hd h (kk rfl)
  | lconst n => exact zs_lconst F hd h (kk rfl)
  | ldc i =>
    simp only [zx_step] at h
    split at h
    next v hv => exact zs_ldc F hv hd h (kk rfl)
    next => cases h
  | ldc2_w i =>
    simp only [zx_step] at h
    split at h
    next v hv => exact zs_ldc2 F hv hd h (kk rfl)
    next => cases h
  | iload_n i => exact zs_iload_n F hd h (kk rfl)
  | iload i => exact zs_iload F hd h (kk rfl)
  | lload_n i => exact zs_lload_n F hd h (kk rfl)
  | aload_n i => exact zs_aload_n F hd h (kk rfl)
  | aload i => exact zs_aload F hd h (kk rfl)
  | istore_n i => exact zs_istore_n F hd h (kk rfl)
  | istore i => exact zs_istore F hd h (kk rfl)
  | lstore_n i => exact zs_lstore_n F hd h (kk rfl)
  | astore_n i => exact zs_astore_n F hd h (kk rfl)
  | astore i => exact zs_astore F hd h (kk rfl)
  | iinc i n => exact zs_iinc F hd h (kk rfl)
  | iadd => exact zs_iadd F hd h (kk rfl)
  | isub => exact zs_isub F hd h (kk rfl)
  | imul => exact zs_imul F hd h (kk rfl)
  | iand => exact zs_iand F hd h (kk rfl)
  | ishr => exact zs_ishr F hd h (kk rfl)
  | idiv => exact zs_idiv F hd h (kk rfl)
  | irem => exact zs_irem F hd h (kk rfl)
  | ladd => exact zs_ladd F hd h (kk rfl)
  | lmul => exact zs_lmul F hd h (kk rfl)
  | lrem => exact zs_lrem F hd h (kk rfl)
  | lcmp => exact zs_lcmp F hd h (kk rfl)
  | i2l => exact zs_i2l F hd h (kk rfl)
  | l2i => exact zs_l2i F hd h (kk rfl)
  | dup => exact zs_dup F hd h (kk rfl)
  | dup2 => exact zs_dup2 F hd h (kk rfl)
  | pop => exact zs_pop F hd h (kk rfl)
  | if_icmp cd off => exact zs_icmp F hd h (kk rfl)
  | ifCond cd off => exact zs_ifc F hd h (kk rfl)
  | goto off => exact zs_goto F hd h (kk rfl)
  | tableswitch d lo hi offs => exact zs_tsw F hd h (kk rfl)
  | getfield i => exact zs_getf F hd h (kk rfl)
  | putfield i => exact zs_putf F hd h (kk rfl)
  | iaload => exact zs_iald F hd h (kk rfl)
  | laload => exact zs_lald F hd h (kk rfl)
  | aaload => exact zs_aald F hd h (kk rfl)
  | iastore => exact zs_iast F hd h (kk rfl)
  | lastore => exact zs_last F hd h (kk rfl)
  | aastore => exact zs_aast F hd h (kk rfl)
  | arraylength => exact zs_alen F hd h (kk rfl)
  | newarray t => exact zs_newa F hd h hcl hsl k
  | anewarray i => exact zs_anew F hd h hcl hsl k
  | new i => exact zs_new F hd h hcl hsl k
  | invokespecial i => exact zs_spec F hd h hroom (kk rfl)
  | invokestatic i => exact zs_stat F hd h hroom (by omega) (by omega) (kk rfl)
  | _ => simp only [zx_step, reduceCtorEq] at h
/-- behind a call -/
theorem zr_after {H : Heap} {locs : List Loc} {ls : Array Slot} {st0 rest : List Value} {mc ms : Nat} {v : Option Value} (hr : va_Run p l e R s m args below meth c H locs cells slots mc ms (F0 m pc ls st0) rest (fun _ o t => o = .returned v ∧ zr D cI cJ cO ad base S0 σ1 t.heap) (fun q => base ≤ q)) (hl : ∀ q ∈ locs, base ≤ q.base)
    (kk : ∀ (H1 : Heap) (locs1 : List Loc), zr D cI cJ cO ad base S0 σ1 H1 → (∀ q ∈ locs1, base ≤ q.base) → W p l e R s m args below meth c H1 locs1 (cells + mc) (slots + ms) Q (F0 m (pc + 3) ls (v.toList ++ rest))) : W p l e R s m args below meth c H locs cells slots Q (F0 m pc ls st0) := by
  intro T hT X
  obtain ⟨v', st₀, t, T', LL, h0, X', hL, e1, e2, ⟨hv, hz⟩, sst⟩ := hr T hT X
  cases hv
  obtain ⟨t2, a1, b1⟩ := kk T'.heap (locs ++ LL) (by rw [e1]; exact hz) (fun q hq => (List.mem_append.mp hq).elim (hl q) (hL q)) T' rfl X'
  exact ⟨t2, sst t2 a1, b1⟩
end ZW
