/-! ONE INSTRUCTION OF THE SMALL MACHINE IS ONE OF THE REAL ONE (by program: wip/tools/mksteps.py) -/
/-- what is known in a frame of the method M -/
def zr_Fr (p : Program) (s : State) (m : MethodId) (args : Array Value) (meth : Method) (c : Code) (M : zx_M) (D : va_G) (cI cJ cO : ClassId) (ad : Nat → Nat) (base : Nat) (S0 : State) : Prop :=
  p.tables.exec = Jvm.exec ∧ c.code = M.2.1 ∧ c.maxLocals = M.2.2.1 ∧ s.vm.findClass (zt_own M.2.2.2.2.1) = some m.cls ∧ (∀ w ∈ zt_all, w.before args s = true) ∧ zr_K D cI cJ cO S0 s ∧ meth.sig.returnType = M.2.2.2.1 ∧ meth.locks = false ∧ ((M.1.name == "<init>") = true → meth.name = "<init>") ∧ zr_A ad base
/-- the real machine, from every heap that holds the cells σ and all locals that hold L, goes to Q -/
def zr_W (p : Program) (l : Launch) (e : Env) (R : Room) (s : State) (m : MethodId) (args : Array Value) (below : List Frame) (meth : Method) (c : Code) (Q : State → Prop) (D : va_G) (cI cJ cO : ClassId) (ad : Nat → Nat) (base : Nat) (S0 : State) (nL : Nat) (pc : Nat) (L : zx_L) (st : List Value) (σ : zx_S) (cells slots : Nat) : Prop :=
  ∀ (ls : Array Slot) (H : Heap) (locs : List Loc), zr_L ad ls nL L → zr D cI cJ cO ad base S0 σ H → (∀ q ∈ locs, base ≤ q.base) → W p l e R s m args below meth c H locs cells slots Q (F0 m pc ls (st.map (zr_v ad)))
theorem zt_K_of {c i : Nat} {v : Int32} (h : zt_K c i = some v) : Cond.constant (zt_own c) i v ∈ zt_all := by
  unfold zt_K at h
  obtain ⟨e, he, hv⟩ := Option.map_eq_some_iff.mp h
  have h1 := zo_K e (List.mem_of_find?_eq_some he)
  have h2 := List.find?_some he
  simp only [Bool.and_eq_true, beq_iff_eq] at h2
  rw [h2.1, h2.2, hv] at h1
  exact h1
theorem zt_J_of {c i : Nat} {v : Int64} (h : zt_J c i = some v) : Cond.constantLong (zt_own c) i v ∈ zt_all := by
  unfold zt_J at h
  obtain ⟨e, he, hv⟩ := Option.map_eq_some_iff.mp h
  have h1 := zo_J e (List.mem_of_find?_eq_some he)
  have h2 := List.find?_some he
  simp only [Bool.and_eq_true, beq_iff_eq] at h2
  rw [h2.1, h2.2, hv] at h1
  exact h1
theorem zt_F_of {c i ci k : Nat} (h : zt_F c i = some (ci, k)) : zt_okF (c, i, ci, k) := by
  unfold zt_F at h
  obtain ⟨e, he, hv⟩ := Option.map_eq_some_iff.mp h
  have h1 := zo_F e (List.mem_of_find?_eq_some he)
  have h2 := List.find?_some he
  simp only [Bool.and_eq_true, beq_iff_eq] at h2
  obtain ⟨a, b, d⟩ := e
  dsimp only at h2 hv
  rw [h2.1, h2.2, hv] at h1
  exact h1
theorem zt_N_of {c i ci k : Nat} (h : zt_N c i = some (ci, k)) : zt_okN (c, i, ci, k) := by
  unfold zt_N at h
  obtain ⟨e, he, hv⟩ := Option.map_eq_some_iff.mp h
  have h1 := zo_N e (List.mem_of_find?_eq_some he)
  have h2 := List.find?_some he
  simp only [Bool.and_eq_true, beq_iff_eq] at h2
  obtain ⟨a, b, d⟩ := e
  dsimp only at h2 hv
  rw [h2.1, h2.2, hv] at h1
  exact h1
theorem zt_C_of {c i kd z : Nat} (h : zt_C c i = some (kd, z)) : zt_okC (c, i, kd, z) := by
  unfold zt_C at h
  obtain ⟨e, he, hv⟩ := Option.map_eq_some_iff.mp h
  have h1 := zo_C e (List.mem_of_find?_eq_some he)
  have h2 := List.find?_some he
  simp only [Bool.and_eq_true, beq_iff_eq] at h2
  obtain ⟨a, b, d⟩ := e
  dsimp only at h2 hv
  rw [h2.1, h2.2, hv] at h1
  exact h1
theorem zt_A_of {c i : Nat} (h : zt_A c i = true) : Cond.classLink (zt_own c) i RX1 ∈ zt_all := by
  unfold zt_A at h
  obtain ⟨e, he, hv⟩ := List.any_eq_true.mp h
  simp only [Bool.and_eq_true, beq_iff_eq] at hv
  have h1 := zo_A e he
  rw [hv.1, hv.2] at h1
  exact h1
section ZS
variable {p : Program} {l : Launch} {e : Env} {R : Room} {s : State} {m : MethodId} {args : Array Value} {below : List Frame} {meth : Method} {c : Code} {Q : State → Prop} {D : va_G} {cI cJ cO : ClassId} {ad : Nat → Nat} {base : Nat} {S0 : State} {M : zx_M} {pc len pc1 : Nat} {L L1 : zx_L} {st st1 : List Value} {σ σ1 : zx_S} {cells slots : Nat}
theorem zs_iconst (F : zr_Fr p s m args meth c M D cI cJ cO ad base S0) {n : Int} (hd : decode M.2.1 pc = .ok (.iconst n, len)) (h : zx_push (.int (Int32.ofInt n)) len 1 pc L st σ = some (pc1, L1, st1, σ1)) (k : zr_W p l e R s m args below meth c Q D cI cJ cO ad base S0 M.2.2.1 pc1 L1 st1 σ1 cells slots) : zr_W p l e R s m args below meth c Q D cI cJ cO ad base S0 M.2.2.1 pc L st σ cells slots := by
  unfold zx_push at h
  split at h
  next q =>
    subst q; cases h
    intro ls H locs hL hR hl
    exact lv_iconst F.1 F.2.1 hd rfl (k ls H locs hL hR hl)
  next => cases h
theorem zs_bipush (F : zr_Fr p s m args meth c M D cI cJ cO ad base S0) {n : Int} (hd : decode M.2.1 pc = .ok (.bipush n, len)) (h : zx_push (.int (Int8.ofInt n).toInt32) len 2 pc L st σ = some (pc1, L1, st1, σ1)) (k : zr_W p l e R s m args below meth c Q D cI cJ cO ad base S0 M.2.2.1 pc1 L1 st1 σ1 cells slots) : zr_W p l e R s m args below meth c Q D cI cJ cO ad base S0 M.2.2.1 pc L st σ cells slots := by
  unfold zx_push at h
  split at h
  next q =>
    subst q; cases h
    intro ls H locs hL hR hl
    exact lv_bipush F.1 F.2.1 hd rfl (k ls H locs hL hR hl)
  next => cases h
theorem zs_sipush (F : zr_Fr p s m args meth c M D cI cJ cO ad base S0) {n : Int} (hd : decode M.2.1 pc = .ok (.sipush n, len)) (h : zx_push (.int (Int16.ofInt n).toInt32) len 3 pc L st σ = some (pc1, L1, st1, σ1)) (k : zr_W p l e R s m args below meth c Q D cI cJ cO ad base S0 M.2.2.1 pc1 L1 st1 σ1 cells slots) : zr_W p l e R s m args below meth c Q D cI cJ cO ad base S0 M.2.2.1 pc L st σ cells slots := by
  unfold zx_push at h
  split at h
  next q =>
    subst q; cases h
    intro ls H locs hL hR hl
    exact lv_sipush F.1 F.2.1 hd rfl (k ls H locs hL hR hl)
  next => cases h
theorem zs_lconst (F : zr_Fr p s m args meth c M D cI cJ cO ad base S0) {n : Fin 2} (hd : decode M.2.1 pc = .ok (.lconst n, len)) (h : zx_push (.long (Int64.ofNat (n : Nat))) len 1 pc L st σ = some (pc1, L1, st1, σ1)) (k : zr_W p l e R s m args below meth c Q D cI cJ cO ad base S0 M.2.2.1 pc1 L1 st1 σ1 cells slots) : zr_W p l e R s m args below meth c Q D cI cJ cO ad base S0 M.2.2.1 pc L st σ cells slots := by
  unfold zx_push at h
  split at h
  next q =>
    subst q; cases h
    intro ls H locs hL hR hl
    exact lv_lconst F.1 F.2.1 hd rfl (k ls H locs hL hR hl)
  next => cases h
theorem zs_ldc (F : zr_Fr p s m args meth c M D cI cJ cO ad base S0) {i : Nat} {v : Int32} (hv : zt_K M.2.2.2.2.1 i = some v) (hd : decode M.2.1 pc = .ok (.ldc i, len)) (h : zx_push (.int v) len 2 pc L st σ = some (pc1, L1, st1, σ1)) (k : zr_W p l e R s m args below meth c Q D cI cJ cO ad base S0 M.2.2.1 pc1 L1 st1 σ1 cells slots) : zr_W p l e R s m args below meth c Q D cI cJ cO ad base S0 M.2.2.1 pc L st σ cells slots := by
  unfold zx_push at h
  split at h
  next q =>
    subst q; cases h
    intro ls H locs hL hR hl
    exact lv_ldc F.1 F.2.1 F.2.2.2.1 (F.2.2.2.2.1 _ (zt_K_of hv)) hd (k ls H locs hL hR hl)
  next => cases h
theorem zs_ldc2 (F : zr_Fr p s m args meth c M D cI cJ cO ad base S0) {i : Nat} {v : Int64} (hv : zt_J M.2.2.2.2.1 i = some v) (hd : decode M.2.1 pc = .ok (.ldc2_w i, len)) (h : zx_push (.long v) len 3 pc L st σ = some (pc1, L1, st1, σ1)) (k : zr_W p l e R s m args below meth c Q D cI cJ cO ad base S0 M.2.2.1 pc1 L1 st1 σ1 cells slots) : zr_W p l e R s m args below meth c Q D cI cJ cO ad base S0 M.2.2.1 pc L st σ cells slots := by
  unfold zx_push at h
  split at h
  next q =>
    subst q; cases h
    intro ls H locs hL hR hl
    exact lv_ldc2 F.1 F.2.1 F.2.2.2.1 (F.2.2.2.2.1 _ (zt_J_of hv)) hd (k ls H locs hL hR hl)
  next => cases h
theorem zs_iload_n (F : zr_Fr p s m args meth c M D cI cJ cO ad base S0) {i : Fin 4} (hd : decode M.2.1 pc = .ok (.iload_n i, len)) (h : zx_ild i len 1 pc L st σ = some (pc1, L1, st1, σ1)) (k : zr_W p l e R s m args below meth c Q D cI cJ cO ad base S0 M.2.2.1 pc1 L1 st1 σ1 cells slots) : zr_W p l e R s m args below meth c Q D cI cJ cO ad base S0 M.2.2.1 pc L st σ cells slots := by
  unfold zx_ild at h
  split at h
  next q =>
    subst q
    split at h
    next x ex =>
      cases h
      intro ls H locs hL hR hl
      exact lv_iload_n F.1 F.2.1 hd rfl (hL.get ex) (k ls H locs hL hR hl)
    next => cases h
  next => cases h
theorem zs_iload (F : zr_Fr p s m args meth c M D cI cJ cO ad base S0) {i : Nat} (hd : decode M.2.1 pc = .ok (.iload i, len)) (h : zx_ild i len 2 pc L st σ = some (pc1, L1, st1, σ1)) (k : zr_W p l e R s m args below meth c Q D cI cJ cO ad base S0 M.2.2.1 pc1 L1 st1 σ1 cells slots) : zr_W p l e R s m args below meth c Q D cI cJ cO ad base S0 M.2.2.1 pc L st σ cells slots := by
  unfold zx_ild at h
  split at h
  next q =>
    subst q
    split at h
    next x ex =>
      cases h
      intro ls H locs hL hR hl
      exact lv_iload F.1 F.2.1 hd (hL.get ex) (k ls H locs hL hR hl)
    next => cases h
  next => cases h
theorem zs_lload_n (F : zr_Fr p s m args meth c M D cI cJ cO ad base S0) {i : Fin 4} (hd : decode M.2.1 pc = .ok (.lload_n i, len)) (h : zx_lld i len 1 pc L st σ = some (pc1, L1, st1, σ1)) (k : zr_W p l e R s m args below meth c Q D cI cJ cO ad base S0 M.2.2.1 pc1 L1 st1 σ1 cells slots) : zr_W p l e R s m args below meth c Q D cI cJ cO ad base S0 M.2.2.1 pc L st σ cells slots := by
  unfold zx_lld at h
  split at h
  next q =>
    subst q
    split at h
    next x ex =>
      cases h
      intro ls H locs hL hR hl
      exact lv_lload_n F.1 F.2.1 hd rfl (hL.get ex) (k ls H locs hL hR hl)
    next => cases h
  next => cases h
theorem zs_aload_n (F : zr_Fr p s m args meth c M D cI cJ cO ad base S0) {i : Fin 4} (hd : decode M.2.1 pc = .ok (.aload_n i, len)) (h : zx_ald i len 1 pc L st σ = some (pc1, L1, st1, σ1)) (k : zr_W p l e R s m args below meth c Q D cI cJ cO ad base S0 M.2.2.1 pc1 L1 st1 σ1 cells slots) : zr_W p l e R s m args below meth c Q D cI cJ cO ad base S0 M.2.2.1 pc L st σ cells slots := by
  unfold zx_ald at h
  split at h
  next q =>
    subst q
    split at h
    next x ex =>
      cases h
      intro ls H locs hL hR hl
      exact lv_aload_n F.1 F.2.1 hd rfl (hL.get ex) (k ls H locs hL hR hl)
    next => cases h
  next => cases h
theorem zs_aload (F : zr_Fr p s m args meth c M D cI cJ cO ad base S0) {i : Nat} (hd : decode M.2.1 pc = .ok (.aload i, len)) (h : zx_ald i len 2 pc L st σ = some (pc1, L1, st1, σ1)) (k : zr_W p l e R s m args below meth c Q D cI cJ cO ad base S0 M.2.2.1 pc1 L1 st1 σ1 cells slots) : zr_W p l e R s m args below meth c Q D cI cJ cO ad base S0 M.2.2.1 pc L st σ cells slots := by
  unfold zx_ald at h
  split at h
  next q =>
    subst q
    split at h
    next x ex =>
      cases h
      intro ls H locs hL hR hl
      exact lv_aload F.1 F.2.1 hd (hL.get ex) (k ls H locs hL hR hl)
    next => cases h
  next => cases h
theorem zs_istore_n (F : zr_Fr p s m args meth c M D cI cJ cO ad base S0) {i : Fin 4} (hd : decode M.2.1 pc = .ok (.istore_n i, len)) (h : zx_ist i len 1 pc L st σ = some (pc1, L1, st1, σ1)) (k : zr_W p l e R s m args below meth c Q D cI cJ cO ad base S0 M.2.2.1 pc1 L1 st1 σ1 cells slots) : zr_W p l e R s m args below meth c Q D cI cJ cO ad base S0 M.2.2.1 pc L st σ cells slots := by
  unfold zx_ist at h
  split at h
  next q =>
    obtain ⟨q, hi⟩ := q
    subst q
    split at h
    next x r =>
      cases h
      intro ls H locs hL hR hl
      exact lv_istore_n F.1 F.2.1 hd rfl hL.has (by have := hL.2.2.1; omega) rfl (fun ls' h' => k ls' H locs (hL.st1 (v := .int x) hi h') hR hl)
    next => cases h
  next => cases h
theorem zs_istore (F : zr_Fr p s m args meth c M D cI cJ cO ad base S0) {i : Nat} (hd : decode M.2.1 pc = .ok (.istore i, len)) (h : zx_ist i len 2 pc L st σ = some (pc1, L1, st1, σ1)) (k : zr_W p l e R s m args below meth c Q D cI cJ cO ad base S0 M.2.2.1 pc1 L1 st1 σ1 cells slots) : zr_W p l e R s m args below meth c Q D cI cJ cO ad base S0 M.2.2.1 pc L st σ cells slots := by
  unfold zx_ist at h
  split at h
  next q =>
    obtain ⟨q, hi⟩ := q
    subst q
    split at h
    next x r =>
      cases h
      intro ls H locs hL hR hl
      exact lv_istore F.1 F.2.1 hd hL.has (by have := hL.2.2.1; omega) rfl (fun ls' h' => k ls' H locs (hL.st1 (v := .int x) hi h') hR hl)
    next => cases h
  next => cases h
theorem zs_astore_n (F : zr_Fr p s m args meth c M D cI cJ cO ad base S0) {i : Fin 4} (hd : decode M.2.1 pc = .ok (.astore_n i, len)) (h : zx_ast i len 1 pc L st σ = some (pc1, L1, st1, σ1)) (k : zr_W p l e R s m args below meth c Q D cI cJ cO ad base S0 M.2.2.1 pc1 L1 st1 σ1 cells slots) : zr_W p l e R s m args below meth c Q D cI cJ cO ad base S0 M.2.2.1 pc L st σ cells slots := by
  unfold zx_ast at h
  split at h
  next q =>
    obtain ⟨q, hi⟩ := q
    subst q
    split at h
    next x r =>
      cases h
      intro ls H locs hL hR hl
      exact lv_astore_n F.1 F.2.1 hd rfl hL.has (by have := hL.2.2.1; omega) rfl (fun ls' h' => k ls' H locs (hL.st1 (v := .ref x) hi h') hR hl)
    next => cases h
  next => cases h
theorem zs_astore (F : zr_Fr p s m args meth c M D cI cJ cO ad base S0) {i : Nat} (hd : decode M.2.1 pc = .ok (.astore i, len)) (h : zx_ast i len 2 pc L st σ = some (pc1, L1, st1, σ1)) (k : zr_W p l e R s m args below meth c Q D cI cJ cO ad base S0 M.2.2.1 pc1 L1 st1 σ1 cells slots) : zr_W p l e R s m args below meth c Q D cI cJ cO ad base S0 M.2.2.1 pc L st σ cells slots := by
  unfold zx_ast at h
  split at h
  next q =>
    obtain ⟨q, hi⟩ := q
    subst q
    split at h
    next x r =>
      cases h
      intro ls H locs hL hR hl
      exact lv_astore F.1 F.2.1 hd hL.has (by have := hL.2.2.1; omega) rfl (fun ls' h' => k ls' H locs (hL.st1 (v := .ref x) hi h') hR hl)
    next => cases h
  next => cases h
theorem zs_lstore_n (F : zr_Fr p s m args meth c M D cI cJ cO ad base S0) {i : Fin 4} (hd : decode M.2.1 pc = .ok (.lstore_n i, len)) (h : zx_lst i len 1 pc L st σ = some (pc1, L1, st1, σ1)) (k : zr_W p l e R s m args below meth c Q D cI cJ cO ad base S0 M.2.2.1 pc1 L1 st1 σ1 cells slots) : zr_W p l e R s m args below meth c Q D cI cJ cO ad base S0 M.2.2.1 pc L st σ cells slots := by
  unfold zx_lst at h
  split at h
  next q =>
    obtain ⟨q, hi⟩ := q
    subst q
    split at h
    next x r =>
      cases h
      intro ls H locs hL hR hl
      exact lv_lstore_n F.1 F.2.1 hd rfl hL.has (by have := hL.2.2.1; omega) rfl (fun ls' h' => k ls' H locs (hL.st2 (v := .long x) hi h') hR hl)
    next => cases h
  next => cases h
theorem zs_iinc (F : zr_Fr p s m args meth c M D cI cJ cO ad base S0) {i : Nat} {ini room : Bool} {n : Int} (hd : decode M.2.1 pc = .ok (.iinc i n, len)) (h : zx_step M.2.2.2.2.1 ini room (.iinc i n) len pc L st σ = some (pc1, L1, st1, σ1)) (k : zr_W p l e R s m args below meth c Q D cI cJ cO ad base S0 M.2.2.1 pc1 L1 st1 σ1 cells slots) : zr_W p l e R s m args below meth c Q D cI cJ cO ad base S0 M.2.2.1 pc L st σ cells slots := by
  simp only [zx_step] at h
  split at h
  next q =>
    obtain ⟨q, hi⟩ := q
    subst q
    split at h
    next x ex =>
      cases h
      intro ls H locs hL hR hl
      have hm : (i, Value.int x) ∈ zr_pairs ad L := by
        refine zr_pairs_mem.mpr ⟨.int x, ?_, rfl⟩
        unfold zx_get at ex
        split at ex
        next w e9 => cases ex; exact e9
        next => cases ex
      obtain ⟨kk, hk⟩ := List.getElem?_of_mem hm
      exact lv_iinc F.1 F.2.1 hd hL.has hk rfl (by have := hL.2.2.1; omega) rfl (fun ls' h' => k ls' H locs (hL.st1 (v := .int (x + Int32.ofInt n)) hi h') hR hl)
    next => cases h
  next => cases h
theorem zs_iadd (F : zr_Fr p s m args meth c M D cI cJ cO ad base S0)  (hd : decode M.2.1 pc = .ok (.iadd, len)) (h : zx_bin (fun x y => x + y) len pc L st σ = some (pc1, L1, st1, σ1)) (k : zr_W p l e R s m args below meth c Q D cI cJ cO ad base S0 M.2.2.1 pc1 L1 st1 σ1 cells slots) : zr_W p l e R s m args below meth c Q D cI cJ cO ad base S0 M.2.2.1 pc L st σ cells slots := by
  unfold zx_bin at h
  split at h
  next q =>
    subst q
    split at h
    next y x r =>
      cases h
      intro ls H locs hL hR hl
      exact lv_iadd F.1 F.2.1 hd (k ls H locs hL hR hl)
    next => cases h
  next => cases h
theorem zs_isub (F : zr_Fr p s m args meth c M D cI cJ cO ad base S0)  (hd : decode M.2.1 pc = .ok (.isub, len)) (h : zx_bin (fun x y => x - y) len pc L st σ = some (pc1, L1, st1, σ1)) (k : zr_W p l e R s m args below meth c Q D cI cJ cO ad base S0 M.2.2.1 pc1 L1 st1 σ1 cells slots) : zr_W p l e R s m args below meth c Q D cI cJ cO ad base S0 M.2.2.1 pc L st σ cells slots := by
  unfold zx_bin at h
  split at h
  next q =>
    subst q
    split at h
    next y x r =>
      cases h
      intro ls H locs hL hR hl
      exact lv_isub F.1 F.2.1 hd (k ls H locs hL hR hl)
    next => cases h
  next => cases h
theorem zs_imul (F : zr_Fr p s m args meth c M D cI cJ cO ad base S0)  (hd : decode M.2.1 pc = .ok (.imul, len)) (h : zx_bin (fun x y => x * y) len pc L st σ = some (pc1, L1, st1, σ1)) (k : zr_W p l e R s m args below meth c Q D cI cJ cO ad base S0 M.2.2.1 pc1 L1 st1 σ1 cells slots) : zr_W p l e R s m args below meth c Q D cI cJ cO ad base S0 M.2.2.1 pc L st σ cells slots := by
  unfold zx_bin at h
  split at h
  next q =>
    subst q
    split at h
    next y x r =>
      cases h
      intro ls H locs hL hR hl
      exact lv_imul F.1 F.2.1 hd (k ls H locs hL hR hl)
    next => cases h
  next => cases h
theorem zs_iand (F : zr_Fr p s m args meth c M D cI cJ cO ad base S0)  (hd : decode M.2.1 pc = .ok (.iand, len)) (h : zx_bin (fun x y => x &&& y) len pc L st σ = some (pc1, L1, st1, σ1)) (k : zr_W p l e R s m args below meth c Q D cI cJ cO ad base S0 M.2.2.1 pc1 L1 st1 σ1 cells slots) : zr_W p l e R s m args below meth c Q D cI cJ cO ad base S0 M.2.2.1 pc L st σ cells slots := by
  unfold zx_bin at h
  split at h
  next q =>
    subst q
    split at h
    next y x r =>
      cases h
      intro ls H locs hL hR hl
      exact lv_iand F.1 F.2.1 hd (k ls H locs hL hR hl)
    next => cases h
  next => cases h
theorem zs_ishr (F : zr_Fr p s m args meth c M D cI cJ cO ad base S0)  (hd : decode M.2.1 pc = .ok (.ishr, len)) (h : zx_bin (fun x y => x >>> (y &&& 31)) len pc L st σ = some (pc1, L1, st1, σ1)) (k : zr_W p l e R s m args below meth c Q D cI cJ cO ad base S0 M.2.2.1 pc1 L1 st1 σ1 cells slots) : zr_W p l e R s m args below meth c Q D cI cJ cO ad base S0 M.2.2.1 pc L st σ cells slots := by
  unfold zx_bin at h
  split at h
  next q =>
    subst q
    split at h
    next y x r =>
      cases h
      intro ls H locs hL hR hl
      exact lv_ishr F.1 F.2.1 hd (k ls H locs hL hR hl)
    next => cases h
  next => cases h
theorem zs_idiv (F : zr_Fr p s m args meth c M D cI cJ cO ad base S0)  (hd : decode M.2.1 pc = .ok (.idiv, len)) (h : zx_binz (fun x y => x / y) len pc L st σ = some (pc1, L1, st1, σ1)) (k : zr_W p l e R s m args below meth c Q D cI cJ cO ad base S0 M.2.2.1 pc1 L1 st1 σ1 cells slots) : zr_W p l e R s m args below meth c Q D cI cJ cO ad base S0 M.2.2.1 pc L st σ cells slots := by
  unfold zx_binz at h
  split at h
  next q =>
    subst q
    split at h
    next y x r =>
      split at h
      next => cases h
      next hz =>
        cases h
        intro ls H locs hL hR hl
        exact lv_idiv F.1 F.2.1 hd hz (k ls H locs hL hR hl)
    next => cases h
  next => cases h
theorem zs_irem (F : zr_Fr p s m args meth c M D cI cJ cO ad base S0)  (hd : decode M.2.1 pc = .ok (.irem, len)) (h : zx_binz (fun x y => x - x / y * y) len pc L st σ = some (pc1, L1, st1, σ1)) (k : zr_W p l e R s m args below meth c Q D cI cJ cO ad base S0 M.2.2.1 pc1 L1 st1 σ1 cells slots) : zr_W p l e R s m args below meth c Q D cI cJ cO ad base S0 M.2.2.1 pc L st σ cells slots := by
  unfold zx_binz at h
  split at h
  next q =>
    subst q
    split at h
    next y x r =>
      split at h
      next => cases h
      next hz =>
        cases h
        intro ls H locs hL hR hl
        exact lv_irem F.1 F.2.1 hd hz (k ls H locs hL hR hl)
    next => cases h
  next => cases h
theorem zs_ladd (F : zr_Fr p s m args meth c M D cI cJ cO ad base S0)  (hd : decode M.2.1 pc = .ok (.ladd, len)) (h : zx_binl (fun x y => x + y) len pc L st σ = some (pc1, L1, st1, σ1)) (k : zr_W p l e R s m args below meth c Q D cI cJ cO ad base S0 M.2.2.1 pc1 L1 st1 σ1 cells slots) : zr_W p l e R s m args below meth c Q D cI cJ cO ad base S0 M.2.2.1 pc L st σ cells slots := by
  unfold zx_binl at h
  split at h
  next q =>
    subst q
    split at h
    next y x r =>
      cases h
      intro ls H locs hL hR hl
      exact lv_ladd F.1 F.2.1 hd (k ls H locs hL hR hl)
    next => cases h
  next => cases h
theorem zs_lmul (F : zr_Fr p s m args meth c M D cI cJ cO ad base S0)  (hd : decode M.2.1 pc = .ok (.lmul, len)) (h : zx_binl (fun x y => x * y) len pc L st σ = some (pc1, L1, st1, σ1)) (k : zr_W p l e R s m args below meth c Q D cI cJ cO ad base S0 M.2.2.1 pc1 L1 st1 σ1 cells slots) : zr_W p l e R s m args below meth c Q D cI cJ cO ad base S0 M.2.2.1 pc L st σ cells slots := by
  unfold zx_binl at h
  split at h
  next q =>
    subst q
    split at h
    next y x r =>
      cases h
      intro ls H locs hL hR hl
      exact lv_lmul F.1 F.2.1 hd (k ls H locs hL hR hl)
    next => cases h
  next => cases h
theorem zs_lrem (F : zr_Fr p s m args meth c M D cI cJ cO ad base S0) {ini room : Bool}  (hd : decode M.2.1 pc = .ok (.lrem, len)) (h : zx_step M.2.2.2.2.1 ini room (.lrem) len pc L st σ = some (pc1, L1, st1, σ1)) (k : zr_W p l e R s m args below meth c Q D cI cJ cO ad base S0 M.2.2.1 pc1 L1 st1 σ1 cells slots) : zr_W p l e R s m args below meth c Q D cI cJ cO ad base S0 M.2.2.1 pc L st σ cells slots := by
  simp only [zx_step] at h
  split at h
  next q =>
    subst q
    split at h
    next y x r =>
      split at h
      next => cases h
      next hz =>
        cases h
        intro ls H locs hL hR hl
        exact lv_lrem F.1 F.2.1 hd hz (k ls H locs hL hR hl)
    next => cases h
  next => cases h
theorem zs_lcmp (F : zr_Fr p s m args meth c M D cI cJ cO ad base S0) {ini room : Bool}  (hd : decode M.2.1 pc = .ok (.lcmp, len)) (h : zx_step M.2.2.2.2.1 ini room (.lcmp) len pc L st σ = some (pc1, L1, st1, σ1)) (k : zr_W p l e R s m args below meth c Q D cI cJ cO ad base S0 M.2.2.1 pc1 L1 st1 σ1 cells slots) : zr_W p l e R s m args below meth c Q D cI cJ cO ad base S0 M.2.2.1 pc L st σ cells slots := by
  simp only [zx_step] at h
  split at h
  next q =>
    subst q
    split at h
    next y x r =>
      cases h
      intro ls H locs hL hR hl
      exact W.lcmp F.1 F.2.1 hd (k ls H locs hL hR hl)
    next => cases h
  next => cases h
theorem zs_i2l (F : zr_Fr p s m args meth c M D cI cJ cO ad base S0) {ini room : Bool}  (hd : decode M.2.1 pc = .ok (.i2l, len)) (h : zx_step M.2.2.2.2.1 ini room (.i2l) len pc L st σ = some (pc1, L1, st1, σ1)) (k : zr_W p l e R s m args below meth c Q D cI cJ cO ad base S0 M.2.2.1 pc1 L1 st1 σ1 cells slots) : zr_W p l e R s m args below meth c Q D cI cJ cO ad base S0 M.2.2.1 pc L st σ cells slots := by
  simp only [zx_step] at h
  split at h
  next q =>
    subst q
    split at h
    next x r =>
      cases h
      intro ls H locs hL hR hl
      exact lv_i2l F.1 F.2.1 hd rfl (k ls H locs hL hR hl)
    next => cases h
  next => cases h
theorem zs_l2i (F : zr_Fr p s m args meth c M D cI cJ cO ad base S0) {ini room : Bool}  (hd : decode M.2.1 pc = .ok (.l2i, len)) (h : zx_step M.2.2.2.2.1 ini room (.l2i) len pc L st σ = some (pc1, L1, st1, σ1)) (k : zr_W p l e R s m args below meth c Q D cI cJ cO ad base S0 M.2.2.1 pc1 L1 st1 σ1 cells slots) : zr_W p l e R s m args below meth c Q D cI cJ cO ad base S0 M.2.2.1 pc L st σ cells slots := by
  simp only [zx_step] at h
  split at h
  next q =>
    subst q
    split at h
    next x r =>
      cases h
      intro ls H locs hL hR hl
      exact lv_l2i F.1 F.2.1 hd rfl (k ls H locs hL hR hl)
    next => cases h
  next => cases h
theorem zs_dup (F : zr_Fr p s m args meth c M D cI cJ cO ad base S0) {ini room : Bool}  (hd : decode M.2.1 pc = .ok (.dup, len)) (h : zx_step M.2.2.2.2.1 ini room (.dup) len pc L st σ = some (pc1, L1, st1, σ1)) (k : zr_W p l e R s m args below meth c Q D cI cJ cO ad base S0 M.2.2.1 pc1 L1 st1 σ1 cells slots) : zr_W p l e R s m args below meth c Q D cI cJ cO ad base S0 M.2.2.1 pc L st σ cells slots := by
  simp only [zx_step] at h
  split at h
  next q =>
    subst q
    split at h
    next v r =>
      split at h
      next hc =>
        cases h
        intro ls H locs hL hR hl
        exact lv_dup F.1 F.2.1 hd (by rw [zr_cat]; exact hc) (k ls H locs hL hR hl)
      next => cases h
    next => cases h
  next => cases h
theorem zs_dup2 (F : zr_Fr p s m args meth c M D cI cJ cO ad base S0) {ini room : Bool}  (hd : decode M.2.1 pc = .ok (.dup2, len)) (h : zx_step M.2.2.2.2.1 ini room (.dup2) len pc L st σ = some (pc1, L1, st1, σ1)) (k : zr_W p l e R s m args below meth c Q D cI cJ cO ad base S0 M.2.2.1 pc1 L1 st1 σ1 cells slots) : zr_W p l e R s m args below meth c Q D cI cJ cO ad base S0 M.2.2.1 pc L st σ cells slots := by
  simp only [zx_step] at h
  split at h
  next q =>
    subst q
    split at h
    next v w r =>
      split at h
      next hc =>
        cases h
        intro ls H locs hL hR hl
        exact lv_dup2_11 F.1 F.2.1 hd (by rw [zr_cat]; exact hc.1) (by rw [zr_cat]; exact hc.2) (k ls H locs hL hR hl)
      next => cases h
    next => cases h
  next => cases h
theorem zs_pop (F : zr_Fr p s m args meth c M D cI cJ cO ad base S0) {ini room : Bool}  (hd : decode M.2.1 pc = .ok (.pop, len)) (h : zx_step M.2.2.2.2.1 ini room (.pop) len pc L st σ = some (pc1, L1, st1, σ1)) (k : zr_W p l e R s m args below meth c Q D cI cJ cO ad base S0 M.2.2.1 pc1 L1 st1 σ1 cells slots) : zr_W p l e R s m args below meth c Q D cI cJ cO ad base S0 M.2.2.1 pc L st σ cells slots := by
  simp only [zx_step] at h
  split at h
  next q =>
    subst q
    split at h
    next v r =>
      split at h
      next hc =>
        cases h
        intro ls H locs hL hR hl
        exact lv_pop F.1 F.2.1 hd (by rw [zr_cat]; exact hc) (k ls H locs hL hR hl)
      next => cases h
    next => cases h
  next => cases h
theorem zx_tgt_eq {off : Int} {t : Nat} (h : zx_tgt pc off = some t) : (pc : Int) + off = (t : Int) := by
  unfold zx_tgt at h
  split at h
  next q => cases h; exact q.symm
  next => cases h
theorem zs_icmp (F : zr_Fr p s m args meth c M D cI cJ cO ad base S0) {ini room : Bool} {cd : ClassFile.Cond} {off : Int} (hd : decode M.2.1 pc = .ok (.if_icmp cd off, len)) (h : zx_step M.2.2.2.2.1 ini room (.if_icmp cd off) len pc L st σ = some (pc1, L1, st1, σ1)) (k : zr_W p l e R s m args below meth c Q D cI cJ cO ad base S0 M.2.2.1 pc1 L1 st1 σ1 cells slots) : zr_W p l e R s m args below meth c Q D cI cJ cO ad base S0 M.2.2.1 pc L st σ cells slots := by
  simp only [zx_step] at h
  split at h
  next q =>
    subst q
    split at h
    next y x r =>
      unfold zx_jmp at h
      split at h
      next t ht =>
        have hT := zx_tgt_eq ht
        cases h
        intro ls H locs hL hR hl
        have k := k ls H locs hL hR hl
        cases cd with
        | eq => exact lv_icmp_eq F.1 F.2.1 hd hT (fun q => by rw [if_pos (show zx_cmp .eq _ _ = true from decide_eq_true q)] at k; exact k) (fun q => by rw [if_neg (by simpa [zx_cmp] using q)] at k; exact k)
        | ne => exact lv_icmp_ne F.1 F.2.1 hd hT (fun q => by rw [if_pos (show zx_cmp .ne _ _ = true from decide_eq_true q)] at k; exact k) (fun q => by rw [if_neg (by simpa [zx_cmp] using q)] at k; exact k)
        | lt => exact lv_icmp_lt F.1 F.2.1 hd hT (fun q => by rw [if_pos (show zx_cmp .lt _ _ = true from decide_eq_true q)] at k; exact k) (fun q => by rw [if_neg (by simpa [zx_cmp] using q)] at k; exact k)
        | ge => exact lv_icmp_ge F.1 F.2.1 hd hT (fun q => by rw [if_pos (show zx_cmp .ge _ _ = true from decide_eq_true q)] at k; exact k) (fun q => by rw [if_neg (by simpa [zx_cmp] using q)] at k; exact k)
        | gt => exact lv_icmp_gt F.1 F.2.1 hd hT (fun q => by rw [if_pos (show zx_cmp .gt _ _ = true from decide_eq_true q)] at k; exact k) (fun q => by rw [if_neg (by simpa [zx_cmp] using q)] at k; exact k)
        | le => exact lv_icmp_le F.1 F.2.1 hd hT (fun q => by rw [if_pos (show zx_cmp .le _ _ = true from decide_eq_true q)] at k; exact k) (fun q => by rw [if_neg (by simpa [zx_cmp] using q)] at k; exact k)
      next => cases h
    next => cases h
  next => cases h
theorem zs_ifc (F : zr_Fr p s m args meth c M D cI cJ cO ad base S0) {ini room : Bool} {cd : ClassFile.Cond} {off : Int} (hd : decode M.2.1 pc = .ok (.ifCond cd off, len)) (h : zx_step M.2.2.2.2.1 ini room (.ifCond cd off) len pc L st σ = some (pc1, L1, st1, σ1)) (k : zr_W p l e R s m args below meth c Q D cI cJ cO ad base S0 M.2.2.1 pc1 L1 st1 σ1 cells slots) : zr_W p l e R s m args below meth c Q D cI cJ cO ad base S0 M.2.2.1 pc L st σ cells slots := by
  simp only [zx_step] at h
  split at h
  next q =>
    subst q
    split at h
    next x r =>
      unfold zx_jmp at h
      split at h
      next t ht =>
        have hT := zx_tgt_eq ht
        cases h
        intro ls H locs hL hR hl
        have k := k ls H locs hL hR hl
        cases cd with
        | eq => exact lv_if_eq F.1 F.2.1 hd hT (fun q => by rw [if_pos (show zx_cmp .eq _ _ = true from decide_eq_true q)] at k; exact k) (fun q => by rw [if_neg (by simpa [zx_cmp] using q)] at k; exact k)
        | ne => exact lv_if_ne F.1 F.2.1 hd hT (fun q => by rw [if_pos (show zx_cmp .ne _ _ = true from decide_eq_true q)] at k; exact k) (fun q => by rw [if_neg (by simpa [zx_cmp] using q)] at k; exact k)
        | lt => exact lv_if_lt F.1 F.2.1 hd hT (fun q => by rw [if_pos (show zx_cmp .lt _ _ = true from decide_eq_true q)] at k; exact k) (fun q => by rw [if_neg (by simpa [zx_cmp] using q)] at k; exact k)
        | ge => exact lv_if_ge F.1 F.2.1 hd hT (fun q => by rw [if_pos (show zx_cmp .ge _ _ = true from decide_eq_true q)] at k; exact k) (fun q => by rw [if_neg (by simpa [zx_cmp] using q)] at k; exact k)
        | gt => exact lv_if_gt F.1 F.2.1 hd hT (fun q => by rw [if_pos (show zx_cmp .gt _ _ = true from decide_eq_true q)] at k; exact k) (fun q => by rw [if_neg (by simpa [zx_cmp] using q)] at k; exact k)
        | le => exact lv_if_le F.1 F.2.1 hd hT (fun q => by rw [if_pos (show zx_cmp .le _ _ = true from decide_eq_true q)] at k; exact k) (fun q => by rw [if_neg (by simpa [zx_cmp] using q)] at k; exact k)
      next => cases h
    next => cases h
  next => cases h
theorem zs_goto (F : zr_Fr p s m args meth c M D cI cJ cO ad base S0) {ini room : Bool} {off : Int} (hd : decode M.2.1 pc = .ok (.goto off, len)) (h : zx_step M.2.2.2.2.1 ini room (.goto off) len pc L st σ = some (pc1, L1, st1, σ1)) (k : zr_W p l e R s m args below meth c Q D cI cJ cO ad base S0 M.2.2.1 pc1 L1 st1 σ1 cells slots) : zr_W p l e R s m args below meth c Q D cI cJ cO ad base S0 M.2.2.1 pc L st σ cells slots := by
  simp only [zx_step] at h
  split at h
  next q =>
    subst q
    unfold zx_jmp at h
    split at h
    next t ht =>
      have hT := zx_tgt_eq ht
      cases h
      intro ls H locs hL hR hl
      exact lv_goto F.1 F.2.1 hd hT (k ls H locs hL hR hl)
    next => cases h
  next => cases h
theorem zs_tsw (F : zr_Fr p s m args meth c M D cI cJ cO ad base S0) {ini room : Bool} {dflt lo hi : Int} {offs : Array Int} (hd : decode M.2.1 pc = .ok (.tableswitch dflt lo hi offs, len)) (h : zx_step M.2.2.2.2.1 ini room (.tableswitch dflt lo hi offs) len pc L st σ = some (pc1, L1, st1, σ1)) (k : zr_W p l e R s m args below meth c Q D cI cJ cO ad base S0 M.2.2.1 pc1 L1 st1 σ1 cells slots) : zr_W p l e R s m args below meth c Q D cI cJ cO ad base S0 M.2.2.1 pc L st σ cells slots := by
  simp only [zx_step] at h
  split at h
  next x r =>
    split at h
    next off ho =>
      unfold zx_jmp at h
      split at h
      next t ht =>
        have hT := zx_tgt_eq ht
        cases h
        intro ls H locs hL hR hl
        unfold zx_sw at ho
        split at ho
        next hx =>
          cases ho
          exact lv_tableOut F.1 F.2.1 hd hx hT (k ls H locs hL hR hl)
        next hx =>
          exact lv_tableIn F.1 F.2.1 hd (fun q => hx (Or.inl q)) (fun q => hx (Or.inr q)) ho hT (k ls H locs hL hR hl)
      next => cases h
    next => cases h
  next => cases h
end ZS
