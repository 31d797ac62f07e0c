/-! INSTRUCTIONS THAT READ AND WRITE CELLS (by program: wip/tools/mksteps2.py) -/
theorem zx_in_vp {i : Int32} {n : Nat} (h : zx_in i n = true) : vp_in i n := by
  unfold zx_in at h
  show ¬ (i < 0 ∨ n ≤ i.toNatClampNeg)
  exact of_decide_eq_true h
section ZT
variable {p : Program} {l : Launch} {e : Env} {R : Room} {s : State} {m : MethodId} {args : Array Value} {below : List Frame} {meth : Method} {c : Code} {Q : State → Prop} {D : va_G} {cI cJ cO : ClassId} {ad : Nat → Nat} {base : Nat} {S0 : State} {M : zx_M} {pc len pc1 : Nat} {L L1 : zx_L} {st st1 : List Value} {σ σ1 : zx_S} {cells slots : Nat}
/-- an object as the kit's world of one cell -/
theorem zr_obj {H : Heap} {a ci N : Nat} {C : String} {T : u_T} {V : Nat → Value} (hc : vwCl[ci]? = some (C, T, N)) (h : t_OB a (D.1 ci) N (D.2 ci) H V) : va_P D vwCl [(a, .inr (ci, (List.range N).map V))] H := by
  intro k q hq
  cases k with
  | zero =>
    cases hq
    refine ⟨(C, T, N), hc, h.to (fun f hf => ?_)⟩
    simp [vp_V, hf]
  | succ k => cases hq
theorem zr_t0 : (zr_tys cI cJ cO)[0]? = some (cI, .int) := rfl
theorem zr_t1 : (zr_tys cI cJ cO)[1]? = some (cJ, .long) := rfl
theorem zr_t2 : (zr_tys cI cJ cO)[2]? = some (cO, .object RX1) := rfl
/-- System.arraycopy of ints -/
theorem zr_copy {cc : ByteArray} {H : Heap} {locs : List Loc} {ls : Array Slot} {rest : List Value} (hexec : p.tables.exec = Jvm.exec) (hb : c.code = cc) (hml : c.maxLocals = ls.size) {own : String} {index : Nat} (hown : s.vm.findClass own = some m.cls) (hlink : (Cond.methodLink own index arraycopyName).before args s = true) (hnat : (Cond.native arraycopyName).before args s = true) (hstat : (Cond.static arraycopyName).before args s = true) (hini : (Cond.initialized "java/lang/System").before args s = true)
    {a a0 : Nat} {c0 : ClassId} {n0 n1 : Nat} {f g : Nat → Int32} (harr : ArrOfT s c0 .int) (hc0 : H[a0]? = some (arrV c0 n0 (fun j => .int (f j)))) (hc1 : H[a]? = some (arrV c0 n1 (fun j => .int (g j))))
    {sp dp n : Int32} (h1 : ¬ sp < 0) (h2 : ¬ dp < 0) (h3 : ¬ n < 0) (h4 : sp.toNatClampNeg + n.toNatClampNeg ≤ n0) (h5 : dp.toNatClampNeg + n.toNatClampNeg ≤ n1)
    (hframes : 1 ≤ R.frames) (hlocals : (rest.map fun v => v.category).sum + (nativeFrameWords "java/lang/System" "arraycopy" 5 + 11) ≤ R.locals) (hdg : decode cc pc = .ok (.invokestatic index, 3))
    (kk : ∀ (H1 : Heap) (locs1 : List Loc), H1[a]? = some (vp_cell c0 (n1, .inl (va_cpy f g sp.toNatClampNeg dp.toNatClampNeg n.toNatClampNeg))) → H1.size = H.size → (∀ q : Nat, q ≠ a → H1[q]? = H[q]?) → (∀ q ∈ locs1, q ∈ locs ∨ q.base = a) → W p l e R s m args below meth c H1 locs1 cells slots Q (F0 m (pc + 3) ls rest)) : W p l e R s m args below meth c H locs cells slots Q (F0 m pc ls (.int n :: .int dp :: .ref a :: .int sp :: .ref a0 :: rest)) := by
  have nn : ∀ z : Int32, ¬ z < 0 → z.toInt = (z.toNatClampNeg : Int) := by
    intro z hz
    have hz0 : (0 : Int) ≤ z.toInt := by
      have := Int32.not_lt.mp hz
      simpa using Int32.le_iff_toInt_le.mp this
    show z.toInt = ((z.toInt.toNat : Nat) : Int)
    omega
  intro T hT X
  obtain ⟨-, k0, hk0, cm0, hkk0⟩ := harr n0 (fun j => .int (f j))
  obtain ⟨-, k1, hk1, cm1, hkk1⟩ := harr n1 (fun j => .int (g j))
  obtain ⟨vm', X', step⟩ := X.arraycopy hexec hown hlink hnat hstat hini (src := a0) (dst := a) (cs := vp_cell c0 (n0, .inl f)) (cd := vp_cell c0 (n1, .inl g)) (srcPos := sp) (destPos := dp) (n := n) (by rw [hT]; exact hc0) (by rw [hT]; exact hc1)
    (fun _ h => by cases h) (fun _ h => by cases h) (fun h => by cases h) (fun h => by cases h) hk0 hk1 hkk0 hkk1 (by simp [refKind]) h1 h2 h3
    (by rw [nn sp h1, nn n h3]; show ¬ _ > ((arrV c0 n0 (fun j => .int (f j))).slots.size : Int); rw [arrV_size]; omega)
    (by rw [nn dp h2, nn n h3]; show ¬ _ > ((arrV c0 n1 (fun j => .int (g j))).slots.size : Int); rw [arrV_size]; omega)
    (fun vm₁ _ i hi => by
      have e9 : (vp_cell c0 (n0, .inl f)).slots.getD (sp.toNatClampNeg + i) .null = .int (f (sp.toNatClampNeg + i)) := by
        show (arrV c0 n0 (fun j => .int (f j))).slots.getD _ _ = _
        rw [Array.getD_eq_getD_getElem?, arrV_read _ _ (by omega)]
        rfl
      refine ⟨?_, ?_⟩
      · rw [e9]
        rfl
      · rw [e9]
        exact trivial)
    (g := F0 m pc ls (.int n :: .int dp :: .ref a :: .int sp :: .ref a0 :: rest)) rfl (by rw [hml]) (rest := rest) rfl (by rw [hb]; exact hdg) hframes (by show 2 * 0 + _ + _ ≤ _; omega)
  have e1 : copied (vp_cell c0 (n0, .inl f)) (vp_cell c0 (n1, .inl g)) sp dp n = vp_cell c0 (n1, .inl (va_cpy f g sp.toNatClampNeg dp.toNatClampNeg n.toNatClampNeg)) := va_copied (fun z => .int z) c0 c0 f g h4
  rw [e1] at X' step
  have hl : a < H.size := (Array.getElem?_eq_some_iff.mp hc1).1
  have hheap : ((T.setVm vm').setCell a (vp_cell c0 (n1, .inl (va_cpy f g sp.toNatClampNeg dp.toNatClampNeg n.toNatClampNeg)))).heap = H.setIfInBounds a (vp_cell c0 (n1, .inl (va_cpy f g sp.toNatClampNeg dp.toNatClampNeg n.toNatClampNeg))) := by rw [← hT]; rfl
  obtain ⟨t, a1, b1⟩ := kk _ _ (show (H.setIfInBounds a _)[a]? = some _ by simp [Array.getElem?_setIfInBounds, hl]) (by simp) (fun q hq => by simp [Array.getElem?_setIfInBounds, Ne.symm hq]) (fun q hq => by
      rcases List.mem_append.mp hq with h | h
      · exact Or.inl h
      · obtain ⟨z, -, hz⟩ := List.mem_map.mp h
        exact Or.inr (by rw [← hz])) _ hheap X'
  exact ⟨t, step t a1, b1⟩
theorem zs_getf (F : zr_Fr p s m args meth c M D cI cJ cO ad base S0) {room : Bool} {i : Nat} (hd : decode M.2.1 pc = .ok (.getfield i, len)) (h : zx_step M.2.2.2.2.1 (M.1.name == "<init>") room (.getfield i) len pc L st σ = some (pc1, L1, st1, σ1)) (k : zr_W p l e R s m args below meth c Q D cI cJ cO ad base S0 M.2.2.1 pc1 L1 st1 σ1 cells slots) : zr_W p l e R s m args below meth c Q D cI cJ cO ad base S0 M.2.2.1 pc L st σ cells slots := by
  simp only [zx_step] at h
  split at h
  next q =>
    subst q
    split at h
    next ci kf o r hF =>
      split at h
      next hk =>
        cases h
        intro ls H locs hL hR hl
        obtain ⟨C, T, N, g1, g2, g3, g4, g5, g6, g7, g8⟩ := zt_F_of hF
        dsimp only at g1 g2 g3 g4 g5 g6 g7 g8
        obtain ⟨-, -, a3⟩ := hR.2.2.1 o (by omega)
        obtain ⟨r0, b1, b2⟩ := a3.2.2.2.2 ci hk
        have e0 : r0 = (C, T, N) := Option.some.inj (b1.symm.trans g1)
        subst e0
        refine va_get (v := zr_v ad (zx_fv σ ci o kf)) F.1 F.2.1 F.2.2.2.2.1 g4 F.2.2.2.1 F.2.2.2.2.2.1.1 (zr_obj g1 b2) 0 rfl g1 kf g3 (F.2.2.2.2.1 _ g5) (fun _ z => z) ?_ hd (k ls H locs hL hR hl)
        simp [g3]
      next => cases h
    next => cases h
  next => cases h
/-- a field is written -/
theorem zr_put (F : zr_Fr p s m args meth c M D cI cJ cO ad base S0) {H : Heap} {locs : List Loc} {ls : Array Slot} {rest : List Value} {i ci kf a : Nat} {v : Value} {V : Nat → Value} (hF : zt_okF (M.2.2.2.2.1, i, ci, kf)) (hfin : zt_fin ci kf = true → (M.1.name == "<init>") = true ∧ ci = 3 + M.2.2.2.2.1) (hn : narrow (zt_ty ci kf) v = v) (hfit : fits (zt_ty ci kf) v = true) (hab : base ≤ a) (hl : ∀ q ∈ locs, base ≤ q.base)
    (hcell : ∃ r : vw_C, vwCl[ci]? = some r ∧ t_OB a (D.1 ci) r.2.2 (D.2 ci) H V) (hd : decode M.2.1 pc = .ok (.putfield i, 3))
    (kk : ∀ (H1 : Heap) (locs1 : List Loc), (∃ r : vw_C, vwCl[ci]? = some r ∧ t_OB a (D.1 ci) r.2.2 (D.2 ci) H1 (updV V kf v)) → H1.size = H.size → (∀ q : Nat, q ≠ a → H1[q]? = H[q]?) → (∀ q ∈ locs1, base ≤ q.base) → W p l e R s m args below meth c H1 locs1 cells slots Q (F0 m (pc + 3) ls rest)) : W p l e R s m args below meth c H locs cells slots Q (F0 m pc ls (v :: .ref a :: rest)) := by
  obtain ⟨C, T, N, g1, g2, g3, g4, g5, g6, g7, g8⟩ := hF
  dsimp only at g1 g2 g3 g4 g5 g6 g7 g8
  obtain ⟨hx, hb, hml, hown, hts, ⟨hK, hnest, hao, hal⟩, hr, hlocks, hini, hA⟩ := F
  have hap := va_apart (own := zt_own M.2.2.2.2.1) hts g4 (zt_ty ci) g6 g7 hK g1
  obtain ⟨r0, b1, cell, q1, q2, q3, q4⟩ := hcell
  have e0 : r0 = (C, T, N) := Option.some.inj (b1.symm.trans g1)
  subst e0
  obtain ⟨hS, hfc, kC, hkC, hkind⟩ := hK.1 ci _ g1
  obtain ⟨cf, kf', fi, f, hi, hsl⟩ := hS kf g3
  have hlay := hts _ (g4 _ (u_in_lay g3))
  have hst := (u_facts hfc hkC (u_lays hts g4 g3) hi).1
  have hpf := g6 kf g3
  have hloc : ∀ q ∈ locs ++ [⟨a, f.slot⟩], base ≤ q.base := fun q hq => by
    rcases List.mem_append.mp hq with z | z
    · exact hl q z
    · rw [List.mem_singleton.mp z]; exact hab
  cases hfi : (T kf).2.2.2 with
  | false =>
    unfold u_lay at hlay
    rw [if_neg (by rw [hfi]; decide)] at hlay
    have h6 := u_store hfc hkC hkind hlay hi hpf hn hfit
    refine W.putK hx hb (f := f) ⟨hown, hts _ g5, ⟨_, _, _, hi⟩, hst⟩ (by rw [q2]; exact h6) q1 q3 (by rw [hsl]; exact k2_hasslot (q4 kf g3)) rfl rfl hd fun H' e1 e2 e3 => ?_
    rw [hsl] at e1
    exact kk H' _ ⟨_, g1, ⟨_, e1, q2, q3, t_set q4 hap g3 v⟩⟩ e2 e3 hloc
  | true =>
    unfold u_lay at hlay
    rw [if_pos hfi] at hlay
    have hin2 : meth.name = "<init>" := hini (hfin (by unfold zt_fin; rw [← g2]; exact hfi)).1
    have hcf : m.cls = cf := by
      obtain ⟨_, _, c', _, _, _, -, -, hf', -, -, -, hown2, -⟩ := Cond.laysFinal_spec hlay
      have e1 : c' = cf := by have := hi.symm.trans hf'; simp at this; exact this.1.symm
      rw [g8] at hown2
      rw [← e1]
      have hci := (hfin (by unfold zt_fin; rw [← g2]; exact hfi)).2
      have hC : C = zt_own M.2.2.2.2.1 := zt_ownC M.2.2.2.2.1 (C, T, N) (by rw [← hci]; exact g1)
      rw [hC] at hown2
      exact Option.some.inj (hown.symm.trans hown2)
    have h6 := u_fits hfc hkC hkind (Or.inr hlay) hi hpf hn hfit
    refine W.putFinK hx hb hown (hts _ g5) hi hst hcf hin2 (by rw [q2]; exact h6) q1 q3 (by rw [hsl]; exact k2_hasslot (q4 kf g3)) rfl rfl hd fun H' e1 e2 e3 => ?_
    rw [hsl] at e1
    exact kk H' _ ⟨_, g1, ⟨_, e1, q2, q3, t_set q4 hap g3 v⟩⟩ e2 e3 hloc
theorem zs_putf (F : zr_Fr p s m args meth c M D cI cJ cO ad base S0) {room : Bool} {i : Nat} (hd : decode M.2.1 pc = .ok (.putfield i, len)) (h : zx_step M.2.2.2.2.1 (M.1.name == "<init>") room (.putfield i) len pc L st σ = some (pc1, L1, st1, σ1)) (k : zr_W p l e R s m args below meth c Q D cI cJ cO ad base S0 M.2.2.1 pc1 L1 st1 σ1 cells slots) : zr_W p l e R s m args below meth c Q D cI cJ cO ad base S0 M.2.2.1 pc L st σ cells slots := by
  simp only [zx_step] at h
  split at h
  next q =>
    subst q
    split at h
    next ci kf hF =>
      split at h
      next v o r hty =>
        split at h
        next hk =>
          cases h
          intro ls H locs hL hR hl
          obtain ⟨a1, a2, a3⟩ := hR.2.2.1 o (by omega)
          have ho : 1 ≤ o := a2 (by omega)
          refine zr_put F (V := fun f => zr_v ad (zx_fv σ ci o f)) (zt_F_of hF) hk.2 (by rw [hty]; rfl) (by rw [hty]; rfl) (F.2.2.2.2.2.2.2.2.2.2.1 o ho) hl (a3.2.2.2.2 ci hk.1) hd (fun H1 locs1 hc1 z oq hl1 => k ls H1 locs1 hL (hR.upd F.2.2.2.2.2.2.2.2.2 ho rfl rfl rfl (fun j hj => if_neg hj) (fun _ _ => rfl) (fun _ _ => rfl) z oq ?_) hl1)
          have eK : zK (zx_pI σ o kf v) o = 10 + ci := hk.1
          refine ⟨fun q => by omega, fun q => by omega, fun q => by omega, fun q => by omega, fun cj ej => ?_⟩
          have : cj = ci := by omega
          subst this
          obtain ⟨r0, b1, b2⟩ := hc1
          refine ⟨r0, b1, b2.to (fun f hf => ?_)⟩
          by_cases ef : f = kf
          · subst ef
            simp [updV, zx_fv, hty, zx_pI, zI, upd, zr_v]
          · simp only [updV, if_neg ef, zx_fv]
            split <;> simp [zx_pI, zI, zR, upd, ef]
        next => cases h
      next nm v o r hty =>
        split at h
        next hk =>
          cases h
          intro ls H locs hL hR hl
          obtain ⟨a1, a2, a3⟩ := hR.2.2.1 o (by omega)
          have ho : 1 ≤ o := a2 (by omega)
          refine zr_put F (V := fun f => zr_v ad (zx_fv σ ci o f)) (zt_F_of hF) hk.2 (by rw [hty]; rfl) (by rw [hty]; rfl) (F.2.2.2.2.2.2.2.2.2.2.1 o ho) hl (a3.2.2.2.2 ci hk.1) hd (fun H1 locs1 hc1 z oq hl1 => k ls H1 locs1 hL (hR.upd F.2.2.2.2.2.2.2.2.2 ho rfl rfl rfl (fun _ _ => rfl) (fun j hj => if_neg hj) (fun _ _ => rfl) z oq ?_) hl1)
          have eK : zK (zx_pR σ o kf (some v)) o = 10 + ci := hk.1
          refine ⟨fun q => by omega, fun q => by omega, fun q => by omega, fun q => by omega, fun cj ej => ?_⟩
          have : cj = ci := by omega
          subst this
          obtain ⟨r0, b1, b2⟩ := hc1
          refine ⟨r0, b1, b2.to (fun f hf => ?_)⟩
          by_cases ef : f = kf
          · subst ef
            simp [updV, zx_fv, hty, zx_pR, zR, va_up, va_rf, zr_v]
          · simp only [updV, if_neg ef, zx_fv]
            split <;> simp [zx_pR, zI, zR, va_up, ef]
        next => cases h
      next nm v o r hty =>
        split at h
        next hk =>
          cases h
          intro ls H locs hL hR hl
          obtain ⟨a1, a2, a3⟩ := hR.2.2.1 o (by omega)
          have ho : 1 ≤ o := a2 (by omega)
          refine zr_put F (V := fun f => zr_v ad (zx_fv σ ci o f)) (zt_F_of hF) hk.2 (by rw [hty]; rfl) (by rw [hty]; rfl) (F.2.2.2.2.2.2.2.2.2.2.1 o ho) hl (a3.2.2.2.2 ci hk.1) hd (fun H1 locs1 hc1 z oq hl1 => k ls H1 locs1 hL (hR.upd F.2.2.2.2.2.2.2.2.2 ho rfl rfl rfl (fun _ _ => rfl) (fun j hj => if_neg hj) (fun _ _ => rfl) z oq ?_) hl1)
          have eK : zK (zx_pR σ o kf (some v)) o = 10 + ci := hk.1
          refine ⟨fun q => by omega, fun q => by omega, fun q => by omega, fun q => by omega, fun cj ej => ?_⟩
          have : cj = ci := by omega
          subst this
          obtain ⟨r0, b1, b2⟩ := hc1
          refine ⟨r0, b1, b2.to (fun f hf => ?_)⟩
          by_cases ef : f = kf
          · subst ef
            simp [updV, zx_fv, hty, zx_pR, zR, va_up, va_rf, zr_v]
          · simp only [updV, if_neg ef, zx_fv]
            split <;> simp [zx_pR, zI, zR, va_up, ef]
        next => cases h
      next => cases h
    next => cases h
  next => cases h
theorem zs_iald (F : zr_Fr p s m args meth c M D cI cJ cO ad base S0) {room : Bool}  (hd : decode M.2.1 pc = .ok (.iaload, len)) (h : zx_step M.2.2.2.2.1 (M.1.name == "<init>") room (.iaload) len pc L st σ = some (pc1, L1, st1, σ1)) (k : zr_W p l e R s m args below meth c Q D cI cJ cO ad base S0 M.2.2.1 pc1 L1 st1 σ1 cells slots) : zr_W p l e R s m args below meth c Q D cI cJ cO ad base S0 M.2.2.1 pc L st σ cells slots := by
  simp only [zx_step] at h
  split at h
  next q =>
    subst q
    split at h
    next i a r =>
      split at h
      next hk =>
        cases h
        intro ls H locs hL hR hl
        obtain ⟨a1, a2, a3⟩ := hR.2.2.1 a (by omega)
        rcases hk.1 with h1 | h4
        · have hin := zx_in_vp hk.2
          have hlt : i.toNatClampNeg < zN σ a := Nat.not_le.mp fun q => hin (Or.inr q)
          exact W.iald (v := .int (zI σ a i.toNatClampNeg)) F.1 F.2.1 (a3.1 h1) ((F.2.2.2.2.2.1.1.2 0 _ zr_t0).1 _ (fun j => .int (zI σ a j))) (fun q => by cases q) (by rw [arrV_size]; exact hin) (by rw [arrV_read _ _ hlt]) rfl rfl hd (k ls H locs hL hR hl)
        · obtain ⟨scr, b1, b2, b3, b4, b5⟩ := (a3.2.2.2.1 h4).moved F.2.2.2.2.2.1.2.2.2
          have hin := zx_in_vp hk.2
          have hlt : i.toNatClampNeg < zN σ a := Nat.not_le.mp fun q => hin (Or.inr q)
          exact W.iald (v := .int (zI σ a i.toNatClampNeg)) F.1 F.2.1 b1 b2 b3 (by rw [b4]; exact hin) (b5 _ hlt) rfl rfl hd (k ls H locs hL hR hl)
      next => cases h
    next => cases h
  next => cases h
theorem zs_lald (F : zr_Fr p s m args meth c M D cI cJ cO ad base S0) {room : Bool}  (hd : decode M.2.1 pc = .ok (.laload, len)) (h : zx_step M.2.2.2.2.1 (M.1.name == "<init>") room (.laload) len pc L st σ = some (pc1, L1, st1, σ1)) (k : zr_W p l e R s m args below meth c Q D cI cJ cO ad base S0 M.2.2.1 pc1 L1 st1 σ1 cells slots) : zr_W p l e R s m args below meth c Q D cI cJ cO ad base S0 M.2.2.1 pc L st σ cells slots := by
  simp only [zx_step] at h
  split at h
  next q =>
    subst q
    split at h
    next i a r =>
      split at h
      next hk =>
        cases h
        intro ls H locs hL hR hl
        obtain ⟨a1, a2, a3⟩ := hR.2.2.1 a (by omega)
        have hin := zx_in_vp hk.2
        have hlt : i.toNatClampNeg < zN σ a := Nat.not_le.mp fun q => hin (Or.inr q)
        exact W.lald (v := .long (zJ σ a i.toNatClampNeg)) F.1 F.2.1 (a3.2.1 hk.1) ((F.2.2.2.2.2.1.1.2 1 _ zr_t1).1 _ (fun j => .long (zJ σ a j))) (fun q => by cases q) (by rw [arrV_size]; exact hin) (by rw [arrV_read _ _ hlt]) rfl rfl hd (k ls H locs hL hR hl)
      next => cases h
    next => cases h
  next => cases h
theorem zs_aald (F : zr_Fr p s m args meth c M D cI cJ cO ad base S0) {room : Bool}  (hd : decode M.2.1 pc = .ok (.aaload, len)) (h : zx_step M.2.2.2.2.1 (M.1.name == "<init>") room (.aaload) len pc L st σ = some (pc1, L1, st1, σ1)) (k : zr_W p l e R s m args below meth c Q D cI cJ cO ad base S0 M.2.2.1 pc1 L1 st1 σ1 cells slots) : zr_W p l e R s m args below meth c Q D cI cJ cO ad base S0 M.2.2.1 pc L st σ cells slots := by
  simp only [zx_step] at h
  split at h
  next q =>
    subst q
    split at h
    next i a r =>
      split at h
      next hk =>
        cases h
        intro ls H locs hL hR hl
        obtain ⟨a1, a2, a3⟩ := hR.2.2.1 a (by omega)
        have hin := zx_in_vp hk.2
        have hlt : i.toNatClampNeg < zN σ a := Nat.not_le.mp fun q => hin (Or.inr q)
        refine W.aald (v := zr_v ad (va_rf (zR σ a i.toNatClampNeg))) (ty := .object RX1) F.1 F.2.1 (a3.2.2.1 hk.1) ((F.2.2.2.2.2.1.1.2 2 _ zr_t2).1 _ (fun j => va_rf ((zR σ a j).map ad))) rfl (fun q => by cases q) (by rw [arrV_size]; exact hin) (by rw [arrV_read _ _ hlt, zr_rf]) rfl rfl hd (k ls H locs hL hR hl)
      next => cases h
    next => cases h
  next => cases h
theorem zs_iast (F : zr_Fr p s m args meth c M D cI cJ cO ad base S0) {room : Bool}  (hd : decode M.2.1 pc = .ok (.iastore, len)) (h : zx_step M.2.2.2.2.1 (M.1.name == "<init>") room (.iastore) len pc L st σ = some (pc1, L1, st1, σ1)) (k : zr_W p l e R s m args below meth c Q D cI cJ cO ad base S0 M.2.2.1 pc1 L1 st1 σ1 cells slots) : zr_W p l e R s m args below meth c Q D cI cJ cO ad base S0 M.2.2.1 pc L st σ cells slots := by
  simp only [zx_step] at h
  split at h
  next q =>
    subst q
    split at h
    next v i a r =>
      split at h
      next hk =>
        cases h
        intro ls H locs hL hR hl
        obtain ⟨a1, a2, a3⟩ := hR.2.2.1 a (by omega)
        have ha : 1 ≤ a := a2 (by omega)
        have hin := zx_in_vp hk.2
        refine W.iast F.1 F.2.1 (a3.1 hk.1) ((F.2.2.2.2.2.1.1.2 0 _ zr_t0).1 _ (fun j => .int (zI σ a j))) (fun q => by cases q) (by rw [arrV_size]; exact hin) rfl rfl hd fun H1 e1 z oq => ?_
        have hab := F.2.2.2.2.2.2.2.2.2.2.1 a ha
        refine k ls H1 _ hL (hR.upd F.2.2.2.2.2.2.2.2.2 ha rfl rfl rfl (fun j hj => if_neg hj) (fun _ _ => rfl) (fun _ _ => rfl) z oq ?_) (fun q hq => ?_)
        · have eK : zK (zx_pI σ a i.toNatClampNeg v) a = 1 := hk.1
          refine ⟨fun q => ?_, fun q => ?_, fun q => by omega, fun q => by omega, fun cj ej => by omega⟩
          · skip
            rw [e1, arrV_store]
            congr 2
            funext q
            by_cases hq : q = i.toNatClampNeg
            · subst hq
              simp [updV, zx_pI, zI, upd]
            · simp [updV, zx_pI, zI, upd, hq]
          · omega
            
        · rcases List.mem_append.mp hq with z9 | z9
          · exact hl q z9
          · rw [List.mem_singleton.mp z9]; exact hab
      next => cases h
    next => cases h
  next => cases h
theorem zs_last (F : zr_Fr p s m args meth c M D cI cJ cO ad base S0) {room : Bool}  (hd : decode M.2.1 pc = .ok (.lastore, len)) (h : zx_step M.2.2.2.2.1 (M.1.name == "<init>") room (.lastore) len pc L st σ = some (pc1, L1, st1, σ1)) (k : zr_W p l e R s m args below meth c Q D cI cJ cO ad base S0 M.2.2.1 pc1 L1 st1 σ1 cells slots) : zr_W p l e R s m args below meth c Q D cI cJ cO ad base S0 M.2.2.1 pc L st σ cells slots := by
  simp only [zx_step] at h
  split at h
  next q =>
    subst q
    split at h
    next v i a r =>
      split at h
      next hk =>
        cases h
        intro ls H locs hL hR hl
        obtain ⟨a1, a2, a3⟩ := hR.2.2.1 a (by omega)
        have ha : 1 ≤ a := a2 (by omega)
        have hin := zx_in_vp hk.2
        refine W.last F.1 F.2.1 (a3.2.1 hk.1) ((F.2.2.2.2.2.1.1.2 1 _ zr_t1).1 _ (fun j => .long (zJ σ a j))) (fun q => by cases q) (by rw [arrV_size]; exact hin) rfl rfl hd fun H1 e1 z oq => ?_
        have hab := F.2.2.2.2.2.2.2.2.2.2.1 a ha
        refine k ls H1 _ hL (hR.upd F.2.2.2.2.2.2.2.2.2 ha rfl rfl rfl (fun _ _ => rfl) (fun _ _ => rfl) (fun j hj => if_neg hj) z oq ?_) (fun q hq => ?_)
        · have eK : zK (zx_pJ σ a i.toNatClampNeg v) a = 2 := hk.1
          refine ⟨fun q => ?_, fun q => ?_, fun q => by omega, fun q => by omega, fun cj ej => by omega⟩
          · omega
            
          · skip
            rw [e1, arrV_store]
            congr 2
            funext q
            by_cases hq : q = i.toNatClampNeg
            · subst hq
              simp [updV, zx_pJ, zJ, vp_updL]
            · simp [updV, zx_pJ, zJ, vp_updL, hq]
        · rcases List.mem_append.mp hq with z9 | z9
          · exact hl q z9
          · rw [List.mem_singleton.mp z9]; exact hab
      next => cases h
    next => cases h
  next => cases h
theorem zs_aast (F : zr_Fr p s m args meth c M D cI cJ cO ad base S0) {room : Bool}  (hd : decode M.2.1 pc = .ok (.aastore, len)) (h : zx_step M.2.2.2.2.1 (M.1.name == "<init>") room (.aastore) len pc L st σ = some (pc1, L1, st1, σ1)) (k : zr_W p l e R s m args below meth c Q D cI cJ cO ad base S0 M.2.2.1 pc1 L1 st1 σ1 cells slots) : zr_W p l e R s m args below meth c Q D cI cJ cO ad base S0 M.2.2.1 pc L st σ cells slots := by
  simp only [zx_step] at h
  split at h
  next q =>
    subst q
    split at h
    next v i a r =>
      split at h
      next hk =>
        cases h
        intro ls H locs hL hR hl
        obtain ⟨a1, a2, a3⟩ := hR.2.2.1 a (by omega)
        obtain ⟨v1, v2, v3⟩ := hR.2.2.1 v (by omega)
        have ha : 1 ≤ a := a2 (by omega)
        have hv : 1 ≤ v := v2 (by omega)
        have hne : a ≠ v := fun q => by rw [q] at hk; omega
        have hin := zx_in_vp hk.2.2
        obtain ⟨r0, b1, b2⟩ := v3.2.2.2.2 4 hk.2.1
        have e0 : r0 = (RX1, TX1, 8) := (Option.some.inj b1).symm
        subst e0
        have hab := F.2.2.2.2.2.2.2.2.2.2.1 a ha
        obtain ⟨cellB, q1, q2, q3, q4⟩ := b2
        obtain ⟨hArr, kA, comp, g1, g2, g3, g4⟩ := F.2.2.2.2.2.1.1.2 2 _ zr_t2
        obtain ⟨hS, hfc, kC, hkC, hkind⟩ := F.2.2.2.2.2.1.1.1 4 _ (show vwCl[4]? = some (RX1, TX1, 8) from rfl)
        have hcc : comp = D.1 4 := Option.some.inj (g3.symm.trans hfc)
        refine W.aast (t := .object RX1) F.1 F.2.1 (a3.2.2.1 hk.1) (fun q h => by cases h) (fun h => by cases h) g1 g2 rfl (by rw [hcc]; exact hkC) ⟨fun q => hin (Or.inl q), by rw [arrV_size]; exact Nat.not_le.mp fun q => hin (Or.inr q)⟩ q1 (fun q h => by rw [q3] at h; cases h) (by rw [q2]; exact hkC) (by rw [q2, hcc]; exact va_assign ⟨hfc, kC, hkC, hkind⟩) rfl rfl hd fun H1 e1 z oq => ?_
        refine k ls H1 _ hL (hR.upd F.2.2.2.2.2.2.2.2.2 ha rfl rfl rfl (fun _ _ => rfl) (fun j hj => if_neg hj) (fun _ _ => rfl) z oq ?_) (fun q hq => ?_)
        · have eK : zK (zx_pR σ a i.toNatClampNeg (some v)) a = 3 := hk.1
          refine ⟨fun q => by omega, fun q => by omega, fun q => ?_, fun q => by omega, fun cj ej => by omega⟩
          rw [e1, arrV_store]
          congr 2
          funext q
          by_cases hq : q = i.toNatClampNeg
          · subst hq
            simp [updV, zx_pR, zR, va_up, va_rf]
          · simp [updV, zx_pR, zR, va_up, hq]
        · rcases List.mem_append.mp hq with z9 | z9
          · exact hl q z9
          · rw [List.mem_singleton.mp z9]; exact hab
      next => cases h
    next => cases h
  next => cases h
theorem zs_alen (F : zr_Fr p s m args meth c M D cI cJ cO ad base S0) {room : Bool}  (hd : decode M.2.1 pc = .ok (.arraylength, len)) (h : zx_step M.2.2.2.2.1 (M.1.name == "<init>") room (.arraylength) len pc L st σ = some (pc1, L1, st1, σ1)) (k : zr_W p l e R s m args below meth c Q D cI cJ cO ad base S0 M.2.2.1 pc1 L1 st1 σ1 cells slots) : zr_W p l e R s m args below meth c Q D cI cJ cO ad base S0 M.2.2.1 pc L st σ cells slots := by
  simp only [zx_step] at h
  split at h
  next q =>
    subst q
    split at h
    next a r =>
      split at h
      next hk =>
        cases h
        intro ls H locs hL hR hl
        obtain ⟨a1, a2, a3⟩ := hR.2.2.1 a (by omega)
        rcases hk with h1 | h4
        · exact W.alen (ty := .int) F.1 F.2.1 (a3.1 h1) ((F.2.2.2.2.2.1.1.2 0 _ zr_t0).1 _ (fun j => .int (zI σ a j))) (by rw [arrV_size]) rfl rfl hd (k ls H locs hL hR hl)
        · obtain ⟨scr, b1, b2, b3, b4, b5⟩ := (a3.2.2.2.1 h4).moved F.2.2.2.2.2.1.2.2.2
          exact W.alen (ty := .int) F.1 F.2.1 b1 b2 (by rw [b4]) rfl rfl hd (k ls H locs hL hR hl)
      next => cases h
    next => cases h
  next => cases h
theorem zs_newa (F : zr_Fr p s m args meth c M D cI cJ cO ad base S0) {room : Bool} {t : ArrayType} (hd : decode M.2.1 pc = .ok (.newarray t, len)) (h : zx_step M.2.2.2.2.1 (M.1.name == "<init>") room (.newarray t) len pc L st σ = some (pc1, L1, st1, σ1)) (hcl : cells + (zn σ1 - zn σ) ≤ R.cells) (hsl : slots + (zs σ1 - zs σ) ≤ R.slots) (k : zr_W p l e R s m args below meth c Q D cI cJ cO ad base S0 M.2.2.1 pc1 L1 st1 σ1 (cells + (zn σ1 - zn σ)) (slots + (zs σ1 - zs σ))) : zr_W p l e R s m args below meth c Q D cI cJ cO ad base S0 M.2.2.1 pc L st σ cells slots := by
  simp only [zx_step] at h
  split at h
  next q =>
    subst q
    split at h
    next n r =>
      split at h
      next hk =>
        cases h
        intro ls H locs hL hR hl
        have en : zn (zx_nw σ 1 n.toNatClampNeg n.toNatClampNeg) - zn σ = 1 := by show zn σ + 1 - zn σ = 1; omega
        have es : zs (zx_nw σ 1 n.toNatClampNeg n.toNatClampNeg) - zs σ = n.toNatClampNeg := by show zs σ + n.toNatClampNeg - zs σ = _; omega
        rw [en] at hcl k
        rw [es] at hsl k
        refine va_newaK (atype := .int) F.1 F.2.1 (F.2.2.2.2.1 _ zo_aI) rfl hd rfl hk.1 rfl (by show n.toNatClampNeg * 4 ≤ 536870912; omega) hcl hsl hR.1 fun H1 cA e1 z oq hArr hfc => ?_
        have hcA : cA = cI := by
          have q := (F.2.2.2.2.2.1.1.2 0 _ zr_t0).2
          exact Option.some.inj (hfc.symm.trans q)
        subst hcA
        refine k ls H1 locs hL (hR.new F.2.2.2.2.2.2.2.2.2 (by rw [z, hR.1]) (fun q hq => oq q (by rw [← hR.1]; exact hq)) (by decide) (fun _ => ⟨fun _ => ?_, fun q => ?_, fun q => ?_, fun q => ?_, fun cj ej => ?_⟩)) hl
        · rw [e1]
          have q1 : zN (zx_nw σ 1 n.toNatClampNeg n.toNatClampNeg) (zn σ) = n.toNatClampNeg := if_pos rfl
          have q2 : zI (zx_nw σ 1 n.toNatClampNeg n.toNatClampNeg) (zn σ) = fun _ => 0 := if_pos rfl
          rw [q1, q2]
          rfl
        · have q2 : zK (zx_nw σ 1 n.toNatClampNeg n.toNatClampNeg) (zn σ) = 1 := if_pos rfl
          omega
        · have q2 : zK (zx_nw σ 1 n.toNatClampNeg n.toNatClampNeg) (zn σ) = 1 := if_pos rfl
          omega
        · have q2 : zK (zx_nw σ 1 n.toNatClampNeg n.toNatClampNeg) (zn σ) = 1 := if_pos rfl
          omega
        · have q2 : zK (zx_nw σ 1 n.toNatClampNeg n.toNatClampNeg) (zn σ) = 1 := if_pos rfl
          omega
      next => cases h
    next n r =>
      split at h
      next hk =>
        cases h
        intro ls H locs hL hR hl
        have en : zn (zx_nw σ 2 n.toNatClampNeg n.toNatClampNeg) - zn σ = 1 := by show zn σ + 1 - zn σ = 1; omega
        have es : zs (zx_nw σ 2 n.toNatClampNeg n.toNatClampNeg) - zs σ = n.toNatClampNeg := by show zs σ + n.toNatClampNeg - zs σ = _; omega
        rw [en] at hcl k
        rw [es] at hsl k
        refine va_newaK (atype := .long) F.1 F.2.1 (F.2.2.2.2.1 _ zo_aJ) rfl hd rfl hk.1 rfl (by show n.toNatClampNeg * 8 ≤ 536870912; omega) hcl hsl hR.1 fun H1 cA e1 z oq hArr hfc => ?_
        have hcA : cA = cJ := by
          have q := (F.2.2.2.2.2.1.1.2 1 _ zr_t1).2
          exact Option.some.inj (hfc.symm.trans q)
        subst hcA
        refine k ls H1 locs hL (hR.new F.2.2.2.2.2.2.2.2.2 (by rw [z, hR.1]) (fun q hq => oq q (by rw [← hR.1]; exact hq)) (by decide) (fun _ => ⟨fun q => ?_, fun _ => ?_, fun q => ?_, fun q => ?_, fun cj ej => ?_⟩)) hl
        · have q2 : zK (zx_nw σ 2 n.toNatClampNeg n.toNatClampNeg) (zn σ) = 2 := if_pos rfl
          omega
        · rw [e1]
          have q1 : zN (zx_nw σ 2 n.toNatClampNeg n.toNatClampNeg) (zn σ) = n.toNatClampNeg := if_pos rfl
          have q2 : zJ (zx_nw σ 2 n.toNatClampNeg n.toNatClampNeg) (zn σ) = fun _ => 0 := if_pos rfl
          rw [q1, q2]
          rfl
        · have q2 : zK (zx_nw σ 2 n.toNatClampNeg n.toNatClampNeg) (zn σ) = 2 := if_pos rfl
          omega
        · have q2 : zK (zx_nw σ 2 n.toNatClampNeg n.toNatClampNeg) (zn σ) = 2 := if_pos rfl
          omega
        · have q2 : zK (zx_nw σ 2 n.toNatClampNeg n.toNatClampNeg) (zn σ) = 2 := if_pos rfl
          omega
      next => cases h
    next => cases h
  next => cases h
theorem zs_anew (F : zr_Fr p s m args meth c M D cI cJ cO ad base S0) {room : Bool} {i : Nat} (hd : decode M.2.1 pc = .ok (.anewarray i, len)) (h : zx_step M.2.2.2.2.1 (M.1.name == "<init>") room (.anewarray i) len pc L st σ = some (pc1, L1, st1, σ1)) (hcl : cells + (zn σ1 - zn σ) ≤ R.cells) (hsl : slots + (zs σ1 - zs σ) ≤ R.slots) (k : zr_W p l e R s m args below meth c Q D cI cJ cO ad base S0 M.2.2.1 pc1 L1 st1 σ1 (cells + (zn σ1 - zn σ)) (slots + (zs σ1 - zs σ))) : zr_W p l e R s m args below meth c Q D cI cJ cO ad base S0 M.2.2.1 pc L st σ cells slots := by
  simp only [zx_step] at h
  split at h
  next q =>
    subst q
    split at h
    next n r hA =>
      split at h
      next hk =>
        cases h
        intro ls H locs hL hR hl
        have en : zn (zx_nw σ 3 n.toNatClampNeg n.toNatClampNeg) - zn σ = 1 := by show zn σ + 1 - zn σ = 1; omega
        have es : zs (zx_nw σ 3 n.toNatClampNeg n.toNatClampNeg) - zs σ = n.toNatClampNeg := by show zs σ + n.toNatClampNeg - zs σ = _; omega
        rw [en] at hcl k
        rw [es] at hsl k
        refine W.anew F.1 F.2.1 F.2.2.2.1 (F.2.2.2.2.1 _ (zt_A_of hA)) (va_AO.use F.2.2.2.2.2.1.2.2.1) rfl hd rfl hk.1 (by omega) hcl hsl fun cA kA comp f1 f2 f3 f4 => ?_
        have hcA : cA = cO := by
          obtain ⟨_, _, _, _, _, q⟩ := (F.2.2.2.2.2.1.1.2 2 _ zr_t2).2
          exact Option.some.inj (f1.symm.trans q)
        subst hcA
        generalize hH1 : H.push ({ cls := cA, slots := Array.replicate n.toNatClampNeg .null, vm := .none } : Cell) = H1
        have z1 : H1.size = H.size + 1 := by rw [← hH1, Array.size_push]
        have e1 : H1[H.size]? = some (arrV cA n.toNatClampNeg (fun _ => .null)) := by rw [← hH1, Array.getElem?_push_size, ← arrV_new]
        have o1 : ∀ q : Nat, q < H.size → H1[q]? = H[q]? := fun q hq => by rw [← hH1, Array.getElem?_push, if_neg (Nat.ne_of_lt hq)]
        have kk := k ls H1 locs hL (hR.new F.2.2.2.2.2.2.2.2.2 z1 o1 (by decide) (fun _ => by
          have q2 : zK (zx_nw σ 3 n.toNatClampNeg n.toNatClampNeg) (zn σ) = 3 := if_pos rfl
          refine ⟨fun q => by omega, fun q => by omega, fun _ => ?_, fun q => by omega, fun cj ej => by omega⟩
          have q1 : zN (zx_nw σ 3 n.toNatClampNeg n.toNatClampNeg) (zn σ) = n.toNatClampNeg := if_pos rfl
          have q3 : zR (zx_nw σ 3 n.toNatClampNeg n.toNatClampNeg) (zn σ) = fun _ => none := if_pos rfl
          rw [q1, q3, ← hR.1, e1]
          rfl)) hl
        show W p l e R s m args below meth c H1 locs _ _ Q (F0 m (pc + 3) ls (.ref H.size :: r.map (zr_v ad)))
        rw [hR.1]
        exact kk
      next => cases h
    next => cases h
  next => cases h
theorem zs_new (F : zr_Fr p s m args meth c M D cI cJ cO ad base S0) {room : Bool} {i : Nat} (hd : decode M.2.1 pc = .ok (.new i, len)) (h : zx_step M.2.2.2.2.1 (M.1.name == "<init>") room (.new i) len pc L st σ = some (pc1, L1, st1, σ1)) (hcl : cells + (zn σ1 - zn σ) ≤ R.cells) (hsl : slots + (zs σ1 - zs σ) ≤ R.slots) (k : zr_W p l e R s m args below meth c Q D cI cJ cO ad base S0 M.2.2.1 pc1 L1 st1 σ1 (cells + (zn σ1 - zn σ)) (slots + (zs σ1 - zs σ))) : zr_W p l e R s m args below meth c Q D cI cJ cO ad base S0 M.2.2.1 pc L st σ cells slots := by
  simp only [zx_step] at h
  split at h
  next q =>
    subst q
    split at h
    next ci n hN =>
      cases h
      intro ls H locs hL hR hl
      obtain ⟨C, T, g1, g2, g3, g4, g5, g6, g7⟩ := zt_N_of hN
      dsimp only at g1 g2 g3 g4 g5 g6 g7
      have en : zn (zx_nw σ (10 + ci) 0 n) - zn σ = 1 := by show zn σ + 1 - zn σ = 1; omega
      have es : zs (zx_nw σ (10 + ci) 0 n) - zs σ = n := by show zs σ + n - zs σ = _; omega
      rw [en] at hcl k
      rw [es] at hsl k
      have hKn := F.2.2.2.2.2.1.1.1 ci _ g1
      refine W.newcK F.1 F.2.1 F.2.2.2.1 (F.2.2.2.2.1 _ g3) (F.2.2.2.2.1 _ g4) (F.2.2.2.2.1 _ g5) rfl hd hcl hsl hKn.2.1 hR.1 fun H1 kC hkC e1 z oq => ?_
      refine k ls H1 locs hL (hR.new F.2.2.2.2.2.2.2.2.2 (by rw [z, hR.1]) (fun q hq => oq q (by rw [← hR.1]; exact hq)) (by omega) (fun _ => ?_)) hl
      have q2 : zK (zx_nw σ (10 + ci) 0 n) (zn σ) = 10 + ci := if_pos rfl
      refine ⟨fun q => by omega, fun q => by omega, fun q => by omega, fun q => by omega, fun cj ej => ?_⟩
      have : cj = ci := by omega
      subst this
      refine ⟨_, g1, (u_born (zt_ty cj) F.2.2.2.2.1 g2 hKn hkC e1 g6).to (fun f hf => ?_)⟩
      have i2 : zI (zx_nw σ (10 + cj) 0 n) (zn σ) = fun _ => 0 := if_pos rfl
      have r2 : zR (zx_nw σ (10 + cj) 0 n) (zn σ) = fun _ => none := if_pos rfl
      unfold zx_fv
      rw [i2, r2, g7 f hf]
      generalize zt_ty cj f = ty
      cases ty <;> rfl
    next => cases h
  next => cases h
theorem zs_spec (F : zr_Fr p s m args meth c M D cI cJ cO ad base S0) {room : Bool} {i : Nat} (hd : decode M.2.1 pc = .ok (.invokespecial i, len)) (h : zx_step M.2.2.2.2.1 (M.1.name == "<init>") room (.invokespecial i) len pc L st σ = some (pc1, L1, st1, σ1)) (hroom : room = true → 1 ≤ R.frames ∧ 40 ≤ R.locals) (k : zr_W p l e R s m args below meth c Q D cI cJ cO ad base S0 M.2.2.1 pc1 L1 st1 σ1 cells slots) : zr_W p l e R s m args below meth c Q D cI cJ cO ad base S0 M.2.2.1 pc L st σ cells slots := by
  simp only [zx_step] at h
  split at h
  next q =>
    obtain ⟨q, hrm, hsum⟩ := q
    subst q
    split at h
    next z a r hC =>
      cases h
      intro ls H locs hL hR hl
      obtain ⟨h1, h2⟩ := hroom hrm
      have hw := (zt_C_of hC).2.2.2.1 rfl
      refine W.objInit F.1 F.2.1 F.2.2.2.1 (F.2.2.2.2.1 _ hw) (F.2.2.2.2.1 _ zo_objI) (F.2.2.2.2.1 _ zo_objC) rfl (by rw [F.2.2.1]; exact hL.1) rfl hd h1 ?_ (k ls H locs hL hR hl)
      have e8 : (st1.map (zr_v ad)).map (fun v => v.category) = st1.map (fun v => v.category) := by simp [zr_cat]
      simp only [List.map_cons, List.sum_cons] at hsum
      rw [e8]
      show 2 * 0 + _ + 12 ≤ R.locals
      omega
    next => cases h
  next => cases h
theorem zs_stat (F : zr_Fr p s m args meth c M D cI cJ cO ad base S0) {room : Bool} {i : Nat} (hd : decode M.2.1 pc = .ok (.invokestatic i, len)) (h : zx_step M.2.2.2.2.1 (M.1.name == "<init>") room (.invokestatic i) len pc L st σ = some (pc1, L1, st1, σ1)) (hroom : room = true → 1 ≤ R.frames ∧ 40 ≤ R.locals) (hcl : cells ≤ R.cells) (hsl : slots ≤ R.slots) (k : zr_W p l e R s m args below meth c Q D cI cJ cO ad base S0 M.2.2.1 pc1 L1 st1 σ1 cells slots) : zr_W p l e R s m args below meth c Q D cI cJ cO ad base S0 M.2.2.1 pc L st σ cells slots := by
  simp only [zx_step] at h
  split at h
  next q =>
    obtain ⟨q, hrm, hsum⟩ := q
    subst q
    split at h
    next z y x r hC =>
      cases h
      intro ls H locs hL hR hl
      obtain ⟨h1, h2⟩ := hroom hrm
      have hw := (zt_C_of hC).2.2.2.2.1 rfl
      refine va_mmin F.1 F.2.1 (by rw [F.2.2.1]; exact hL.1.symm) F.2.2.2.1 (F.2.2.2.2.1 _ hw) (F.2.2.2.2.1 _ zo_minS) (F.2.2.2.2.1 _ zo_minI) (F.2.2.2.2.1 _ zo_minC) h1 ?_ hcl hsl hd (k ls H locs hL hR hl)
      have e8 : (r.map (zr_v ad)).map (fun v => v.category) = r.map (fun v => v.category) := by simp [zr_cat]
      simp only [List.map_cons, List.sum_cons] at hsum
      rw [e8]
      omega
    next z n dp b sp a r hC =>
      split at h
      next hk =>
        cases h
        intro ls H locs hL hR hl
        obtain ⟨h1, h2⟩ := hroom hrm
        have hw := (zt_C_of hC).2.2.2.2.2 rfl
        obtain ⟨k1, k2, k3, k4, k5, k6, k7⟩ := hk
        obtain ⟨a1, a2, a3⟩ := hR.2.2.1 a (by omega)
        obtain ⟨b1, b2, b3⟩ := hR.2.2.1 b (by omega)
        have hb1 : 1 ≤ b := b2 (by omega)
        have hab := F.2.2.2.2.2.2.2.2.2.2.1 b hb1
        have e8 : (st1.map (zr_v ad)).map (fun v => v.category) = st1.map (fun v => v.category) := by simp [zr_cat]
        simp only [List.map_cons, List.sum_cons] at hsum
        refine zr_copy F.1 F.2.1 (by rw [F.2.2.1]; exact hL.1.symm) F.2.2.2.1 (F.2.2.2.2.1 _ hw) (F.2.2.2.2.1 _ zo_cpyN) (F.2.2.2.2.1 _ zo_cpyS) (F.2.2.2.2.1 _ zo_cpyI) (F.2.2.2.2.2.1.1.2 0 _ zr_t0).1 (a3.1 k1) (b3.1 k2) k3 k4 k5 k6 k7 h1 ?_ hd fun H1 locs1 e1 z oq hl1 => ?_
        · rw [e8]
          show _ + (7 + 11) ≤ R.locals
          have hs2 : 1 + (1 + (1 + (1 + (1 + (st1.map fun v => v.category).sum)))) ≤ 13 := hsum
          omega
        · refine k ls H1 locs1 hL (hR.upd F.2.2.2.2.2.2.2.2.2 hb1 rfl rfl rfl (fun j hj => if_neg hj) (fun _ _ => rfl) (fun _ _ => rfl) z oq ?_) (fun q hq => ?_)
          · have eK : zK (zx_pA σ b (va_cpy (zI σ a) (zI σ b) sp.toNatClampNeg dp.toNatClampNeg n.toNatClampNeg)) b = 1 := k2
            refine ⟨fun _ => ?_, fun q => by omega, fun q => by omega, fun q => by omega, fun cj ej => by omega⟩
            have q3 : zI (zx_pA σ b (va_cpy (zI σ a) (zI σ b) sp.toNatClampNeg dp.toNatClampNeg n.toNatClampNeg)) b = va_cpy (zI σ a) (zI σ b) sp.toNatClampNeg dp.toNatClampNeg n.toNatClampNeg := if_pos rfl
            rw [e1, q3]
            rfl
          · rcases hl1 q hq with z9 | z9
            · exact hl q z9
            · rw [z9]; exact hab
      next => cases h
    next => cases h
  next => cases h
end ZT
