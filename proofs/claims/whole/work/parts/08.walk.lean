/-! CALLS, AND THE WHOLE WALK OF A FRAME -/
/-- the law's call of its own out, whatever the frame: what is owed of it (nothing where the frame makes no such call) -/
def zr_O (p : Program) (l : Launch) (e : Env) (R : Room) (s : State) (m : MethodId) (args : Array Value) (below : List Frame) (meth : Method) (c : Code) (Q : State → Prop) (D : va_G) (cI cJ cO : ClassId) (ad : Nat → Nat) (base : Nat) (S0 : State) (M : zx_M) : Prop :=
  ∀ (f z : Nat) (Z : zx_M) (pc : Nat) (L : zx_L) (a x : Nat) (p0 p1 : Int32) (rs : List Value) (σ σ2 σ3 : zx_S) (q : Option Value) (st3 : List Value) (ins : Instr) (cells slots : Nat),
    zx_cal M.2.2.2.2.1 ins = some (6, z) → zt_M z = some Z → decode M.2.1 pc = .ok (ins, 3) → zK σ a = 2 → 1 ≤ zN σ a → zK σ x = 19 → (rs.map fun v => v.category).sum ≤ 8 → zx f z 0 (zx_entry [.ref x, .int p0, .int p1] Z.2.2.1) [] σ = some (q, σ2) → zx_out q a rs σ2 = some (st3, σ3) →
    cells + (zn σ3 - zn σ) ≤ R.cells → slots + (zs σ3 - zs σ) ≤ R.slots → zr_W p l e R s m args below meth c Q D cI cJ cO ad base S0 M.2.2.1 (pc + 3) L st3 σ3 (cells + (zn σ3 - zn σ)) (slots + (zs σ3 - zs σ)) →
    zr_W p l e R s m args below meth c Q D cI cJ cO ad base S0 M.2.2.1 pc L (.ref a :: .int p1 :: .int p0 :: .ref x :: rs) σ cells slots
/-- the frame's ends: a return, a throw -/
def zr_E (p : Program) (l : Launch) (e : Env) (R : Room) (s : State) (m : MethodId) (args : Array Value) (below : List Frame) (meth : Method) (c : Code) (Q : State → Prop) (D : va_G) (cI cJ cO : ClassId) (ad : Nat → Nat) (base : Nat) (S0 : State) (M : zx_M) (r : Option Value) (σ1 : zx_S) (cf sf : Nat) : Prop :=
  (∀ (pc : Nat) (L : zx_L) (st : List Value) (ins : Instr) (len : Nat), decode M.2.1 pc = .ok (ins, len) → zx_ret M.2.2.2.1 ins len st = some r → zr_W p l e R s m args below meth c Q D cI cJ cO ad base S0 M.2.2.1 pc L st σ1 cf sf) ∧
  (∀ (pc : Nat) (L : zx_L) (st : List Value) (ins : Instr) (len : Nat) (σ : zx_S) (cells slots : Nat), decode M.2.1 pc = .ok (ins, len) → zx_thr M.2.2.2.2.1 ins = true → st = [] → r = some (.retAddr 0) → σ1 = zx_nw σ 0 0 6 → cf = cells + 1 → sf = slots + 6 → zr_W p l e R s m args below meth c Q D cI cJ cO ad base S0 M.2.2.1 pc L st σ cells slots)
/-- what a callee is owed: its contract -/
def zr_Pc (D : va_G) (cI cJ cO : ClassId) (ad : Nat → Nat) (base : Nat) (S0 : State) (as : List Value) (σ : zx_S) : Array Value → State → Prop := fun v U => v = (as.map (zr_v ad)).toArray ∧ zr_K D cI cJ cO S0 U ∧ zr D cI cJ cO ad base S0 σ U.heap
def zr_Qc (D : va_G) (cI cJ cO : ClassId) (ad : Nat → Nat) (base : Nat) (S0 : State) (r : Option Value) (σ1 : zx_S) : Array Value → State → Outcome → State → Prop := fun _ _ o t => o = .returned (r.map (zr_v ad)) ∧ zr D cI cJ cO ad base S0 σ1 t.heap
abbrev zr_ws (Z : zx_M) : List Cond := Cond.code Z.1 Z.2.1 Z.2.2.1 Z.2.2.2.1 :: zt_all
abbrev zr_rm (Z : zx_M) (mc ms : Nat) : Room := { frames := Z.2.2.2.2.2.2.1, cells := mc, slots := ms, locals := Z.2.2.2.2.2.2.2 }
theorem zr_goodAll {Z : zx_M} (h : zt_okM Z) : GoodIn zt_all (zr_ws Z) := fun w hw => by
  rcases List.mem_cons.mp hw with rfl | hw
  · exact ⟨h.2.1, (zt_good _ h.2.1).2⟩
  · exact ⟨hw, (zt_good _ hw).2⟩
/-- a frame that makes no call of the law's out -/
theorem zr_O.no {p : Program} {l : Launch} {e : Env} {R : Room} {s : State} {m : MethodId} {args : Array Value} {below : List Frame} {meth : Method} {c : Code} {Q : State → Prop} {D : va_G} {cI cJ cO : ClassId} {ad : Nat → Nat} {base : Nat} {S0 : State} {M : zx_M} (h : M.2.2.2.2.1 ≠ 8) : zr_O p l e R s m args below meth c Q D cI cJ cO ad base S0 M := by
  intro f z Z pc L a x p0 p1 rs σ σ2 σ3 q st3 ins cells slots hc
  exfalso
  have key : ∀ (i z : Nat), zt_C M.2.2.2.2.1 i = some (6, z) → M.2.2.2.2.1 = 8 := by
    intro i z hz
    unfold zt_C at hz
    obtain ⟨e, he, hv⟩ := Option.map_eq_some_iff.mp hz
    have h1 : ∀ e ∈ zt_Cl, e.2.2.1 = 6 → e.1 = 8 := by decide +kernel
    have h2 := List.find?_some he
    simp only [Bool.and_eq_true, beq_iff_eq] at h2
    rw [← h2.1]
    exact h1 e (List.mem_of_find?_eq_some he) (by rw [hv])
  unfold zx_cal at hc
  split at hc
  · split at hc <;> cases hc
  next i =>
    split at hc
    · cases hc
    next z' e' => exact h (key i z' e')
    · cases hc
  · split at hc <;> cases hc
  · cases hc
/-- the contract of a method, out of the walk of its frame -/
theorem zr_met {l : Launch} {D : va_G} {cI cJ cO : ClassId} {ad : Nat → Nat} {base : Nat} {S0 : State} {Z : zx_M} {as : List Value} {σ σ1 : zx_S} {r : Option Value} (hA : zr_A ad base) (hZ : zt_okM Z) (hcat : ∀ v ∈ as, v.category = 1) (hlen : as.length ≤ Z.2.2.1) (hnr : ∀ q, r ≠ some (.retAddr q))
    (walk : ∀ (p : Program) (e : Env) (s : State) (m : MethodId) (args : Array Value) (below : List Frame) (meth : Method) (c : Code) (Q : State → Prop), zr_Fr p s m args meth c Z D cI cJ cO ad base S0 → zr_E p l e (zr_rm Z (zn σ1 - zn σ) (zs σ1 - zs σ)) s m args below meth c Q D cI cJ cO ad base S0 Z r σ1 (zn σ1 - zn σ) (zs σ1 - zs σ) →
      zr_W p l e (zr_rm Z (zn σ1 - zn σ) (zs σ1 - zs σ)) s m args below meth c Q D cI cJ cO ad base S0 Z.2.2.1 0 (zx_entry as Z.2.2.1) [] σ 0 0) :
    Met l Z.1 (zr_ws Z) (zr_rm Z (zn σ1 - zn σ) (zs σ1 - zs σ)) (zr_Pc D cI cJ cO ad base S0 as σ) (zr_Qc D cI cJ cO ad base S0 r σ1) (zn σ1 - zn σ) (zs σ1 - zs σ) (fun q => base ≤ q) := by
  refine Met.ofW (cc := Z.2.1) (maxL := Z.2.2.1) (ret := Z.2.2.2.1) hZ.1 rfl ?_
  intro p e s m args below meth c s₁ B hml hv
  obtain ⟨rfl, hK, hz⟩ := hv
  have hts := atoms_spec (ws := zr_ws Z) B.pre
  have hF : zr_Fr p s m (as.map (zr_v ad)).toArray meth c Z D cI cJ cO ad base S0 := by
    refine ⟨B.exec, B.bytes, hml, ?_, fun w hw => hts w (List.mem_cons_of_mem _ hw), hK, B.returns, B.notSynchronized, fun hi => ?_, hA⟩
    · rw [← hZ.2.2.2.1]
      exact findClass_of_methodNamed B.named
    · rw [(name_of_methodNamed B.named B.method).1]
      exact eq_of_beq hi
  rw [lg_entry_eq]
  refine walk p e s m _ below meth c _ hF ⟨?_, ?_⟩ _ s.heap [] (zr_entry as hcat hlen) hz (fun q hq => by cases hq)
  · intro pc L st ins len hd hr ls H locs hL hR hl
    have hx := hF.1
    have hb := hF.2.1
    have hrt : meth.sig.returnType = Z.2.2.2.1 := B.returns
    unfold zx_ret at hr
    split at hr
    next =>
      split at hr
      next q =>
        subst q
        split at hr
        next v hret =>
          cases hr
          exact W.iret hx hb (hrt.trans hret) (fun t ht hW => ⟨rfl, by rw [ht]; exact hR⟩) hl hd B.notSynchronized
        next v hret =>
          split at hr
          next hv01 =>
            cases hr
            refine W.zret (ty := .boolean) hx hb (hrt.trans hret) ?_ (fun t ht hW => ⟨rfl, by rw [ht]; exact hR⟩) hl hd B.notSynchronized
            rcases hv01 with rfl | rfl <;> rfl
          next => cases hr
        next => cases hr
      next => cases hr
    next =>
      split at hr
      next q =>
        subst q
        split at hr
        next hret =>
          cases hr
          exact W.vret hx hb (hrt.trans hret) (fun t ht hW => ⟨rfl, by rw [ht]; exact hR⟩) hl hd B.notSynchronized
        next => cases hr
      next => cases hr
    next =>
      split at hr
      next q =>
        subst q
        split at hr
        next nm v hret =>
          cases hr
          exact W.aret hx hb (hrt.trans hret) (Or.inl ⟨_, rfl⟩) (Or.inr ⟨_, rfl⟩) (fun t ht hW => ⟨rfl, by rw [ht]; exact hR⟩) hl hd B.notSynchronized
        next => cases hr
      next => cases hr
    next => cases hr
  · intro pc L st ins len σ2 cells slots hd ht hst hr
    exact absurd hr (hnr 0)
section ZC
variable {p : Program} {l : Launch} {e : Env} {R : Room} {s : State} {m : MethodId} {args : Array Value} {below : List Frame} {meth : Method} {c : Code} {Q : State → Prop} {D : va_G} {cI cJ cO : ClassId} {ad : Nat → Nat} {base : Nat} {S0 : State} {M Z : zx_M} {pc : Nat} {L : zx_L} {st st1 : List Value} {σ σ1 : zx_S} {cells slots : Nat} {r : Option Value}
theorem zx_back_eq {r : Option Value} {a b : List Value} (h : zx_back r a = some b) : b = r.toList ++ a ∧ ∀ q, r ≠ some (.retAddr q) := by
  unfold zx_back at h
  split at h
  · cases h; exact ⟨rfl, fun q => by simp⟩
  · cases h
  next v hn => cases h; exact ⟨rfl, fun q hq => by cases hq; exact hn q rfl⟩
theorem zr_pre {H : Heap} {as : List Value} (F : zr_Fr p s m args meth c M D cI cJ cO ad base S0) (hR : zr D cI cJ cO ad base S0 σ H) : PreS s H (zr_Pc D cI cJ cO ad base S0 as σ) (as.map (zr_v ad)) :=
  ⟨fun a U g mk h => ⟨h.1, h.2.1.blind g mk a, h.2.2⟩, fun U hU hW => ⟨rfl, F.2.2.2.2.2.1.warm hW, by rw [hU]; exact hR⟩⟩
set_option maxHeartbeats 4000000 in
/-- a call of a method of ours -/
theorem zr_call (F : zr_Fr p s m args meth c M D cI cJ cO ad base S0) {ins : Instr} {kd z : Nat} (hd : decode M.2.1 pc = .ok (ins, 3)) (hc : zx_cal M.2.2.2.2.1 ins = some (kd, z)) (h6 : ¬ kd = 6) (hZ : zt_M z = some Z) (hna : Z.2.2.2.2.2.1 ≤ st.length) (hfr : Z.2.2.2.2.2.2.1 + 1 ≤ R.frames) (hlo : 8 + (Z.2.2.1 + 11) + Z.2.2.2.2.2.2.2 ≤ R.locals) (hsum : ((st.drop Z.2.2.2.2.2.1).map fun v => v.category).sum ≤ 8) (hargs : zx_args kd Z.2.2.2.2.1 ((st.take Z.2.2.2.2.2.1).reverse) σ = true)
    (hback : zx_back r (st.drop Z.2.2.2.2.2.1) = some st1) (hcl : cells + (zn σ1 - zn σ) ≤ R.cells) (hsl : slots + (zs σ1 - zs σ) ≤ R.slots)
    (hM : ∀ (hZ : zt_okM Z) (hcat : ∀ v ∈ (st.take Z.2.2.2.2.2.1).reverse, v.category = 1) (hnr : ∀ q, r ≠ some (.retAddr q)), Met l Z.1 (zr_ws Z) (zr_rm Z (zn σ1 - zn σ) (zs σ1 - zs σ)) (zr_Pc D cI cJ cO ad base S0 ((st.take Z.2.2.2.2.2.1).reverse) σ) (zr_Qc D cI cJ cO ad base S0 r σ1) (zn σ1 - zn σ) (zs σ1 - zs σ) (fun q => base ≤ q))
    (k : zr_W p l e R s m args below meth c Q D cI cJ cO ad base S0 M.2.2.1 (pc + 3) L st1 σ1 (cells + (zn σ1 - zn σ)) (slots + (zs σ1 - zs σ))) : zr_W p l e R s m args below meth c Q D cI cJ cO ad base S0 M.2.2.1 pc L st σ cells slots := by
  intro ls H locs hL hR hl
  obtain ⟨hst1, hnr⟩ := zx_back_eq hback
  generalize hna' : Z.2.2.2.2.2.1 = na at *
  have hcat : ∀ v ∈ (st.take na).reverse, v.category = 1 := by
    intro v hv
    unfold zx_args at hargs
    simp only [Bool.and_eq_true, List.all_eq_true, beq_iff_eq] at hargs
    exact hargs.1 v hv
  have hrest : (((st.drop na).map (zr_v ad)).map fun v => v.category).sum ≤ 8 := by
    rw [List.map_map, show ((fun v => v.category) ∘ zr_v ad : Value → Nat) = fun v => v.category from funext (fun v => zr_cat ad v)]
    exact hsum
  have hstk : st.map (zr_v ad) = ((st.take na).reverse.map (zr_v ad)).reverse ++ (st.drop na).map (zr_v ad) := by
    rw [List.map_reverse, List.reverse_reverse, ← List.map_append, List.take_append_drop]
  have hlen : ((st.take na).reverse).length = na := by rw [List.length_reverse, List.length_take]; omega
  have hgo : ∀ (hr : va_Run p l e R s m args below meth c H locs cells slots (zn σ1 - zn σ) (zs σ1 - zs σ) (F0 m pc ls (st.map (zr_v ad))) ((st.drop na).map (zr_v ad)) (fun _ o t => o = .returned (r.map (zr_v ad)) ∧ zr D cI cJ cO ad base S0 σ1 t.heap) (fun q => base ≤ q)), W p l e R s m args below meth c H locs cells slots Q (F0 m pc ls (st.map (zr_v ad))) := by
    intro hr
    refine zr_after hr hl (fun H1 locs1 hz1 hl1 => ?_)
    have kk := k ls H1 locs1 hL hz1 hl1
    rw [hst1, List.map_append] at kk
    cases r with
    | none => exact kk
    | some v => exact kk
  have hfix : CallFix p m c M.2.1 M.2.2.1 s args zt_all (zt_own M.2.2.2.2.1) := ⟨F.1, F.2.1, F.2.2.1, F.2.2.2.1, F.2.2.2.2.1⟩
  have hts := F.2.2.2.2.1
  unfold zx_cal at hc
  split at hc
  next i =>
    split at hc
    next z' hC =>
      cases hc
      obtain ⟨Z', hZ', ok, w1, w2, w3, w4, r0, w5, w6⟩ := (zt_C_of hC).1 rfl
      dsimp only at hZ' w1 w2 w3 w4
      cases hZ.symm.trans hZ'
      unfold zx_args at hargs
      simp only [Bool.and_eq_true] at hargs
      have hrec := hargs.2
      revert hrec
      cases hall : (st.take na).reverse with
      | nil => intro q; cases q
      | cons v0 As =>
        cases v0 with
        | ref o =>
          intro hrec
          have ho : zK σ o = 13 + Z.2.2.2.2.1 := by simpa using hrec
          have hMet := hM ok hcat hnr
          rw [hall] at hMet
          obtain ⟨a1, a2, a3⟩ := hR.2.2.1 o (by omega)
          obtain ⟨r1, b1, cell, q1, q2, q3, q4⟩ := a3.2.2.2.2 (3 + Z.2.2.2.2.1) (by omega)
          have er : r1 = r0 := Option.some.inj (b1.symm.trans w5)
          subst er
          have hcls := (F.2.2.2.2.2.1.1.1 _ _ b1).2.1
          have hAs : As.length + 1 = na := by rw [hall] at hlen; simpa using hlen
          have hd' : Z.1.cls ≠ "java/lang/invoke/MethodHandle" ∧ Z.1.cls ≠ "java/lang/invoke/VarHandle" ∧ (parseMethodDescriptor Z.1.desc).map (fun d => d.parameters.length) = some As.length := by
            refine ⟨ok.2.2.2.2.1, ok.2.2.2.2.2.1, ?_⟩
            cases hp : parseMethodDescriptor Z.1.desc with
            | none => rw [hp] at w4; cases w4
            | some dd =>
              rw [hp, hna'] at w4
              simp only [Option.map_some, Option.some.injEq] at w4 ⊢
              omega
          refine hgo (va_runV (C := Z.1.cls) (As := As.map (zr_v ad)) hfix hMet ⟨callB_of As.length hts (zr_goodAll ok) rfl rfl rfl (hts _ ok.2.2.1) (hts _ w1) hd' ⟨hfr, hlo⟩, hts _ w2, hts _ w3⟩ ⟨(zr_pre (as := .ref o :: As) F hR).1, ⟨cell, q1, by rw [q3]; rfl, by rw [q2, ← w6]; exact hcls⟩, (zr_pre (as := .ref o :: As) F hR).2⟩ rfl (by rw [List.length_map]) hL.1 ?_ (by show 2 * 0 + _ ≤ 8; omega) hd ⟨hcl, hsl⟩)
          show st.map (zr_v ad) = _
          rw [hstk, hall]
          simp [zr_v]
        | _ => intro q; cases q
    · cases hc
  next i =>
    split at hc
    next z' hC =>
      cases hc
      obtain ⟨Z', hZ', ok, w1, w2, w4⟩ := (zt_C_of hC).2.1 rfl
      dsimp only at hZ' w1 w2 w4
      cases hZ.symm.trans hZ'
      have hMet := hM ok hcat hnr
      have hd' : Z.1.cls ≠ "java/lang/invoke/MethodHandle" ∧ Z.1.cls ≠ "java/lang/invoke/VarHandle" ∧ (parseMethodDescriptor Z.1.desc).map (fun d => d.parameters.length) = some na := ⟨ok.2.2.2.2.1, ok.2.2.2.2.2.1, by rw [← hna']; exact w4⟩
      rcases w1 with w1 | w1
      · exact hgo (va_runS (As := (st.take na).reverse.map (zr_v ad)) hfix hMet ⟨callB_of na hts (zr_goodAll ok) rfl rfl rfl (hts _ ok.2.2.1) (hts _ w1) hd' ⟨hfr, hlo⟩, hts _ w2⟩ (zr_pre F hR) rfl (by rw [List.length_map]; exact hlen) hL.1 hstk (by show 2 * 0 + _ ≤ 8; omega) hd ⟨hcl, hsl⟩)
      · exact hgo (va_runSN (As := (st.take na).reverse.map (zr_v ad)) hfix hMet ⟨va_cnB na hts (zr_goodAll ok) rfl rfl rfl (F.2.2.2.2.2.1.2.1 _ w1) (hts _ ok.2.2.1) hd' ⟨hfr, hlo⟩, hts _ w2, trivial⟩ (zr_pre F hR) rfl (by rw [List.length_map]; exact hlen) hL.1 hstk (by show 2 * 0 + _ ≤ 8; omega) hd ⟨hcl, hsl⟩)
    next z' hC => cases hc; exact absurd rfl h6
    · cases hc
  next i =>
    split at hc
    next z' hC =>
      cases hc
      obtain ⟨Z', hZ', ok, w1, w2, w3, w3b, w4⟩ := (zt_C_of hC).2.2.1 rfl
      dsimp only at hZ' w1 w2 w3 w3b w4
      cases hZ.symm.trans hZ'
      unfold zx_args at hargs
      simp only [Bool.and_eq_true] at hargs
      have hrec := hargs.2
      revert hrec
      cases hall : (st.take na).reverse with
      | nil => intro q; cases q
      | cons v0 As =>
        cases v0 with
        | ref o =>
          intro hrec
          have hMet := hM ok hcat hnr
          rw [hall] at hMet
          have hAs : As.length + 1 = na := by rw [hall] at hlen; simpa using hlen
          have hd' : Z.1.cls ≠ "java/lang/invoke/MethodHandle" ∧ Z.1.cls ≠ "java/lang/invoke/VarHandle" ∧ (parseMethodDescriptor Z.1.desc).map (fun d => d.parameters.length) = some As.length := by
            refine ⟨ok.2.2.2.2.1, ok.2.2.2.2.2.1, ?_⟩
            cases hp : parseMethodDescriptor Z.1.desc with
            | none => rw [hp] at w4; cases w4
            | some dd =>
              rw [hp, hna'] at w4
              simp only [Option.map_some, Option.some.injEq] at w4 ⊢
              omega
          have hstk2 : (F0 m pc ls (st.map (zr_v ad))).stack = (As.map (zr_v ad)).reverse ++ .ref (ad o) :: (st.drop na).map (zr_v ad) := by
            show st.map (zr_v ad) = _
            rw [hstk, hall]
            simp [zr_v]
          have hws : zr_ws Z = Cond.code Z.1 Z.2.1 Z.2.2.1 none :: zt_all := by unfold zr_ws; rw [w3b]
          rcases w1 with w1 | w1
          · exact hgo (va_runI (As := As.map (zr_v ad)) hfix hMet ⟨callB_of As.length hts (zr_goodAll ok) hws rfl rfl (hts _ ok.2.2.1) (hts _ w1) hd' ⟨hfr, hlo⟩, w3, hts _ w2⟩ (zr_pre (as := .ref o :: As) F hR) rfl (by rw [List.length_map]) hL.1 hstk2 (by show 2 * 0 + _ ≤ 8; omega) hd ⟨hcl, hsl⟩)
          · exact hgo (va_runIN (As := As.map (zr_v ad)) hfix hMet ⟨va_cnB As.length hts (zr_goodAll ok) hws rfl rfl (F.2.2.2.2.2.1.2.1 _ w1) (hts _ ok.2.2.1) hd' ⟨hfr, hlo⟩, w3, hts _ w2⟩ (zr_pre (as := .ref o :: As) F hR) rfl (by rw [List.length_map]) hL.1 hstk2 (by show 2 * 0 + _ ≤ 8; omega) hd ⟨hcl, hsl⟩)
        | _ => intro q; cases q
    · cases hc
  · cases hc
end ZC
set_option maxHeartbeats 4000000 in
/-- THE WALK: whatever the small machine runs to an end, the real one does -/
theorem zx_walk : ∀ (f y : Nat) (pc : Nat) (L : zx_L) (st : List Value) (σ : zx_S) (r : Option Value) (σ1 : zx_S), zx f y pc L st σ = some (r, σ1) → ∀ (M : zx_M), zt_M y = some M → ∀ (p : Program) (l : Launch) (e : Env) (R : Room) (s : State) (m : MethodId) (args : Array Value) (below : List Frame) (meth : Method) (c : Code) (Q : State → Prop) (D : va_G) (cI cJ cO : ClassId) (ad : Nat → Nat) (base : Nat) (S0 : State) (cells slots : Nat),
    zr_Fr p s m args meth c M D cI cJ cO ad base S0 → M.2.2.2.2.2.2.1 ≤ R.frames → M.2.2.2.2.2.2.2 ≤ R.locals → cells + (zn σ1 - zn σ) ≤ R.cells → slots + (zs σ1 - zs σ) ≤ R.slots →
    zr_O p l e R s m args below meth c Q D cI cJ cO ad base S0 M → zr_E p l e R s m args below meth c Q D cI cJ cO ad base S0 M r σ1 (cells + (zn σ1 - zn σ)) (slots + (zs σ1 - zs σ)) →
    zr_W p l e R s m args below meth c Q D cI cJ cO ad base S0 M.2.2.1 pc L st σ cells slots := by
  intro f
  induction f with
  | zero => intro y pc L st σ r σ1 h; cases h
  | succ f ih =>
    intro y pc L st σ r σ1 h M hM p l e R s m args below meth c Q D cI cJ cO ad base S0 cells slots F hfr hlo hcl hsl hO hE
    unfold zx at h
    rw [hM] at h
    dsimp only at h
    split at h
    next => cases h
    next ins len hd =>
      split at h
      next kd z hz =>
        split at h
        next => cases h
        next Z hZ =>
          split at h
          next h6 =>
            subst h6
            split at h
            next a p1 p0 x rs =>
              split at h
              next hc =>
                obtain ⟨hlen, c1, c2, c3, c4⟩ := hc
                subst hlen
                split at h
                next q σ2 hq =>
                  split at h
                  next st3 σ3 ho =>
                    have m1 := zx_mono _ _ _ _ _ _ _ _ hq
                    have m2 := zx_mono _ _ _ _ _ _ _ _ h
                    have m3 : zn σ3 = zn σ2 ∧ zs σ3 = zs σ2 := by
                      unfold zx_out at ho
                      split at ho
                      · cases ho; exact ⟨rfl, rfl⟩
                      · cases ho; exact ⟨rfl, rfl⟩
                      · cases ho
                    have e1 : cells + (zn σ3 - zn σ) + (zn σ1 - zn σ3) = cells + (zn σ1 - zn σ) := by omega
                    have e2 : slots + (zs σ3 - zs σ) + (zs σ1 - zs σ3) = slots + (zs σ1 - zs σ) := by omega
                    refine hO f z Z pc L a x p0 p1 rs σ σ2 σ3 q st3 ins cells slots hz hZ hd c1 c2 c3 c4 hq ho (by omega) (by omega) ?_
                    refine ih y (pc + 3) L st3 σ3 r σ1 h M hM p l e R s m args below meth c Q D cI cJ cO ad base S0 _ _ F hfr hlo (by omega) (by omega) hO ?_
                    rw [e1, e2]
                    exact hE
                  next => cases h
                next => cases h
              next => cases h
            next => cases h
          next h6 =>
            split at h
            next hc =>
              obtain ⟨hlen, c1, c2, c3, c4, c5, c6⟩ := hc
              subst hlen
              split at h
              next q σ2 hq =>
                split at h
                next st3 ho =>
                  have m1 := zx_mono _ _ _ _ _ _ _ _ hq
                  have m2 := zx_mono _ _ _ _ _ _ _ _ h
                  have e1 : cells + (zn σ2 - zn σ) + (zn σ1 - zn σ2) = cells + (zn σ1 - zn σ) := by omega
                  have e2 : slots + (zs σ2 - zs σ) + (zs σ1 - zs σ2) = slots + (zs σ1 - zs σ) := by omega
                  refine zr_call (Z := Z) (r := q) (σ1 := σ2) (st1 := st3) F hd hz h6 hZ c1 (show Z.2.2.2.2.2.2.1 + 1 ≤ R.frames by omega) (show 8 + (Z.2.2.1 + 11) + Z.2.2.2.2.2.2.2 ≤ R.locals by omega) c4 c6 ho (by omega) (by omega) (fun okZ hcat hnr => ?_) ?_
                  · refine zr_met F.2.2.2.2.2.2.2.2.2 okZ hcat (by rw [List.length_reverse, List.length_take]; omega) hnr (fun p' e' s' m' args' below' meth' c' Q' F' hE' => ?_)
                    refine ih z 0 _ [] σ q σ2 hq Z hZ p' l e' _ s' m' args' below' meth' c' Q' D cI cJ cO ad base S0 0 0 F' (Nat.le_refl _) (Nat.le_refl _) (by rw [Nat.zero_add]; exact Nat.le_refl _) (by rw [Nat.zero_add]; exact Nat.le_refl _) (zr_O.no ?_) (by rw [Nat.zero_add, Nat.zero_add]; exact hE')
                    exact okZ.2.2.2.2.2.2
                  · refine ih y (pc + 3) L st3 σ2 r σ1 h M hM p l e R s m args below meth c Q D cI cJ cO ad base S0 _ _ F hfr hlo (by omega) (by omega) hO ?_
                    rw [e1, e2]
                    exact hE
                next => cases h
              next => cases h
            next => cases h
      next hz =>
        split at h
        next ht =>
          split at h
          next =>
            cases h
            have e1 : zn (zx_nw σ 0 0 6) - zn σ = 1 := by show zn σ + 1 - zn σ = 1; omega
            have e2 : zs (zx_nw σ 0 0 6) - zs σ = 6 := by show zs σ + 6 - zs σ = 6; omega
            exact hE.2 pc L [] ins len σ cells slots hd ht rfl rfl rfl (by rw [e1]) (by rw [e2])
          next => cases h
        next ht =>
          split at h
          next r' hr =>
            cases h
            have k := hE.1 pc L st ins len hd hr
            rw [Nat.sub_self, Nat.sub_self] at k
            exact k
          next hr =>
            split at h
            next pc1 L1 st1 σ2 hs =>
              have m1 := (zx_step_n hs).2
              have m2 := zx_mono _ _ _ _ _ _ _ _ h
              have e1 : cells + (zn σ2 - zn σ) + (zn σ1 - zn σ2) = cells + (zn σ1 - zn σ) := by omega
              have e2 : slots + (zs σ2 - zs σ) + (zs σ1 - zs σ2) = slots + (zs σ1 - zs σ) := by omega
              refine zr_step F (fun q => ?_) hd hs (by omega) (by omega) ?_
              · have q2 := of_decide_eq_true q
                omega
              · refine ih y pc1 L1 st1 σ2 r σ1 h M hM p l e R s m args below meth c Q D cI cJ cO ad base S0 _ _ F hfr hlo (by omega) (by omega) hO ?_
                rw [e1, e2]
                exact hE
            next => cases h
