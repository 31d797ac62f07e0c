/-! THE LAW'S OWN out, ITS CONTRACTS -/
def zo_Qc (D : va_G) (cI cJ cO : ClassId) (ad : Nat → Nat) (base : Nat) (S0 : State) (q : Option Value) (σ2 : zx_S) : Array Value → State → Outcome → State → Prop := fun _ _ o t => o = .returned (q.map (zr_v ad)) ∧ (∀ z, q ≠ some (.retAddr z)) ∧ zr D cI cJ cO ad base S0 σ2 t.heap
def zo_XC (D : va_G) (cI cJ cO : ClassId) (ad : Nat → Nat) (base : Nat) (S0 : State) (q : Option Value) (σ2 : zx_S) : String → State → State → Prop := fun E _ t => E = zo_XE ∧ q = some (.retAddr 0) ∧ zr D cI cJ cO ad base S0 σ2 t.heap
abbrev zo_wsX : List Cond := Cond.code yX6_out cX6_out 3 (some .int) :: zo_all
abbrev zo_wsL : List Cond := Cond.codeWith yL_out cL_out 5 (some .int) [(0, 10, 13, 13)] :: zo_all
theorem zo_wsX_in : ∀ w ∈ zo_wsX, w ∈ zo_all := fun w hw => by
  rcases List.mem_cons.mp hw with rfl | hw
  · exact List.mem_append_left _ (by decide +kernel)
  · exact hw
theorem zo_wsL_in : ∀ w ∈ zo_wsL, w ∈ zo_all := fun w hw => by
  rcases List.mem_cons.mp hw with rfl | hw
  · exact List.mem_append_left _ (List.mem_cons_self)
  · exact hw
theorem zo_adle {ad : Nat → Nat} {base : Nat} (hA : zr_A ad base) {i j : Nat} (h1 : 1 ≤ i) (h : i ≤ j) : ad i ≤ ad j := by
  induction j with
  | zero => exact absurd h (by omega)
  | succ j ih =>
    by_cases e : i = j + 1
    · rw [e]; exact Nat.le_refl _
    · rw [hA.2.2 j (by omega)]
      have := ih (by omega)
      omega
set_option maxHeartbeats 4000000 in
/-- TreeImages.out -/
theorem zo_X {l : Launch} (hl : l.stackTraces = false) {D : va_G} {cI cJ cO : ClassId} {ad : Nat → Nat} {base : Nat} {S0 : State} (hA : zr_A ad base) (hG : zo_G S0 base) (hbs : base = S0.heap.size) {f x : Nat} {p0 p1 : Int32} {σ σ2 : zx_S} {q : Option Value} (h : zx f 131 0 (zx_entry [.ref x, .int p0, .int p1] 3) [] σ = some (q, σ2)) :
    vx_Met l yX6_out zo_wsX { frames := 7, cells := zn σ2 - zn σ, slots := zs σ2 - zs σ, locals := 94 } (zr_Pc D cI cJ cO ad base S0 [.ref x, .int p0, .int p1] σ) (zo_Qc D cI cJ cO ad base S0 q σ2) (zo_XC D cI cJ cO ad base S0 q σ2) (zn σ2 - zn σ) (zs σ2 - zs σ) (fun q => base ≤ q) := by
  refine vx_ofW (cc := cX6_out) (maxL := 3) (ret := some .int) (by decide +kernel) rfl ?_
  intro p e s m args below meth c s₁ B hml htab hv
  obtain ⟨rfl, hK, hz⟩ := hv
  have hts := atoms_spec (ws := zo_wsX) B.pre
  have hF : zr_Fr p s m ([Value.ref x, .int p0, .int p1].map (zr_v ad)).toArray meth c (yX6_out, cX6_out, 3, some .int, 6, 3, 1, 21) D cI cJ cO ad base S0 :=
    ⟨B.exec, B.bytes, hml, findClass_of_methodNamed B.named, fun w hw => hts w (List.mem_cons_of_mem _ (List.mem_append_right _ hw)), hK, B.returns, B.notSynchronized, fun hi => absurd hi (by decide), hA⟩
  rw [lg_entry_eq]
  have key := zx_walk f 131 0 _ [] σ q σ2 h _ zM_X6_out p l e { frames := 7, cells := zn σ2 - zn σ, slots := zs σ2 - zs σ, locals := 94 } s m ([Value.ref x, .int p0, .int p1].map (zr_v ad)).toArray below meth c (vx_MQ below (zo_Qc D cI cJ cO ad base S0 q σ2) (zo_XC D cI cJ cO ad base S0 q σ2) ([Value.ref x, .int p0, .int p1].map (zr_v ad)).toArray s (zn σ2 - zn σ) (zs σ2 - zs σ) (fun q => base ≤ q)) D cI cJ cO ad base S0 0 0 hF (show 1 ≤ 7 by decide) (show 21 ≤ 94 by decide) (show 0 + (zn σ2 - zn σ) ≤ zn σ2 - zn σ by omega) (show 0 + (zs σ2 - zs σ) ≤ zs σ2 - zs σ by omega) (zr_O.no (by decide)) ⟨?_, ?_⟩
  · exact key _ s.heap [] (zr_entry _ (by simp [Value.category]) (by simp)) hz (fun q hq => by cases hq)
  · intro pc L st ins len hd hr ls H locs hL hR hlo
    rw [Nat.zero_add, Nat.zero_add]
    unfold zx_ret at hr
    split at hr
    next =>
      split at hr
      next e1 =>
        subst e1
        split at hr
        next v hret =>
          cases hr
          exact vx_ret (W.iret B.exec B.bytes B.returns (fun t ht hW => ⟨rfl, fun z hz => (by cases hz), (by rw [ht]; exact hR)⟩) hlo hd B.notSynchronized)
        next v hret => cases hret
        next => cases hr
      next => cases hr
    next =>
      split at hr
      next e1 =>
        split at hr
        next hret => cases hret
        next => cases hr
      next => cases hr
    next =>
      split at hr
      next e1 =>
        split at hr
        next nm v hret => cases hret
        next => cases hr
      next => cases hr
    next => cases hr
  · intro pc L st ins len σ' cells slots hd ht hst hr hσ hcf hsf ls H locs hL hR hlo
    subst hst
    unfold zx_thr at ht
    split at ht
    next i =>
      have hi : i = 127 := by
        unfold zt_X at ht
        simpa using ht
      subst hi
      obtain ⟨rfl, rfl⟩ := zo_pc hd
      have hal : S0.vm.Alike s.vm := hK.2.2.2
      have hsz : ad (zn σ) = s.heap.size := hz.1.symm
      have hbase : ∀ q : Nat, q < base → s.heap[q]? = S0.heap[q]? := hz.2.2.2
      have hkp : ∀ a : Nat, a < S0.heap.size → ¬ base ≤ a → s.heap[a]? = S0.heap[a]? := fun a _ h2 => hbase a (by omega)
      have hat : ∀ w ∈ vx_at0 RX6 129 zo_XE zo_up, w.before ([Value.ref x, .int p0, .int p1].map (zr_v ad)).toArray s = true :=
        vx_hat (B := zo_B) (fun w hw => hts w (List.mem_cons_of_mem _ (List.mem_append_left _ (List.mem_append_right _ hw)))) zo_bad (fun w hw => zo_move hal hw (hG.1 w hw))
      have hR4 := hR.2.2.2
      have hS : va_S (fun q => base ≤ q) s.heap H locs := ⟨by
          rw [hR.1, ← hsz]
          have e2 : zn σ2 = zn σ' + 1 := by rw [hσ]; rfl
          exact zo_adle hA hz.2.1 (by omega), fun q h1 h2 => (hR4 q (by omega)).trans (hbase q (by omega)).symm, hlo⟩
      refine vx_throw0 (A := fun q => base ≤ q) B.exec B.bytes hl (own := RX6) (cls := zo_XE) (names := zo_up) (ik := 127) (ic := 129) (findClass_of_methodNamed B.named) (by decide +kernel) (by decide +kernel) (hts _ (List.mem_cons_of_mem _ (List.mem_append_left _ (by decide +kernel)))) (hts _ (List.mem_cons_of_mem _ (List.mem_append_left _ (by decide +kernel)))) hat zo_ot
        (vx_Zq.moved hal (hG.2.1.kept hkp)) (vx_Zq.moved hal (hG.2.2.kept hkp)) hS (hL.1.trans hml.symm) dX6_out_27 dX6_out_30 dX6_out_31 dX6_out_34 (fun x hx => absurd hx (htab x)) (show 3 + 3 < 7 by decide) (show 0 + (13 * (3 + 1) + 42) ≤ 94 by decide) ?_ ?_ B.notSynchronized ?_ hlo ?_ ?_
      · show cells + 1 ≤ zn σ2 - zn σ; omega
      · show slots + 6 ≤ zs σ2 - zs σ; omega
      · intro t hal2 hz2 hq2
        refine ⟨rfl, hr, ?_⟩
        rw [hσ]
        exact zr.new hA hR hz2 hq2 (by decide) (fun z => absurd rfl z)
      · omega
      · omega
    next => cases ht

section ZOL
variable {p : Program} {l : Launch} {e : Env} {R : Room} {s : State} {m : MethodId} {args : Array Value} {below : List Frame} {meth : Method} {c : Code} {Q : State → Prop} {D : va_G} {cI cJ cO : ClassId} {ad : Nat → Nat} {base : Nat} {S0 : State} {M : zx_M} {pc len pc1 : Nat} {L L1 : zx_L} {st st1 : List Value} {σ σ1 : zx_S} {cells slots : Nat}
/-- an instruction that makes no cell -/
theorem zo_st (F : zr_Fr p s m args meth c M D cI cJ cO ad base S0) {ins : Instr} (hd : decode M.2.1 pc = .ok (ins, len)) (h : zx_step M.2.2.2.2.1 (M.1.name == "<init>") false ins len pc L st σ = some (pc1, L1, st1, σ1)) (e1 : zn σ1 = zn σ) (e2 : zs σ1 = zs σ) (hc : cells ≤ R.cells) (hs : slots ≤ R.slots)
    (k : zr_W p l e R s m args below meth c Q D cI cJ cO ad base S0 M.2.2.1 pc1 L1 st1 σ1 cells slots) : zr_W p l e R s m args below meth c Q D cI cJ cO ad base S0 M.2.2.1 pc L st σ cells slots := by
  refine zr_step F (fun q => by cases q) hd h (by omega) (by omega) ?_
  rw [e1, e2, Nat.sub_self, Nat.sub_self]
  exact k
end ZOL
theorem zo_out_eq {q : Option Value} {a : Nat} {rs st3 : List Value} {σ2 σ3 : zx_S} (h : zx_out q a rs σ2 = some (st3, σ3)) : (∃ v, q = some (.int v) ∧ st3 = .int 0 :: rs ∧ σ3 = zx_pJ σ2 a 0 v.toInt64) ∨ ((∃ z, q = some (.retAddr z)) ∧ st3 = .int 1 :: rs ∧ σ3 = σ2) := by
  unfold zx_out at h
  split at h
  next v => cases h; exact Or.inl ⟨v, rfl, rfl, rfl⟩
  next z => cases h; exact Or.inr ⟨⟨z, rfl⟩, rfl, rfl⟩
  next => cases h
set_option maxHeartbeats 4000000 in
/-- the law's out -/
theorem zo_L {l : Launch} (hl : l.stackTraces = false) {D : va_G} {cI cJ cO : ClassId} {ad : Nat → Nat} {base : Nat} {S0 : State} (hA : zr_A ad base) (hG : zo_G S0 base) (hbs : base = S0.heap.size) {f x a : Nat} {p0 p1 : Int32} {σ σ2 σ3 : zx_S} {q : Option Value} {rs st3 : List Value} (h : zx f 131 0 (zx_entry [.ref x, .int p0, .int p1] 3) [] σ = some (q, σ2)) (ho : zx_out q a rs σ2 = some (st3, σ3)) (ka : zK σ a = 2) (na : 1 ≤ zN σ a) (kx : zK σ x = 19) :
    ∃ b : Int32, st3 = .int b :: rs ∧ Met l yL_out zo_wsL { frames := 8, cells := zn σ2 - zn σ, slots := zs σ2 - zs σ, locals := 116 } (zr_Pc D cI cJ cO ad base S0 [.ref x, .int p0, .int p1, .ref a] σ) (zr_Qc D cI cJ cO ad base S0 (some (.int b)) σ3) (zn σ2 - zn σ) (zs σ2 - zs σ) (fun q => base ≤ q) := by
  have hb : ∃ b : Int32, st3 = .int b :: rs ∧ (∀ v, q = some (.int v) → b = 0 ∧ σ3 = zx_pJ σ2 a 0 v.toInt64) ∧ ((∃ v, q = some (.int v)) ∨ (∃ z, q = some (.retAddr z)) ∧ b = 1 ∧ σ3 = σ2) := by
    rcases zo_out_eq ho with ⟨v, rfl, h2, h3⟩ | ⟨⟨z, rfl⟩, h2, h3⟩
    · exact ⟨0, h2, fun w hw => by cases hw; exact ⟨rfl, h3⟩, Or.inl ⟨v, rfl⟩⟩
    · exact ⟨1, h2, fun w hw => (by cases hw), Or.inr ⟨⟨z, rfl⟩, rfl, h3⟩⟩
  obtain ⟨b, hb1, hb2, hb3⟩ := hb
  refine ⟨b, hb1, ?_⟩
  refine va_MetW (hh := [(0, 10, 13, 13)]) (cc := cL_out) (maxL := 5) (ret := some .int) (by decide +kernel) rfl ?_
  intro p e s m args below meth c s₁ B hml hv
  obtain ⟨rfl, hK, hz⟩ := hv
  have hts := atoms_spec (ws := zo_wsL) B.pre
  have hw : ∀ w ∈ zo_all, w.before ([Value.ref x, .int p0, .int p1, .ref a].map (zr_v ad)).toArray s = true := fun w hw => hts w (List.mem_cons_of_mem _ hw)
  have htab := vx_table (x := yL_out) B (hts _ List.mem_cons_self)
  have hF : zr_Fr p s m ([Value.ref x, .int p0, .int p1, .ref a].map (zr_v ad)).toArray meth c (yL_out, cL_out, 5, some .int, 8, 4, 8, 116) D cI cJ cO ad base S0 :=
    ⟨B.exec, B.bytes, hml, findClass_of_methodNamed B.named, fun w h => hw w (List.mem_append_right _ h), hK, B.returns, B.notSynchronized, fun hi => absurd hi (by decide), hA⟩
  have hkx := hz.2.2.1 x (by omega)
  have hka := hz.2.2.1 a (by omega)
  have keepA := zx_keep _ _ _ _ _ _ _ _ h a hka.1
  rw [lg_entry_eq]
  have m1 := zx_mono _ _ _ _ _ _ _ _ h
  obtain ⟨RR, hRR⟩ : ∃ z : Room, z = { frames := 8, cells := zn σ2 - zn σ, slots := zs σ2 - zs σ, locals := 116 } := ⟨_, rfl⟩
  have hRc : RR.cells = zn σ2 - zn σ := by rw [hRR]
  have hRs : RR.slots = zs σ2 - zs σ := by rw [hRR]
  have hRf : RR.frames = 8 := by rw [hRR]
  have hRl : RR.locals = 116 := by rw [hRR]
  have goal : zr_W p l e RR s m ([Value.ref x, .int p0, .int p1, .ref a].map (zr_v ad)).toArray below meth c (MQ below (zr_Qc D cI cJ cO ad base S0 (some (.int b)) σ3) ([Value.ref x, .int p0, .int p1, .ref a].map (zr_v ad)).toArray s (zn σ2 - zn σ) (zs σ2 - zs σ) (fun q => base ≤ q)) D cI cJ cO ad base S0 5 0 (zx_entry [.ref x, .int p0, .int p1, .ref a] 5) [] σ 0 0 := by
    refine zo_st (L1 := zx_entry [.ref x, .int p0, .int p1, .ref a] 5) (st1 := [.ref a]) hF dL_out_0 rfl rfl rfl (by omega) (by omega) ?_
    refine zo_st (L1 := zx_entry [.ref x, .int p0, .int p1, .ref a] 5) (st1 := [.int 0, .ref a]) hF dL_out_1 rfl rfl rfl (by omega) (by omega) ?_
    refine zo_st (L1 := zx_entry [.ref x, .int p0, .int p1, .ref a] 5) (st1 := [.ref x, .int 0, .ref a]) hF dL_out_2 rfl rfl rfl (by omega) (by omega) ?_
    refine zo_st (L1 := zx_entry [.ref x, .int p0, .int p1, .ref a] 5) (st1 := [.int p0, .ref x, .int 0, .ref a]) hF dL_out_3 rfl rfl rfl (by omega) (by omega) ?_
    refine zo_st (L1 := zx_entry [.ref x, .int p0, .int p1, .ref a] 5) (st1 := [.int p1, .int p0, .ref x, .int 0, .ref a]) hF dL_out_4 rfl rfl rfl (by omega) (by omega) ?_
    intro ls H locs hL hR hlo
    have hfix : CallFix p m c cL_out 5 s ([Value.ref x, .int p0, .int p1, .ref a].map (zr_v ad)).toArray zo_all RL := ⟨B.exec, B.bytes, hml, findClass_of_methodNamed B.named, hw⟩
    have inW : ∀ w ∈ zo_ws, w.before ([Value.ref x, .int p0, .int p1, .ref a].map (zr_v ad)).toArray s = true := fun w h => hw w (List.mem_append_left _ h)
    obtain ⟨cell, q1, q2, q3, q4⟩ : ∃ cell : Cell, H[ad x]? = some cell ∧ cell.vm = .none ∧ s.vm.findClass RX6 = some cell.cls ∧ True := by
      obtain ⟨r1, b1, cell, q1, q2, q3, q4⟩ := (hR.2.2.1 x (by omega)).2.2.2.2.2.2 9 (by omega)
      have er : r1.1 = RX6 := by cases b1; rfl
      have hcls := (hF.2.2.2.2.2.1.1.1 _ _ b1).2.1
      exact ⟨cell, q1, q3, by rw [q2, ← er]; exact hcls, trivial⟩
    have hrun := vx_runV (p := p) (e := e) (R := RR) (below := below) (meth := meth) (H := H) (locs := locs) (cells := 0) (slots := 0) (n := 2) (index := 7) (own := RL) (C := RX6) (b := ad x) (As := [.int p0, .int p1]) (rest := [.int 0, .ref (ad a)]) (g := F0 m 5 ls ([Value.int p1, .int p0, .ref x, .int 0, .ref a].map (zr_v ad))) hfix (zo_X hl hA hG hbs h)
      ⟨callB_of 2 hw (zo_good zo_wsX_in) rfl rfl rfl (inW _ (by decide +kernel)) (inW _ (by decide +kernel)) ⟨by decide +kernel, by decide +kernel, by decide +kernel⟩ ⟨by show 7 + 1 ≤ RR.frames; omega, by show 8 + (3 + 11) + 94 ≤ RR.locals; omega⟩, inW _ (by decide +kernel), inW _ (by decide +kernel)⟩
      ⟨(zr_pre (as := [.ref x, .int p0, .int p1]) hF hR).1, ⟨cell, q1, by rw [q2]; rfl, q3⟩, (zr_pre (as := [.ref x, .int p0, .int p1]) hF hR).2⟩ rfl rfl hL.1 rfl (show 2 * 0 + 2 ≤ 8 by decide) dL_out_5 ⟨by omega, by omega⟩
    intro T hT X
    rcases hrun T hT X with ⟨v, st₀, t, T', LL, h0, X', hL', e1, e2, ⟨hv, hnr, hz2⟩, hst⟩ | ⟨q9, st₀, t, T', LL, E, ce, h0, X', hL', e1, e2, ⟨hE, hqr, hz2⟩, hce, hcv, hcl, hst⟩
    · obtain ⟨w, hw9⟩ : ∃ w, q = some (.int w) := by
        rcases hb3 with h9 | ⟨⟨z, h9⟩, -⟩
        · exact h9
        · exact absurd h9 (hnr z)
      obtain ⟨hb0, hσ3⟩ := hb2 w hw9
      rw [hw9] at hv
      cases hv
      have k8 : zr_W p l e RR s m ([Value.ref x, .int p0, .int p1, .ref a].map (zr_v ad)).toArray below meth c (MQ below (zr_Qc D cI cJ cO ad base S0 (some (.int b)) σ3) ([Value.ref x, .int p0, .int p1, .ref a].map (zr_v ad)).toArray s (zn σ2 - zn σ) (zs σ2 - zs σ) (fun q => base ≤ q)) D cI cJ cO ad base S0 5 8 (zx_entry [.ref x, .int p0, .int p1, .ref a] 5) [.int w, .int 0, .ref a] σ2 (zn σ2 - zn σ) (zs σ2 - zs σ) := by
        refine zo_st (L1 := zx_entry [.ref x, .int p0, .int p1, .ref a] 5) (st1 := [.long w.toInt64, .int 0, .ref a]) hF dL_out_8 rfl rfl rfl (by omega) (by omega) ?_
        refine zo_st (pc1 := 10) (L1 := zx_entry [.ref x, .int p0, .int p1, .ref a] 5) (st1 := []) (σ1 := σ3) hF dL_out_9 ?_ (by rw [hσ3]; rfl) (by rw [hσ3]; rfl) (by omega) (by omega) ?_
        · have hin : zx_in 0 (zN σ2 a) = true := by
            unfold zx_in
            rw [keepA.2]
            refine decide_eq_true ?_
            rintro (q | q)
            · exact absurd q (by decide)
            · have : (0 : Int32).toNatClampNeg = 0 := by decide
              omega
          simp only [zx_step]
          rw [if_pos trivial, if_pos ⟨by rw [keepA.1]; exact ka, hin⟩, hσ3]
          rfl
        · refine zo_st (pc1 := 17) (L1 := zx_entry [.ref x, .int p0, .int p1, .ref a] 5) (st1 := []) (σ1 := σ3) hF dL_out_10 rfl rfl rfl (by omega) (by omega) ?_
          refine zo_st (pc1 := 18) (L1 := zx_entry [.ref x, .int p0, .int p1, .ref a] 5) (st1 := [.int 0]) (σ1 := σ3) hF dL_out_17 rfl rfl rfl (by omega) (by omega) ?_
          intro ls2 H2 locs2 hL2 hR2 hlo2
          rw [hb0]
          exact W.iret B.exec B.bytes B.returns (fun t ht hW => ⟨rfl, by rw [ht]; exact hR2⟩) hlo2 dL_out_18 B.notSynchronized
      rw [Nat.zero_add, Nat.zero_add] at X'
      obtain ⟨t2, a1, b1⟩ := k8 ls T'.heap (locs ++ LL) hL (by rw [e1]; exact hz2) (fun q hq => by
        rcases List.mem_append.mp hq with h | h
        · exact hlo q h
        · exact hL' q h) T' rfl X'
      exact ⟨t2, hst t2 a1, b1⟩
    · obtain ⟨hb1', hσ3⟩ : b = 1 ∧ σ3 = σ2 := by
        rcases hb3 with ⟨v, h9⟩ | ⟨-, h9⟩
        · rw [hqr] at h9; cases h9
        · exact h9
      subst hE
      rw [Nat.zero_add, Nat.zero_add] at X'
      have hxc : vx_W p l e RR s m ([Value.ref x, .int p0, .int p1, .ref a].map (zr_v ad)).toArray below meth c T'.heap (locs ++ LL) (zn σ2 - zn σ) (zs σ2 - zs σ) (MQ below (zr_Qc D cI cJ cO ad base S0 (some (.int b)) σ3) ([Value.ref x, .int p0, .int p1, .ref a].map (zr_v ad)).toArray s (zn σ2 - zn σ) (zs σ2 - zs σ) (fun q => base ≤ q)) (F0 m 5 ls [.int 0, .ref (ad a)]) q9 := by
        refine zq_catch (own := RL) (name := zo_XE) (E := zo_XE) (ce := ce) (findClass_of_methodNamed B.named) { startPc := 0, endPc := 10, handlerPc := 13, catchType := 13 } [] htab (by decide) (by decide) (inW _ (by decide +kernel)) (zo_move hK.2.2.2 (by decide +kernel) (hG.1 _ (by decide +kernel))) (by rw [e1]; exact hce) hcv hcl ?_
        refine lv_astore B.exec B.bytes dL_out_13 hL.has (by decide) rfl (fun ls' h' => ?_)
        refine lv_iconst B.exec B.bytes dL_out_15 rfl ?_
        rw [hb1']
        exact W.iret B.exec B.bytes B.returns (fun t3 ht hW => ⟨rfl, by rw [ht, e1, hσ3]; exact hz2⟩) (fun q hq => by
          rcases List.mem_append.mp hq with h | h
          · exact hlo q h
          · exact hL' q h) dL_out_16 B.notSynchronized
      obtain ⟨t2, a1, b1⟩ := hxc T' rfl X'
      exact ⟨t2, hst.trans a1, b1⟩
  rw [hRR] at goal
  exact goal _ s.heap [] (zr_entry _ (by simp [Value.category]) (by simp)) hz (fun q hq => by cases hq)
