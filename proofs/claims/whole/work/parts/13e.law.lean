/-! THE LAW'S FRAME: its call of out; the law's start out of a run of the small machine alone -/
theorem zo_cal {ins : Instr} {z : Nat} (h : zx_cal 8 ins = some (6, z)) : ins = .invokestatic 71 ∧ z = 131 := by
  have key : ∀ (i z : Nat), zt_C 8 i = some (6, z) → i = 71 ∧ z = 131 := by
    intro i z hz
    unfold zt_C at hz
    obtain ⟨e, he, hv⟩ := Option.map_eq_some_iff.mp hz
    have h1 : ∀ e ∈ zt_Cl, e.1 = 8 → e.2.2.1 = 6 → e.2.1 = 71 ∧ e.2.2.2 = 131 := by decide +kernel
    have h2 := List.find?_some he
    simp only [Bool.and_eq_true, beq_iff_eq] at h2
    have h3 := h1 e (List.mem_of_find?_eq_some he) h2.1 (by rw [hv])
    rw [hv] at h3
    exact ⟨h2.2.symm.trans h3.1, h3.2⟩
  unfold zx_cal at h
  split at h
  · split at h <;> cases h
  next i =>
    split at h
    · cases h
    next z' e' =>
      cases h
      obtain ⟨a, b⟩ := key i _ e'
      exact ⟨by rw [a], b⟩
    · cases h
  · split at h <;> cases h
  · cases h
set_option maxHeartbeats 4000000 in
theorem zo_O {p : Program} {l : Launch} (hl : l.stackTraces = false) {e : Env} {R : Room} (hRf : 9 ≤ R.frames) (hRl : 140 ≤ R.locals) {s : State} {m : MethodId} {args : Array Value} {below : List Frame} {meth : Method} {c : Code} {Q : State → Prop} {D : va_G} {cI cJ cO : ClassId} {ad : Nat → Nat} {base : Nat} {S0 : State} {M : zx_M} (hM : M.2.2.2.2.1 = 8) (F : zr_Fr p s m args meth c M D cI cJ cO ad base S0) (hts : ∀ w ∈ lw_tbl, w.before args s = true) (hG : zo_G S0 base) (hbs : base = S0.heap.size) : zr_O p l e R s m args below meth c Q D cI cJ cO ad base S0 M := by
  intro f z Z pc L a x p0 p1 rs σ σ2 σ3 q st3 ins cells slots hcal hZ hd ka na kx hsum hz ho hc hs k
  rw [hM] at hcal
  obtain ⟨rfl, rfl⟩ := zo_cal hcal
  cases hZ.symm.trans zM_X6_out
  have hA : zr_A ad base := F.2.2.2.2.2.2.2.2.2
  obtain ⟨b, hb1, hMet⟩ := zo_L (D := D) (cI := cI) (cJ := cJ) (cO := cO) hl hA hG hbs hz ho ka na kx
  have m3 : zn σ3 = zn σ2 ∧ zs σ3 = zs σ2 := by
    rcases zo_out_eq ho with ⟨v, -, -, h3⟩ | ⟨-, -, h3⟩ <;> (rw [h3]; exact ⟨rfl, rfl⟩)
  rw [m3.1] at hc
  rw [m3.2] at hs
  rw [m3.1, m3.2] at k
  have hall : ∀ w ∈ zo_all, w.before args s = true := fun w hw => hts w (zo_all_good w hw).1
  have inW : ∀ w ∈ zo_ws, w.before args s = true := fun w h => hall w (List.mem_append_left _ h)
  have hown : s.vm.findClass RL = some m.cls := by
    have h := F.2.2.2.1
    rw [hM] at h
    exact h
  have hfix : CallFix p m c M.2.1 M.2.2.1 s args zo_all RL := ⟨F.1, F.2.1, F.2.2.1, hown, hall⟩
  intro ls H locs hL hR hlo
  have hrest : ((rs.map (zr_v ad)).map fun v => v.category).sum ≤ 8 := by
    rw [List.map_map, show ((fun v => v.category) ∘ zr_v ad : Value → Nat) = fun v => v.category from funext (fun v => zr_cat ad v)]
    exact hsum
  have hrun := vx_runSW (p := p) (e := e) (R := R) (below := below) (meth := meth) (H := H) (locs := locs) (cells := cells) (slots := slots) (n := 4) (index := 71) (own := RL) (hh := [(0, 10, 13, 13)]) (As := [.ref (ad x), .int p0, .int p1, .ref (ad a)]) (rest := rs.map (zr_v ad)) (g := F0 m pc ls ((Value.ref a :: .int p1 :: .int p0 :: .ref x :: rs).map (zr_v ad))) hfix hMet
    (vx_cwSW 4 hall (zo_good (fun w hw => by
      unfold va_wsS at hw
      rcases List.mem_append.mp hw with h | h
      · refine List.mem_append_left _ ?_
        simp only [List.mem_cons, List.not_mem_nil, or_false] at h
        rcases h with rfl | rfl | rfl <;> decide +kernel
      · exact zo_wsL_in w h)) rfl rfl rfl ⟨by decide +kernel, by decide +kernel, by decide +kernel⟩ ⟨by show 8 + 1 ≤ R.frames; omega, by show 8 + (5 + 11) + 116 ≤ R.locals; omega⟩)
    (zr_pre (as := [.ref x, .int p0, .int p1, .ref a]) F hR) rfl rfl hL.1 rfl (by show 2 * 0 + _ ≤ 8; omega) hd ⟨hc, hs⟩
  refine zr_after (v := some (.int b)) hrun hlo (fun H1 locs1 hz1 hl1 => ?_)
  have kk := k ls H1 locs1 hL hz1 hl1
  rw [hb1] at kk
  exact kk
set_option maxHeartbeats 4000000 in
/-- the law's start says what a throw needs -/
theorem zo_start {p : Program} {s : State} {m : MethodId} {meth : Method} {c : Code} {b L : Nat} {xs : Nat → Int32} (C0 : lw_At p s m meth c b L xs) : zo_G s s.heap.size := by
  obtain ⟨hx, hb, hr, hml, hown, hts, hX, hbl, hlocks, hgv⟩ := C0
  have hfl := flat_of_before _ hgv
  refine ⟨fun w hw => ?_, vx_Zqof (args := #[Value.ref b]) (hts _ (by decide +kernel)) (hts _ (by decide +kernel)) (hfl _ (by decide +kernel)) (fun a h => by omega), vx_Zqof (args := #[Value.ref b]) (hts _ (by decide +kernel)) (hts _ (by decide +kernel)) (hfl _ (by decide +kernel)) (fun a h => by omega)⟩
  exact zo_move (Vm.Alike.refl s.vm) hw (hts w (zo_B_in w hw))
/-- the law's start: all that is left of it is the small machine's run -/
theorem zo_whole (hrun : zl_Run) {p : Program} {e : Env} {s : State} {m : MethodId} {below : List Frame} {meth : Method} {c : Code} (l : Launch) (hl : l.stackTraces = false) {b L : Nat} {xs : Nat → Int32} (hL : L ≤ 3072) (C0 : lw_At p s m meth c b L xs) : W p l e room_1 s m #[Value.ref b] below meth c s.heap [] 0 0 (lw_Z below #[Value.ref b] s) (entryFrame m ([Value.ref b] : List Value).toArray 7) :=
  zl_whole hrun l hL C0 (fun D cI cJ cO ad F _ => zo_O hl (by decide) (by decide) rfl F C0.2.2.2.2.2.1 (zo_start C0) rfl)
set_option maxHeartbeats 4000000 in
theorem lw_walk (hrun : zl_Run) (l : Launch) (hl : l.stackTraces = false) (b : Addr) (xs : List Int32) : MetFree l x (headSpec (Jvm.Cond.code x code maxLocals ret :: tables_1) room_1) (lw_P b xs) (fun _ _ _ _ _ => True) lw_Q := by
  refine MetFree.of_bodyS (code := code) (maxLocals := maxLocals) (ret := ret) (by decide) ?_ ?_
  · intro args s m h hn
    obtain ⟨meth, c, h1, h2, h3, h4, h5, h6, -, -⟩ := Cond.code_spec hn (atoms_spec (ws := Jvm.Cond.code x code maxLocals ret :: tables_1) h _ List.mem_cons_self)
    exact ⟨meth, c, h1, h2, h3, h4, h5, h6⟩
  · intro p e s m args below meth c s₁ B hml0 hP _
    obtain ⟨rfl, hx, hbd, hgv⟩ := hP
    obtain ⟨scr, harrAt, hlist, hof, hsmall⟩ := hx
    obtain ⟨hcb, hkn, -, -⟩ := State.arrayAt?_spec harrAt
    have hown : s.vm.findClass R_law = some m.cls := findClass_of_methodNamed B.named
    have hts0 : ∀ c ∈ (Jvm.Cond.code x code maxLocals ret :: tables_1), c.before #[Value.ref b] s = true := atoms_spec (ws := Jvm.Cond.code x code maxLocals ret :: tables_1) B.pre
    have hts : ∀ w ∈ lw_tbl, w.before #[Value.ref b] s = true := k2_hts_sels lw_privs (fun w hw => hts0 w (List.mem_cons_of_mem _ hw)) lw_privs_ok
    have hml : c.maxLocals = 7 := B.maxLocals_eq (hts0 _ List.mem_cons_self)
    have X₀ : Stand p l e room_1 s m #[Value.ref b] below meth c s₁ [] 0 0 := Stand.of_body B
    have hh0 : s₁.heap = s.heap := by rw [B.state]; rfl
    have hsz : scr.slots.size = xs.length := by rw [← Array.length_toList, hlist, List.length_map]
    have hval : ∀ j : Nat, j < xs.length → scr.slots[j]? = some (.int (xs.getD j 0)) := fun j hj => by
      rw [← Array.getElem?_toList, hlist]
      simp [hj]
    have hbl : b < s.heap.size := (Array.getElem?_eq_some_iff.mp hcb).1
    have hX : va_X b xs.length (fun j => xs.getD j 0) s s.heap := ⟨scr, hcb, hof, hkn, hsz, hval⟩
    have K : W p l e room_1 s m #[Value.ref b] below meth c s₁.heap [] 0 0 (lw_Z below #[Value.ref b] s) (entryFrame m ([Value.ref b] : List Value).toArray 7) := by
      rw [hh0]
      exact zo_whole hrun l hl hbd ⟨B.exec, B.bytes, B.returns, hml, hown, hts, hX, hbl, B.notSynchronized, hgv⟩
    obtain ⟨t, a1, o, b1, b2, b3⟩ := K s₁ rfl X₀
    exact ⟨t, o, a1, b1, b2, b3⟩
theorem lw_pre_spec {args : Array Value} {s : State} (h : (Jvm.Cond.and given_1 narrow_1).before args s = true) (hr : rest_1_c.before args s = true) : ∃ (b : Addr) (xs : List Int32), lw_P b xs args s := by
  have hs := flat_of_before _ h
  have hq := flat_of_before _ hr
  have hc : (Cond.count 1).before args s = true := hs _ (by decide +kernel)
  have harr : (Cond.arrayOf (.arg 0) .int).before args s = true := hs _ (by decide +kernel)
  have hle : (Cond.le (.length (.arg 0)) (.int 3072)).before args s = true := hs _ (by decide +kernel)
  have hlen : (Cond.isInt (.length (.arg 0))).before args s = true := hq _ (by decide +kernel)
  have hall : (Cond.all (.arg 0) (.isInt (.elem (.arg 0) (.index 0)))).before args s = true := hq _ (by decide +kernel)
  obtain ⟨b, xs, hb, hx⟩ := State.ints_of_pre rfl harr hlen hall
  have hsm : xs.length < 2 ^ 31 := hx.choose_spec.2.2.2
  have hev : (Term.length (.arg 0)).eval args s none [] s = some (.int xs.length.toInt32) := hx.length_eval hb
  have hv := Cond.le_ints hev (show (Term.int 3072).eval args s none [] s = some (.int 3072) from rfl)
  have hd : xs.length.toInt32 ≤ 3072 := by
    simpa [Cond.before, Cond.holds, hv] using hle
  have hN : xs.length ≤ 3072 := (Int32.ofNat_le_ofNat hsm (by decide)).mp (show Int32.ofNat xs.length ≤ Int32.ofNat 3072 from hd)
  exact ⟨b, xs, Cond.one_arg hc (show args[0]? = some (.ref b) from hb), hx, hN, h⟩
theorem lw_comes (hrun : zl_Run) (l : Launch) (hl : l.stackTraces = false) : Comes l x (Jvm.Cond.code x code maxLocals ret :: tables_1) room_1 (fun tb e args s => Calls_1 tb e args s ∧ rest_1 tb e args s ∧ Pre_1 tb e args s)
    (fun _ _ args s o t => lw_Q args s o t) := by
  intro p e ha hc hk s m args below hf hfit hheap happ hpre
  obtain ⟨b, xs, hP⟩ := lw_pre_spec hpre.2.2 hpre.2.1
  obtain ⟨k, o, h1, h2, h3, hQ⟩ := lw_walk hrun l hl b xs p e ha hc hk s m args below hf ((Spec.applies_iff_loose hf).mp happ).1 hP trivial
  exact ⟨k, o, h1, h2, h3, hQ⟩
theorem lw_frame {s t : State} {o : Outcome} {args : Array Value} (h : Framed s o t [] 601024 7293034) :
    Framed s o t (fieldLocs frame_1_writes args s ++ arrayLocs frame_1_arrays args s ++ staticLocs frame_1_statics s) 601024 7293034 := h
theorem lw_limb (hrun : zl_Run) (L : Cond) (hL : ∀ (args : Array Value) (s t : State), L.after args s (.returned (some (.int 1))) t = true) :
    ArmFor flags0 classFile x code maxLocals ret World_1 tables_1 room_1 Calls_1 rest_1 Pre_1
      (fun tb e a s o t => postC L tb e a s o t ∧ Framed s o t (fieldLocs frame_1_writes a s ++ arrayLocs frame_1_arrays a s ++ staticLocs frame_1_statics s) 601024 7293034) := by
  intro l hfl _ _ p e ha hc hk s m args below hf hfit hheap happ hpre
  obtain ⟨k, o, h1, h2, h3, rfl, hF⟩ := lw_comes hrun l (by unfold Launch.stackTraces; rw [hfl]; decide +kernel) p e ha hc hk s m args below hf hfit hheap happ hpre
  exact ⟨k, _, h1, h2, h3, hL args s _, lw_frame hF⟩
/-- the claim, out of the run of the small machine -/
theorem zo_claim (hrun : zl_Run) : Claimed_1_1 ∧ Claimed_1_2 := ⟨lw_limb hrun limb_1_1 (fun args s t => by simp [limb_1_1, Cond.after, Cond.holds, Cond.value]), lw_limb hrun limb_1_2 (fun args s t => Cond.after_iff.mpr (by
  first | (rw [show limb_1_2 = Cond.eq .result (.int 1) from rfl, Cond.eq_ints (x := 1) (y := 1) rfl rfl]; simp; done) | (simp [limb_1_2, Cond.value, Term.eval]; done)))⟩
