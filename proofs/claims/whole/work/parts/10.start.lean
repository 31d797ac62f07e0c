/-! THE LAW'S START: a run of the small machine is a run of the law -/
def zl_s0 (L : Nat) (xs : Nat → Int32) : zx_S := (fun k => if k = 0 then 4 else 0, fun _ => L, fun _ => xs, fun _ _ => none, fun _ _ => 0, 1, 0)
def zl_Run : Prop := ∀ (L : Nat) (xs : Nat → Int32), L ≤ 3072 → ∃ (f : Nat) (σ1 : zx_S), zx f 211 0 (zx_entry [.ref 0] 7) [] (zl_s0 L xs) = some (some (.int 1), σ1) ∧ zn σ1 ≤ 601025 ∧ zs σ1 ≤ 7293034
def zl_ad (b base : Nat) : Nat → Nat := fun k => if k = 0 then b else base + (k - 1)
theorem zl_A {b base : Nat} (h : b < base) : zr_A (zl_ad b base) base := by
  refine ⟨fun i j q => ?_, fun k hk => ?_, fun k hk => ?_⟩
  · unfold zl_ad at q
    split at q <;> split at q <;> omega
  · unfold zl_ad
    rw [if_neg (by omega)]
    omega
  · unfold zl_ad
    rw [if_neg (by omega), if_neg (by omega)]
    omega
set_option maxHeartbeats 4000000 in
/-- the classes and array classes at the law's entry -/
theorem zl_K {s : State} {args : Array Value} (hts : ∀ w ∈ lw_tbl, w.before args s = true) : ∃ (D : va_G) (cI cJ cO : ClassId), zr_K D cI cJ cO s s := by
  obtain ⟨c0, i0, k0⟩ := u_known hts zl_w0 (hts _ zl_i0)
  obtain ⟨c1, i1, k1⟩ := u_known hts zl_w1 (hts _ zl_i1)
  obtain ⟨c2, i2, k2⟩ := u_known hts zl_w2 (hts _ zl_i2)
  obtain ⟨c3, i3, k3⟩ := u_known hts zl_w3 (hts _ zl_i3)
  obtain ⟨c4, i4, k4⟩ := u_known hts zl_w4 (hts _ zl_i4)
  obtain ⟨c5, i5, k5⟩ := u_known hts zl_w5 (hts _ zl_i5)
  obtain ⟨c6, i6, k6⟩ := u_known hts zl_w6 (hts _ zl_i6)
  obtain ⟨c7, i7, k7⟩ := u_known hts zl_w7 (hts _ zl_i7)
  obtain ⟨c8, i8, k8⟩ := u_known hts zl_w8 (hts _ zl_i8)
  obtain ⟨c9, i9, k9⟩ := u_known hts zl_w9 (hts _ zl_i9)
  obtain ⟨c10, i10, k10⟩ := u_known hts zl_w10 (hts _ zl_i10)
  obtain ⟨cI, kI, compI, a1, a2, a3⟩ := Cond.arrayClass_spec (hts _ (zt_good _ zo_aI).1)
  obtain ⟨cJ, kJ, compJ, b1, b2, b3⟩ := Cond.arrayClass_spec (hts _ (zt_good _ zo_aJ).1)
  have hov := hts _ zl_over
  obtain ⟨compO, cO, kO, d1, d2, d3, d4, d5⟩ := Cond.arrayOver_spec hov
  refine ⟨(fun k => match k with | 0 => c0 | 1 => c1 | 2 => c2 | 3 => c3 | 4 => c4 | 5 => c5 | 6 => c6 | 7 => c7 | 8 => c8 | 9 => c9 | _ => c10, fun k => match k with | 0 => i0 | 1 => i1 | 2 => i2 | 3 => i3 | 4 => i4 | 5 => i5 | 6 => i6 | 7 => i7 | 8 => i8 | 9 => i9 | _ => i10), cI, cJ, cO, ⟨?_, ?_⟩, ?_, hov, Vm.Alike.refl s.vm⟩
  · intro k q hq
    match k, hq with
    | 0, hq => cases hq; exact k0
    | 1, hq => cases hq; exact k1
    | 2, hq => cases hq; exact k2
    | 3, hq => cases hq; exact k3
    | 4, hq => cases hq; exact k4
    | 5, hq => cases hq; exact k5
    | 6, hq => cases hq; exact k6
    | 7, hq => cases hq; exact k7
    | 8, hq => cases hq; exact k8
    | 9, hq => cases hq; exact k9
    | 10, hq => cases hq; exact k10
    | k + 11, hq => rw [List.getElem?_eq_none (by simp only [vwCl, List.length_cons, List.length_nil]; omega)] at hq; cases hq
  · intro k q hq
    match k, hq with
    | 0, hq => cases hq; exact ⟨fun n z => ⟨fun k h => (by cases h), kI, a2, compI, a3⟩, a1⟩
    | 1, hq => cases hq; exact ⟨fun n z => ⟨fun k h => (by cases h), kJ, b2, compJ, b3⟩, b1⟩
    | 2, hq => cases hq; exact ⟨fun n z => ⟨fun k h => (by cases h), kO, d3, compO, d4⟩, ⟨kO, compO, d3, d4, d1, d5⟩⟩
    | k + 3, hq => rw [List.getElem?_eq_none (by simp only [zr_tys, List.length_cons, List.length_nil]; omega)] at hq; cases hq
  · intro w hw
    have h5 : ∀ w ∈ zt_nest, w.onTables = true := by decide +kernel
    exact va_Nw.of (h5 w hw) (hts _ (zl_nest w hw))
set_option maxHeartbeats 4000000 in
/-- the law, from its entry, out of a run of the small machine -/
theorem zl_whole (hrun : zl_Run) {p : Program} {e : Env} {s : State} {m : MethodId} {below : List Frame} {meth : Method} {c : Code} (l : Launch) {b L : Nat} {xs : Nat → Int32} (hL : L ≤ 3072) (C0 : lw_At p s m meth c b L xs)
    (hout : ∀ (D : va_G) (cI cJ cO : ClassId) (ad : Nat → Nat), zr_Fr p s m #[Value.ref b] meth c (yL_law, cL_law, 7, some .boolean, 8, 1, 12, 300) D cI cJ cO ad s.heap.size s → ad 0 = b → zr_O p l e room_1 s m #[Value.ref b] below meth c (lw_Z below #[Value.ref b] s) D cI cJ cO ad s.heap.size s (yL_law, cL_law, 7, some .boolean, 8, 1, 12, 300)) :
    W p l e room_1 s m #[Value.ref b] below meth c s.heap [] 0 0 (lw_Z below #[Value.ref b] s) (entryFrame m ([Value.ref b] : List Value).toArray 7) := by
  obtain ⟨hx, hb, hr, hml, hown, hts, hX, hbl, hlocks, hgv⟩ := id C0
  obtain ⟨f, σ1, hz, hn, hs⟩ := hrun L xs hL
  obtain ⟨D, cI, cJ, cO, hK⟩ := zl_K hts
  have hF : zr_Fr p s m #[Value.ref b] meth c (yL_law, cL_law, 7, some .boolean, 8, 1, 12, 300) D cI cJ cO (zl_ad b s.heap.size) s.heap.size s :=
    ⟨hx, hb, hml, hown, fun w hw => hts w (zt_good w hw).1, hK, hr, hlocks, fun q => absurd q (by decide), zl_A hbl⟩
  have m1 := zx_mono _ _ _ _ _ _ _ _ hz
  have en : zn (zl_s0 L xs) = 1 := rfl
  have es : zs (zl_s0 L xs) = 0 := rfl
  have key := zx_walk f 211 0 _ [] (zl_s0 L xs) _ σ1 hz _ zM_L_law p l e room_1 s m #[Value.ref b] below meth c (lw_Z below #[Value.ref b] s) D cI cJ cO (zl_ad b s.heap.size) s.heap.size s 0 0 hF (by decide) (by decide) (by show 0 + (zn σ1 - 1) ≤ 601024; omega) (by show 0 + (zs σ1 - 0) ≤ 7293034; omega) (hout D cI cJ cO _ hF (if_pos rfl)) ⟨?_, ?_⟩
  · rw [lg_entry_eq]
    refine key _ s.heap [] (zr_entry (ad := zl_ad b s.heap.size) [.ref 0] (by decide) (by decide)) ⟨?_, Nat.le_refl _, fun k hk => ?_, fun q hq => rfl⟩ (fun q hq => by cases hq)
    · show s.heap.size = s.heap.size + (1 - 1)
      omega
    · by_cases e0 : k = 0
      · subst e0
        refine ⟨Nat.zero_lt_one, fun q => absurd rfl q, fun q => absurd (show (4 : Nat) = 1 from q) (by decide), fun q => absurd (show (4 : Nat) = 2 from q) (by decide), fun q => absurd (show (4 : Nat) = 3 from q) (by decide), fun _ => hX, fun ci q => ?_⟩
        have q' : 4 = 10 + ci := q
        omega
      · exact absurd (if_neg e0) hk
  · intro pc L st ins len hd hret ls H locs hLL hR hl
    unfold zx_ret at hret
    split at hret
    next =>
      split at hret
      next q =>
        subst q
        split at hret
        next v hq => cases hq
        next v hq =>
          split at hret
          next hv =>
            cases hret
            refine va_forget (fun q hq => hl q hq) ?_
            refine W.widen (k := 601024) (n := 7293034) (by show 0 + (zn σ1 - 1) ≤ 601024; omega) (by show 0 + (zs σ1 - 0) ≤ 7293034; omega) ?_
            exact lw_ret hx hb hr hlocks hd
          next => cases hret
        next => cases hret
      next => cases hret
    next =>
      split at hret
      next q =>
        split at hret
        next hq => cases hq
        next => cases hret
      next => cases hret
    next =>
      split at hret
      next q =>
        split at hret
        next nm v hq => cases hq
        next => cases hret
      next => cases hret
    next => cases hret
  · intro pc L st ins len σ cells slots hd ht
    exfalso
    unfold zx_thr at ht
    split at ht
    next => cases ht
    next => cases ht
