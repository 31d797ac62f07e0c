/-! THE SMALL MACHINE'S CELLS IN THE REAL HEAP, and a row for each instruction -/
def zr_v (ad : Nat → Nat) : Value → Value
  | .ref k => .ref (ad k)
  | v => v
theorem zr_cat (ad : Nat → Nat) (v : Value) : (zr_v ad v).category = v.category := by cases v <;> rfl
theorem zr_rf (ad : Nat → Nat) (r : Option Nat) : zr_v ad (va_rf r) = va_rf (r.map ad) := by cases r <;> rfl
/-- numbers of cells and addresses: the script is cell 0, the others are made one behind another from base on -/
def zr_A (ad : Nat → Nat) (base : Nat) : Prop := (∀ i j, ad i = ad j → i = j) ∧ (∀ k, 1 ≤ k → base ≤ ad k) ∧ ∀ k, 1 ≤ k → ad (k + 1) = ad k + 1
def zr_tys (cI cJ cO : ClassId) : List (ClassId × FieldType) := [(cI, .int), (cJ, .long), (cO, .object RX1)]
def zr_K (D : va_G) (cI cJ cO : ClassId) (S0 s : State) : Prop := va_K D vwCl (zr_tys cI cJ cO) s ∧ (∀ w ∈ zt_nest, va_Nw w s) ∧ va_AO RX1 s ∧ S0.vm.Alike s.vm
def zr_at (D : va_G) (cI cJ cO : ClassId) (ad : Nat → Nat) (σ : zx_S) (s : State) (H : Heap) (k : Nat) : Prop :=
  (zK σ k = 1 → H[ad k]? = some (arrV cI (zN σ k) (fun j => .int (zI σ k j)))) ∧
  (zK σ k = 2 → H[ad k]? = some (arrV cJ (zN σ k) (fun j => .long (zJ σ k j)))) ∧
  (zK σ k = 3 → H[ad k]? = some (arrV cO (zN σ k) (fun j => va_rf ((zR σ k j).map ad)))) ∧
  (zK σ k = 4 → va_X (ad k) (zN σ k) (zI σ k) s H) ∧
  ∀ ci, zK σ k = 10 + ci → ∃ r : vw_C, vwCl[ci]? = some r ∧ t_OB (ad k) (D.1 ci) r.2.2 (D.2 ci) H (fun f => zr_v ad (zx_fv σ ci k f))
def zr (D : va_G) (cI cJ cO : ClassId) (ad : Nat → Nat) (base : Nat) (S0 : State) (σ : zx_S) (H : Heap) : Prop :=
  H.size = ad (zn σ) ∧ 1 ≤ zn σ ∧ (∀ k, zK σ k ≠ 0 → k < zn σ ∧ (zK σ k ≠ 4 → 1 ≤ k) ∧ zr_at D cI cJ cO ad σ S0 H k) ∧ ∀ q : Nat, q < base → H[q]? = S0.heap[q]?
theorem zr_at.kept {D : va_G} {cI cJ cO : ClassId} {ad : Nat → Nat} {σ σ1 : zx_S} {S0 : State} {H H1 : Heap} {k : Nat} (h : zr_at D cI cJ cO ad σ S0 H k) (hK : zK σ1 k = zK σ k) (hN : zN σ1 k = zN σ k) (hI : zI σ1 k = zI σ k) (hR : zR σ1 k = zR σ k) (hJ : zJ σ1 k = zJ σ k) (hq : H1[ad k]? = H[ad k]?) : zr_at D cI cJ cO ad σ1 S0 H1 k := by
  obtain ⟨h1, h2, h3, h4, h5⟩ := h
  have hf : ∀ ci f, zx_fv σ1 ci k f = zx_fv σ ci k f := fun ci f => by unfold zx_fv; rw [hI, hR]
  refine ⟨fun e => ?_, fun e => ?_, fun e => ?_, fun e => ?_, fun ci e => ?_⟩
  · rw [hq, hN, hI]; exact h1 (hK ▸ e)
  · rw [hq, hN, hJ]; exact h2 (hK ▸ e)
  · rw [hq, hN, hR]; exact h3 (hK ▸ e)
  · rw [hN, hI]; exact (h4 (hK ▸ e)).kept hq
  · obtain ⟨r, a1, a2⟩ := h5 ci (hK ▸ e)
    exact ⟨r, a1, (a2.kept hq).to (fun f _ => by rw [hf])⟩
/-- one cell is written -/
theorem zr.upd {D : va_G} {cI cJ cO : ClassId} {ad : Nat → Nat} {base : Nat} {S0 : State} {σ σ1 : zx_S} {H H1 : Heap} {k : Nat} (hA : zr_A ad base) (h : zr D cI cJ cO ad base S0 σ H) (hk : 1 ≤ k) (hK : zK σ1 = zK σ) (hN : zN σ1 = zN σ) (hn : zn σ1 = zn σ)
    (hI : ∀ j, j ≠ k → zI σ1 j = zI σ j) (hR : ∀ j, j ≠ k → zR σ1 j = zR σ j) (hJ : ∀ j, j ≠ k → zJ σ1 j = zJ σ j) (z : H1.size = H.size) (oq : ∀ q : Nat, q ≠ ad k → H1[q]? = H[q]?) (hat : zr_at D cI cJ cO ad σ1 S0 H1 k) : zr D cI cJ cO ad base S0 σ1 H1 := by
  obtain ⟨h1, h2, h3, h4⟩ := h
  refine ⟨by rw [z, hn]; exact h1, by rw [hn]; exact h2, fun j hj => ?_, fun q hq => ?_⟩
  · rw [hK] at hj ⊢
    obtain ⟨a1, a2, a3⟩ := h3 j hj
    refine ⟨by rw [hn]; exact a1, a2, ?_⟩
    by_cases e : j = k
    · subst e; exact hat
    · exact a3.kept (by rw [hK]) (by rw [hN]) (hI j e) (hR j e) (hJ j e) (oq _ (fun q => e (hA.1 _ _ q)))
  · have hb := hA.2.1 k hk
    rw [oq q (by omega)]
    exact h4 q hq
/-- a cell is made -/
theorem zr.new {D : va_G} {cI cJ cO : ClassId} {ad : Nat → Nat} {base : Nat} {S0 : State} {σ : zx_S} {H H1 : Heap} {kd ln sl : Nat} (hA : zr_A ad base) (h : zr D cI cJ cO ad base S0 σ H) (z : H1.size = H.size + 1) (oq : ∀ q : Nat, q < H.size → H1[q]? = H[q]?) (h4n : kd ≠ 4) (hat : kd ≠ 0 → zr_at D cI cJ cO ad (zx_nw σ kd ln sl) S0 H1 (zn σ)) : zr D cI cJ cO ad base S0 (zx_nw σ kd ln sl) H1 := by
  obtain ⟨h1, h2, h3, h4⟩ := h
  have en : zn (zx_nw σ kd ln sl) = zn σ + 1 := rfl
  refine ⟨by rw [z, h1, en, hA.2.2 _ h2], by rw [en]; omega, fun j hj => ?_, fun q hq => ?_⟩
  · by_cases e : j = zn σ
    · subst e
      have e1 : zK (zx_nw σ kd ln sl) (zn σ) = kd := if_pos rfl
      rw [e1] at hj
      exact ⟨by rw [en]; omega, fun _ => h2, hat hj⟩
    · have eK : zK (zx_nw σ kd ln sl) j = zK σ j := if_neg e
      rw [eK] at hj ⊢
      obtain ⟨a1, a2, a3⟩ := h3 j hj
      refine ⟨by rw [en]; omega, a2, a3.kept eK (if_neg e) (if_neg e) (if_neg e) (if_neg e) (oq _ ?_)⟩
      rw [h1]
      have hmono : ∀ d k : Nat, 1 ≤ k → ad k ≤ ad (k + d) := fun d => by
        induction d with
        | zero => intro k _; exact Nat.le_refl _
        | succ d ih => intro k hk; rw [show k + (d + 1) = (k + d) + 1 from rfl, hA.2.2 _ (by omega)]; exact Nat.le_succ_of_le (ih k hk)
      by_cases e0 : 1 ≤ j
      · have q1 := hmono (zn σ - (j + 1)) (j + 1) (by omega)
        rw [show j + 1 + (zn σ - (j + 1)) = zn σ by omega, hA.2.2 j e0] at q1
        omega
      · have hz : ∀ (kk : Nat), zr_at D cI cJ cO ad σ S0 H kk → zK σ kk ≠ 0 → zK σ kk = 4 → ad kk < H.size := by
          intro kk hat' _ hkk
          obtain ⟨scr, q1, -⟩ := hat'.2.2.2.1 hkk
          exact (Array.getElem?_eq_some_iff.mp q1).1
        by_cases e4 : zK σ j = 4
        · rw [← h1]; exact hz j a3 hj e4
        · exact absurd (a2 e4) e0
  · have hb := hA.2.1 _ h2
    rw [oq q (by omega)]
    exact h4 q hq
/-- the locals -/
def zr_L (ad : Nat → Nat) (ls : Array Slot) (n : Nat) (L : zx_L) : Prop := ls.size = n ∧ lv_wf ls ∧ L.length = n ∧ ∀ (i : Nat) (v : Value), L[i]? = some (some v) → ls[i]? = some (Slot.val (zr_v ad v))
theorem zr_L.get {ad : Nat → Nat} {ls : Array Slot} {n : Nat} {L : zx_L} (h : zr_L ad ls n L) {i : Nat} {v : Value} (hi : zx_get L i = some v) : ls[i]? = some (.val (zr_v ad v)) := by
  refine h.2.2.2 i v ?_
  unfold zx_get at hi
  split at hi
  next w e => cases hi; exact e
  next => cases hi
def zr_pairs (ad : Nat → Nat) (L : zx_L) : List (Nat × Value) := (List.range L.length).filterMap (fun i => match L[i]? with
  | some (some v) => some (i, zr_v ad v)
  | _ => none)
theorem zr_pairs_mem {ad : Nat → Nat} {L : zx_L} {q : Nat × Value} : q ∈ zr_pairs ad L ↔ ∃ v, L[q.1]? = some (some v) ∧ q.2 = zr_v ad v := by
  unfold zr_pairs
  constructor
  · intro h
    obtain ⟨i, hi, e⟩ := List.mem_filterMap.mp h
    split at e
    next v ev => cases e; exact ⟨v, ev, rfl⟩
    next => cases e
  · rintro ⟨v, h1, h2⟩
    refine List.mem_filterMap.mpr ⟨q.1, List.mem_range.mpr (List.getElem?_eq_some_iff.mp h1).1, ?_⟩
    rw [h1]
    simp only [Option.some.injEq]
    exact Prod.ext rfl h2.symm
theorem zr_L.has {ad : Nat → Nat} {ls : Array Slot} {n : Nat} {L : zx_L} (h : zr_L ad ls n L) : lv_has ls n (zr_pairs ad L) := by
  refine ⟨h.1, h.2.1, fun q hq => ?_⟩
  obtain ⟨v, h1, h2⟩ := zr_pairs_mem.mp hq
  rw [h2]
  exact h.2.2.2 _ _ h1
theorem zx_clob_len (L : zx_L) (i : Nat) : (zx_clob L i).length = L.length := by
  unfold zx_clob
  split
  · rfl
  · split
    · split
      · simp
      · rfl
    · rfl
theorem zx_clob_get {L : zx_L} {i j : Nat} {v : Value} (h : (zx_clob L i)[j]? = some (some v)) : L[j]? = some (some v) ∧ ¬ (j + 1 = i ∧ v.category = 2) := by
  unfold zx_clob at h
  split at h
  · exact ⟨h, fun q => by omega⟩
  next i' =>
    split at h
    next w e =>
      split at h
      next hc =>
        by_cases ej : j = i'
        · subst ej
          by_cases hl : j < L.length
          · rw [List.getElem?_set_self hl] at h; cases h
          · rw [List.getElem?_eq_none (by simpa using hl)] at h; cases h
        · rw [List.getElem?_set_ne (Ne.symm ej)] at h
          exact ⟨h, fun q => ej (by omega)⟩
      next hc =>
        refine ⟨h, fun q => ?_⟩
        have : j = i' := by omega
        subst this
        rw [e] at h
        cases h
        exact hc q.2
    next hx =>
      refine ⟨h, fun q => ?_⟩
      have : j = i' := by omega
      subst this
      exact hx v h
theorem zr_L.st1 {ad : Nat → Nat} {ls : Array Slot} {n : Nat} {L : zx_L} (h : zr_L ad ls n L) {i : Nat} {v : Value} (hi : i < L.length) {ls' : Array Slot} (h' : lv_has ls' n ((i, zr_v ad v) :: (zr_pairs ad L).filter (fun q => !(q.1 == i) && !(q.1 + 1 == i && q.2.category == 2)))) : zr_L ad ls' n (zx_st1 L i v) := by
  refine ⟨h'.1, h'.2.1, by unfold zx_st1; rw [List.length_set, zx_clob_len]; exact h.2.2.1, fun j w hj => ?_⟩
  unfold zx_st1 at hj
  by_cases e : j = i
  · subst e
    rw [List.getElem?_set_self (by rw [zx_clob_len]; exact hi)] at hj
    cases hj
    exact h'.2.2 _ List.mem_cons_self
  · rw [List.getElem?_set_ne (Ne.symm e)] at hj
    obtain ⟨g1, g2⟩ := zx_clob_get hj
    refine h'.2.2 (j, zr_v ad w) (List.mem_cons_of_mem _ (List.mem_filter.mpr ⟨zr_pairs_mem.mpr ⟨w, g1, rfl⟩, ?_⟩))
    simp only [Bool.and_eq_true, Bool.not_eq_true', beq_eq_false_iff_ne, ne_eq, Bool.and_eq_false_iff]
    refine ⟨e, ?_⟩
    by_cases e1 : j + 1 = i
    · refine Or.inr (fun q => g2 ⟨e1, ?_⟩)
      rw [zr_cat] at q
      exact q
    · exact Or.inl e1
theorem zr_L.st2 {ad : Nat → Nat} {ls : Array Slot} {n : Nat} {L : zx_L} (h : zr_L ad ls n L) {i : Nat} {v : Value} (hi : i + 1 < L.length) {ls' : Array Slot} (h' : lv_has ls' n ((i, zr_v ad v) :: (zr_pairs ad L).filter (fun q => !(q.1 == i) && (!(q.1 == i + 1) && !(q.1 + 1 == i && q.2.category == 2))))) : zr_L ad ls' n (zx_st2 L i v) := by
  refine ⟨h'.1, h'.2.1, by unfold zx_st2; rw [List.length_set, List.length_set, zx_clob_len]; exact h.2.2.1, fun j w hj => ?_⟩
  unfold zx_st2 at hj
  by_cases e2 : j = i + 1
  · subst e2
    rw [List.getElem?_set_self (by rw [List.length_set, zx_clob_len]; exact hi)] at hj
    cases hj
  · rw [List.getElem?_set_ne (Ne.symm e2)] at hj
    by_cases e : j = i
    · subst e
      rw [List.getElem?_set_self (by rw [zx_clob_len]; omega)] at hj
      cases hj
      exact h'.2.2 _ List.mem_cons_self
    · rw [List.getElem?_set_ne (Ne.symm e)] at hj
      obtain ⟨g1, g2⟩ := zx_clob_get hj
      refine h'.2.2 (j, zr_v ad w) (List.mem_cons_of_mem _ (List.mem_filter.mpr ⟨zr_pairs_mem.mpr ⟨w, g1, rfl⟩, ?_⟩))
      simp only [Bool.and_eq_true, Bool.not_eq_true', beq_eq_false_iff_ne, ne_eq, Bool.and_eq_false_iff]
      refine ⟨e, e2, ?_⟩
      by_cases e1 : j + 1 = i
      · refine Or.inr (fun q => g2 ⟨e1, ?_⟩)
        rw [zr_cat] at q
        exact q
      · exact Or.inl e1
theorem zr_entry {ad : Nat → Nat} (vs : List Value) {n : Nat} (hc : ∀ v ∈ vs, v.category = 1) (hn : vs.length ≤ n) : zr_L ad ((lg_sl (vs.map (zr_v ad)) ++ List.replicate (n - (lg_sl (vs.map (zr_v ad))).length) Slot.unset).toArray) n (zx_entry vs n) := by
  have e : lg_sl (vs.map (zr_v ad)) = vs.map (fun v => Slot.val (zr_v ad v)) := by
    clear hn
    induction vs with
    | nil => rfl
    | cons a t ih =>
      have h1 : (zr_v ad a).category = 1 := by rw [zr_cat]; exact hc a List.mem_cons_self
      have h2 := ih (fun v hv => hc v (List.mem_cons_of_mem _ hv))
      simp only [lg_sl, List.map_cons, List.flatMap_cons] at h2 ⊢
      rw [h2, if_neg (by rw [h1]; decide)]
      rfl
  have hl := lv_entry (vs.map (zr_v ad)) (n := n) (by rw [e, List.length_map]; exact hn)
  refine ⟨hl.1, hl.2.1, by simp [zx_entry]; omega, fun i v hi => ?_⟩
  have hi' : i < vs.length ∧ vs[i]? = some v := by
    unfold zx_entry at hi
    by_cases hlt : i < vs.length
    · rw [List.getElem?_append_left (by simpa using hlt), List.getElem?_map] at hi
      refine ⟨hlt, ?_⟩
      cases hv : vs[i]? with
      | none => rw [hv] at hi; cases hi
      | some w => rw [hv] at hi; simpa using hi
    · rw [List.getElem?_append_right (by simpa using hlt)] at hi
      have := List.eq_of_mem_replicate (List.mem_of_getElem? hi)
      cases this
  rw [e, List.getElem?_toArray, List.getElem?_append_left (by simpa using hi'.1), List.getElem?_map, hi'.2]
  rfl
