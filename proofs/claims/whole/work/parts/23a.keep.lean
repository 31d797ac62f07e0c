/-! THE SCRIPT STANDS: no instruction writes into a cell of kind 4 -/
def zkeep (σ σ1 : zx_S) : Prop := zK σ 0 = 4 → 1 ≤ zn σ → zK σ1 0 = 4 ∧ 1 ≤ zn σ1 ∧ zI σ1 0 = zI σ 0 ∧ zN σ1 0 = zN σ 0
theorem zkeep.refl (σ : zx_S) : zkeep σ σ := fun a b => ⟨a, b, rfl, rfl⟩
theorem zkeep.trans {σ σ1 σ2 : zx_S} (h : zkeep σ σ1) (h2 : zkeep σ1 σ2) : zkeep σ σ2 := fun a b => by
  obtain ⟨c1, c2, c3, c4⟩ := h a b
  obtain ⟨d1, d2, d3, d4⟩ := h2 c1 c2
  exact ⟨d1, d2, d3.trans c3, d4.trans c4⟩
theorem zkeep.pI {σ : zx_S} {o k : Nat} {v : Int32} (h : zK σ o ≠ 4) : zkeep σ (zx_pI σ o k v) := fun a b => ⟨a, b, by
  have : (0 : Nat) ≠ o := fun e => h (by rw [← e]; exact a)
  show (if 0 = o then _ else _) = _
  rw [if_neg this], rfl⟩
theorem zkeep.pA {σ : zx_S} {o : Nat} {f : Nat → Int32} (h : zK σ o ≠ 4) : zkeep σ (zx_pA σ o f) := fun a b => ⟨a, b, by
  have : (0 : Nat) ≠ o := fun e => h (by rw [← e]; exact a)
  show (if 0 = o then _ else _) = _
  rw [if_neg this], rfl⟩
theorem zkeep.pR {σ : zx_S} {o k : Nat} {v : Option Nat} : zkeep σ (zx_pR σ o k v) := fun a b => ⟨a, b, rfl, rfl⟩
theorem zkeep.pJ {σ : zx_S} {o k : Nat} {v : Int64} : zkeep σ (zx_pJ σ o k v) := fun a b => ⟨a, b, rfl, rfl⟩
theorem zkeep.nw {σ : zx_S} {kd ln sl : Nat} : zkeep σ (zx_nw σ kd ln sl) := fun a b => by
  have : (0 : Nat) ≠ zn σ := by omega
  refine ⟨?_, ?_, ?_, ?_⟩
  · show (if 0 = zn σ then _ else _) = _
    rw [if_neg this]; exact a
  · show 1 ≤ zn σ + 1
    omega
  · show (if 0 = zn σ then _ else _) = _
    rw [if_neg this]
  · show (if 0 = zn σ then _ else _) = _
    rw [if_neg this]
section KEEP
variable {c : Nat} {ini room : Bool} {len pc pc1 w i : Nat} {L L1 : zx_L} {st st1 : List Value} {σ σ1 : zx_S}
theorem zk_push {v : Value} (h : zx_push v len w pc L st σ = some (pc1, L1, st1, σ1)) : σ1 = σ := by
  unfold zx_push at h
  split at h
  · cases h; rfl
  · cases h
theorem zk_ild (h : zx_ild i len w pc L st σ = some (pc1, L1, st1, σ1)) : σ1 = σ := by
  unfold zx_ild at h
  split at h
  · split at h
    · cases h; rfl
    · cases h
  · cases h
theorem zk_lld (h : zx_lld i len w pc L st σ = some (pc1, L1, st1, σ1)) : σ1 = σ := by
  unfold zx_lld at h
  split at h
  · split at h
    · cases h; rfl
    · cases h
  · cases h
theorem zk_ald (h : zx_ald i len w pc L st σ = some (pc1, L1, st1, σ1)) : σ1 = σ := by
  unfold zx_ald at h
  split at h
  · split at h
    · cases h; rfl
    · cases h
  · cases h
theorem zk_ist (h : zx_ist i len w pc L st σ = some (pc1, L1, st1, σ1)) : σ1 = σ := by
  unfold zx_ist at h
  split at h
  · split at h
    · cases h; rfl
    · cases h
  · cases h
theorem zk_ast (h : zx_ast i len w pc L st σ = some (pc1, L1, st1, σ1)) : σ1 = σ := by
  unfold zx_ast at h
  split at h
  · split at h
    · cases h; rfl
    · cases h
  · cases h
theorem zk_lst (h : zx_lst i len w pc L st σ = some (pc1, L1, st1, σ1)) : σ1 = σ := by
  unfold zx_lst at h
  split at h
  · split at h
    · cases h; rfl
    · cases h
  · cases h
theorem zk_bin {f : Int32 → Int32 → Int32} (h : zx_bin f len pc L st σ = some (pc1, L1, st1, σ1)) : σ1 = σ := by
  unfold zx_bin at h
  split at h
  · split at h
    · cases h; rfl
    · cases h
  · cases h
theorem zk_binz {f : Int32 → Int32 → Int32} (h : zx_binz f len pc L st σ = some (pc1, L1, st1, σ1)) : σ1 = σ := by
  unfold zx_binz at h
  split at h
  · split at h
    · split at h
      · cases h
      · cases h; rfl
    · cases h
  · cases h
theorem zk_binl {f : Int64 → Int64 → Int64} (h : zx_binl f len pc L st σ = some (pc1, L1, st1, σ1)) : σ1 = σ := by
  unfold zx_binl at h
  split at h
  · split at h
    · cases h; rfl
    · cases h
  · cases h
theorem zk_jmp {d : Bool} {off : Int} (h : zx_jmp d off pc L st σ = some (pc1, L1, st1, σ1)) : σ1 = σ := by
  unfold zx_jmp at h
  split at h
  · cases h; rfl
  · cases h
theorem zk_step {ins : Instr} (h : zx_step c ini room ins len pc L st σ = some (pc1, L1, st1, σ1)) : zkeep σ σ1 := by
  have same : σ1 = σ → zkeep σ σ1 := fun e => by rw [e]; exact zkeep.refl σ
  unfold zx_step at h
  split at h
  all_goals first
    | exact same (zk_push h)
    | exact same (zk_ild h)
    | exact same (zk_lld h)
    | exact same (zk_ald h)
    | exact same (zk_ist h)
    | exact same (zk_ast h)
    | exact same (zk_lst h)
    | exact same (zk_bin h)
    | exact same (zk_binz h)
    | exact same (zk_binl h)
    | skip
  all_goals repeat' first
    | (cases h; done)
    | exact same (zk_push h)
    | exact same (zk_jmp h)
    | (cases h; first
        | exact zkeep.refl _
        | exact zkeep.nw
        | exact zkeep.pR
        | exact zkeep.pJ
        | (refine zkeep.pI ?_; omega)
        | (refine zkeep.pA ?_; omega))
    | split at h
theorem zk_out {q : Option Value} {a : Nat} {σ2 : zx_S} (h : zx_out q a st σ = some (st1, σ2)) : zkeep σ σ2 := by
  unfold zx_out at h
  split at h
  · cases h; exact zkeep.pJ
  · cases h; exact zkeep.refl _
  · cases h
end KEEP
theorem zx_stand : ∀ (f y pc : Nat) (L : zx_L) (st : List Value) (σ : zx_S) (r : Option Value) (σ1 : zx_S), zx f y pc L st σ = some (r, σ1) → zkeep σ σ1 := by
  intro f
  induction f with
  | zero => intro y pc L st σ r σ1 h; cases h
  | succ f ih =>
    intro y pc L st σ r σ1 h
    unfold zx at h
    split at h
    · cases h
    split at h
    · cases h
    split at h
    · split at h
      · cases h
      split at h
      · split at h
        · split at h
          · split at h
            · rename_i h1
              split at h
              · rename_i h2
                exact ((ih _ _ _ _ _ _ _ h1).trans (zk_out h2)).trans (ih _ _ _ _ _ _ _ h)
              · cases h
            · cases h
          · cases h
        · cases h
      · split at h
        · split at h
          · rename_i h1
            split at h
            · exact (ih _ _ _ _ _ _ _ h1).trans (ih _ _ _ _ _ _ _ h)
            · cases h
          · cases h
        · cases h
    · split at h
      · split at h
        · cases h; exact zkeep.nw
        · cases h
      · split at h
        · cases h; exact zkeep.refl _
        · split at h
          · rename_i h1
            exact (zk_step h1).trans (ih _ _ _ _ _ _ _ h)
          · cases h
theorem zw.keep {y pc : Nat} {L : zx_L} {st : List Value} {σ : zx_S} {Q : Option Value → zx_S → Prop} (h : zw y pc L st σ Q) : zw y pc L st σ (fun r σ1 => Q r σ1 ∧ zkeep σ σ1) := by
  obtain ⟨f, r, σ1, h1, h2⟩ := h
  exact ⟨f, r, σ1, h1, h2, zx_stand f y pc L st σ r σ1 h1⟩
