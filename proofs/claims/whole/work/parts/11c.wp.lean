/-! THE LAW'S CALL OF ITS OWN out -/
theorem zw_out {y pc i z a x : Nat} {p0 p1 : Int32} {L E : zx_L} {rs : List Value} {σ : zx_S} {Q : Option Value → zx_S → Prop} {M Z : zx_M} (hM : zt_M y = some M) (hd : decode M.2.1 pc = .ok (.invokestatic i, 3)) (hC : zt_C M.2.2.2.2.1 i = some (6, z)) (hZ : zt_M z = some Z) (ha : zK σ a = 2) (hn : 1 ≤ zN σ a) (hx : zK σ x = 19) (hs : Nat.ble ((rs.map fun v => v.category).sum) 8 = true) (hE : zx_entry [.ref x, .int p0, .int p1] Z.2.2.1 = E)
    (k : zw z 0 E [] σ (fun r σ1 => (∃ v, r = some (.int v) ∧ zw y (pc + 3) L (.int 0 :: rs) (zx_pJ σ1 a 0 v.toInt64) Q) ∨ (∃ q, r = some (.retAddr q) ∧ zw y (pc + 3) L (.int 1 :: rs) σ1 Q))) : zw y pc L (.ref a :: .int p1 :: .int p0 :: .ref x :: rs) σ Q := by
  obtain ⟨f, r, σ1, h1, h2⟩ := k
  have h3 : ∃ st1 σ2, zx_out r a rs σ1 = some (st1, σ2) ∧ zw y (pc + 3) L st1 σ2 Q := by
    rcases h2 with ⟨v, rfl, h⟩ | ⟨q, rfl, h⟩
    · exact ⟨_, _, rfl, h⟩
    · exact ⟨_, _, rfl, h⟩
  obtain ⟨st1, σ2, ho, f2, r2, σ3, h4, h5⟩ := h3
  refine ⟨max f f2 + 1, r2, σ3, ?_, h5⟩
  unfold zx
  rw [hM]
  dsimp only
  rw [hd]
  dsimp only
  rw [show zx_cal M.2.2.2.2.1 (.invokestatic i) = some (6, z) by simp only [zx_cal, hC]]
  dsimp only
  rw [hZ]
  dsimp only
  rw [if_pos rfl, if_pos ⟨rfl, ha, hn, hx, Nat.le_of_ble_eq_true hs⟩, hE, zx_fuel _ _ _ _ _ _ _ h1 _ (Nat.le_max_left _ _)]
  dsimp only
  rw [ho]
  exact zx_fuel _ _ _ _ _ _ _ h4 _ (Nat.le_max_right _ _)
