theorem zl_run : zl_Run := by
  intro L xs hL
  obtain ⟨f, r, σ1, h1, v, rfl, rfl, h2, h3⟩ := law_all L xs hL
  exact ⟨f, σ1, h1, h2, h3⟩
