/-! THE WHOLE RUN -/
theorem law_loop : ∀ (r : Nat) (E : jE) (A : jA) (x : Int), jOK A → INV E A → 79 ≤ E.2.2.2.1 → E.1 0 ≤ 3072 → 0 ≤ x → x ≤ 3078 → (E.1 0 : Int) ≤ x + 6 * r → E.2.2.2.1 + r ≤ 601025 → E.2.2.2.2 + 6 * r ≤ 7293034 → zwI 211 23 [some (.ref 0), some (.ref 1), some (.ref 49), some (.ref 78), some (.int (jI x)), none, none] [] (js E A) (fun v σ => v = 1 ∧ zn σ ≤ 601025 ∧ zs σ ≤ 7293034) := by
  intro r
  induction r with
  | zero =>
    intro E A x hA I hn hL h0 h1 hr hN hS
    refine vc_L_law_23 0 1 49 78 (jI x) (js E A) _ ⟨rfl, fun _ => ⟨rfl, ?_, ?_⟩, fun q => absurd ?_ q⟩
    · show E.2.2.2.1 ≤ 601025
      omega
    · show E.2.2.2.2 ≤ 7293034
      omega
    · rw [zN0, show Int32.ofNat (E.1 0) = jI (E.1 0 : Int) from (Int32.ofInt_eq_ofNat).symm, show (6 : Int32) = jI 6 from rfl, show jI (E.1 0 : Int) - jI 6 = jI ((E.1 0 : Int) - 6) from (Int32.ofInt_sub _ _).symm, jI_lt ⟨by omega, by omega⟩ ⟨by omega, by omega⟩]
      omega
  | succ r ih =>
    intro E A x hA I hn hL h0 h1 hr hN hS
    by_cases h : x + 6 ≤ E.1 0
    · refine law_step hA I hn hL h0 h (fun F C f1 f2 f3 f4 hC IC => ?_)
      refine vc_L_law_970 0 1 49 78 (jI x) (js F C) _ ?_
      rw [show jI x + Int32.ofInt 6 = jI (x + 6) from jI_add x 6]
      exact ih F C (x + 6) hC IC (by omega) (by omega) (by omega) (by omega) (by omega) (by omega) (by omega)
    · refine vc_L_law_23 0 1 49 78 (jI x) (js E A) _ ⟨rfl, fun _ => ⟨rfl, ?_, ?_⟩, fun q => absurd ?_ q⟩
      · show E.2.2.2.1 ≤ 601025
        omega
      · show E.2.2.2.2 ≤ 7293034
        omega
      · rw [zN0, show Int32.ofNat (E.1 0) = jI (E.1 0 : Int) from (Int32.ofInt_eq_ofNat).symm, show (6 : Int32) = jI 6 from rfl, show jI (E.1 0 : Int) - jI 6 = jI ((E.1 0 : Int) - 6) from (Int32.ofInt_sub _ _).symm, jI_lt ⟨by omega, by omega⟩ ⟨by omega, by omega⟩]
        omega
theorem law_all (L : Nat) (xs : Nat → Int32) (hL : L ≤ 3072) : zwI 211 0 [some (.ref 0), none, none, none, none, none, none] [] (zl_s0 L xs) (fun v σ => v = 1 ∧ zn σ ≤ 601025 ∧ zs σ ≤ 7293034) := by
  refine g_start L xs ?_
  rw [gs_js]
  exact law_loop 512 (jE0 L) (jA0 xs) 0 (jA0_ok xs) (INV0 L xs) (by show 79 ≤ 79; omega) hL (by omega) (by omega) (by show (L : Int) ≤ _; omega) (by show 79 + 512 ≤ 601025; omega) (by show 55066 + 6 * 512 ≤ 7293034; omega)
