/-! THE LAW'S LOOP -/
section LAW
theorem jI_add (a b : Int) : jI a + jI b = jI (a + b) := (Int32.ofInt_add a b).symm
theorem zin_js {x k : Int} {n : Nat} (h0 : 0 ≤ x) (hk : 0 ≤ k) (h1 : x + k < n) (hn : n ≤ 3072) : zx_in (jI x + jI k) n = true := by
  have hw : jW (x + k) := ⟨by omega, by omega⟩
  rw [jI_add]
  unfold zx_in
  refine decide_eq_true ?_
  rintro (h | h)
  · have := (jI_lt hw jW_0).mp h
    omega
  · rw [jI_nat hw] at h
    omega
theorem zN0 (F : jE) (B : jA) : zN (js F B) 0 = F.1 0 := rfl
theorem lg_same (x : Int64) : lg_cmp x x = 0 := by
  unfold lg_cmp
  rw [if_neg (Int64.lt_irrefl), if_pos rfl]
/-- where the law goes on -/
abbrev wNx (x4 : Int32) (σ : zx_S) (K : Int32 → zx_S → Prop) : Prop := zwI 211 970 [some (.ref 0), some (.ref 1), some (.ref 49), some (.ref 78), some (.int x4), none, none] [] σ K
variable {E : jE} {A : jA}
theorem w_pair {y1 y2 : Nat} {L1 L2 : zx_L} {x4 : Int32} {K : Int32 → zx_S → Prop} {Φ : jA → Prop} (hA : jOK A) (hn : 1 ≤ E.2.2.2.1) (p : jrI y1 0 L1 [] E A (fun v B => jrI y2 0 L2 [] E B (fun w C => v = w ∧ Φ C))) (next : ∀ C, jOK C → Φ C → wNx x4 (js E C) K) {R : Int32 → zx_S → Prop} (hR : ∀ v B, zI (js E B) 0 = zI (js E A) 0 → zwI y2 0 L2 [] (js E B) (fun w σ => (v = w → wNx x4 σ K) ∧ (¬ v = w → K 0 σ)) → R v (js E B)) : zwI y1 0 L1 [] (js E A) R := by
  refine zw.mono (zw.keep (p hA)) ?_
  rintro r σ1 ⟨⟨w, B, er, hw, eσ, hB, q⟩, hk⟩
  subst eσ
  refine ⟨jI w, er, hR _ B (hk rfl hn).2.2.1 ?_⟩
  refine zwI.mono (q.z hB) ?_
  rintro v σ ⟨w2, C, ev, hw2, eC, hC, e, φ⟩
  subst eC
  exact ⟨fun _ => next C hC φ, fun h => absurd (by rw [ev, e]) h⟩
theorem w_over {x : Int} (rx : jW x) {x4 : Int32} {K : Int32 → zx_S → Prop} (hA : jOK A) (hn : 1 ≤ E.2.2.2.1) (I : INV E A) (next : ∀ F C, F.1 = E.1 → F.2.2 = E.2.2 → jOK C → INV F C → wNx x4 (js F C) K) {R : Int32 → zx_S → Prop} (hR : ∀ v F B, F.1 = E.1 → zI (js F B) 0 = zI (js E A) 0 → zwI 194 0 [some (.ref 49), some (.int (jI x))] [] (js F B) (fun w σ => (v = w → wNx x4 σ K) ∧ (¬ v = w → K 0 σ)) → R v (js F B)) : zwI 132 0 [some (.ref 1), some (.int (jI x))] [] (js E A) R := by
  have p := p_over rx hA I.2.2.1 I.2.2.2.1 I.2.2.2.2
  unfold zwI at p
  refine zw.mono (zw.keep p) ?_
  rintro r σ1 ⟨⟨v, er, w, F, B, ev, hw, eσ, hB, ⟨f1, f2⟩, q⟩, hk⟩
  subst eσ
  refine ⟨v, er, hR _ F B f1 (hk rfl hn).2.2.1 ?_⟩
  refine zwI.mono (q.z hB) ?_
  rintro v2 σ ⟨w2, C, ev2, hw2, eC, hC, e, φ⟩
  subst eC
  exact ⟨fun _ => next F C f1 f2 hC (I.lay φ), fun h => absurd (by rw [ev, ev2, e]) h⟩
/-- the longs set -/
def jlg (E : jE) (v : Int64) : jE := (E.1, E.2.1, fun a => if a = 78 then vp_updL (E.2.2.1 78) 0 v else E.2.2.1 a, E.2.2.2)
theorem js_lg (E : jE) (A : jA) (v : Int64) : zx_pJ (js E A) 78 0 v = js (jlg E v) A := rfl
theorem jzr_row {A : jA} {n a : Nat} (h : a ≠ n) : jzr A n a = A a := by funext j; unfold jzr; rw [if_neg h]
/-- what the law does where out answered a value -/
def wOutV (K : Int32 → zx_S → Prop) (x4 : Int32) (k1 k2 : Nat) (v147 : Int32) (σ146 : zx_S) : Prop := ∀ σ149 : zx_S, σ149 = zx_pJ σ146 78 0 (Int32.toInt64 v147) → zK σ149 0 = 4 ∧ zx_in (x4 + 1) (zN σ149 0) = true ∧ zx_in (x4 + 2) (zN σ149 0) = true ∧ zK σ149 49 = 20 ∧ zwI 193 0 [some (.ref 49), some (.int (zI σ149 0 k1)), some (.int (zI σ149 0 k2))] [] σ149 (fun v156 σ155 => zK σ155 49 = 20 ∧ zwI 207 0 [some (.ref 49)] [] σ155 (fun v159 σ158 => ((v159 = (0 : Int32) → ((¬ (0 : Int32) = (0 : Int32) → zwI 211 633 [some (.ref 0), some (.ref 1), some (.ref 49), some (.ref 78), some (.int x4), none, none] [] σ158 K) ∧ ((0 : Int32) = (0 : Int32) → zK σ158 78 = 2 ∧ zx_in 0 (zN σ158 78) = true ∧ (((lg_cmp (zJ σ158 78 (Int32.toNatClampNeg 0)) (Int32.toInt64 v156)) = (0 : Int32) → zwI 211 633 [some (.ref 0), some (.ref 1), some (.ref 49), some (.ref 78), some (.int x4), none, none] [] σ158 K) ∧ (¬ (lg_cmp (zJ σ158 78 (Int32.toNatClampNeg 0)) (Int32.toInt64 v156)) = (0 : Int32) → K 0 σ158))))) ∧ (¬ v159 = (0 : Int32) → K 0 σ158))))
/-- the flag of a throw is no part of what is kept -/
theorem INV.flag (I : INV E A) (v : Int) : INV E (jup A 49 0 v) :=
  ⟨I.1.fr (fun a x => jup_row (by omega)) (jup_ne (by decide)) (jup_ne (by decide)), I.2.1.fr (fun a x => jup_row (by omega)) (jup_ne (by decide)), I.2.2.1.fr (fun a x => jup_row (by omega)) (jup_ne (by decide)), I.2.2.2.1.rows (fun a x => jup_row (by omega)) (jup_ne (by decide)), I.2.2.2.2.rows (fun a x => jup_row (by omega)) (jup_ne (by decide))⟩
theorem INV.one (I : INV E A) : INV E (jup (jup A 49 0 0) 49 0 1) := (I.flag 0).flag 1
set_option maxHeartbeats 2000000 in
theorem law_step {x : Int} {K : Int32 → zx_S → Prop} (hA : jOK A) (I : INV E A) (hn : 79 ≤ E.2.2.2.1) (hL : E.1 0 ≤ 3072) (hx : 0 ≤ x) (hx6 : x + 6 ≤ E.1 0) (nx : ∀ F C, F.1 0 = E.1 0 → E.2.2.2.1 ≤ F.2.2.2.1 → F.2.2.2.1 ≤ E.2.2.2.1 + 1 → F.2.2.2.2 ≤ E.2.2.2.2 + 6 → jOK C → INV F C → wNx (jI x) (js F C) K) : zwI 211 23 [some (.ref 0), some (.ref 1), some (.ref 49), some (.ref 78), some (.int (jI x)), none, none] [] (js E A) K := by
  have h1 : 1 ≤ E.2.2.2.1 := by omega
  have nE : ∀ C, jOK C → INV E C → wNx (jI x) (js E C) K := fun C => nx E C rfl (Nat.le_refl _) (by omega) (by omega)
  have i0 : ∀ (F : jE) B, F.1 0 = E.1 0 → zx_in (jI x) (zN (js F B) 0) = true := fun F B h => by
    rw [zN0, h, show jI x = jI x + jI 0 by rw [jI_add, Int.add_zero]]; exact zin_js hx (by decide) (by omega) hL
  have i1 : ∀ (F : jE) B, F.1 0 = E.1 0 → zx_in (jI x + 1) (zN (js F B) 0) = true := fun F B h => by rw [zN0, h]; exact zin_js (k := 1) hx (by decide) (by omega) hL
  have i2 : ∀ (F : jE) B, F.1 0 = E.1 0 → zx_in (jI x + 2) (zN (js F B) 0) = true := fun F B h => by rw [zN0, h]; exact zin_js (k := 2) hx (by decide) (by omega) hL
  have i3 : ∀ (F : jE) B, F.1 0 = E.1 0 → zx_in (jI x + 3) (zN (js F B) 0) = true := fun F B h => by rw [zN0, h]; exact zin_js (k := 3) hx (by decide) (by omega) hL
  have i4 : ∀ (F : jE) B, F.1 0 = E.1 0 → zx_in (jI x + 4) (zN (js F B) 0) = true := fun F B h => by rw [zN0, h]; exact zin_js (k := 4) hx (by decide) (by omega) hL
  have i5 : ∀ (F : jE) B, F.1 0 = E.1 0 → zx_in (jI x + 5) (zN (js F B) 0) = true := fun F B h => by rw [zN0, h]; exact zin_js (k := 5) hx (by decide) (by omega) hL
  refine vc_L_law_23 0 1 49 78 (jI x) (js E A) K ⟨rfl, fun q => ?_, fun _ => ⟨i0 _ _ rfl, ?_⟩⟩
  · exfalso
    rw [zN0, show Int32.ofNat (E.1 0) = jI (E.1 0 : Int) from (Int32.ofInt_eq_ofNat).symm, show (6 : Int32) = jI 6 from rfl, show jI (E.1 0 : Int) - jI 6 = jI ((E.1 0 : Int) - 6) from (Int32.ofInt_sub _ _).symm, jI_lt ⟨by omega, by omega⟩ ⟨by omega, by omega⟩] at q
    omega
  refine ⟨fun _ => ?_, fun _ => ?_⟩
  · exact ⟨i1 _ _ rfl, i2 _ _ rfl, rfl, w_pair hA h1 (p_folder (hA 0 _) (hA 0 _) I.1) (fun C hC φ => nE C hC (I.tree φ)) (fun v B hz z => ⟨rfl, i1 _ _ rfl, i2 _ _ rfl, rfl, by rw [hz]; exact z⟩)⟩
  refine ⟨fun _ => ?_, fun _ => ?_⟩
  · exact ⟨i1 _ _ rfl, i2 _ _ rfl, rfl, w_pair hA h1 (p_file (hA 0 _) (hA 0 _) I.1) (fun C hC φ => nE C hC (I.tree φ)) (fun v B hz z => ⟨rfl, i1 _ _ rfl, i2 _ _ rfl, rfl, by rw [hz]; exact z⟩)⟩
  refine ⟨fun _ => ?_, fun _ => ?_⟩
  · exact ⟨i1 _ _ rfl, i2 _ _ rfl, rfl, w_pair hA h1 (p_hide (hA 0 _) (hA 0 _) I.1) (fun C hC φ => nE C hC (I.tree φ)) (fun v B hz z => ⟨rfl, i1 _ _ rfl, i2 _ _ rfl, rfl, by rw [hz]; exact z⟩)⟩
  refine ⟨fun _ => ?_, fun _ => ?_⟩
  · exact ⟨i1 _ _ rfl, i2 _ _ rfl, i3 _ _ rfl, rfl, w_pair hA h1 (p_link (hA 0 _) (hA 0 _) (hA 0 _) I.1) (fun C hC φ => nE C hC (I.tree φ)) (fun v B hz z => ⟨rfl, i1 _ _ rfl, i2 _ _ rfl, i3 _ _ rfl, rfl, by rw [hz]; exact z⟩)⟩
  refine ⟨fun _ => ?_, fun _ => ?_⟩
  · exact ⟨i1 _ _ rfl, i2 _ _ rfl, i3 _ _ rfl, rfl, w_pair hA h1 (p_data (hA 0 _) (hA 0 _) (hA 0 _) I.1) (fun C hC φ => nE C hC (I.tree φ)) (fun v B hz z => ⟨rfl, i1 _ _ rfl, i2 _ _ rfl, i3 _ _ rfl, rfl, by rw [hz]; exact z⟩)⟩
  refine ⟨fun _ => ?_, fun _ => ?_⟩
  · exact ⟨i1 _ _ rfl, i2 _ _ rfl, i3 _ _ rfl, rfl, w_pair hA h1 (p_owner (hA 0 _) (hA 0 _) (hA 0 _) I.1) (fun C hC φ => nE C hC (I.tree φ)) (fun v B hz z => ⟨rfl, i1 _ _ rfl, i2 _ _ rfl, i3 _ _ rfl, rfl, by rw [hz]; exact z⟩)⟩
  refine ⟨fun _ => ?_, fun _ => ?_⟩
  · exact ⟨rfl, w_pair hA h1 (p_clear I.1) (fun C hC φ => nE C hC (I.tree φ)) (fun v B hz z => ⟨rfl, z⟩)⟩
  refine ⟨fun _ => ?_, fun _ => ?_⟩
  · exact ⟨i1 _ _ rfl, rfl, w_pair hA h1 (p_build I (hA 0 _)) (fun C hC φ => nE C hC (φ)) (fun v B hz z => ⟨rfl, i1 _ _ rfl, rfl, by rw [hz]; exact z⟩)⟩
  refine ⟨fun _ => ?_, fun _ => ?_⟩
  · exact ⟨i1 _ _ rfl, i2 _ _ rfl, i3 _ _ rfl, i4 _ _ rfl, i5 _ _ rfl, rfl, w_pair hA h1 (p_feed (hA 0 _) (hA 0 _) (hA 0 _) (hA 0 _) (hA 0 _) I.2.1) (fun C hC φ => nE C hC (I.tape φ)) (fun v B hz z => ⟨rfl, i1 _ _ rfl, i2 _ _ rfl, i3 _ _ rfl, i4 _ _ rfl, i5 _ _ rfl, rfl, by rw [hz]; exact z⟩)⟩
  refine ⟨fun _ => ?_, fun _ => ?_⟩
  · exact ⟨i1 _ _ rfl, rfl, w_pair hA h1 (p_end (hA 0 _) I.2.1) (fun C hC φ => nE C hC (I.tape φ)) (fun v B hz z => ⟨rfl, i1 _ _ rfl, rfl, by rw [hz]; exact z⟩)⟩
  refine ⟨fun _ => ?_, fun _ => ?_⟩
  · exact ⟨rfl, w_pair hA h1 (p_load I) (fun C hC φ => nE C hC (φ)) (fun v B hz z => ⟨rfl, z⟩)⟩
  refine ⟨fun _ => ?_, fun _ => ?_⟩
  · exact ⟨rfl, w_pair hA h1 (p_drop I.2.2.1 I.2.2.2.1) (fun C hC φ => nE C hC (I.drop φ)) (fun v B hz z => ⟨rfl, z⟩)⟩
  refine ⟨fun _ => ?_, fun _ => ?_⟩
  · -- out
    refine ⟨i1 _ _ rfl, i2 _ _ rfl, rfl, rfl, show 1 ≤ jN 78 by decide, ?_⟩
    obtain ⟨k1, e1⟩ : ∃ k1, k1 = Int32.toNatClampNeg (jI x + 1) := ⟨_, rfl⟩
    obtain ⟨k2, e2⟩ : ∃ k2, k2 = Int32.toNatClampNeg (jI x + 2) := ⟨_, rfl⟩
    rw [← e1, ← e2]
    have val : ∀ v : Int, (∀ F : jE, jrI 193 0 [some (.ref 49), some (.int (jI (A 0 k1))), some (.int (jI (A 0 k2)))] [] F A (fun w C => w = v ∧ C = jup A 49 0 0)) → wOutV K (jI x) k1 k2 (jI v) (js E A) := by
      intro v m σ e
      rw [js_lg] at e
      subst e
      refine ⟨rfl, i1 _ _ rfl, i2 _ _ rfl, rfl, ?_⟩
      refine zwI.mono ((m _).z hA) ?_
      rintro v1 σ ⟨w, C, ev, hw, eC, hC, f1, f2⟩
      subst eC
      have c0 : C 49 0 = 0 := by rw [f2, jup_at]
      refine ⟨rfl, ?_⟩
      refine zwI.mono ((vd_X7_thrown_0 _ C (fun w D => w = 0 ∧ D = C) ⟨c0, rfl⟩).z hC) ?_
      rintro v2 σ ⟨w2, D, ev2, hw2, eD, hD, d1, d2⟩
      subst eD
      have z2 : v2 = 0 := by rw [ev2, d1]; rfl
      have z1 : v1 = jI v := by rw [ev, f1]
      refine ⟨fun _ => ⟨fun h => absurd rfl h, fun _ => ⟨rfl, show zx_in 0 (jN 78) = true by decide, fun _ => ?_, fun h => ?_⟩⟩, fun h => absurd z2 h⟩
      · refine vc_L_law_633 0 1 49 78 (jI x) _ K ?_
        exact nx (jlg E _) D rfl (Nat.le_refl _) (by show E.2.2.2.1 ≤ E.2.2.2.1 + 1; omega) (by show E.2.2.2.2 ≤ E.2.2.2.2 + 6; omega) hD (by rw [d2, f2]; exact (INV.env rfl I.thr))
      · refine absurd ?_ h
        rw [z1]
        exact lg_same _
    refine c_out (hA 0 _) (hA 0 _) hA I.2.2.1 (fun q => ?_) (fun q0 q1 q2 q3 => ?_) (fun q0 q1 q2 => ?_)
    · exact Or.inl ⟨_, rfl, val (-1) (fun F => m_out (hA 0 _) (hA 0 _) I.2.2.1 (fun _ => ⟨rfl, rfl⟩) (fun a b _ _ => absurd ⟨a, b⟩ q) (fun a b _ => absurd ⟨a, b⟩ q))⟩
    · exact Or.inl ⟨_, rfl, val _ (fun F => m_out (hA 0 _) (hA 0 _) I.2.2.1 (fun z => absurd ⟨q0, q1⟩ z) (fun _ _ _ _ => ⟨rfl, rfl⟩) (fun _ _ z => absurd ⟨q2, q3⟩ z))⟩
    · refine Or.inr ⟨0, rfl, ?_⟩
      rw [js_nw E A hn]
      have n0 : 0 ≠ E.2.2.2.1 := by omega
      have eL : (jnw E).1 0 = E.1 0 := if_neg n0
      have hZ : jOK (jzr A E.2.2.2.1) := fun a k => by
        unfold jzr
        split
        · exact jW_0
        · exact hA a k
      have IZ : INV (jnw E) (jzr A E.2.2.2.1) := INV.env rfl (I.rows (fun a _ h => jzr_row (by omega)))
      have r0 : jzr A E.2.2.2.1 0 = A 0 := jzr_row n0
      have r1 : jzr A E.2.2.2.1 1 = A 1 := jzr_row (by omega)
      have r59 : jzr A E.2.2.2.1 59 = A 59 := jzr_row (by omega)
      refine ⟨rfl, i1 _ _ eL, i2 _ _ eL, rfl, ?_⟩
      have m : jrI 193 0 [some (.ref 49), some (.int (jI (jzr A E.2.2.2.1 0 k1))), some (.int (jI (jzr A E.2.2.2.1 0 k2)))] [] (jnw E) (jzr A E.2.2.2.1) (fun w C => C = jup (jup (jzr A E.2.2.2.1) 49 0 0) 49 0 1) := by
        rw [r0]
        exact m_out (hA 0 _) (hA 0 _) IZ.2.2.1 (fun z => by rw [r1] at z; exact absurd ⟨q0, q1⟩ z) (fun _ _ a b => by rw [r59] at b; exact absurd ⟨a, b⟩ q2) (fun _ _ _ => rfl)
      refine zwI.mono (m.z hZ) ?_
      rintro v1 σ ⟨w, C, ev, hw, eC, hC, f2⟩
      subst eC
      have c0 : C 49 0 = 1 := by rw [f2, jup_at]
      refine ⟨rfl, ?_⟩
      refine zwI.mono ((vd_X7_thrown_0 _ C (fun w D => w = 1 ∧ D = C) ⟨c0, rfl⟩).z hC) ?_
      rintro v2 σ ⟨w2, D, ev2, hw2, eD, hD, d1, d2⟩
      subst eD
      have z2 : v2 = 1 := by rw [ev2, d1]; rfl
      refine ⟨fun _ => ⟨fun _ => ?_, fun h => absurd h (by decide)⟩, fun h => absurd z2 h⟩
      refine vc_L_law_633 0 1 49 78 (jI x) _ K ?_
      refine nx (jnw E) D eL (by show E.2.2.2.1 ≤ E.2.2.2.1 + 1; omega) (Nat.le_refl _) (Nat.le_refl _) hD ?_
      rw [d2, f2]
      refine INV.one IZ
  refine ⟨fun _ => ?_, fun _ => ?_⟩
  · exact ⟨i1 _ _ rfl, i2 _ _ rfl, rfl, w_pair hA h1 (p_image (hA 0 _) (hA 0 _) I.2.2.1) (fun C hC φ => nE C hC ((by rw [φ]; exact I.thr))) (fun v B hz z => ⟨rfl, i1 _ _ rfl, i2 _ _ rfl, rfl, by rw [hz]; exact z⟩)⟩
  refine ⟨fun _ => ?_, fun _ => ?_⟩
  · exact ⟨i1 _ _ rfl, i2 _ _ rfl, rfl, w_pair hA h1 (p_same (hA 0 _) (hA 0 _) I.2.2.1) (fun C hC φ => nE C hC ((by rw [φ]; exact I.thr))) (fun v B hz z => ⟨rfl, i1 _ _ rfl, i2 _ _ rfl, rfl, by rw [hz]; exact z⟩)⟩
  refine ⟨fun _ => ?_, fun _ => ?_⟩
  · exact ⟨i1 _ _ rfl, i2 _ _ rfl, i3 _ _ rfl, rfl, w_pair hA h1 (p_node (hA 0 _) (hA 0 _) (hA 0 _) I.2.2.1) (fun C hC φ => nE C hC ((by rw [φ]; exact I.thr))) (fun v B hz z => ⟨rfl, i1 _ _ rfl, i2 _ _ rfl, i3 _ _ rfl, rfl, by rw [hz]; exact z⟩)⟩
  refine ⟨fun _ => ?_, fun _ => ?_⟩
  · exact ⟨i1 _ _ rfl, rfl, w_over (hA 0 _) hA h1 I (fun F C f1 f2 hC IF => nx F C (by rw [f1]) (by rw [f2]; omega) (by rw [f2]; omega) (by rw [f2]; omega) hC IF) (fun v F B f1 hz z => ⟨rfl, i1 _ _ (by rw [f1]), rfl, by rw [hz]; exact z⟩)⟩
  refine ⟨fun _ => ?_, fun _ => ?_⟩
  · exact ⟨rfl, w_pair hA h1 (p_bare I.2.2.2.1) (fun C hC φ => nE C hC (I.lay φ)) (fun v B hz z => ⟨rfl, z⟩)⟩
  refine ⟨fun _ => ?_, fun _ => ?_⟩
  · exact ⟨i1 _ _ rfl, i2 _ _ rfl, rfl, w_pair hA h1 (p_look (hA 0 _) (hA 0 _) I.2.2.1 I.2.2.2.1 I.2.2.2.2) (fun C hC φ => nE C hC (I.view φ)) (fun v B hz z => ⟨rfl, i1 _ _ rfl, i2 _ _ rfl, rfl, by rw [hz]; exact z⟩)⟩
  refine ⟨fun _ => ?_, fun _ => ?_⟩
  · exact ⟨i1 _ _ rfl, i2 _ _ rfl, rfl, w_pair hA h1 (p_list (hA 0 _) (hA 0 _) I.2.2.1 I.2.2.2.1 I.2.2.2.2) (fun C hC φ => nE C hC (I.view φ)) (fun v B hz z => ⟨rfl, i1 _ _ rfl, i2 _ _ rfl, rfl, by rw [hz]; exact z⟩)⟩
  refine ⟨fun _ => ?_, fun _ => ?_⟩
  · exact ⟨i1 _ _ rfl, i2 _ _ rfl, rfl, w_pair hA h1 (p_view (hA 0 _) (hA 0 _) I.2.2.1 I.2.2.2.1 I.2.2.2.2) (fun C hC φ => nE C hC (I.view φ)) (fun v B hz z => ⟨rfl, i1 _ _ rfl, i2 _ _ rfl, rfl, by rw [hz]; exact z⟩)⟩
  refine ⟨fun _ => ?_, fun _ => ?_⟩
  · exact ⟨i1 _ _ rfl, i2 _ _ rfl, rfl, w_pair hA h1 (p_read (hA 0 _) (hA 0 _) I.2.2.1 I.2.2.2.1 I.2.2.2.2) (fun C hC φ => nE C hC ((by rw [φ]; exact I.thr))) (fun v B hz z => ⟨rfl, i1 _ _ rfl, i2 _ _ rfl, rfl, by rw [hz]; exact z⟩)⟩
  refine ⟨fun _ => ?_, fun _ => ?_⟩
  · exact ⟨i1 _ _ rfl, rfl, w_pair hA h1 (p_count (hA 0 _) I.1 I.2.1 I.2.2.1 I.2.2.2.1 I.2.2.2.2) (fun C hC φ => nE C hC ((by rw [φ]; exact I.thr))) (fun v B hz z => ⟨rfl, i1 _ _ rfl, rfl, by rw [hz]; exact z⟩)⟩
  exact nE A hA I
end LAW
