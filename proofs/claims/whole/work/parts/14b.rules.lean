/-! THE RULES OVER WHOLE NUMBERS, GOING ON -/
theorem jI_and255 (a : Int) : jI a &&& 255 = jI (a % 256) := by
  refine Int32.toBitVec_inj.mp (BitVec.eq_of_toNat_eq ?_)
  rw [Int32.toBitVec_and]
  have e1 : (jI a).toBitVec = BitVec.ofInt 32 a := rfl
  have e2 : (jI (a % 256)).toBitVec = BitVec.ofInt 32 (a % 256) := rfl
  have e3 : (255 : Int32).toBitVec = BitVec.ofNat 32 255 := rfl
  rw [e1, e2, e3, BitVec.toNat_and, BitVec.toNat_ofInt, BitVec.toNat_ofInt, BitVec.toNat_ofNat]
  have e4 : (255 % 2 ^ 32 : Nat) = 2 ^ 8 - 1 := by decide
  rw [e4, Nat.and_two_pow_sub_one_eq_mod]
  have e5 : ((2 ^ 32 : Nat) : Int) = 4294967296 := by decide
  rw [e5]
  omega
section JW2
variable {y pc : Nat} {L L1 : zx_L} {st : List Value} {E : jE} {A A1 : jA} {σ : zx_S} {Q : Option Value → zx_S → Prop} {M : zx_M}
theorem jw_and (hM : zt_M y = some M) {a b : Int} (hd : decode M.2.1 pc = .ok (.iand, 1)) (hb : b = 255) (k : zw y (pc + 1) L (.int (jI (a % 256)) :: st) σ Q) : zw y pc L (.int (jI b) :: .int (jI a) :: st) σ Q := zw_go hM hd rfl rfl rfl rfl (by show zw _ _ _ (.int (jI a &&& jI b) :: _) _ _; rw [hb, show jI 255 = (255 : Int32) from rfl, jI_and255]; exact k)
theorem jw_shr (hM : zt_M y = some M) {a s : Int} (hd : decode M.2.1 pc = .ok (.ishr, 1)) (ha : jW a) (h0 : 0 ≤ s ∧ s < 32) (k : zw y (pc + 1) L (.int (jI (a / 2 ^ s.toNat)) :: st) σ Q) : zw y pc L (.int (jI s) :: .int (jI a) :: st) σ Q := zw_go hM hd rfl rfl rfl rfl (by show zw _ _ _ (.int (jI a >>> (jI s &&& 31)) :: _) _ _; rw [jI_shr ha h0.1 h0.2]; exact k)
theorem jw_shrC (hM : zt_M y = some M) {a s p : Int} (hd : decode M.2.1 pc = .ok (.ishr, 1)) (ha : jW a) (h0 : 0 ≤ s ∧ s < 32) (hp : (2 : Int) ^ s.toNat = p) (k : zw y (pc + 1) L (.int (jI (a / p)) :: st) σ Q) : zw y pc L (.int (jI s) :: .int (jI a) :: st) σ Q := jw_shr hM hd ha h0 (by rw [hp]; exact k)
theorem jw_iinc (hM : zt_M y = some M) {i : Nat} {c x : Int} (hd : decode M.2.1 pc = .ok (.iinc i c, 3)) (hg : zx_get L i = some (.int (jI x))) (hi : i < L.length) (e : zx_st1 L i (.int (jI (x + c))) = L1) (k : zw y (pc + 3) L1 st σ Q) : zw y pc L st σ Q := by
  refine zw_go (pc1 := pc + 3) (L1 := zx_st1 L i (.int (jI x + Int32.ofInt c))) (st1 := st) (σ1 := σ) hM hd rfl rfl rfl ?_ ?_
  · simp only [zx_step]
    rw [if_pos ⟨trivial, hi⟩, hg]
  · rw [← Int32.ofInt_add, e]
    exact k
theorem jw_getI (hM : zt_M y = some M) {i ci k o : Nat} {z : Int} (hd : decode M.2.1 pc = .ok (.getfield i, 3)) (hF : zt_F M.2.2.2.2.1 i = some (ci, k)) (hty : zt_ty ci k = .int) (hz : (k : Int) = z) (hk : jK o = 10 + ci) (kk : zw y (pc + 3) L (.int (jI (A o z)) :: st) (js E A) Q) : zw y pc L (.ref o :: st) (js E A) Q := zw_getI hM hd hF hty hk (by rw [← hz] at kk; exact kk)
theorem jw_getR (hM : zt_M y = some M) {i ci k o a : Nat} (hd : decode M.2.1 pc = .ok (.getfield i, 3)) (hF : zt_F M.2.2.2.2.1 i = some (ci, k)) (hty : (zt_ty ci k == .int) = false) (hk : jK o = 10 + ci) (hr : jR E.2.1 o k = some a) (kk : zw y (pc + 3) L (.ref a :: st) (js E A) Q) : zw y pc L (.ref o :: st) (js E A) Q := zw_getR hM hd hF hty hk hr kk
theorem jw_putI (hM : zt_M y = some M) {i ci k o : Nat} {z v : Int} (hd : decode M.2.1 pc = .ok (.putfield i, 3)) (hF : zt_F M.2.2.2.2.1 i = some (ci, k)) (hty : zt_ty ci k = .int) (hf : zt_fin ci k = false) (hz : (k : Int) = z) (hk : jK o = 10 + ci) (e1 : A1 = jup A o z v) (kk : zw y (pc + 3) L st (js E A1) Q) : zw y pc L (.int (jI v) :: .ref o :: st) (js E A) Q := zw_putI hM hd hF hty hf hk (by rw [e1]; exact js_up E A o k z v hz) kk
theorem j_in {i : Int} {n : Nat} (hn : n ≤ 18000) (h : 0 ≤ i ∧ i < (n : Int)) : zx_in (jI i) n = true := by
  unfold zx_in
  refine decide_eq_true ?_
  have hw : jW i := ⟨by omega, by omega⟩
  rintro (q | q)
  · rw [← jI_0, jI_lt hw jW_0] at q; omega
  · rw [jI_nat hw] at q; omega
theorem jw_iald (hM : zt_M y = some M) {a : Nat} {i n : Int} (hd : decode M.2.1 pc = .ok (.iaload, 1)) (hk : jK a = 1) (hn : (jN a : Int) = n) (h : 0 ≤ i ∧ i < n) (kk : zw y (pc + 1) L (.int (jI (A a i)) :: st) (js E A) Q) : zw y pc L (.int (jI i) :: .ref a :: st) (js E A) Q := by
  have hl := jN_le a
  refine zw_iald hM hd ⟨Or.inl hk, by rw [jN_of (Or.inl hk)]; exact j_in hl ⟨h.1, by omega⟩⟩ ?_
  have e : zI (js E A) a (jI i).toNatClampNeg = jI (A a i) := by
    show jI (A a (((jI i).toNatClampNeg : Nat) : Int)) = _
    rw [jI_nat ⟨by omega, by omega⟩, Int.toNat_of_nonneg h.1]
  rw [e]
  exact kk
theorem jw_iast (hM : zt_M y = some M) {a : Nat} {i n v : Int} (hd : decode M.2.1 pc = .ok (.iastore, 1)) (hk : jK a = 1) (hn : (jN a : Int) = n) (h : 0 ≤ i ∧ i < n) (e1 : A1 = jup A a i v) (kk : zw y (pc + 1) L st (js E A1) Q) : zw y pc L (.int (jI v) :: .int (jI i) :: .ref a :: st) (js E A) Q := by
  have hl := jN_le a
  refine zw_iast hM hd ⟨hk, by rw [jN_of (Or.inl hk)]; exact j_in hl ⟨h.1, by omega⟩⟩ ?_ kk
  rw [e1]
  exact js_up E A a _ i v (by rw [jI_nat ⟨by omega, by omega⟩, Int.toNat_of_nonneg h.1])
/-- one of the images -/
theorem jw_aald (hM : zt_M y = some M) {i : Int} (hd : decode M.2.1 pc = .ok (.aaload, 1)) (h : 0 ≤ i ∧ i < 3) (kk : zw y (pc + 1) L (.ref (13 + 2 * i.toNat) :: st) (js E A) Q) : zw y pc L (.int (jI i) :: .ref 12 :: st) (js E A) Q := by
  refine zw_aald hM hd ⟨rfl, j_in (n := 3) (by decide) h⟩ ?_ kk
  rcases (by omega : i = 0 ∨ i = 1 ∨ i = 2) with rfl | rfl | rfl <;> rfl
/-- one of the laid images -/
theorem jw_aaldL (hM : zt_M y = some M) {i : Int} (hd : decode M.2.1 pc = .ok (.aaload, 1)) (h : 0 ≤ i ∧ i < 3) (kk : zw y (pc + 1) L (.ref (E.2.1 i.toNat) :: st) (js E A) Q) : zw y pc L (.int (jI i) :: .ref 40 :: st) (js E A) Q := by
  refine zw_aald hM hd ⟨rfl, j_in (n := 3) (by decide) h⟩ ?_ kk
  rw [jI_nat ⟨by omega, by omega⟩]
  show jR E.2.1 40 i.toNat = _
  unfold jR
  rw [if_pos rfl, if_pos (by omega)]
theorem jw_alen (hM : zt_M y = some M) {a : Nat} {n : Int} (hd : decode M.2.1 pc = .ok (.arraylength, 1)) (hk : jK a = 1) (hn : (jN a : Int) = n) (kk : zw y (pc + 1) L (.int (jI n) :: st) (js E A) Q) : zw y pc L (.ref a :: st) (js E A) Q := by
  refine zw_alen hM hd (Or.inl hk) ?_
  rw [jN_of (Or.inl hk), ← Int32.ofInt_eq_ofNat, hn]
  exact kk
theorem jw_min (hM : zt_M y = some M) {i z : Nat} {a b : Int} (hd : decode M.2.1 pc = .ok (.invokestatic i, 3)) (hC : zt_C M.2.2.2.2.1 i = some (4, z)) (hroom : decide (1 ≤ M.2.2.2.2.2.2.1 ∧ 40 ≤ M.2.2.2.2.2.2.2) = true) (hs : Nat.ble ((.int (jI b) :: .int (jI a) :: st : List Value).map fun v => v.category).sum 13 = true) (ha : jW a) (hb : jW b) (kk : zw y (pc + 3) L (.int (jI (min a b)) :: st) σ Q) : zw y pc L (.int (jI b) :: .int (jI a) :: st) σ Q := by
  refine zw_min hM hd hC hroom hs ?_
  have e : (if jI b < jI a then jI b else jI a) = jI (min a b) := by
    by_cases q : b < a
    · rw [if_pos ((jI_lt hb ha).mpr q), show min a b = b by omega]
    · rw [if_neg (fun z => q ((jI_lt hb ha).mp z)), show min a b = a by omega]
  rw [e]
  exact kk
/-- a part of a row copied -/
def jcp (A : jA) (a b : Nat) (sp dp n : Int) : jA := fun o j => if o = b ∧ dp ≤ j ∧ j < dp + n then A a (sp + (j - dp)) else A o j
theorem jOK.cp {A A1 : jA} {a b : Nat} {sp dp n : Int} (h : jOK A) (e : A1 = jcp A a b sp dp n) : jOK A1 := by
  subst e
  intro o k
  unfold jcp
  split
  · exact h _ _
  · exact h _ _
theorem jw_cpy (hM : zt_M y = some M) {i a b z : Nat} {n dp sp na nb : Int} (hd : decode M.2.1 pc = .ok (.invokestatic i, 3)) (hC : zt_C M.2.2.2.2.1 i = some (5, z)) (hroom : decide (1 ≤ M.2.2.2.2.2.2.1 ∧ 40 ≤ M.2.2.2.2.2.2.2) = true) (hs : Nat.ble ((.int (jI n) :: .int (jI dp) :: .ref b :: .int (jI sp) :: .ref a :: st : List Value).map fun v => v.category).sum 13 = true)
    (ka : jK a = 1) (kb : jK b = 1) (ha : (jN a : Int) = na) (hb : (jN b : Int) = nb) (h : 0 ≤ sp ∧ 0 ≤ dp ∧ 0 ≤ n ∧ sp + n ≤ na ∧ dp + n ≤ nb) (e1 : A1 = jcp A a b sp dp n) (kk : zw y (pc + 3) L st (js E A1) Q) : zw y pc L (.int (jI n) :: .int (jI dp) :: .ref b :: .int (jI sp) :: .ref a :: st) (js E A) Q := by
  obtain ⟨h1, h2, h3, h4, h5⟩ := h
  have la := jN_le a
  have lb := jN_le b
  have w1 : jW sp := ⟨by omega, by omega⟩
  have w2 : jW dp := ⟨by omega, by omega⟩
  have w3 : jW n := ⟨by omega, by omega⟩
  refine zw_cpy hM hd hC hroom hs ⟨ka, kb, ?_, ?_, ?_, ?_, ?_⟩ ?_ kk
  · rw [← jI_0, jI_lt w1 jW_0]; omega
  · rw [← jI_0, jI_lt w2 jW_0]; omega
  · rw [← jI_0, jI_lt w3 jW_0]; omega
  · rw [jI_nat w1, jI_nat w3, jN_of (Or.inl ka)]; omega
  · rw [jI_nat w2, jI_nat w3, jN_of (Or.inl kb)]; omega
  · rw [e1, jI_nat w1, jI_nat w2, jI_nat w3]
    unfold js zx_pA jcp zK zN zI zR zJ zn zs va_cpy
    refine congrArg _ (congrArg _ (congrArg (fun f => (f, _)) (funext fun o => funext fun j => ?_)))
    by_cases ho : o = b
    · subst ho
      rw [if_pos rfl]
      by_cases hj : dp ≤ (j : Int) ∧ (j : Int) < dp + n
      · rw [if_pos ⟨rfl, hj⟩, if_pos ⟨by omega, by omega⟩]
        show jI _ = jI _
        congr 2
        omega
      · rw [if_neg (fun q => hj q.2), if_neg (fun q => hj ⟨by omega, by omega⟩)]
    · rw [if_neg (fun q => ho q.1), if_neg ho]
theorem jw_icmp_eq (hM : zt_M y = some M) {x y9 : Int} {off : Int} {tgt : Nat} (hd : decode M.2.1 pc = .ok (.if_icmp .eq off, 3)) (ht : zx_tgt pc off = some tgt) (rx : jW x) (ry : jW y9) (kt : x = y9 → zw y tgt L st σ Q) (kf : ¬ x = y9 → zw y (pc + 3) L st σ Q) : zw y pc L (.int (jI y9) :: .int (jI x) :: st) σ Q := zw_icmp_eq hM hd rfl ht (fun q => kt ((jI_eq rx ry).mp q)) (fun q => kf (fun z => q ((jI_eq rx ry).mpr z)))
theorem jw_if_eq (hM : zt_M y = some M) {x : Int} {off : Int} {tgt : Nat} (hd : decode M.2.1 pc = .ok (.ifCond .eq off, 3)) (ht : zx_tgt pc off = some tgt) (rx : jW x) (kt : x = 0 → zw y tgt L st σ Q) (kf : ¬ x = 0 → zw y (pc + 3) L st σ Q) : zw y pc L (.int (jI x) :: st) σ Q := zw_if_eq hM hd rfl ht (fun q => kt ((jI_eq rx jW_0).mp q)) (fun q => kf (fun z => q ((jI_eq rx jW_0).mpr z)))
theorem jw_icmp_ne (hM : zt_M y = some M) {x y9 : Int} {off : Int} {tgt : Nat} (hd : decode M.2.1 pc = .ok (.if_icmp .ne off, 3)) (ht : zx_tgt pc off = some tgt) (rx : jW x) (ry : jW y9) (kt : ¬ x = y9 → zw y tgt L st σ Q) (kf : x = y9 → zw y (pc + 3) L st σ Q) : zw y pc L (.int (jI y9) :: .int (jI x) :: st) σ Q := zw_icmp_ne hM hd rfl ht (fun q => kt (fun z => q ((jI_eq rx ry).mpr z))) (fun q => kf ((jI_eq rx ry).mp q))
theorem jw_if_ne (hM : zt_M y = some M) {x : Int} {off : Int} {tgt : Nat} (hd : decode M.2.1 pc = .ok (.ifCond .ne off, 3)) (ht : zx_tgt pc off = some tgt) (rx : jW x) (kt : ¬ x = 0 → zw y tgt L st σ Q) (kf : x = 0 → zw y (pc + 3) L st σ Q) : zw y pc L (.int (jI x) :: st) σ Q := zw_if_ne hM hd rfl ht (fun q => kt (fun z => q ((jI_eq rx jW_0).mpr z))) (fun q => kf ((jI_eq rx jW_0).mp q))
theorem jw_icmp_lt (hM : zt_M y = some M) {x y9 : Int} {off : Int} {tgt : Nat} (hd : decode M.2.1 pc = .ok (.if_icmp .lt off, 3)) (ht : zx_tgt pc off = some tgt) (rx : jW x) (ry : jW y9) (kt : x < y9 → zw y tgt L st σ Q) (kf : y9 ≤ x → zw y (pc + 3) L st σ Q) : zw y pc L (.int (jI y9) :: .int (jI x) :: st) σ Q := zw_icmp_lt hM hd rfl ht (fun q => kt ((jI_lt rx ry).mp q)) (fun q => kf (Int.not_lt.mp (fun z => q ((jI_lt rx ry).mpr z))))
theorem jw_if_lt (hM : zt_M y = some M) {x : Int} {off : Int} {tgt : Nat} (hd : decode M.2.1 pc = .ok (.ifCond .lt off, 3)) (ht : zx_tgt pc off = some tgt) (rx : jW x) (kt : x < 0 → zw y tgt L st σ Q) (kf : 0 ≤ x → zw y (pc + 3) L st σ Q) : zw y pc L (.int (jI x) :: st) σ Q := zw_if_lt hM hd rfl ht (fun q => kt ((jI_lt rx jW_0).mp q)) (fun q => kf (Int.not_lt.mp (fun z => q ((jI_lt rx jW_0).mpr z))))
theorem jw_icmp_ge (hM : zt_M y = some M) {x y9 : Int} {off : Int} {tgt : Nat} (hd : decode M.2.1 pc = .ok (.if_icmp .ge off, 3)) (ht : zx_tgt pc off = some tgt) (rx : jW x) (ry : jW y9) (kt : y9 ≤ x → zw y tgt L st σ Q) (kf : x < y9 → zw y (pc + 3) L st σ Q) : zw y pc L (.int (jI y9) :: .int (jI x) :: st) σ Q := zw_icmp_ge hM hd rfl ht (fun q => kt ((jI_le ry rx).mp q)) (fun q => kf (Int.not_le.mp (fun z => q ((jI_le ry rx).mpr z))))
theorem jw_if_ge (hM : zt_M y = some M) {x : Int} {off : Int} {tgt : Nat} (hd : decode M.2.1 pc = .ok (.ifCond .ge off, 3)) (ht : zx_tgt pc off = some tgt) (rx : jW x) (kt : 0 ≤ x → zw y tgt L st σ Q) (kf : x < 0 → zw y (pc + 3) L st σ Q) : zw y pc L (.int (jI x) :: st) σ Q := zw_if_ge hM hd rfl ht (fun q => kt ((jI_le jW_0 rx).mp q)) (fun q => kf (Int.not_le.mp (fun z => q ((jI_le jW_0 rx).mpr z))))
theorem jw_icmp_gt (hM : zt_M y = some M) {x y9 : Int} {off : Int} {tgt : Nat} (hd : decode M.2.1 pc = .ok (.if_icmp .gt off, 3)) (ht : zx_tgt pc off = some tgt) (rx : jW x) (ry : jW y9) (kt : y9 < x → zw y tgt L st σ Q) (kf : x ≤ y9 → zw y (pc + 3) L st σ Q) : zw y pc L (.int (jI y9) :: .int (jI x) :: st) σ Q := zw_icmp_gt hM hd rfl ht (fun q => kt ((jI_lt ry rx).mp q)) (fun q => kf (Int.not_lt.mp (fun z => q ((jI_lt ry rx).mpr z))))
theorem jw_if_gt (hM : zt_M y = some M) {x : Int} {off : Int} {tgt : Nat} (hd : decode M.2.1 pc = .ok (.ifCond .gt off, 3)) (ht : zx_tgt pc off = some tgt) (rx : jW x) (kt : 0 < x → zw y tgt L st σ Q) (kf : x ≤ 0 → zw y (pc + 3) L st σ Q) : zw y pc L (.int (jI x) :: st) σ Q := zw_if_gt hM hd rfl ht (fun q => kt ((jI_lt jW_0 rx).mp q)) (fun q => kf (Int.not_lt.mp (fun z => q ((jI_lt jW_0 rx).mpr z))))
theorem jw_icmp_le (hM : zt_M y = some M) {x y9 : Int} {off : Int} {tgt : Nat} (hd : decode M.2.1 pc = .ok (.if_icmp .le off, 3)) (ht : zx_tgt pc off = some tgt) (rx : jW x) (ry : jW y9) (kt : x ≤ y9 → zw y tgt L st σ Q) (kf : y9 < x → zw y (pc + 3) L st σ Q) : zw y pc L (.int (jI y9) :: .int (jI x) :: st) σ Q := zw_icmp_le hM hd rfl ht (fun q => kt ((jI_le rx ry).mp q)) (fun q => kf (Int.not_le.mp (fun z => q ((jI_le rx ry).mpr z))))
theorem jw_if_le (hM : zt_M y = some M) {x : Int} {off : Int} {tgt : Nat} (hd : decode M.2.1 pc = .ok (.ifCond .le off, 3)) (ht : zx_tgt pc off = some tgt) (rx : jW x) (kt : x ≤ 0 → zw y tgt L st σ Q) (kf : 0 < x → zw y (pc + 3) L st σ Q) : zw y pc L (.int (jI x) :: st) σ Q := zw_if_le hM hd rfl ht (fun q => kt ((jI_le rx jW_0).mp q)) (fun q => kf (Int.not_le.mp (fun z => q ((jI_le rx jW_0).mpr z))))
theorem jw_callI {kd z : Nat} {Z : zx_M} {as rest : List Value} {G : zx_L} {ins : Instr} (hM : zt_M y = some M) (hd : decode M.2.1 pc = .ok (ins, 3)) (hc : zx_cal M.2.2.2.2.1 ins = some (kd, z)) (hZ : zt_M z = some Z) (h6 : (kd == 6) = false) (hst : st = as.reverse ++ rest) (hn : as.length = Z.2.2.2.2.2.1) (hroom : (decide (Z.2.2.2.2.2.2.1 < M.2.2.2.2.2.2.1) && decide (19 + Z.2.2.1 + Z.2.2.2.2.2.2.2 ≤ M.2.2.2.2.2.2.2) && decide (Z.2.2.2.2.2.1 ≤ Z.2.2.1)) = true) (hsum : Nat.ble ((rest.map fun v => v.category).sum) 8 = true) (hargs : zx_args kd Z.2.2.2.2.1 as (js E A) = true) (hE : zx_entry as Z.2.2.1 = G) (hA : jOK A) {K : Int → jA → Prop} (h : jrI z 0 G [] E A K) (k : ∀ w B, jW w → jOK B → K w B → zw y (pc + 3) L (.int (jI w) :: rest) (js E B) Q) : zw y pc L st (js E A) Q :=
  zw_callI hM hd hc hZ h6 hst hn hroom hsum hargs hE (K := fun v σ => ∃ w B, v = jI w ∧ jW w ∧ σ = js E B ∧ jOK B ∧ K w B) (zw.mono (h hA) (fun _ _ ⟨w, B, a, b, c, e, f⟩ => ⟨jI w, a, w, B, rfl, b, c, e, f⟩)) (fun v σ ⟨w, B, a, b, c, e, f⟩ => by rw [a, c]; exact k w B b e f)
theorem jw_callV {kd z : Nat} {Z : zx_M} {as rest : List Value} {G : zx_L} {ins : Instr} (hM : zt_M y = some M) (hd : decode M.2.1 pc = .ok (ins, 3)) (hc : zx_cal M.2.2.2.2.1 ins = some (kd, z)) (hZ : zt_M z = some Z) (h6 : (kd == 6) = false) (hst : st = as.reverse ++ rest) (hn : as.length = Z.2.2.2.2.2.1) (hroom : (decide (Z.2.2.2.2.2.2.1 < M.2.2.2.2.2.2.1) && decide (19 + Z.2.2.1 + Z.2.2.2.2.2.2.2 ≤ M.2.2.2.2.2.2.2) && decide (Z.2.2.2.2.2.1 ≤ Z.2.2.1)) = true) (hsum : Nat.ble ((rest.map fun v => v.category).sum) 8 = true) (hargs : zx_args kd Z.2.2.2.2.1 as (js E A) = true) (hE : zx_entry as Z.2.2.1 = G) (hA : jOK A) {K : jA → Prop} (h : jrV z 0 G [] E A K) (k : ∀ B, jOK B → K B → zw y (pc + 3) L rest (js E B) Q) : zw y pc L st (js E A) Q :=
  zw_callV hM hd hc hZ h6 hst hn hroom hsum hargs hE (K := fun σ => ∃ B, σ = js E B ∧ jOK B ∧ K B) (zw.mono (h hA) (fun _ _ ⟨B, a, c, e, f⟩ => ⟨a, B, c, e, f⟩)) (fun σ ⟨B, c, e, f⟩ => by rw [c]; exact k B e f)
theorem jw_callR {kd z : Nat} {Z : zx_M} {as rest : List Value} {G : zx_L} {ins : Instr} (hM : zt_M y = some M) (hd : decode M.2.1 pc = .ok (ins, 3)) (hc : zx_cal M.2.2.2.2.1 ins = some (kd, z)) (hZ : zt_M z = some Z) (h6 : (kd == 6) = false) (hst : st = as.reverse ++ rest) (hn : as.length = Z.2.2.2.2.2.1) (hroom : (decide (Z.2.2.2.2.2.2.1 < M.2.2.2.2.2.2.1) && decide (19 + Z.2.2.1 + Z.2.2.2.2.2.2.2 ≤ M.2.2.2.2.2.2.2) && decide (Z.2.2.2.2.2.1 ≤ Z.2.2.1)) = true) (hsum : Nat.ble ((rest.map fun v => v.category).sum) 8 = true) (hargs : zx_args kd Z.2.2.2.2.1 as (js E A) = true) (hE : zx_entry as Z.2.2.1 = G) (hA : jOK A) {K : Nat → jA → Prop} (h : jrR z 0 G [] E A K) (k : ∀ w B, jOK B → K w B → zw y (pc + 3) L (.ref w :: rest) (js E B) Q) : zw y pc L st (js E A) Q :=
  zw_callR hM hd hc hZ h6 hst hn hroom hsum hargs hE (K := fun v σ => ∃ B, σ = js E B ∧ jOK B ∧ K v B) (zw.mono (h hA) (fun _ _ ⟨w, B, a, c, e, f⟩ => ⟨w, a, B, c, e, f⟩)) (fun v σ ⟨B, c, e, f⟩ => by rw [c]; exact k v B e f)
theorem jw_reti (hM : zt_M y = some M) {v : Int} (hd : decode M.2.1 pc = .ok (.ireturn, 1)) (hr : M.2.2.2.1 = some .int) {K : Int → jA → Prop} (rv : jW v) (hA : jOK A) (k : K v A) : zw y pc L [.int (jI v)] (js E A) (jQI E K) := zw.mono (zw_reti hM hd hr (K := fun v9 σ => v9 = jI v ∧ σ = js E A) ⟨rfl, rfl⟩) (fun _ _ ⟨v9, a, b, c⟩ => ⟨v, A, by rw [a, b], rv, c, hA, k⟩)
theorem jw_retz (hM : zt_M y = some M) {v : Int} (hd : decode M.2.1 pc = .ok (.ireturn, 1)) (hr : M.2.2.2.1 = some .boolean) {K : Int → jA → Prop} (hv : v = 0 ∨ v = 1) (hA : jOK A) (k : K v A) : zw y pc L [.int (jI v)] (js E A) (jQI E K) := zw.mono (zw_retz hM hd hr (by rcases hv with rfl | rfl; exact Or.inl rfl; exact Or.inr rfl) (K := fun v9 σ => v9 = jI v ∧ σ = js E A) ⟨rfl, rfl⟩) (fun _ _ ⟨v9, a, b, c⟩ => ⟨v, A, by rw [a, b], ⟨by omega, by omega⟩, c, hA, k⟩)
theorem jw_retv (hM : zt_M y = some M) (hd : decode M.2.1 pc = .ok (.return_, 1)) (hr : M.2.2.2.1 = none) {K : jA → Prop} (hA : jOK A) (k : K A) : zw y pc L [] (js E A) (jQV E K) := zw.mono (zw_retv hM hd hr (K := fun σ => σ = js E A) rfl) (fun _ _ ⟨a, c⟩ => ⟨A, a, c, hA, k⟩)
theorem jw_reta (hM : zt_M y = some M) {v : Nat} {nm : String} (hd : decode M.2.1 pc = .ok (.areturn, 1)) (hr : M.2.2.2.1 = some (.object nm)) {K : Nat → jA → Prop} (hA : jOK A) (k : K v A) : zw y pc L [.ref v] (js E A) (jQR E K) := zw.mono (zw_reta hM hd hr (K := fun v9 σ => v9 = v ∧ σ = js E A) ⟨rfl, rfl⟩) (fun _ _ ⟨v9, a, b, c⟩ => ⟨v, A, by rw [a, b], c, hA, k⟩)
theorem j_sw_out {dflt lo hi : Int} {offs : Array Int} {x : Int} (rx : jW x) (h : x < lo ∨ hi < x) : zx_sw dflt lo hi offs (jI x) = some dflt := zx_sw_out (by rw [jI_toInt rx]; exact h)
theorem j_sw_in {dflt lo hi off : Int} {offs : Array Int} {x c : Int} (hx : x = c) (h : zx_sw dflt lo hi offs (jI c) = some off) : zx_sw dflt lo hi offs (jI x) = some off := by rw [hx]; exact h
theorem j_args0 {c o : Nat} {as : List Value} (hk : jK o = 13 + c) (ha : as.all (fun v => v.category == 1) = true) : zx_args 0 c (.ref o :: as) (js E A) = true := zx_args0 hk ha
end JW2
