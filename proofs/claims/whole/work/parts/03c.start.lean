/-! WHAT THE TABLES SAY AT THE LAW'S START, by program (wip/tools/mktables.py) -/
theorem zl_nest : ∀ w ∈ zt_nest, w ∈ lw_tbl := List.forall_mem_cons.mpr ⟨zt_L1 _ (List.mem_of_getElem? (i := 148) (by rfl)), List.forall_mem_cons.mpr ⟨zt_L4 _ (List.mem_of_getElem? (i := 112) (by rfl)), List.forall_mem_cons.mpr ⟨zt_L1 _ (List.mem_of_getElem? (i := 142) (by rfl)), List.forall_mem_cons.mpr ⟨zt_L1 _ (List.mem_of_getElem? (i := 210) (by rfl)), fun _ h => absurd h List.not_mem_nil⟩⟩⟩⟩
theorem zl_over : Cond.arrayOver (.object RX1) ∈ lw_tbl := zt_L1 _ (List.mem_of_getElem? (i := 97) (by rfl))
theorem zl_i0 : Cond.instantiable RJ0 4 ∈ lw_tbl := zt_L3 _ (List.mem_of_getElem? (i := 92) (by rfl))
theorem zl_w0 : ∀ w ∈ u_ws RJ0 TJ0 4, w ∈ lw_tbl := by decide +kernel
theorem zl_i1 : Cond.instantiable RJ4 4 ∈ lw_tbl := zt_L2 _ (List.mem_of_getElem? (i := 150) (by rfl))
theorem zl_w1 : ∀ w ∈ u_ws RJ4 TJ4 4, w ∈ lw_tbl := by decide +kernel
theorem zl_i2 : Cond.instantiable RJx00060 6 ∈ lw_tbl := zt_L2 _ (List.mem_of_getElem? (i := 106) (by rfl))
theorem zl_w2 : ∀ w ∈ u_ws RJx00060 TJx00060 6, w ∈ lw_tbl := by decide +kernel
theorem zl_i3 : Cond.instantiable RX0 16 ∈ lw_tbl := zt_L1 _ (List.mem_of_getElem? (i := 141) (by rfl))
theorem zl_w3 : ∀ w ∈ u_ws RX0 TX0 16, w ∈ lw_tbl := za_mX0
theorem zl_i4 : Cond.instantiable RX1 8 ∈ lw_tbl := zt_L1 _ (List.mem_of_getElem? (i := 98) (by rfl))
theorem zl_w4 : ∀ w ∈ u_ws RX1 TX1 8, w ∈ lw_tbl := za_mX1
theorem zl_i5 : Cond.instantiable RX2 1 ∈ lw_tbl := zt_L1 _ (List.mem_of_getElem? (i := 209) (by rfl))
theorem zl_w5 : ∀ w ∈ u_ws RX2 TX2 1, w ∈ lw_tbl := za_mX2
theorem zl_i6 : Cond.instantiable RX3 12 ∈ lw_tbl := zt_L1 _ (List.mem_of_getElem? (i := 219) (by rfl))
theorem zl_w6 : ∀ w ∈ u_ws RX3 TX3 12, w ∈ lw_tbl := za_mX3
theorem zl_i7 : Cond.instantiable RX4 2 ∈ lw_tbl := zt_L1 _ (List.mem_of_getElem? (i := 147) (by rfl))
theorem zl_w7 : ∀ w ∈ u_ws RX4 TX4 2, w ∈ lw_tbl := za_mX4
theorem zl_i8 : Cond.instantiable RX5 11 ∈ lw_tbl := zt_L1 _ (List.mem_of_getElem? (i := 34) (by rfl))
theorem zl_w8 : ∀ w ∈ u_ws RX5 TX5 11, w ∈ lw_tbl := za_mX5
theorem zl_i9 : Cond.instantiable RX6 7 ∈ lw_tbl := zt_L1 _ (List.mem_of_getElem? (i := 26) (by rfl))
theorem zl_w9 : ∀ w ∈ u_ws RX6 TX6 7, w ∈ lw_tbl := za_mX6
theorem zl_i10 : Cond.instantiable RX7 41 ∈ lw_tbl := zt_L5 _ (List.mem_of_getElem? (i := 181) (by rfl))
theorem zl_w10 : ∀ w ∈ u_ws RX7 TX7 41, w ∈ lw_tbl := za_mX7
