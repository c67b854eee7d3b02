theorem zn_X0_paidInAll_34 : Cond.fieldLink RX0 34 RX0 (TX0 6).2.1 (TX0 6).2.2.1 ∈ wsX0_paidInAll := List.mem_of_getElem? (i := 1) rfl
theorem zi_X0_paidInAll_0 : ∀ w ∈ u_ws RX0 TX0 10, w ∈ wsX0_paidInAll := fun _ h => List.mem_cons_of_mem _ (List.mem_append_left _ (List.mem_append_left _ (List.mem_append_right _ h)))
theorem zn_X0_paidInAll_86 : Cond.fieldLink RX0 86 RX1 (TX1 8).2.1 (TX1 8).2.2.1 ∈ wsX0_paidInAll := List.mem_of_getElem? (i := 2) rfl
theorem zi_X0_paidInAll_1 : ∀ w ∈ u_ws RX1 TX1 9, w ∈ wsX0_paidInAll := fun _ h => List.mem_cons_of_mem _ (List.mem_append_left _ (List.mem_append_right _ h))
theorem zn_X0_paidInAll_90 : Cond.fieldLink RX0 90 RX3 (TX3 3).2.1 (TX3 3).2.2.1 ∈ wsX0_paidInAll := List.mem_of_getElem? (i := 3) rfl
theorem zi_X0_paidInAll_3 : ∀ w ∈ u_ws RX3 TX3 11, w ∈ wsX0_paidInAll := fun _ h => List.mem_cons_of_mem _ (List.mem_append_right _ h)
set_option maxRecDepth 100000 in
set_option maxHeartbeats 4000000 in
theorem sg_X0_paidInAll_0 {C : zC} {G : zG} {Qc : Array Value → State → Outcome → State → Prop} (S : St_X0_paidInAll C G Qc) {a0 : Nat} {m : zM} (ka0 : zK G a0 = some (0, a0))
    (h : Pt_X0_paidInAll_14 C G 0 0 a0 m) : Pt_X0_paidInAll_0 C G a0 m := by
  obtain ⟨hF, hQ, hR⟩ := id S
  have h0 : zF0 C cX0_paidInAll 7 wsX0_paidInAll RX0 := hF.1
  have hL := hF.2.2.1
  unfold Pt_X0_paidInAll_0
  refine zx_lconst (v := 0) h0 dX0_paidInAll_0 (by decide) ?_
  refine zx_lstore_n (L' := [(1, .long 0), (0, .ref a0)]) h0 dX0_paidInAll_1 (by decide) rfl ?_
  refine zx_aload_n h0 1 dX0_paidInAll_2 rfl ?_
  refine zx_get hF ka0 (by decide) rfl zi_X0_paidInAll_0 6 (by decide) zn_X0_paidInAll_34 rfl rfl dX0_paidInAll_3 ?_
  refine zx_astore_n (L' := [(3, .ref (a0 + 10)), (1, .long 0), (0, .ref a0)]) h0 dX0_paidInAll_6 (by decide) rfl ?_
  refine zx_aload_n h0 0 dX0_paidInAll_7 rfl ?_
  refine zx_alen (v := 16) hF (zL_0_10 hL ka0) (by decide) rfl (by decide) rfl rfl dX0_paidInAll_8 ?_
  refine zx_istore (L' := [(4, .int 16), (3, .ref (a0 + 10)), (1, .long 0), (0, .ref a0)]) h0 dX0_paidInAll_9 (by decide) rfl ?_
  refine zx_iconst (v := 0) h0 dX0_paidInAll_11 (by decide) ?_
  refine zx_istore (L' := [(5, .int 0), (4, .int 16), (3, .ref (a0 + 10)), (1, .long 0), (0, .ref a0)]) h0 dX0_paidInAll_12 (by decide) rfl ?_
  exact zx_sub [3, 2, 1, 0] rfl h
set_option maxRecDepth 100000 in
set_option maxHeartbeats 4000000 in
theorem sg_X0_paidInAll_14 {C : zC} {G : zG} {Qc : Array Value → State → Outcome → State → Prop} (S : St_X0_paidInAll C G Qc) {l1 : Int64} {x5 : Int32} {a0 : Nat} {m : zM} (ka0 : zK G a0 = some (0, a0))
    (h : (16 ≤ x5 → (zRet C G Qc (some (.long l1)) m)) ∧ (¬ 16 ≤ x5 → ((vp_in x5 16) ∧ (Pt_X0_paidInAll_14 C G (l1 + (zJ m 303 ((a0 + 11 + 7 * x5.toNatClampNeg) + 1) 0)) (x5 + 1) a0 m)))) : Pt_X0_paidInAll_14 C G l1 x5 a0 m := by
  obtain ⟨hF, hQ, hR⟩ := id S
  have h0 : zF0 C cX0_paidInAll 7 wsX0_paidInAll RX0 := hF.1
  have hL := hF.2.2.1
  unfold Pt_X0_paidInAll_14
  refine zx_iload h0 3 dX0_paidInAll_14 rfl ?_
  refine zx_iload h0 2 dX0_paidInAll_16 rfl ?_
  refine zx_icmp_ge (tgt := 44) h0 dX0_paidInAll_18 (by decide) (fun q => ?_) (fun q => ?_)
  · replace h := h.1 q
    refine zx_lload_n h0 0 dX0_paidInAll_44 rfl ?_
    exact zx_lret hF hQ dX0_paidInAll_45 h
  · replace h := h.2 q
    refine zx_aload_n h0 1 dX0_paidInAll_21 rfl ?_
    refine zx_iload h0 3 dX0_paidInAll_22 rfl ?_
    obtain ⟨ho1, h⟩ := h
    refine zx_aaldC (j := x5.toNatClampNeg) hF (zL_0_10 hL ka0) ho1 rfl dX0_paidInAll_24 ?_
    refine zx_astore (L' := [(6, .ref (a0 + 11 + 7 * x5.toNatClampNeg)), (1, .long l1), (3, .ref (a0 + 10)), (4, .int 16), (5, .int x5)]) h0 dX0_paidInAll_25 (by decide) rfl ?_
    refine zx_lload_n h0 1 dX0_paidInAll_27 rfl ?_
    refine zx_aload h0 0 dX0_paidInAll_28 rfl ?_
    refine zx_get hF (zL_claim hL ka0 (z_inlt ho1)) (by decide) rfl zi_X0_paidInAll_1 8 (by decide) zn_X0_paidInAll_86 rfl rfl dX0_paidInAll_30 ?_
    refine zx_get hF (zL_1_1 hL (zL_claim hL ka0 (z_inlt ho1))) (by decide) rfl zi_X0_paidInAll_3 3 (by decide) zn_X0_paidInAll_90 rfl rfl dX0_paidInAll_33 ?_
    refine zx_ladd h0 dX0_paidInAll_36 ?_
    refine zx_lstore_n (L' := [(1, .long (l1 + (zJ m 303 ((a0 + 11 + 7 * x5.toNatClampNeg) + 1) 0))), (6, .ref (a0 + 11 + 7 * x5.toNatClampNeg)), (3, .ref (a0 + 10)), (4, .int 16), (5, .int x5)]) h0 dX0_paidInAll_37 (by decide) rfl ?_
    refine zx_iinc (v := (x5 + 1)) (L' := [(5, .int (x5 + 1)), (1, .long (l1 + (zJ m 303 ((a0 + 11 + 7 * x5.toNatClampNeg) + 1) 0))), (6, .ref (a0 + 11 + 7 * x5.toNatClampNeg)), (3, .ref (a0 + 10)), (4, .int 16)]) h0 4 dX0_paidInAll_38 rfl rfl (by decide) rfl ?_
    refine zx_goto (tgt := 14) h0 dX0_paidInAll_41 (by decide) ?_
    exact zx_sub [1, 3, 4, 0] rfl h
theorem zn_X0_addBytes_45 : Cond.fieldLink RX0 45 RX0 (TX0 2).2.1 (TX0 2).2.2.1 ∈ wsX0_addBytes := List.mem_of_getElem? (i := 1) rfl
theorem zi_X0_addBytes_0 : ∀ w ∈ u_ws RX0 TX0 10, w ∈ wsX0_addBytes := fun _ h => List.mem_cons_of_mem _ (List.mem_append_right _ h)
theorem zn_X0_addBytes_17 : Cond.fieldLink RX0 17 RX0 (TX0 1).2.1 (TX0 1).2.2.1 ∈ wsX0_addBytes := List.mem_of_getElem? (i := 2) rfl
set_option maxRecDepth 100000 in
set_option maxHeartbeats 4000000 in
theorem sg_X0_addBytes_0 {C : zC} {G : zG} {Qc : Array Value → State → Outcome → State → Prop} (S : St_X0_addBytes C G Qc) {a0 : Nat} {x1 : Int32} {m : zM} (ka0 : zK G a0 = some (0, a0))
    (h : Pt_X0_addBytes_3 C G a0 x1 24 m) : Pt_X0_addBytes_0 C G a0 x1 m := by
  obtain ⟨hF, hQ, hR⟩ := id S
  have h0 : zF0 C cX0_addBytes 3 wsX0_addBytes RX0 := hF.1
  have hL := hF.2.2.1
  unfold Pt_X0_addBytes_0
  refine zx_bipush (v := 24) h0 dX0_addBytes_0 (by decide) ?_
  refine zx_istore_n (L' := [(2, .int 24), (0, .ref a0), (1, .int x1)]) h0 dX0_addBytes_2 (by decide) rfl ?_
  exact zx_sub [1, 2, 0] rfl h
set_option maxRecDepth 100000 in
set_option maxHeartbeats 4000000 in
theorem sg_X0_addBytes_3 {C : zC} {G : zG} {Qc : Array Value → State → Outcome → State → Prop} (S : St_X0_addBytes C G Qc) {a0 : Nat} {x1 : Int32} {x2 : Int32} {m : zM} (ka0 : zK G a0 = some (0, a0))
    (h : (x2 < 0 → (zRet C G Qc none m)) ∧ (¬ x2 < 0 → ((400 ≤ (zI m 2 a0 0) → (zRet C G Qc none m)) ∧ (¬ 400 ≤ (zI m 2 a0 0) → ((vp_in (zI m 2 a0 0) 400) ∧ (Pt_X0_addBytes_3 C G a0 x1 (x2 + (-8)) (zsI (zsI m 1001 a0 ((zI m 2 a0 0).toNatClampNeg) (z8 (z8 (zushr x1 x2)))) 2 a0 0 ((zI m 2 a0 0) + 1)))))))) : Pt_X0_addBytes_3 C G a0 x1 x2 m := by
  obtain ⟨hF, hQ, hR⟩ := id S
  have h0 : zF0 C cX0_addBytes 3 wsX0_addBytes RX0 := hF.1
  have hL := hF.2.2.1
  unfold Pt_X0_addBytes_3
  refine zx_iload_n h0 2 dX0_addBytes_3 rfl ?_
  refine zx_if_lt (tgt := 46) h0 dX0_addBytes_4 (by decide) (fun q => ?_) (fun q => ?_)
  · replace h := h.1 q
    exact zx_vret hF hQ dX0_addBytes_46 h
  · replace h := h.2 q
    refine zx_aload_n h0 0 dX0_addBytes_7 rfl ?_
    refine zx_get hF ka0 (by decide) rfl zi_X0_addBytes_0 2 (by decide) zn_X0_addBytes_45 rfl rfl dX0_addBytes_8 ?_
    refine zx_sipush (v := 400) h0 dX0_addBytes_11 (by decide) ?_
    refine zx_icmp_ge (tgt := 46) h0 dX0_addBytes_14 (by decide) (fun q => ?_) (fun q => ?_)
    · replace h := h.1 q
      exact zx_vret hF hQ dX0_addBytes_46 h
    · replace h := h.2 q
      refine zx_aload_n h0 0 dX0_addBytes_17 rfl ?_
      refine zx_get hF ka0 (by decide) rfl zi_X0_addBytes_0 1 (by decide) zn_X0_addBytes_17 rfl rfl dX0_addBytes_18 ?_
      refine zx_aload_n h0 0 dX0_addBytes_21 rfl ?_
      refine zx_get hF ka0 (by decide) rfl zi_X0_addBytes_0 2 (by decide) zn_X0_addBytes_45 rfl rfl dX0_addBytes_22 ?_
      refine zx_iload_n h0 1 dX0_addBytes_25 rfl ?_
      refine zx_iload_n h0 2 dX0_addBytes_26 rfl ?_
      refine zx_iushr (v := (zushr x1 x2)) h0 dX0_addBytes_27 rfl ?_
      refine zx_i2b (v := (z8 (zushr x1 x2))) h0 dX0_addBytes_28 rfl ?_
      obtain ⟨ho1, h⟩ := h
      refine zx_bast (j := (zI m 2 a0 0).toNatClampNeg) (xv := (z8 (z8 (zushr x1 x2)))) hF (zL_0_1 hL ka0) (by decide) rfl rfl ho1 rfl rfl z_fit1001 dX0_addBytes_29 ?_
      refine zx_aload_n h0 0 dX0_addBytes_30 rfl ?_
      refine zx_dup h0 dX0_addBytes_31 rfl ?_
      refine zx_get hF ka0 (by decide) rfl zi_X0_addBytes_0 2 (by decide) zn_X0_addBytes_45 rfl rfl dX0_addBytes_32 ?_
      refine zx_topI (zI_n (by decide)) ?_
      refine zx_iconst (v := 1) h0 dX0_addBytes_35 (by decide) ?_
      refine zx_iadd h0 dX0_addBytes_36 ?_
      refine zp_2 hF ka0 zi_X0_addBytes_0 zn_X0_addBytes_45 dX0_addBytes_37 ?_
      refine zx_iinc (v := (x2 + (-8))) (L' := [(2, .int (x2 + (-8))), (0, .ref a0), (1, .int x1)]) h0 2 dX0_addBytes_40 rfl rfl (by decide) rfl ?_
      refine zx_goto (tgt := 3) h0 dX0_addBytes_43 (by decide) ?_
      exact zx_sub [1, 2, 0] rfl h
theorem zn_X0_mostInAll_34 : Cond.fieldLink RX0 34 RX0 (TX0 6).2.1 (TX0 6).2.2.1 ∈ wsX0_mostInAll := List.mem_of_getElem? (i := 1) rfl
theorem zi_X0_mostInAll_0 : ∀ w ∈ u_ws RX0 TX0 10, w ∈ wsX0_mostInAll := fun _ h => List.mem_cons_of_mem _ (List.mem_append_left _ (List.mem_append_right _ h))
theorem zn_X0_mostInAll_105 : Cond.fieldLink RX0 105 RX1 (TX1 7).2.1 (TX1 7).2.2.1 ∈ wsX0_mostInAll := List.mem_of_getElem? (i := 2) rfl
theorem zi_X0_mostInAll_1 : ∀ w ∈ u_ws RX1 TX1 9, w ∈ wsX0_mostInAll := fun _ h => List.mem_cons_of_mem _ (List.mem_append_right _ h)
set_option maxRecDepth 100000 in
set_option maxHeartbeats 4000000 in
theorem sg_X0_mostInAll_0 {C : zC} {G : zG} {Qc : Array Value → State → Outcome → State → Prop} (S : St_X0_mostInAll C G Qc) {a0 : Nat} {m : zM} (ka0 : zK G a0 = some (0, a0))
    (h : Pt_X0_mostInAll_14 C G 0 0 a0 m) : Pt_X0_mostInAll_0 C G a0 m := by
  obtain ⟨hF, hQ, hR⟩ := id S
  have h0 : zF0 C cX0_mostInAll 7 wsX0_mostInAll RX0 := hF.1
  have hL := hF.2.2.1
  unfold Pt_X0_mostInAll_0
  refine zx_lconst (v := 0) h0 dX0_mostInAll_0 (by decide) ?_
  refine zx_lstore_n (L' := [(1, .long 0), (0, .ref a0)]) h0 dX0_mostInAll_1 (by decide) rfl ?_
  refine zx_aload_n h0 1 dX0_mostInAll_2 rfl ?_
  refine zx_get hF ka0 (by decide) rfl zi_X0_mostInAll_0 6 (by decide) zn_X0_mostInAll_34 rfl rfl dX0_mostInAll_3 ?_
  refine zx_astore_n (L' := [(3, .ref (a0 + 10)), (1, .long 0), (0, .ref a0)]) h0 dX0_mostInAll_6 (by decide) rfl ?_
  refine zx_aload_n h0 0 dX0_mostInAll_7 rfl ?_
  refine zx_alen (v := 16) hF (zL_0_10 hL ka0) (by decide) rfl (by decide) rfl rfl dX0_mostInAll_8 ?_
  refine zx_istore (L' := [(4, .int 16), (3, .ref (a0 + 10)), (1, .long 0), (0, .ref a0)]) h0 dX0_mostInAll_9 (by decide) rfl ?_
  refine zx_iconst (v := 0) h0 dX0_mostInAll_11 (by decide) ?_
  refine zx_istore (L' := [(5, .int 0), (4, .int 16), (3, .ref (a0 + 10)), (1, .long 0), (0, .ref a0)]) h0 dX0_mostInAll_12 (by decide) rfl ?_
  exact zx_sub [3, 2, 1, 0] rfl h
set_option maxRecDepth 100000 in
set_option maxHeartbeats 4000000 in
theorem sg_X0_mostInAll_14 {C : zC} {G : zG} {Qc : Array Value → State → Outcome → State → Prop} (S : St_X0_mostInAll C G Qc) {l1 : Int64} {x5 : Int32} {a0 : Nat} {m : zM} (ka0 : zK G a0 = some (0, a0))
    (h : (16 ≤ x5 → (zRet C G Qc (some (.long l1)) m)) ∧ (¬ 16 ≤ x5 → ((vp_in x5 16) ∧ (Pt_X0_mostInAll_14 C G (l1 + (((zI m 107 (a0 + 11 + 7 * x5.toNatClampNeg) 0) : Int32).toInt64)) (x5 + 1) a0 m)))) : Pt_X0_mostInAll_14 C G l1 x5 a0 m := by
  obtain ⟨hF, hQ, hR⟩ := id S
  have h0 : zF0 C cX0_mostInAll 7 wsX0_mostInAll RX0 := hF.1
  have hL := hF.2.2.1
  unfold Pt_X0_mostInAll_14
  refine zx_iload h0 3 dX0_mostInAll_14 rfl ?_
  refine zx_iload h0 2 dX0_mostInAll_16 rfl ?_
  refine zx_icmp_ge (tgt := 42) h0 dX0_mostInAll_18 (by decide) (fun q => ?_) (fun q => ?_)
  · replace h := h.1 q
    refine zx_lload_n h0 0 dX0_mostInAll_42 rfl ?_
    exact zx_lret hF hQ dX0_mostInAll_43 h
  · replace h := h.2 q
    refine zx_aload_n h0 1 dX0_mostInAll_21 rfl ?_
    refine zx_iload h0 3 dX0_mostInAll_22 rfl ?_
    obtain ⟨ho1, h⟩ := h
    refine zx_aaldC (j := x5.toNatClampNeg) hF (zL_0_10 hL ka0) ho1 rfl dX0_mostInAll_24 ?_
    refine zx_astore (L' := [(6, .ref (a0 + 11 + 7 * x5.toNatClampNeg)), (1, .long l1), (3, .ref (a0 + 10)), (4, .int 16), (5, .int x5)]) h0 dX0_mostInAll_25 (by decide) rfl ?_
    refine zx_lload_n h0 1 dX0_mostInAll_27 rfl ?_
    refine zx_aload h0 0 dX0_mostInAll_28 rfl ?_
    refine zx_get hF (zL_claim hL ka0 (z_inlt ho1)) (by decide) rfl zi_X0_mostInAll_1 7 (by decide) zn_X0_mostInAll_105 rfl rfl dX0_mostInAll_30 ?_
    refine zx_i2l (v := (((zI m 107 (a0 + 11 + 7 * x5.toNatClampNeg) 0) : Int32).toInt64)) h0 dX0_mostInAll_33 rfl ?_
    refine zx_ladd h0 dX0_mostInAll_34 ?_
    refine zx_lstore_n (L' := [(1, .long (l1 + (((zI m 107 (a0 + 11 + 7 * x5.toNatClampNeg) 0) : Int32).toInt64))), (6, .ref (a0 + 11 + 7 * x5.toNatClampNeg)), (3, .ref (a0 + 10)), (4, .int 16), (5, .int x5)]) h0 dX0_mostInAll_35 (by decide) rfl ?_
    refine zx_iinc (v := (x5 + 1)) (L' := [(5, .int (x5 + 1)), (1, .long (l1 + (((zI m 107 (a0 + 11 + 7 * x5.toNatClampNeg) 0) : Int32).toInt64))), (6, .ref (a0 + 11 + 7 * x5.toNatClampNeg)), (3, .ref (a0 + 10)), (4, .int 16)]) h0 4 dX0_mostInAll_36 rfl rfl (by decide) rfl ?_
    refine zx_goto (tgt := 14) h0 dX0_mostInAll_39 (by decide) ?_
    exact zx_sub [1, 3, 4, 0] rfl h
theorem zn_X0_shareOf_11 : Cond.fieldLink RX0 11 RX0 (TX0 0).2.1 (TX0 0).2.2.1 ∈ wsX0_shareOf := List.mem_of_getElem? (i := 1) rfl
theorem zi_X0_shareOf_0 : ∀ w ∈ u_ws RX0 TX0 10, w ∈ wsX0_shareOf := fun _ h => List.mem_cons_of_mem _ (List.mem_append_right _ h)
set_option maxRecDepth 100000 in
set_option maxHeartbeats 4000000 in
theorem sg_X0_shareOf_0 {C : zC} {G : zG} {Qc : Array Value → State → Outcome → State → Prop} (S : St_X0_shareOf C G Qc) {a0 : Nat} {x1 : Int32} {l2 : Int64} {m : zM} (ka0 : zK G a0 = some (0, a0))
    (h : (l2 ≤ 0 → (zRet C G Qc (some (.long 0)) m)) ∧ (¬ l2 ≤ 0 → ((¬ l2 = 0) ∧ (zRet C G Qc (some (.long (((zJ m 0 a0 0) * ((x1 : Int32).toInt64)) / l2))) m)))) : Pt_X0_shareOf_0 C G a0 x1 l2 m := by
  obtain ⟨hF, hQ, hR⟩ := id S
  have h0 : zF0 C cX0_shareOf 4 wsX0_shareOf RX0 := hF.1
  have hL := hF.2.2.1
  unfold Pt_X0_shareOf_0
  refine zx_lload_n h0 2 dX0_shareOf_0 rfl ?_
  refine zx_lconst (v := 0) h0 dX0_shareOf_1 (by decide) ?_
  refine zx_lcmp_le (tgt := 18) h0 dX0_shareOf_2 dX0_shareOf_3 (by decide) (fun q => ?_) (fun q => ?_)
  · replace h := h.1 q
    refine zx_lconst (v := 0) h0 dX0_shareOf_18 (by decide) ?_
    exact zx_lret hF hQ dX0_shareOf_19 h
  · replace h := h.2 q
    refine zx_aload_n h0 0 dX0_shareOf_6 rfl ?_
    refine zx_get hF ka0 (by decide) rfl zi_X0_shareOf_0 0 (by decide) zn_X0_shareOf_11 rfl rfl dX0_shareOf_7 ?_
    refine zx_iload_n h0 1 dX0_shareOf_10 rfl ?_
    refine zx_i2l (v := ((x1 : Int32).toInt64)) h0 dX0_shareOf_11 rfl ?_
    refine zx_lmul h0 dX0_shareOf_12 ?_
    refine zx_lload_n h0 2 dX0_shareOf_13 rfl ?_
    obtain ⟨ho1, h⟩ := h
    refine zx_ldiv h0 dX0_shareOf_14 ho1 ?_
    refine zx_goto (tgt := 19) h0 dX0_shareOf_15 (by decide) ?_
    exact zx_lret hF hQ dX0_shareOf_19 h
theorem zn_X0_holds_34 : Cond.fieldLink RX0 34 RX0 (TX0 6).2.1 (TX0 6).2.2.1 ∈ wsX0_holds := List.mem_of_getElem? (i := 1) rfl
theorem zi_X0_holds_0 : ∀ w ∈ u_ws RX0 TX0 10, w ∈ wsX0_holds := fun _ h => List.mem_cons_of_mem _ (List.mem_append_left _ (List.mem_append_left _ (List.mem_append_right _ h)))
theorem zn_X0_holds_86 : Cond.fieldLink RX0 86 RX1 (TX1 8).2.1 (TX1 8).2.2.1 ∈ wsX0_holds := List.mem_of_getElem? (i := 2) rfl
theorem zi_X0_holds_1 : ∀ w ∈ u_ws RX1 TX1 9, w ∈ wsX0_holds := fun _ h => List.mem_cons_of_mem _ (List.mem_append_left _ (List.mem_append_right _ h))
theorem zn_X0_holds_90 : Cond.fieldLink RX0 90 RX3 (TX3 3).2.1 (TX3 3).2.2.1 ∈ wsX0_holds := List.mem_of_getElem? (i := 3) rfl
theorem zi_X0_holds_3 : ∀ w ∈ u_ws RX3 TX3 11, w ∈ wsX0_holds := fun _ h => List.mem_cons_of_mem _ (List.mem_append_right _ h)
theorem zn_X0_holds_108 : Cond.fieldLink RX0 108 RX1 (TX1 6).2.1 (TX1 6).2.2.1 ∈ wsX0_holds := List.mem_of_getElem? (i := 4) rfl
theorem zc_X0_holds_X0_mostInAll {C : zC} {G : zG} {Qc : Array Value → State → Outcome → State → Prop} (S : St_X0_holds C G Qc) : CallW (zRm C) (zs C) (zar C) RX0 RX0 111 yX0_mostInAll cX0_mostInAll 7 (some .long) wsX0_mostInAll rm_X0_mostInAll 0 0 0 := cwV 0 S.1.1.2.2.2.2 gX0_holds_X0_mostInAll rfl rfl rfl (by decide +kernel) (by rw [S.2.2]; exact ⟨Nat.le_of_ble_eq_true rfl, Nat.le_of_ble_eq_true rfl⟩)
theorem zc_X0_holds_X0_shareOf {C : zC} {G : zG} {Qc : Array Value → State → Outcome → State → Prop} (S : St_X0_holds C G Qc) : CallW (zRm C) (zs C) (zar C) RX0 RX0 115 yX0_shareOf cX0_shareOf 4 (some .long) wsX0_shareOf rm_X0_shareOf 0 0 2 := cwV 2 S.1.1.2.2.2.2 gX0_holds_X0_shareOf rfl rfl rfl (by decide +kernel) (by rw [S.2.2]; exact ⟨Nat.le_of_ble_eq_true rfl, Nat.le_of_ble_eq_true rfl⟩)
set_option maxRecDepth 100000 in
set_option maxHeartbeats 4000000 in
theorem sg_X0_holds_0 {C : zC} {G : zG} {Qc : Array Value → State → Outcome → State → Prop} (S : St_X0_holds C G Qc) {P_X0_mostInAll : Nat → zM → Prop} {Q_X0_mostInAll : Nat → zM → Int64 → Prop} (c_X0_mostInAll : Con_X0_mostInAll (zl C) G P_X0_mostInAll Q_X0_mostInAll) {a0 : Nat} {m : zM} (ka0 : zK G a0 = some (0, a0))
    (h : (P_X0_mostInAll a0 m) ∧ (∀ (r2 : Int64), Q_X0_mostInAll a0 m r2 → (Pt_X0_holds_17 C G a0 r2 0 m))) : Pt_X0_holds_0 C G a0 m := by
  obtain ⟨hF, hQ, hR⟩ := id S
  have h0 : zF0 C cX0_holds 7 wsX0_holds RX0 := hF.1
  have hL := hF.2.2.1
  unfold Pt_X0_holds_0
  refine zx_aload_n h0 0 dX0_holds_0 rfl ?_
  obtain ⟨ho1, h⟩ := h
  refine zx_callVl (As := []) (rest := []) hF (c_X0_mostInAll a0 m ka0 ho1) (zc_X0_holds_X0_mostInAll S) ka0 (by decide) rfl dX0_holds_1 rfl rfl (Nat.le_of_ble_eq_true rfl) ⟨Nat.zero_le _, Nat.zero_le _⟩ (fun r2 m2 hq => ?_)
  obtain ⟨hme, hq⟩ := hq
  subst m2
  replace h := h r2 hq
  refine zx_lstore_n (L' := [(1, .long r2), (0, .ref a0)]) h0 dX0_holds_4 (by decide) rfl ?_
  refine zx_aload_n h0 1 dX0_holds_5 rfl ?_
  refine zx_get hF ka0 (by decide) rfl zi_X0_holds_0 6 (by decide) zn_X0_holds_34 rfl rfl dX0_holds_6 ?_
  refine zx_astore_n (L' := [(3, .ref (a0 + 10)), (1, .long r2), (0, .ref a0)]) h0 dX0_holds_9 (by decide) rfl ?_
  refine zx_aload_n h0 0 dX0_holds_10 rfl ?_
  refine zx_alen (v := 16) hF (zL_0_10 hL ka0) (by decide) rfl (by decide) rfl rfl dX0_holds_11 ?_
  refine zx_istore (L' := [(4, .int 16), (3, .ref (a0 + 10)), (1, .long r2), (0, .ref a0)]) h0 dX0_holds_12 (by decide) rfl ?_
  refine zx_iconst (v := 0) h0 dX0_holds_14 (by decide) ?_
  refine zx_istore (L' := [(5, .int 0), (4, .int 16), (3, .ref (a0 + 10)), (1, .long r2), (0, .ref a0)]) h0 dX0_holds_15 (by decide) rfl ?_
  exact zx_sub [4, 3, 2, 1, 0] rfl h
set_option maxRecDepth 100000 in
set_option maxHeartbeats 4000000 in
theorem sg_X0_holds_17 {C : zC} {G : zG} {Qc : Array Value → State → Outcome → State → Prop} (S : St_X0_holds C G Qc) {P_X0_shareOf : Nat → Int32 → Int64 → zM → Prop} {Q_X0_shareOf : Nat → Int32 → Int64 → zM → Int64 → Prop} (c_X0_shareOf : Con_X0_shareOf (zl C) G P_X0_shareOf Q_X0_shareOf) {a0 : Nat} {l1 : Int64} {x5 : Int32} {m : zM} (ka0 : zK G a0 = some (0, a0))
    (h : (16 ≤ x5 → (zRet C G Qc (some (.int 1)) m)) ∧ (¬ 16 ≤ x5 → ((vp_in x5 16) ∧ ((P_X0_shareOf a0 (zI m 106 (a0 + 11 + 7 * x5.toNatClampNeg) 0) l1 m) ∧ (∀ (r3 : Int64), Q_X0_shareOf a0 (zI m 106 (a0 + 11 + 7 * x5.toNatClampNeg) 0) l1 m r3 → (((zJ m 303 ((a0 + 11 + 7 * x5.toNatClampNeg) + 1) 0) ≤ r3 → (Pt_X0_holds_17 C G a0 l1 (x5 + 1) m)) ∧ (¬ (zJ m 303 ((a0 + 11 + 7 * x5.toNatClampNeg) + 1) 0) ≤ r3 → (zRet C G Qc (some (.int 0)) m)))))))) : Pt_X0_holds_17 C G a0 l1 x5 m := by
  obtain ⟨hF, hQ, hR⟩ := id S
  have h0 : zF0 C cX0_holds 7 wsX0_holds RX0 := hF.1
  have hL := hF.2.2.1
  unfold Pt_X0_holds_17
  refine zx_iload h0 4 dX0_holds_17 rfl ?_
  refine zx_iload h0 3 dX0_holds_19 rfl ?_
  refine zx_icmp_ge (tgt := 60) h0 dX0_holds_21 (by decide) (fun q => ?_) (fun q => ?_)
  · replace h := h.1 q
    refine zx_iconst (v := 1) h0 dX0_holds_60 (by decide) ?_
    exact zx_zret hF hQ rfl dX0_holds_61 h
  · replace h := h.2 q
    refine zx_aload_n h0 2 dX0_holds_24 rfl ?_
    refine zx_iload h0 4 dX0_holds_25 rfl ?_
    obtain ⟨ho1, h⟩ := h
    refine zx_aaldC (j := x5.toNatClampNeg) hF (zL_0_10 hL ka0) ho1 rfl dX0_holds_27 ?_
    refine zx_astore (L' := [(6, .ref (a0 + 11 + 7 * x5.toNatClampNeg)), (0, .ref a0), (1, .long l1), (3, .ref (a0 + 10)), (4, .int 16), (5, .int x5)]) h0 dX0_holds_28 (by decide) rfl ?_
    refine zx_aload h0 0 dX0_holds_30 rfl ?_
    refine zx_get hF (zL_claim hL ka0 (z_inlt ho1)) (by decide) rfl zi_X0_holds_1 8 (by decide) zn_X0_holds_86 rfl rfl dX0_holds_32 ?_
    refine zx_get hF (zL_1_1 hL (zL_claim hL ka0 (z_inlt ho1))) (by decide) rfl zi_X0_holds_3 3 (by decide) zn_X0_holds_90 rfl rfl dX0_holds_35 ?_
    refine zx_aload_n h0 1 dX0_holds_38 rfl ?_
    refine zx_aload h0 0 dX0_holds_39 rfl ?_
    refine zx_get hF (zL_claim hL ka0 (z_inlt ho1)) (by decide) rfl zi_X0_holds_1 6 (by decide) zn_X0_holds_108 rfl rfl dX0_holds_41 ?_
    refine zx_lload_n h0 2 dX0_holds_44 rfl ?_
    obtain ⟨ho2, h⟩ := h
    refine zx_callVl (As := [.int (zI m 106 (a0 + 11 + 7 * x5.toNatClampNeg) 0), .long l1]) (rest := [.long (zJ m 303 ((a0 + 11 + 7 * x5.toNatClampNeg) + 1) 0)]) hF (c_X0_shareOf a0 (zI m 106 (a0 + 11 + 7 * x5.toNatClampNeg) 0) l1 m ka0 ho2) (zc_X0_holds_X0_shareOf S) ka0 (by decide) rfl dX0_holds_45 rfl rfl (Nat.le_of_ble_eq_true rfl) ⟨Nat.zero_le _, Nat.zero_le _⟩ (fun r3 m3 hq => ?_)
    obtain ⟨hme, hq⟩ := hq
    subst m3
    replace h := h r3 hq
    refine zx_lcmp_le (tgt := 54) h0 dX0_holds_48 dX0_holds_49 (by decide) (fun q => ?_) (fun q => ?_)
    · replace h := h.1 q
      refine zx_iinc (v := (x5 + 1)) (L' := [(5, .int (x5 + 1)), (6, .ref (a0 + 11 + 7 * x5.toNatClampNeg)), (0, .ref a0), (1, .long l1), (3, .ref (a0 + 10)), (4, .int 16)]) h0 5 dX0_holds_54 rfl rfl (by decide) rfl ?_
      refine zx_goto (tgt := 17) h0 dX0_holds_57 (by decide) ?_
      exact zx_sub [2, 3, 4, 5, 0] rfl h
    · replace h := h.2 q
      refine zx_iconst (v := 0) h0 dX0_holds_52 (by decide) ?_
      exact zx_zret hF hQ rfl dX0_holds_53 h
theorem zn_X0_admit_58 : Cond.fieldLink RX0 58 RX0 (TX0 7).2.1 (TX0 7).2.2.1 ∈ wsX0_admit := List.mem_of_getElem? (i := 1) rfl
theorem zi_X0_admit_0 : ∀ w ∈ u_ws RX0 TX0 10, w ∈ wsX0_admit := fun _ h => List.mem_cons_of_mem _ (List.mem_append_left _ (List.mem_append_left _ (List.mem_append_left _ (List.mem_append_right _ h))))
theorem zn_X0_admit_34 : Cond.fieldLink RX0 34 RX0 (TX0 6).2.1 (TX0 6).2.2.1 ∈ wsX0_admit := List.mem_of_getElem? (i := 2) rfl
theorem zn_X0_admit_24 : Cond.fieldLink RX0 24 RX0 (TX0 3).2.1 (TX0 3).2.2.1 ∈ wsX0_admit := List.mem_of_getElem? (i := 3) rfl
theorem zc_X0_admit_X1_begin {C : zC} {G : zG} {Qc : Array Value → State → Outcome → State → Prop} (S : St_X0_admit C G Qc) : CallW (zRm C) (zs C) (zar C) RX0 RX1 71 yX1_begin cX1_begin 6 none wsX1_begin rm_X1_begin 0 0 5 := cwV 5 S.1.1.2.2.2.2 gX0_admit_X1_begin rfl rfl rfl (by decide +kernel) (by rw [S.2.2]; exact ⟨Nat.le_of_ble_eq_true rfl, Nat.le_of_ble_eq_true rfl⟩)
theorem zc_X0_admit_X1_measure {C : zC} {G : zG} {Qc : Array Value → State → Outcome → State → Prop} (S : St_X0_admit C G Qc) : CallW (zRm C) (zs C) (zar C) RX0 RX1 68 yX1_measure cX1_measure 4 none wsX1_measure rm_X1_measure 0 0 1 := cwV 1 S.1.1.2.2.2.2 gX0_admit_X1_measure rfl rfl rfl (by decide +kernel) (by rw [S.2.2]; exact ⟨Nat.le_of_ble_eq_true rfl, Nat.le_of_ble_eq_true rfl⟩)
theorem zc_X0_admit_X0_holds {C : zC} {G : zG} {Qc : Array Value → State → Outcome → State → Prop} (S : St_X0_admit C G Qc) : CallW (zRm C) (zs C) (zar C) RX0 RX0 75 yX0_holds cX0_holds 7 (some .boolean) wsX0_holds rm_X0_holds 0 0 0 := cwV 0 S.1.1.2.2.2.2 gX0_admit_X0_holds rfl rfl rfl (by decide +kernel) (by rw [S.2.2]; exact ⟨Nat.le_of_ble_eq_true rfl, Nat.le_of_ble_eq_true rfl⟩)
theorem zc_X0_admit_X1_settle {C : zC} {G : zG} {Qc : Array Value → State → Outcome → State → Prop} (S : St_X0_admit C G Qc) : CallW (zRm C) (zs C) (zar C) RX0 RX1 79 yX1_settle cX1_settle 3 none wsX1_settle rm_X1_settle 0 0 2 := cwV 2 S.1.1.2.2.2.2 gX0_admit_X1_settle rfl rfl rfl (by decide +kernel) (by rw [S.2.2]; exact ⟨Nat.le_of_ble_eq_true rfl, Nat.le_of_ble_eq_true rfl⟩)
set_option maxRecDepth 100000 in
set_option maxHeartbeats 4000000 in
theorem sg_X0_admit_0 {C : zC} {G : zG} {Qc : Array Value → State → Outcome → State → Prop} (S : St_X0_admit C G Qc) {P_X1_begin : Nat → Int32 → Int32 → Int32 → Int32 → Int32 → zM → Prop} {Q_X1_begin : Nat → Int32 → Int32 → Int32 → Int32 → Int32 → zM → zM → Prop} (c_X1_begin : Con_X1_begin (zl C) G P_X1_begin Q_X1_begin) {P_X1_measure : Nat → Nat → zM → Prop} {Q_X1_measure : Nat → Nat → zM → zM → Prop} (c_X1_measure : Con_X1_measure (zl C) G P_X1_measure Q_X1_measure) {P_X0_holds : Nat → zM → Prop} {Q_X0_holds : Nat → zM → Int32 → Prop} (c_X0_holds : Con_X0_holds (zl C) G P_X0_holds Q_X0_holds) {P_X1_settle : Nat → Int32 → Int32 → zM → Prop} {Q_X1_settle : Nat → Int32 → Int32 → zM → zM → Prop} (c_X1_settle : Con_X1_settle (zl C) G P_X1_settle Q_X1_settle) {a0 : Nat} {x1 : Int32} {x2 : Int32} {x3 : Int32} {x4 : Int32} {x5 : Int32} {m : zM} (ka0 : zK G a0 = some (0, a0))
    (h : ((zI m 7 a0 0) < 16 → ((vp_in (zI m 7 a0 0) 16) ∧ ((P_X1_begin (a0 + 11 + 7 * ((zI m 7 a0 0).toNatClampNeg)) x1 x2 x3 x4 x5 m) ∧ (∀ (m3 : zM), Q_X1_begin (a0 + 11 + 7 * ((zI m 7 a0 0).toNatClampNeg)) x1 x2 x3 x4 x5 m m3 → ((P_X1_measure (a0 + 11 + 7 * ((zI m 7 a0 0).toNatClampNeg)) (zR m3 3 a0) m3) ∧ (∀ (m6 : zM), Q_X1_measure (a0 + 11 + 7 * ((zI m 7 a0 0).toNatClampNeg)) (zR m3 3 a0) m3 m6 → ((P_X0_holds a0 m6) ∧ (∀ (r8 : Int32), Q_X0_holds a0 m6 r8 → ((¬ r8 = 0 → (zRet C G Qc (some (.int (((zI m6 7 a0 0) + 1) - 1))) (zsI m6 7 a0 0 ((zI m6 7 a0 0) + 1)))) ∧ (r8 = 0 → ((P_X1_settle (a0 + 11 + 7 * ((zI m 7 a0 0).toNatClampNeg)) 3 0 m6) ∧ (∀ (m10 : zM), Q_X1_settle (a0 + 11 + 7 * ((zI m 7 a0 0).toNatClampNeg)) 3 0 m6 m10 → (zRet C G Qc (some (.int (-1))) m10))))))))))))) ∧ (¬ (zI m 7 a0 0) < 16 → (zRet C G Qc (some (.int (-1))) m))) : Pt_X0_admit_0 C G a0 x1 x2 x3 x4 x5 m := by
  obtain ⟨hF, hQ, hR⟩ := id S
  have h0 : zF0 C cX0_admit 7 wsX0_admit RX0 := hF.1
  have hL := hF.2.2.1
  unfold Pt_X0_admit_0
  refine zx_aload_n h0 0 dX0_admit_0 rfl ?_
  refine zx_get hF ka0 (by decide) rfl zi_X0_admit_0 7 (by decide) zn_X0_admit_58 rfl rfl dX0_admit_1 ?_
  refine zx_bipush (v := 16) h0 dX0_admit_4 (by decide) ?_
  refine zx_icmp_lt (tgt := 11) h0 dX0_admit_6 (by decide) (fun q => ?_) (fun q => ?_)
  · replace h := h.1 q
    refine zx_aload_n h0 0 dX0_admit_11 rfl ?_
    refine zx_get hF ka0 (by decide) rfl zi_X0_admit_0 6 (by decide) zn_X0_admit_34 rfl rfl dX0_admit_12 ?_
    refine zx_aload_n h0 0 dX0_admit_15 rfl ?_
    refine zx_get hF ka0 (by decide) rfl zi_X0_admit_0 7 (by decide) zn_X0_admit_58 rfl rfl dX0_admit_16 ?_
    obtain ⟨ho1, h⟩ := h
    refine zx_aaldC (j := (zI m 7 a0 0).toNatClampNeg) hF (zL_0_10 hL ka0) ho1 rfl dX0_admit_19 ?_
    refine zx_astore (L' := [(6, .ref (a0 + 11 + 7 * ((zI m 7 a0 0).toNatClampNeg))), (0, .ref a0), (1, .int x1), (2, .int x2), (3, .int x3), (4, .int x4), (5, .int x5)]) h0 dX0_admit_20 (by decide) rfl ?_
    refine zx_aload h0 0 dX0_admit_22 rfl ?_
    refine zx_iload_n h0 2 dX0_admit_24 rfl ?_
    refine zx_iload_n h0 3 dX0_admit_25 rfl ?_
    refine zx_iload_n h0 4 dX0_admit_26 rfl ?_
    refine zx_iload h0 5 dX0_admit_27 rfl ?_
    refine zx_iload h0 6 dX0_admit_29 rfl ?_
    obtain ⟨ho2, h⟩ := h
    refine zx_callVv (As := [.int x1, .int x2, .int x3, .int x4, .int x5]) (rest := []) hF (c_X1_begin (a0 + 11 + 7 * ((zI m 7 a0 0).toNatClampNeg)) x1 x2 x3 x4 x5 m (zL_claim hL ka0 (z_inlt ho1)) ho2) (zc_X0_admit_X1_begin S) (zL_claim hL ka0 (z_inlt ho1)) (by decide) rfl dX0_admit_31 rfl rfl (Nat.le_of_ble_eq_true rfl) ⟨Nat.zero_le _, Nat.zero_le _⟩ (fun m3 hq => ?_)
    replace h := h m3 hq
    refine zx_aload h0 0 dX0_admit_34 rfl ?_
    refine zx_aload_n h0 1 dX0_admit_36 rfl ?_
    refine zx_wt (fun hw4 => ?_)
    refine zx_get hF ka0 (by decide) rfl zi_X0_admit_0 3 (by decide) zn_X0_admit_24 rfl rfl dX0_admit_37 ?_
    obtain ⟨ho5, h⟩ := h
    refine zx_callVv (As := [.ref (zR m3 3 a0)]) (rest := []) hF (c_X1_measure (a0 + 11 + 7 * ((zI m 7 a0 0).toNatClampNeg)) (zR m3 3 a0) m3 (zL_claim hL ka0 (z_inlt ho1)) (hw4.2.1 _ ka0) ho5) (zc_X0_admit_X1_measure S) (zL_claim hL ka0 (z_inlt ho1)) (by decide) rfl dX0_admit_40 rfl rfl (Nat.le_of_ble_eq_true rfl) ⟨Nat.zero_le _, Nat.zero_le _⟩ (fun m6 hq => ?_)
    replace h := h m6 hq
    refine zx_aload_n h0 1 dX0_admit_43 rfl ?_
    obtain ⟨ho7, h⟩ := h
    refine zx_callVi (As := []) (rest := []) hF (c_X0_holds a0 m6 ka0 ho7) (zc_X0_admit_X0_holds S) ka0 (by decide) rfl dX0_admit_44 rfl rfl (Nat.le_of_ble_eq_true rfl) ⟨Nat.zero_le _, Nat.zero_le _⟩ (fun r8 m8 hq => ?_)
    obtain ⟨hme, hq⟩ := hq
    subst m8
    replace h := h r8 hq
    refine zx_if_ne (tgt := 59) h0 dX0_admit_47 (by decide) (fun q => ?_) (fun q => ?_)
    · replace h := h.1 q
      refine zx_aload_n h0 1 dX0_admit_59 rfl ?_
      refine zx_dup h0 dX0_admit_60 rfl ?_
      refine zx_get hF ka0 (by decide) rfl zi_X0_admit_0 7 (by decide) zn_X0_admit_58 rfl rfl dX0_admit_61 ?_
      refine zx_iconst (v := 1) h0 dX0_admit_64 (by decide) ?_
      refine zx_iadd h0 dX0_admit_65 ?_
      refine zp_7 hF ka0 zi_X0_admit_0 zn_X0_admit_58 dX0_admit_66 ?_
      refine zx_aload_n h0 1 dX0_admit_69 rfl ?_
      refine zx_get hF ka0 (by decide) rfl zi_X0_admit_0 7 (by decide) zn_X0_admit_58 rfl rfl dX0_admit_70 ?_
      refine zx_topI (zI_e) ?_
      refine zx_iconst (v := 1) h0 dX0_admit_73 (by decide) ?_
      refine zx_isub h0 dX0_admit_74 ?_
      exact zx_iret hF hQ dX0_admit_75 h
    · replace h := h.2 q
      refine zx_aload h0 0 dX0_admit_50 rfl ?_
      refine zx_iconst (v := 3) h0 dX0_admit_52 (by decide) ?_
      refine zx_iconst (v := 0) h0 dX0_admit_53 (by decide) ?_
      obtain ⟨ho9, h⟩ := h
      refine zx_callVv (As := [.int 3, .int 0]) (rest := []) hF (c_X1_settle (a0 + 11 + 7 * ((zI m 7 a0 0).toNatClampNeg)) 3 0 m6 (zL_claim hL ka0 (z_inlt ho1)) ho9) (zc_X0_admit_X1_settle S) (zL_claim hL ka0 (z_inlt ho1)) (by decide) rfl dX0_admit_54 rfl rfl (Nat.le_of_ble_eq_true rfl) ⟨Nat.zero_le _, Nat.zero_le _⟩ (fun m10 hq => ?_)
      replace h := h m10 hq
      refine zx_iconst (v := (-1)) h0 dX0_admit_57 (by decide) ?_
      exact zx_iret hF hQ dX0_admit_58 h
  · replace h := h.2 q
    refine zx_iconst (v := (-1)) h0 dX0_admit_9 (by decide) ?_
    exact zx_iret hF hQ dX0_admit_10 h
theorem zn_X0_claimAt_58 : Cond.fieldLink RX0 58 RX0 (TX0 7).2.1 (TX0 7).2.2.1 ∈ wsX0_claimAt := List.mem_of_getElem? (i := 1) rfl
theorem zi_X0_claimAt_0 : ∀ w ∈ u_ws RX0 TX0 10, w ∈ wsX0_claimAt := fun _ h => List.mem_cons_of_mem _ (List.mem_append_right _ h)
theorem zn_X0_claimAt_34 : Cond.fieldLink RX0 34 RX0 (TX0 6).2.1 (TX0 6).2.2.1 ∈ wsX0_claimAt := List.mem_of_getElem? (i := 2) rfl
set_option maxRecDepth 100000 in
set_option maxHeartbeats 4000000 in
theorem sg_X0_claimAt_0 {C : zC} {G : zG} {Qc : Array Value → State → Outcome → State → Prop} (S : St_X0_claimAt C G Qc) {a0 : Nat} {x1 : Int32} {m : zM} (ka0 : zK G a0 = some (0, a0))
    (h : (x1 < 0 → (zRet C G Qc (some (va_rf none)) m)) ∧ (¬ x1 < 0 → (((zI m 7 a0 0) ≤ x1 → (zRet C G Qc (some (va_rf none)) m)) ∧ (¬ (zI m 7 a0 0) ≤ x1 → ((x1 < 16 → ((vp_in x1 16) ∧ (zRet C G Qc (some (va_rf (some (a0 + 11 + 7 * x1.toNatClampNeg)))) m))) ∧ (¬ x1 < 16 → (zRet C G Qc (some (va_rf none)) m))))))) : Pt_X0_claimAt_0 C G a0 x1 m := by
  obtain ⟨hF, hQ, hR⟩ := id S
  have h0 : zF0 C cX0_claimAt 2 wsX0_claimAt RX0 := hF.1
  have hL := hF.2.2.1
  unfold Pt_X0_claimAt_0
  refine zx_iload_n h0 1 dX0_claimAt_0 rfl ?_
  refine zx_if_lt (tgt := 18) h0 dX0_claimAt_1 (by decide) (fun q => ?_) (fun q => ?_)
  · replace h := h.1 q
    refine zx_null h0 dX0_claimAt_18 ?_
    refine zx_goto (tgt := 28) h0 dX0_claimAt_19 (by decide) ?_
    exact zx_aretN hF hQ dX0_claimAt_28 h
  · replace h := h.2 q
    refine zx_iload_n h0 1 dX0_claimAt_4 rfl ?_
    refine zx_aload_n h0 0 dX0_claimAt_5 rfl ?_
    refine zx_get hF ka0 (by decide) rfl zi_X0_claimAt_0 7 (by decide) zn_X0_claimAt_58 rfl rfl dX0_claimAt_6 ?_
    refine zx_icmp_ge (tgt := 18) h0 dX0_claimAt_9 (by decide) (fun q => ?_) (fun q => ?_)
    · replace h := h.1 q
      refine zx_null h0 dX0_claimAt_18 ?_
      refine zx_goto (tgt := 28) h0 dX0_claimAt_19 (by decide) ?_
      exact zx_aretN hF hQ dX0_claimAt_28 h
    · replace h := h.2 q
      refine zx_iload_n h0 1 dX0_claimAt_12 rfl ?_
      refine zx_bipush (v := 16) h0 dX0_claimAt_13 (by decide) ?_
      refine zx_icmp_lt (tgt := 22) h0 dX0_claimAt_15 (by decide) (fun q => ?_) (fun q => ?_)
      · replace h := h.1 q
        refine zx_aload_n h0 0 dX0_claimAt_22 rfl ?_
        refine zx_get hF ka0 (by decide) rfl zi_X0_claimAt_0 6 (by decide) zn_X0_claimAt_34 rfl rfl dX0_claimAt_23 ?_
        refine zx_iload_n h0 1 dX0_claimAt_26 rfl ?_
        obtain ⟨ho1, h⟩ := h
        refine zx_aaldC (j := x1.toNatClampNeg) hF (zL_0_10 hL ka0) ho1 rfl dX0_claimAt_27 ?_
        exact zx_aret hF hQ dX0_claimAt_28 h
      · replace h := h.2 q
        refine zx_null h0 dX0_claimAt_18 ?_
        refine zx_goto (tgt := 28) h0 dX0_claimAt_19 (by decide) ?_
        exact zx_aretN hF hQ dX0_claimAt_28 h
theorem zn_X0_areTwins_102 : Cond.fieldLink RX0 102 RX1 (TX1 0).2.1 (TX1 0).2.2.1 ∈ wsX0_areTwins := List.mem_of_getElem? (i := 1) rfl
theorem zi_X0_areTwins_1 : ∀ w ∈ u_ws RX1 TX1 9, w ∈ wsX0_areTwins := fun _ h => List.mem_cons_of_mem _ (List.mem_append_right _ h)
theorem zc_X0_areTwins_X1_isIn {C : zC} {G : zG} {Qc : Array Value → State → Outcome → State → Prop} (S : St_X0_areTwins C G Qc) : CallW (zRm C) (zs C) (zar C) RX0 RX1 99 yX1_isIn cX1_isIn 1 (some .boolean) wsX1_isIn rm_X1_isIn 0 0 0 := cwV 0 S.1.1.2.2.2.2 gX0_areTwins_X1_isIn rfl rfl rfl (by decide +kernel) (by rw [S.2.2]; exact ⟨Nat.le_of_ble_eq_true rfl, Nat.le_of_ble_eq_true rfl⟩)
set_option maxRecDepth 100000 in
set_option maxHeartbeats 4000000 in
theorem sg_X0_areTwins_0 {C : zC} {G : zG} {Qc : Array Value → State → Outcome → State → Prop} (S : St_X0_areTwins C G Qc) {P_X1_isIn : Nat → zM → Prop} {Q_X1_isIn : Nat → zM → Int32 → Prop} (c_X1_isIn : Con_X1_isIn (zl C) G P_X1_isIn Q_X1_isIn) {a0 : Nat} {a1 : Nat} {m : zM} (ka0 : zK G a0 = some (1, a0)) (ka1 : zK G a1 = some (1, a1))
    (h : (a0 = a1 → (zRet C G Qc (some (.int 0)) m)) ∧ (¬ a0 = a1 → ((P_X1_isIn a0 m) ∧ (∀ (r2 : Int32), Q_X1_isIn a0 m r2 → ((r2 = 0 → (zRet C G Qc (some (.int 0)) m)) ∧ (¬ r2 = 0 → ((P_X1_isIn a1 m) ∧ (∀ (r4 : Int32), Q_X1_isIn a1 m r4 → ((r4 = 0 → (zRet C G Qc (some (.int 0)) m)) ∧ (¬ r4 = 0 → ((¬ (zI m 100 a0 0) = (zI m 100 a1 0) → (zRet C G Qc (some (.int 0)) m)) ∧ ((zI m 100 a0 0) = (zI m 100 a1 0) → (zRet C G Qc (some (.int 1)) m))))))))))))) : Pt_X0_areTwins_0 C G a0 a1 m := by
  obtain ⟨hF, hQ, hR⟩ := id S
  have h0 : zF0 C cX0_areTwins 2 wsX0_areTwins RX0 := hF.1
  have hL := hF.2.2.1
  unfold Pt_X0_areTwins_0
  refine zx_aload_n h0 0 dX0_areTwins_0 rfl ?_
  refine zx_aload_n h0 1 dX0_areTwins_1 rfl ?_
  refine zx_acmp_eq (tgt := 34) h0 dX0_areTwins_2 (by decide) (fun q => ?_) (fun q => ?_)
  · replace h := h.1 q
    refine zx_iconst (v := 0) h0 dX0_areTwins_34 (by decide) ?_
    exact zx_zret hF hQ rfl dX0_areTwins_35 h
  · replace h := h.2 q
    refine zx_aload_n h0 0 dX0_areTwins_5 rfl ?_
    obtain ⟨ho1, h⟩ := h
    refine zx_callVi (As := []) (rest := []) hF (c_X1_isIn a0 m ka0 ho1) (zc_X0_areTwins_X1_isIn S) ka0 (by decide) rfl dX0_areTwins_6 rfl rfl (Nat.le_of_ble_eq_true rfl) ⟨Nat.zero_le _, Nat.zero_le _⟩ (fun r2 m2 hq => ?_)
    obtain ⟨hme, hq⟩ := hq
    subst m2
    replace h := h r2 hq
    refine zx_if_eq (tgt := 34) h0 dX0_areTwins_9 (by decide) (fun q => ?_) (fun q => ?_)
    · replace h := h.1 q
      refine zx_iconst (v := 0) h0 dX0_areTwins_34 (by decide) ?_
      exact zx_zret hF hQ rfl dX0_areTwins_35 h
    · replace h := h.2 q
      refine zx_aload_n h0 1 dX0_areTwins_12 rfl ?_
      obtain ⟨ho3, h⟩ := h
      refine zx_callVi (As := []) (rest := []) hF (c_X1_isIn a1 m ka1 ho3) (zc_X0_areTwins_X1_isIn S) ka1 (by decide) rfl dX0_areTwins_13 rfl rfl (Nat.le_of_ble_eq_true rfl) ⟨Nat.zero_le _, Nat.zero_le _⟩ (fun r4 m4 hq => ?_)
      obtain ⟨hme, hq⟩ := hq
      subst m4
      replace h := h r4 hq
      refine zx_if_eq (tgt := 34) h0 dX0_areTwins_16 (by decide) (fun q => ?_) (fun q => ?_)
      · replace h := h.1 q
        refine zx_iconst (v := 0) h0 dX0_areTwins_34 (by decide) ?_
        exact zx_zret hF hQ rfl dX0_areTwins_35 h
      · replace h := h.2 q
        refine zx_aload_n h0 0 dX0_areTwins_19 rfl ?_
        refine zx_get hF ka0 (by decide) rfl zi_X0_areTwins_1 0 (by decide) zn_X0_areTwins_102 rfl rfl dX0_areTwins_20 ?_
        refine zx_aload_n h0 1 dX0_areTwins_23 rfl ?_
        refine zx_get hF ka1 (by decide) rfl zi_X0_areTwins_1 0 (by decide) zn_X0_areTwins_102 rfl rfl dX0_areTwins_24 ?_
        refine zx_icmp_ne (tgt := 34) h0 dX0_areTwins_27 (by decide) (fun q => ?_) (fun q => ?_)
        · replace h := h.1 q
          refine zx_iconst (v := 0) h0 dX0_areTwins_34 (by decide) ?_
          exact zx_zret hF hQ rfl dX0_areTwins_35 h
        · replace h := h.2 q
          refine zx_iconst (v := 1) h0 dX0_areTwins_30 (by decide) ?_
          refine zx_goto (tgt := 35) h0 dX0_areTwins_31 (by decide) ?_
          exact zx_zret hF hQ rfl dX0_areTwins_35 h
theorem zn_X0_hasJudgedTwin_34 : Cond.fieldLink RX0 34 RX0 (TX0 6).2.1 (TX0 6).2.2.1 ∈ wsX0_hasJudgedTwin := List.mem_of_getElem? (i := 1) rfl
theorem zi_X0_hasJudgedTwin_0 : ∀ w ∈ u_ws RX0 TX0 10, w ∈ wsX0_hasJudgedTwin := fun _ h => List.mem_cons_of_mem _ (List.mem_append_left _ (List.mem_append_right _ h))
theorem zn_X0_hasJudgedTwin_83 : Cond.fieldLink RX0 83 RX1 (TX1 5).2.1 (TX1 5).2.2.1 ∈ wsX0_hasJudgedTwin := List.mem_of_getElem? (i := 2) rfl
theorem zi_X0_hasJudgedTwin_1 : ∀ w ∈ u_ws RX1 TX1 9, w ∈ wsX0_hasJudgedTwin := fun _ h => List.mem_cons_of_mem _ (List.mem_append_right _ h)
theorem zc_X0_hasJudgedTwin_X0_areTwins {C : zC} {G : zG} {Qc : Array Value → State → Outcome → State → Prop} (S : St_X0_hasJudgedTwin C G Qc) : CallB (zRm C) (zs C) (zar C) RX0 95 yX0_areTwins cX0_areTwins 2 (some .boolean) wsX0_areTwins rm_X0_areTwins 0 0 2 ∧ (Cond.static yX0_areTwins).before (zar C) (zs C) = true := cwS 2 S.1.1.2.2.2.2 gX0_hasJudgedTwin_X0_areTwins rfl rfl rfl (by decide +kernel) (by rw [S.2.2]; exact ⟨Nat.le_of_ble_eq_true rfl, Nat.le_of_ble_eq_true rfl⟩)
set_option maxRecDepth 100000 in
set_option maxHeartbeats 4000000 in
theorem sg_X0_hasJudgedTwin_0 {C : zC} {G : zG} {Qc : Array Value → State → Outcome → State → Prop} (S : St_X0_hasJudgedTwin C G Qc) {a0 : Nat} {a1 : Nat} {m : zM} (ka0 : zK G a0 = some (0, a0)) (ka1 : zK G a1 = some (1, a1))
    (h : Pt_X0_hasJudgedTwin_11 C G a1 0 a0 m) : Pt_X0_hasJudgedTwin_0 C G a0 a1 m := by
  obtain ⟨hF, hQ, hR⟩ := id S
  have h0 : zF0 C cX0_hasJudgedTwin 6 wsX0_hasJudgedTwin RX0 := hF.1
  have hL := hF.2.2.1
  unfold Pt_X0_hasJudgedTwin_0
  refine zx_aload_n h0 0 dX0_hasJudgedTwin_0 rfl ?_
  refine zx_get hF ka0 (by decide) rfl zi_X0_hasJudgedTwin_0 6 (by decide) zn_X0_hasJudgedTwin_34 rfl rfl dX0_hasJudgedTwin_1 ?_
  refine zx_astore_n (L' := [(2, .ref (a0 + 10)), (0, .ref a0), (1, .ref a1)]) h0 dX0_hasJudgedTwin_4 (by decide) rfl ?_
  refine zx_aload_n h0 0 dX0_hasJudgedTwin_5 rfl ?_
  refine zx_alen (v := 16) hF (zL_0_10 hL ka0) (by decide) rfl (by decide) rfl rfl dX0_hasJudgedTwin_6 ?_
  refine zx_istore_n (L' := [(3, .int 16), (2, .ref (a0 + 10)), (0, .ref a0), (1, .ref a1)]) h0 dX0_hasJudgedTwin_7 (by decide) rfl ?_
  refine zx_iconst (v := 0) h0 dX0_hasJudgedTwin_8 (by decide) ?_
  refine zx_istore (L' := [(4, .int 0), (3, .int 16), (2, .ref (a0 + 10)), (0, .ref a0), (1, .ref a1)]) h0 dX0_hasJudgedTwin_9 (by decide) rfl ?_
  exact zx_sub [4, 2, 1, 0] rfl h
set_option maxRecDepth 100000 in
set_option maxHeartbeats 4000000 in
theorem sg_X0_hasJudgedTwin_11 {C : zC} {G : zG} {Qc : Array Value → State → Outcome → State → Prop} (S : St_X0_hasJudgedTwin C G Qc) {P_X0_areTwins : Nat → Nat → zM → Prop} {Q_X0_areTwins : Nat → Nat → zM → Int32 → Prop} (c_X0_areTwins : Con_X0_areTwins (zl C) G P_X0_areTwins Q_X0_areTwins) {a1 : Nat} {x4 : Int32} {a0 : Nat} {m : zM} (ka1 : zK G a1 = some (1, a1)) (ka0 : zK G a0 = some (0, a0))
    (h : (16 ≤ x4 → (zRet C G Qc (some (.int 0)) m)) ∧ (¬ 16 ≤ x4 → ((vp_in x4 16) ∧ ((¬ (zI m 105 (a0 + 11 + 7 * x4.toNatClampNeg) 0) = 1 → (Pt_X0_hasJudgedTwin_11 C G a1 (x4 + 1) a0 m)) ∧ ((zI m 105 (a0 + 11 + 7 * x4.toNatClampNeg) 0) = 1 → ((P_X0_areTwins a1 (a0 + 11 + 7 * x4.toNatClampNeg) m) ∧ (∀ (r3 : Int32), Q_X0_areTwins a1 (a0 + 11 + 7 * x4.toNatClampNeg) m r3 → ((r3 = 0 → (Pt_X0_hasJudgedTwin_11 C G a1 (x4 + 1) a0 m)) ∧ (¬ r3 = 0 → (zRet C G Qc (some (.int 1)) m)))))))))) : Pt_X0_hasJudgedTwin_11 C G a1 x4 a0 m := by
  obtain ⟨hF, hQ, hR⟩ := id S
  have h0 : zF0 C cX0_hasJudgedTwin 6 wsX0_hasJudgedTwin RX0 := hF.1
  have hL := hF.2.2.1
  unfold Pt_X0_hasJudgedTwin_11
  refine zx_iload h0 3 dX0_hasJudgedTwin_11 rfl ?_
  refine zx_iload_n h0 2 dX0_hasJudgedTwin_13 rfl ?_
  refine zx_icmp_ge (tgt := 49) h0 dX0_hasJudgedTwin_14 (by decide) (fun q => ?_) (fun q => ?_)
  · replace h := h.1 q
    refine zx_iconst (v := 0) h0 dX0_hasJudgedTwin_49 (by decide) ?_
    exact zx_zret hF hQ rfl dX0_hasJudgedTwin_50 h
  · replace h := h.2 q
    refine zx_aload_n h0 1 dX0_hasJudgedTwin_17 rfl ?_
    refine zx_iload h0 3 dX0_hasJudgedTwin_18 rfl ?_
    obtain ⟨ho1, h⟩ := h
    refine zx_aaldC (j := x4.toNatClampNeg) hF (zL_0_10 hL ka0) ho1 rfl dX0_hasJudgedTwin_20 ?_
    refine zx_astore (L' := [(5, .ref (a0 + 11 + 7 * x4.toNatClampNeg)), (1, .ref a1), (2, .ref (a0 + 10)), (3, .int 16), (4, .int x4)]) h0 dX0_hasJudgedTwin_21 (by decide) rfl ?_
    refine zx_aload h0 0 dX0_hasJudgedTwin_23 rfl ?_
    refine zx_get hF (zL_claim hL ka0 (z_inlt ho1)) (by decide) rfl zi_X0_hasJudgedTwin_1 5 (by decide) zn_X0_hasJudgedTwin_83 rfl rfl dX0_hasJudgedTwin_25 ?_
    refine zx_iconst (v := 1) h0 dX0_hasJudgedTwin_28 (by decide) ?_
    refine zx_icmp_ne (tgt := 43) h0 dX0_hasJudgedTwin_29 (by decide) (fun q => ?_) (fun q => ?_)
    · replace h := h.1 q
      refine zx_iinc (v := (x4 + 1)) (L' := [(4, .int (x4 + 1)), (5, .ref (a0 + 11 + 7 * x4.toNatClampNeg)), (1, .ref a1), (2, .ref (a0 + 10)), (3, .int 16)]) h0 4 dX0_hasJudgedTwin_43 rfl rfl (by decide) rfl ?_
      refine zx_goto (tgt := 11) h0 dX0_hasJudgedTwin_46 (by decide) ?_
      exact zx_sub [2, 3, 4, 0] rfl h
    · replace h := h.2 q
      refine zx_aload_n h0 1 dX0_hasJudgedTwin_32 rfl ?_
      refine zx_aload h0 0 dX0_hasJudgedTwin_33 rfl ?_
      obtain ⟨ho2, h⟩ := h
      refine zx_callSi (As := [.ref a1, .ref (a0 + 11 + 7 * x4.toNatClampNeg)]) (rest := []) hF (c_X0_areTwins a1 (a0 + 11 + 7 * x4.toNatClampNeg) m ka1 (zL_claim hL ka0 (z_inlt ho1)) ho2) (zc_X0_hasJudgedTwin_X0_areTwins S)  dX0_hasJudgedTwin_35 rfl rfl (Nat.le_of_ble_eq_true rfl) ⟨Nat.zero_le _, Nat.zero_le _⟩ (fun r3 m3 hq => ?_)
      obtain ⟨hme, hq⟩ := hq
      subst m3
      replace h := h r3 hq
      refine zx_if_eq (tgt := 43) h0 dX0_hasJudgedTwin_38 (by decide) (fun q => ?_) (fun q => ?_)
      · replace h := h.1 q
        refine zx_iinc (v := (x4 + 1)) (L' := [(4, .int (x4 + 1)), (5, .ref (a0 + 11 + 7 * x4.toNatClampNeg)), (1, .ref a1), (2, .ref (a0 + 10)), (3, .int 16)]) h0 4 dX0_hasJudgedTwin_43 rfl rfl (by decide) rfl ?_
        refine zx_goto (tgt := 11) h0 dX0_hasJudgedTwin_46 (by decide) ?_
        exact zx_sub [2, 3, 4, 0] rfl h
      · replace h := h.2 q
        refine zx_iconst (v := 1) h0 dX0_hasJudgedTwin_41 (by decide) ?_
        exact zx_zret hF hQ rfl dX0_hasJudgedTwin_42 h
theorem zn_X0_sendOut_83 : Cond.fieldLink RX0 83 RX1 (TX1 5).2.1 (TX1 5).2.2.1 ∈ wsX0_sendOut := List.mem_of_getElem? (i := 1) rfl
theorem zi_X0_sendOut_1 : ∀ w ∈ u_ws RX1 TX1 9, w ∈ wsX0_sendOut := fun _ h => List.mem_cons_of_mem _ (List.mem_append_left _ (List.mem_append_right _ h))
theorem zn_X0_sendOut_86 : Cond.fieldLink RX0 86 RX1 (TX1 8).2.1 (TX1 8).2.2.1 ∈ wsX0_sendOut := List.mem_of_getElem? (i := 2) rfl
theorem zn_X0_sendOut_90 : Cond.fieldLink RX0 90 RX3 (TX3 3).2.1 (TX3 3).2.2.1 ∈ wsX0_sendOut := List.mem_of_getElem? (i := 3) rfl
theorem zi_X0_sendOut_3 : ∀ w ∈ u_ws RX3 TX3 11, w ∈ wsX0_sendOut := fun _ h => List.mem_cons_of_mem _ (List.mem_append_right _ h)
theorem zc_X0_sendOut_X1_settle {C : zC} {G : zG} {Qc : Array Value → State → Outcome → State → Prop} (S : St_X0_sendOut C G Qc) : CallW (zRm C) (zs C) (zar C) RX0 RX1 79 yX1_settle cX1_settle 3 none wsX1_settle rm_X1_settle 0 0 2 := cwV 2 S.1.1.2.2.2.2 gX0_sendOut_X1_settle rfl rfl rfl (by decide +kernel) (by rw [S.2.2]; exact ⟨Nat.le_of_ble_eq_true rfl, Nat.le_of_ble_eq_true rfl⟩)
set_option maxRecDepth 100000 in
set_option maxHeartbeats 4000000 in
theorem sg_X0_sendOut_0 {C : zC} {G : zG} {Qc : Array Value → State → Outcome → State → Prop} (S : St_X0_sendOut C G Qc) {P_X1_settle : Nat → Int32 → Int32 → zM → Prop} {Q_X1_settle : Nat → Int32 → Int32 → zM → zM → Prop} (c_X1_settle : Con_X1_settle (zl C) G P_X1_settle Q_X1_settle) {a0 : Nat} {a1 : Nat} {m : zM} (ka0 : zK G a0 = some (0, a0)) (ka1 : zK G a1 = some (1, a1))
    (h : ((zI m 105 a1 0) = 2 → (zRet C G Qc (some (.int 0)) m)) ∧ (¬ (zI m 105 a1 0) = 2 → (((zJ m 303 (a1 + 1) 0) ≤ 0 → ((P_X1_settle a1 2 0 m) ∧ (∀ (m2 : zM), Q_X1_settle a1 2 0 m m2 → (zRet C G Qc (some (.int 1)) m2)))) ∧ (¬ (zJ m 303 (a1 + 1) 0) ≤ 0 → (zRet C G Qc (some (.int 0)) m))))) : Pt_X0_sendOut_0 C G a0 a1 m := by
  obtain ⟨hF, hQ, hR⟩ := id S
  have h0 : zF0 C cX0_sendOut 2 wsX0_sendOut RX0 := hF.1
  have hL := hF.2.2.1
  unfold Pt_X0_sendOut_0
  refine zx_aload_n h0 1 dX0_sendOut_0 rfl ?_
  refine zx_get hF ka1 (by decide) rfl zi_X0_sendOut_1 5 (by decide) zn_X0_sendOut_83 rfl rfl dX0_sendOut_1 ?_
  refine zx_iconst (v := 2) h0 dX0_sendOut_4 (by decide) ?_
  refine zx_icmp_eq (tgt := 20) h0 dX0_sendOut_5 (by decide) (fun q => ?_) (fun q => ?_)
  · replace h := h.1 q
    refine zx_iconst (v := 0) h0 dX0_sendOut_20 (by decide) ?_
    exact zx_zret hF hQ rfl dX0_sendOut_21 h
  · replace h := h.2 q
    refine zx_aload_n h0 1 dX0_sendOut_8 rfl ?_
    refine zx_get hF ka1 (by decide) rfl zi_X0_sendOut_1 8 (by decide) zn_X0_sendOut_86 rfl rfl dX0_sendOut_9 ?_
    refine zx_get hF (zL_1_1 hL ka1) (by decide) rfl zi_X0_sendOut_3 3 (by decide) zn_X0_sendOut_90 rfl rfl dX0_sendOut_12 ?_
    refine zx_lconst (v := 0) h0 dX0_sendOut_15 (by decide) ?_
    refine zx_lcmp_le (tgt := 22) h0 dX0_sendOut_16 dX0_sendOut_17 (by decide) (fun q => ?_) (fun q => ?_)
    · replace h := h.1 q
      refine zx_aload_n h0 1 dX0_sendOut_22 rfl ?_
      refine zx_iconst (v := 2) h0 dX0_sendOut_23 (by decide) ?_
      refine zx_iconst (v := 0) h0 dX0_sendOut_24 (by decide) ?_
      obtain ⟨ho1, h⟩ := h
      refine zx_callVv (As := [.int 2, .int 0]) (rest := []) hF (c_X1_settle a1 2 0 m ka1 ho1) (zc_X0_sendOut_X1_settle S) ka1 (by decide) rfl dX0_sendOut_25 rfl rfl (Nat.le_of_ble_eq_true rfl) ⟨Nat.zero_le _, Nat.zero_le _⟩ (fun m2 hq => ?_)
      replace h := h m2 hq
      refine zx_iconst (v := 1) h0 dX0_sendOut_28 (by decide) ?_
      exact zx_zret hF hQ rfl dX0_sendOut_29 h
    · replace h := h.2 q
      refine zx_iconst (v := 0) h0 dX0_sendOut_20 (by decide) ?_
      exact zx_zret hF hQ rfl dX0_sendOut_21 h
theorem zn_X0_takeBack_83 : Cond.fieldLink RX0 83 RX1 (TX1 5).2.1 (TX1 5).2.2.1 ∈ wsX0_takeBack := List.mem_of_getElem? (i := 1) rfl
theorem zi_X0_takeBack_1 : ∀ w ∈ u_ws RX1 TX1 9, w ∈ wsX0_takeBack := fun _ h => List.mem_cons_of_mem _ (List.mem_append_left _ (List.mem_append_left _ (List.mem_append_left _ (List.mem_append_right _ h))))
theorem zn_X0_takeBack_24 : Cond.fieldLink RX0 24 RX0 (TX0 3).2.1 (TX0 3).2.2.1 ∈ wsX0_takeBack := List.mem_of_getElem? (i := 2) rfl
theorem zi_X0_takeBack_0 : ∀ w ∈ u_ws RX0 TX0 10, w ∈ wsX0_takeBack := fun _ h => List.mem_cons_of_mem _ (List.mem_append_left _ (List.mem_append_left _ (List.mem_append_right _ h)))
theorem zc_X0_takeBack_X1_measure {C : zC} {G : zG} {Qc : Array Value → State → Outcome → State → Prop} (S : St_X0_takeBack C G Qc) : CallW (zRm C) (zs C) (zar C) RX0 RX1 68 yX1_measure cX1_measure 4 none wsX1_measure rm_X1_measure 0 0 1 := cwV 1 S.1.1.2.2.2.2 gX0_takeBack_X1_measure rfl rfl rfl (by decide +kernel) (by rw [S.2.2]; exact ⟨Nat.le_of_ble_eq_true rfl, Nat.le_of_ble_eq_true rfl⟩)
theorem zc_X0_takeBack_X0_holds {C : zC} {G : zG} {Qc : Array Value → State → Outcome → State → Prop} (S : St_X0_takeBack C G Qc) : CallW (zRm C) (zs C) (zar C) RX0 RX0 75 yX0_holds cX0_holds 7 (some .boolean) wsX0_holds rm_X0_holds 0 0 0 := cwV 0 S.1.1.2.2.2.2 gX0_takeBack_X0_holds rfl rfl rfl (by decide +kernel) (by rw [S.2.2]; exact ⟨Nat.le_of_ble_eq_true rfl, Nat.le_of_ble_eq_true rfl⟩)
theorem zc_X0_takeBack_X1_settle {C : zC} {G : zG} {Qc : Array Value → State → Outcome → State → Prop} (S : St_X0_takeBack C G Qc) : CallW (zRm C) (zs C) (zar C) RX0 RX1 79 yX1_settle cX1_settle 3 none wsX1_settle rm_X1_settle 0 0 2 := cwV 2 S.1.1.2.2.2.2 gX0_takeBack_X1_settle rfl rfl rfl (by decide +kernel) (by rw [S.2.2]; exact ⟨Nat.le_of_ble_eq_true rfl, Nat.le_of_ble_eq_true rfl⟩)
set_option maxRecDepth 100000 in
set_option maxHeartbeats 4000000 in
theorem sg_X0_takeBack_0 {C : zC} {G : zG} {Qc : Array Value → State → Outcome → State → Prop} (S : St_X0_takeBack C G Qc) {P_X1_measure : Nat → Nat → zM → Prop} {Q_X1_measure : Nat → Nat → zM → zM → Prop} (c_X1_measure : Con_X1_measure (zl C) G P_X1_measure Q_X1_measure) {P_X0_holds : Nat → zM → Prop} {Q_X0_holds : Nat → zM → Int32 → Prop} (c_X0_holds : Con_X0_holds (zl C) G P_X0_holds Q_X0_holds) {P_X1_settle : Nat → Int32 → Int32 → zM → Prop} {Q_X1_settle : Nat → Int32 → Int32 → zM → zM → Prop} (c_X1_settle : Con_X1_settle (zl C) G P_X1_settle Q_X1_settle) {a0 : Nat} {a1 : Nat} {m : zM} (ka0 : zK G a0 = some (0, a0)) (ka1 : zK G a1 = some (1, a1))
    (h : ((zI m 105 a1 0) = 2 → ((P_X1_measure a1 (zR m 3 a0) (zsI m 105 a1 0 0)) ∧ (∀ (m3 : zM), Q_X1_measure a1 (zR m 3 a0) (zsI m 105 a1 0 0) m3 → ((P_X0_holds a0 m3) ∧ (∀ (r5 : Int32), Q_X0_holds a0 m3 r5 → ((¬ r5 = 0 → (zRet C G Qc (some (.int 1)) m3)) ∧ (r5 = 0 → ((P_X1_settle a1 2 0 m3) ∧ (∀ (m7 : zM), Q_X1_settle a1 2 0 m3 m7 → (zRet C G Qc (some (.int 0)) m7)))))))))) ∧ (¬ (zI m 105 a1 0) = 2 → (zRet C G Qc (some (.int 0)) m))) : Pt_X0_takeBack_0 C G a0 a1 m := by
  obtain ⟨hF, hQ, hR⟩ := id S
  have h0 : zF0 C cX0_takeBack 2 wsX0_takeBack RX0 := hF.1
  have hL := hF.2.2.1
  unfold Pt_X0_takeBack_0
  refine zx_aload_n h0 1 dX0_takeBack_0 rfl ?_
  refine zx_get hF ka1 (by decide) rfl zi_X0_takeBack_1 5 (by decide) zn_X0_takeBack_83 rfl rfl dX0_takeBack_1 ?_
  refine zx_iconst (v := 2) h0 dX0_takeBack_4 (by decide) ?_
  refine zx_icmp_eq (tgt := 10) h0 dX0_takeBack_5 (by decide) (fun q => ?_) (fun q => ?_)
  · replace h := h.1 q
    refine zx_aload_n h0 1 dX0_takeBack_10 rfl ?_
    refine zx_iconst (v := 0) h0 dX0_takeBack_11 (by decide) ?_
    refine zp_105 hF ka1 zi_X0_takeBack_1 zn_X0_takeBack_83 dX0_takeBack_12 ?_
    refine zx_aload_n h0 1 dX0_takeBack_15 rfl ?_
    refine zx_aload_n h0 0 dX0_takeBack_16 rfl ?_
    refine zx_wt (fun hw1 => ?_)
    refine zx_get hF ka0 (by decide) rfl zi_X0_takeBack_0 3 (by decide) zn_X0_takeBack_24 rfl rfl dX0_takeBack_17 ?_
    refine zx_topR (zR_I) ?_
    obtain ⟨ho2, h⟩ := h
    refine zx_callVv (As := [.ref (zR m 3 a0)]) (rest := []) hF (c_X1_measure a1 (zR m 3 a0) (zsI m 105 a1 0 0) ka1 (show zK G (zR m 3 a0) = some (2, (zR m 3 a0)) from (hw1.2.1 _ ka0)) ho2) (zc_X0_takeBack_X1_measure S) ka1 (by decide) rfl dX0_takeBack_20 rfl rfl (Nat.le_of_ble_eq_true rfl) ⟨Nat.zero_le _, Nat.zero_le _⟩ (fun m3 hq => ?_)
    replace h := h m3 hq
    refine zx_aload_n h0 0 dX0_takeBack_23 rfl ?_
    obtain ⟨ho4, h⟩ := h
    refine zx_callVi (As := []) (rest := []) hF (c_X0_holds a0 m3 ka0 ho4) (zc_X0_takeBack_X0_holds S) ka0 (by decide) rfl dX0_takeBack_24 rfl rfl (Nat.le_of_ble_eq_true rfl) ⟨Nat.zero_le _, Nat.zero_le _⟩ (fun r5 m5 hq => ?_)
    obtain ⟨hme, hq⟩ := hq
    subst m5
    replace h := h r5 hq
    refine zx_if_ne (tgt := 38) h0 dX0_takeBack_27 (by decide) (fun q => ?_) (fun q => ?_)
    · replace h := h.1 q
      refine zx_iconst (v := 1) h0 dX0_takeBack_38 (by decide) ?_
      exact zx_zret hF hQ rfl dX0_takeBack_39 h
    · replace h := h.2 q
      refine zx_aload_n h0 1 dX0_takeBack_30 rfl ?_
      refine zx_iconst (v := 2) h0 dX0_takeBack_31 (by decide) ?_
      refine zx_iconst (v := 0) h0 dX0_takeBack_32 (by decide) ?_
      obtain ⟨ho6, h⟩ := h
      refine zx_callVv (As := [.int 2, .int 0]) (rest := []) hF (c_X1_settle a1 2 0 m3 ka1 ho6) (zc_X0_takeBack_X1_settle S) ka1 (by decide) rfl dX0_takeBack_33 rfl rfl (Nat.le_of_ble_eq_true rfl) ⟨Nat.zero_le _, Nat.zero_le _⟩ (fun m7 hq => ?_)
      replace h := h m7 hq
      refine zx_iconst (v := 0) h0 dX0_takeBack_36 (by decide) ?_
      exact zx_zret hF hQ rfl dX0_takeBack_37 h
  · replace h := h.2 q
    refine zx_iconst (v := 0) h0 dX0_takeBack_8 (by decide) ?_
    exact zx_zret hF hQ rfl dX0_takeBack_9 h
theorem zn_X0_twinsOf_34 : Cond.fieldLink RX0 34 RX0 (TX0 6).2.1 (TX0 6).2.2.1 ∈ wsX0_twinsOf := List.mem_of_getElem? (i := 1) rfl
theorem zi_X0_twinsOf_0 : ∀ w ∈ u_ws RX0 TX0 10, w ∈ wsX0_twinsOf := fun _ h => List.mem_cons_of_mem _ (List.mem_append_left _ (List.mem_append_right _ h))
theorem zc_X0_twinsOf_X0_areTwins {C : zC} {G : zG} {Qc : Array Value → State → Outcome → State → Prop} (S : St_X0_twinsOf C G Qc) : CallB (zRm C) (zs C) (zar C) RX0 95 yX0_areTwins cX0_areTwins 2 (some .boolean) wsX0_areTwins rm_X0_areTwins 0 0 2 ∧ (Cond.static yX0_areTwins).before (zar C) (zs C) = true := cwS 2 S.1.1.2.2.2.2 gX0_twinsOf_X0_areTwins rfl rfl rfl (by decide +kernel) (by rw [S.2.2]; exact ⟨Nat.le_of_ble_eq_true rfl, Nat.le_of_ble_eq_true rfl⟩)
set_option maxRecDepth 100000 in
set_option maxHeartbeats 4000000 in
theorem sg_X0_twinsOf_0 {C : zC} {G : zG} {Qc : Array Value → State → Outcome → State → Prop} (S : St_X0_twinsOf C G Qc) {a0 : Nat} {a1 : Nat} {m : zM} (ka0 : zK G a0 = some (0, a0)) (ka1 : zK G a1 = some (1, a1))
    (h : Pt_X0_twinsOf_14 C G a1 0 0 a0 m) : Pt_X0_twinsOf_0 C G a0 a1 m := by
  obtain ⟨hF, hQ, hR⟩ := id S
  have h0 : zF0 C cX0_twinsOf 7 wsX0_twinsOf RX0 := hF.1
  have hL := hF.2.2.1
  unfold Pt_X0_twinsOf_0
  refine zx_iconst (v := 0) h0 dX0_twinsOf_0 (by decide) ?_
  refine zx_istore_n (L' := [(2, .int 0), (0, .ref a0), (1, .ref a1)]) h0 dX0_twinsOf_1 (by decide) rfl ?_
  refine zx_aload_n h0 1 dX0_twinsOf_2 rfl ?_
  refine zx_get hF ka0 (by decide) rfl zi_X0_twinsOf_0 6 (by decide) zn_X0_twinsOf_34 rfl rfl dX0_twinsOf_3 ?_
  refine zx_astore_n (L' := [(3, .ref (a0 + 10)), (2, .int 0), (0, .ref a0), (1, .ref a1)]) h0 dX0_twinsOf_6 (by decide) rfl ?_
  refine zx_aload_n h0 0 dX0_twinsOf_7 rfl ?_
  refine zx_alen (v := 16) hF (zL_0_10 hL ka0) (by decide) rfl (by decide) rfl rfl dX0_twinsOf_8 ?_
  refine zx_istore (L' := [(4, .int 16), (3, .ref (a0 + 10)), (2, .int 0), (0, .ref a0), (1, .ref a1)]) h0 dX0_twinsOf_9 (by decide) rfl ?_
  refine zx_iconst (v := 0) h0 dX0_twinsOf_11 (by decide) ?_
  refine zx_istore (L' := [(5, .int 0), (4, .int 16), (3, .ref (a0 + 10)), (2, .int 0), (0, .ref a0), (1, .ref a1)]) h0 dX0_twinsOf_12 (by decide) rfl ?_
  exact zx_sub [5, 3, 2, 1, 0] rfl h
set_option maxRecDepth 100000 in
set_option maxHeartbeats 4000000 in
theorem sg_X0_twinsOf_14 {C : zC} {G : zG} {Qc : Array Value → State → Outcome → State → Prop} (S : St_X0_twinsOf C G Qc) {P_X0_areTwins : Nat → Nat → zM → Prop} {Q_X0_areTwins : Nat → Nat → zM → Int32 → Prop} (c_X0_areTwins : Con_X0_areTwins (zl C) G P_X0_areTwins Q_X0_areTwins) {a1 : Nat} {x2 : Int32} {x5 : Int32} {a0 : Nat} {m : zM} (ka1 : zK G a1 = some (1, a1)) (ka0 : zK G a0 = some (0, a0))
    (h : (16 ≤ x5 → (zRet C G Qc (some (.int x2)) m)) ∧ (¬ 16 ≤ x5 → ((vp_in x5 16) ∧ ((P_X0_areTwins a1 (a0 + 11 + 7 * x5.toNatClampNeg) m) ∧ (∀ (r3 : Int32), Q_X0_areTwins a1 (a0 + 11 + 7 * x5.toNatClampNeg) m r3 → ((r3 = 0 → (Pt_X0_twinsOf_14 C G a1 x2 (x5 + 1) a0 m)) ∧ (¬ r3 = 0 → (Pt_X0_twinsOf_14 C G a1 (x2 + 1) (x5 + 1) a0 m)))))))) : Pt_X0_twinsOf_14 C G a1 x2 x5 a0 m := by
  obtain ⟨hF, hQ, hR⟩ := id S
  have h0 : zF0 C cX0_twinsOf 7 wsX0_twinsOf RX0 := hF.1
  have hL := hF.2.2.1
  unfold Pt_X0_twinsOf_14
  refine zx_iload h0 4 dX0_twinsOf_14 rfl ?_
  refine zx_iload h0 3 dX0_twinsOf_16 rfl ?_
  refine zx_icmp_ge (tgt := 45) h0 dX0_twinsOf_18 (by decide) (fun q => ?_) (fun q => ?_)
  · replace h := h.1 q
    refine zx_iload_n h0 1 dX0_twinsOf_45 rfl ?_
    exact zx_iret hF hQ dX0_twinsOf_46 h
  · replace h := h.2 q
    refine zx_aload_n h0 2 dX0_twinsOf_21 rfl ?_
    refine zx_iload h0 4 dX0_twinsOf_22 rfl ?_
    obtain ⟨ho1, h⟩ := h
    refine zx_aaldC (j := x5.toNatClampNeg) hF (zL_0_10 hL ka0) ho1 rfl dX0_twinsOf_24 ?_
    refine zx_astore (L' := [(6, .ref (a0 + 11 + 7 * x5.toNatClampNeg)), (1, .ref a1), (2, .int x2), (3, .ref (a0 + 10)), (4, .int 16), (5, .int x5)]) h0 dX0_twinsOf_25 (by decide) rfl ?_
    refine zx_aload_n h0 1 dX0_twinsOf_27 rfl ?_
    refine zx_aload h0 0 dX0_twinsOf_28 rfl ?_
    obtain ⟨ho2, h⟩ := h
    refine zx_callSi (As := [.ref a1, .ref (a0 + 11 + 7 * x5.toNatClampNeg)]) (rest := []) hF (c_X0_areTwins a1 (a0 + 11 + 7 * x5.toNatClampNeg) m ka1 (zL_claim hL ka0 (z_inlt ho1)) ho2) (zc_X0_twinsOf_X0_areTwins S)  dX0_twinsOf_30 rfl rfl (Nat.le_of_ble_eq_true rfl) ⟨Nat.zero_le _, Nat.zero_le _⟩ (fun r3 m3 hq => ?_)
    obtain ⟨hme, hq⟩ := hq
    subst m3
    replace h := h r3 hq
    refine zx_if_eq (tgt := 39) h0 dX0_twinsOf_33 (by decide) (fun q => ?_) (fun q => ?_)
    · replace h := h.1 q
      refine zx_iinc (v := (x5 + 1)) (L' := [(5, .int (x5 + 1)), (6, .ref (a0 + 11 + 7 * x5.toNatClampNeg)), (1, .ref a1), (2, .int x2), (3, .ref (a0 + 10)), (4, .int 16)]) h0 5 dX0_twinsOf_39 rfl rfl (by decide) rfl ?_
      refine zx_goto (tgt := 14) h0 dX0_twinsOf_42 (by decide) ?_
      exact zx_sub [2, 3, 4, 5, 0] rfl h
    · replace h := h.2 q
      refine zx_iinc (v := (x2 + 1)) (L' := [(2, .int (x2 + 1)), (6, .ref (a0 + 11 + 7 * x5.toNatClampNeg)), (1, .ref a1), (3, .ref (a0 + 10)), (4, .int 16), (5, .int x5)]) h0 2 dX0_twinsOf_36 rfl rfl (by decide) rfl ?_
      refine zx_iinc (v := (x5 + 1)) (L' := [(5, .int (x5 + 1)), (2, .int (x2 + 1)), (6, .ref (a0 + 11 + 7 * x5.toNatClampNeg)), (1, .ref a1), (3, .ref (a0 + 10)), (4, .int 16)]) h0 5 dX0_twinsOf_39 rfl rfl (by decide) rfl ?_
      refine zx_goto (tgt := 14) h0 dX0_twinsOf_42 (by decide) ?_
      exact zx_sub [3, 1, 4, 5, 0] rfl h
theorem zn_X0_worstOf_108 : Cond.fieldLink RX0 108 RX1 (TX1 6).2.1 (TX1 6).2.2.1 ∈ wsX0_worstOf := List.mem_of_getElem? (i := 1) rfl
theorem zi_X0_worstOf_1 : ∀ w ∈ u_ws RX1 TX1 9, w ∈ wsX0_worstOf := fun _ h => List.mem_cons_of_mem _ (List.mem_append_left _ (List.mem_append_right _ h))
theorem zc_X0_worstOf_X0_mostInAll {C : zC} {G : zG} {Qc : Array Value → State → Outcome → State → Prop} (S : St_X0_worstOf C G Qc) : CallW (zRm C) (zs C) (zar C) RX0 RX0 111 yX0_mostInAll cX0_mostInAll 7 (some .long) wsX0_mostInAll rm_X0_mostInAll 0 0 0 := cwV 0 S.1.1.2.2.2.2 gX0_worstOf_X0_mostInAll rfl rfl rfl (by decide +kernel) (by rw [S.2.2]; exact ⟨Nat.le_of_ble_eq_true rfl, Nat.le_of_ble_eq_true rfl⟩)
theorem zc_X0_worstOf_X0_shareOf {C : zC} {G : zG} {Qc : Array Value → State → Outcome → State → Prop} (S : St_X0_worstOf C G Qc) : CallW (zRm C) (zs C) (zar C) RX0 RX0 115 yX0_shareOf cX0_shareOf 4 (some .long) wsX0_shareOf rm_X0_shareOf 0 0 2 := cwV 2 S.1.1.2.2.2.2 gX0_worstOf_X0_shareOf rfl rfl rfl (by decide +kernel) (by rw [S.2.2]; exact ⟨Nat.le_of_ble_eq_true rfl, Nat.le_of_ble_eq_true rfl⟩)
set_option maxRecDepth 100000 in
set_option maxHeartbeats 4000000 in
theorem sg_X0_worstOf_0 {C : zC} {G : zG} {Qc : Array Value → State → Outcome → State → Prop} (S : St_X0_worstOf C G Qc) {P_X0_mostInAll : Nat → zM → Prop} {Q_X0_mostInAll : Nat → zM → Int64 → Prop} (c_X0_mostInAll : Con_X0_mostInAll (zl C) G P_X0_mostInAll Q_X0_mostInAll) {P_X0_shareOf : Nat → Int32 → Int64 → zM → Prop} {Q_X0_shareOf : Nat → Int32 → Int64 → zM → Int64 → Prop} (c_X0_shareOf : Con_X0_shareOf (zl C) G P_X0_shareOf Q_X0_shareOf) {a0 : Nat} {a1 : Nat} {m : zM} (ka0 : zK G a0 = some (0, a0)) (ka1 : zK G a1 = some (1, a1))
    (h : (P_X0_mostInAll a0 m) ∧ (∀ (r2 : Int64), Q_X0_mostInAll a0 m r2 → ((P_X0_shareOf a0 (zI m 106 a1 0) r2 m) ∧ (∀ (r4 : Int64), Q_X0_shareOf a0 (zI m 106 a1 0) r2 m r4 → (zRet C G Qc (some (.long r4)) m))))) : Pt_X0_worstOf_0 C G a0 a1 m := by
  obtain ⟨hF, hQ, hR⟩ := id S
  have h0 : zF0 C cX0_worstOf 2 wsX0_worstOf RX0 := hF.1
  have hL := hF.2.2.1
  unfold Pt_X0_worstOf_0
  refine zx_aload_n h0 0 dX0_worstOf_0 rfl ?_
  refine zx_aload_n h0 1 dX0_worstOf_1 rfl ?_
  refine zx_get hF ka1 (by decide) rfl zi_X0_worstOf_1 6 (by decide) zn_X0_worstOf_108 rfl rfl dX0_worstOf_2 ?_
  refine zx_aload_n h0 0 dX0_worstOf_5 rfl ?_
  obtain ⟨ho1, h⟩ := h
  refine zx_callVl (As := []) (rest := [.int (zI m 106 a1 0), .ref a0]) hF (c_X0_mostInAll a0 m ka0 ho1) (zc_X0_worstOf_X0_mostInAll S) ka0 (by decide) rfl dX0_worstOf_6 rfl rfl (Nat.le_of_ble_eq_true rfl) ⟨Nat.zero_le _, Nat.zero_le _⟩ (fun r2 m2 hq => ?_)
  obtain ⟨hme, hq⟩ := hq
  subst m2
  replace h := h r2 hq
  obtain ⟨ho3, h⟩ := h
  refine zx_callVl (As := [.int (zI m 106 a1 0), .long r2]) (rest := []) hF (c_X0_shareOf a0 (zI m 106 a1 0) r2 m ka0 ho3) (zc_X0_worstOf_X0_shareOf S) ka0 (by decide) rfl dX0_worstOf_9 rfl rfl (Nat.le_of_ble_eq_true rfl) ⟨Nat.zero_le _, Nat.zero_le _⟩ (fun r4 m4 hq => ?_)
  obtain ⟨hme, hq⟩ := hq
  subst m4
  replace h := h r4 hq
  exact zx_lret hF hQ dX0_worstOf_12 h
theorem zn_X0_payWave_34 : Cond.fieldLink RX0 34 RX0 (TX0 6).2.1 (TX0 6).2.2.1 ∈ wsX0_payWave := List.mem_of_getElem? (i := 1) rfl
theorem zi_X0_payWave_0 : ∀ w ∈ u_ws RX0 TX0 10, w ∈ wsX0_payWave := fun _ h => List.mem_cons_of_mem _ (List.mem_append_left _ (List.mem_append_left _ (List.mem_append_right _ h)))
theorem zn_X0_payWave_61 : Cond.fieldLink RX0 61 RX0 (TX0 8).2.1 (TX0 8).2.2.1 ∈ wsX0_payWave := List.mem_of_getElem? (i := 6) rfl
theorem zn_X0_payWave_83 : Cond.fieldLink RX0 83 RX1 (TX1 5).2.1 (TX1 5).2.2.1 ∈ wsX0_payWave := List.mem_of_getElem? (i := 2) rfl
theorem zi_X0_payWave_1 : ∀ w ∈ u_ws RX1 TX1 9, w ∈ wsX0_payWave := fun _ h => List.mem_cons_of_mem _ (List.mem_append_left _ (List.mem_append_right _ h))
theorem zn_X0_payWave_86 : Cond.fieldLink RX0 86 RX1 (TX1 8).2.1 (TX1 8).2.2.1 ∈ wsX0_payWave := List.mem_of_getElem? (i := 3) rfl
theorem zn_X0_payWave_108 : Cond.fieldLink RX0 108 RX1 (TX1 6).2.1 (TX1 6).2.2.1 ∈ wsX0_payWave := List.mem_of_getElem? (i := 4) rfl
theorem zn_X0_payWave_k122 : Cond.constantLong RX0 122 100 ∈ wsX0_payWave := List.mem_of_getElem? (i := 5) rfl
theorem zc_X0_payWave_X0_paidInAll {C : zC} {G : zG} {Qc : Array Value → State → Outcome → State → Prop} (S : St_X0_payWave C G Qc) : CallW (zRm C) (zs C) (zar C) RX0 RX0 119 yX0_paidInAll cX0_paidInAll 7 (some .long) wsX0_paidInAll rm_X0_paidInAll 0 0 0 := cwV 0 S.1.1.2.2.2.2 gX0_payWave_X0_paidInAll rfl rfl rfl (by decide +kernel) (by rw [S.2.2]; exact ⟨Nat.le_of_ble_eq_true rfl, Nat.le_of_ble_eq_true rfl⟩)
theorem zc_X0_payWave_X0_mostInAll {C : zC} {G : zG} {Qc : Array Value → State → Outcome → State → Prop} (S : St_X0_payWave C G Qc) : CallW (zRm C) (zs C) (zar C) RX0 RX0 111 yX0_mostInAll cX0_mostInAll 7 (some .long) wsX0_mostInAll rm_X0_mostInAll 0 0 0 := cwV 0 S.1.1.2.2.2.2 gX0_payWave_X0_mostInAll rfl rfl rfl (by decide +kernel) (by rw [S.2.2]; exact ⟨Nat.le_of_ble_eq_true rfl, Nat.le_of_ble_eq_true rfl⟩)
theorem zc_X0_payWave_X0_shareOf {C : zC} {G : zG} {Qc : Array Value → State → Outcome → State → Prop} (S : St_X0_payWave C G Qc) : CallW (zRm C) (zs C) (zar C) RX0 RX0 115 yX0_shareOf cX0_shareOf 4 (some .long) wsX0_shareOf rm_X0_shareOf 0 0 2 := cwV 2 S.1.1.2.2.2.2 gX0_payWave_X0_shareOf rfl rfl rfl (by decide +kernel) (by rw [S.2.2]; exact ⟨Nat.le_of_ble_eq_true rfl, Nat.le_of_ble_eq_true rfl⟩)
theorem zc_X0_payWave_X3_payUpTo {C : zC} {G : zG} {Qc : Array Value → State → Outcome → State → Prop} (S : St_X0_payWave C G Qc) : CallW (zRm C) (zs C) (zar C) RX0 RX3 124 yX3_payUpTo cX3_payUpTo 3 none wsX3_payUpTo rm_X3_payUpTo 0 0 1 := cwV 1 S.1.1.2.2.2.2 gX0_payWave_X3_payUpTo rfl rfl rfl (by decide +kernel) (by rw [S.2.2]; exact ⟨Nat.le_of_ble_eq_true rfl, Nat.le_of_ble_eq_true rfl⟩)
set_option maxRecDepth 100000 in
set_option maxHeartbeats 4000000 in
theorem sg_X0_payWave_0 {C : zC} {G : zG} {Qc : Array Value → State → Outcome → State → Prop} (S : St_X0_payWave C G Qc) {P_X0_paidInAll : Nat → zM → Prop} {Q_X0_paidInAll : Nat → zM → Int64 → Prop} (c_X0_paidInAll : Con_X0_paidInAll (zl C) G P_X0_paidInAll Q_X0_paidInAll) {P_X0_mostInAll : Nat → zM → Prop} {Q_X0_mostInAll : Nat → zM → Int64 → Prop} (c_X0_mostInAll : Con_X0_mostInAll (zl C) G P_X0_mostInAll Q_X0_mostInAll) {a0 : Nat} {x1 : Int32} {m : zM} (ka0 : zK G a0 = some (0, a0))
    (h : (P_X0_paidInAll a0 m) ∧ (∀ (r2 : Int64), Q_X0_paidInAll a0 m r2 → ((P_X0_mostInAll a0 m) ∧ (∀ (r4 : Int64), Q_X0_mostInAll a0 m r4 → (Pt_X0_payWave_25 C G a0 x1 r2 r4 0 m))))) : Pt_X0_payWave_0 C G a0 x1 m := by
  obtain ⟨hF, hQ, hR⟩ := id S
  have h0 : zF0 C cX0_payWave 10 wsX0_payWave RX0 := hF.1
  have hL := hF.2.2.1
  unfold Pt_X0_payWave_0
  refine zx_aload_n h0 0 dX0_payWave_0 rfl ?_
  obtain ⟨ho1, h⟩ := h
  refine zx_callVl (As := []) (rest := []) hF (c_X0_paidInAll a0 m ka0 ho1) (zc_X0_payWave_X0_paidInAll S) ka0 (by decide) rfl dX0_payWave_1 rfl rfl (Nat.le_of_ble_eq_true rfl) ⟨Nat.zero_le _, Nat.zero_le _⟩ (fun r2 m2 hq => ?_)
  obtain ⟨hme, hq⟩ := hq
  subst m2
  replace h := h r2 hq
  refine zx_lstore_n (L' := [(2, .long r2), (0, .ref a0), (1, .int x1)]) h0 dX0_payWave_4 (by decide) rfl ?_
  refine zx_aload_n h0 1 dX0_payWave_5 rfl ?_
  obtain ⟨ho3, h⟩ := h
  refine zx_callVl (As := []) (rest := []) hF (c_X0_mostInAll a0 m ka0 ho3) (zc_X0_payWave_X0_mostInAll S) ka0 (by decide) rfl dX0_payWave_6 rfl rfl (Nat.le_of_ble_eq_true rfl) ⟨Nat.zero_le _, Nat.zero_le _⟩ (fun r4 m4 hq => ?_)
  obtain ⟨hme, hq⟩ := hq
  subst m4
  replace h := h r4 hq
  refine zx_lstore (L' := [(4, .long r4), (2, .long r2), (0, .ref a0), (1, .int x1)]) h0 dX0_payWave_9 (by decide) rfl ?_
  refine zx_aload_n h0 2 dX0_payWave_11 rfl ?_
  refine zx_get hF ka0 (by decide) rfl zi_X0_payWave_0 6 (by decide) zn_X0_payWave_34 rfl rfl dX0_payWave_12 ?_
  refine zx_astore (L' := [(6, .ref (a0 + 10)), (4, .long r4), (2, .long r2), (0, .ref a0), (1, .int x1)]) h0 dX0_payWave_15 (by decide) rfl ?_
  refine zx_aload h0 0 dX0_payWave_17 rfl ?_
  refine zx_alen (v := 16) hF (zL_0_10 hL ka0) (by decide) rfl (by decide) rfl rfl dX0_payWave_19 ?_
  refine zx_istore (L' := [(7, .int 16), (6, .ref (a0 + 10)), (4, .long r4), (2, .long r2), (0, .ref a0), (1, .int x1)]) h0 dX0_payWave_20 (by decide) rfl ?_
  refine zx_iconst (v := 0) h0 dX0_payWave_22 (by decide) ?_
  refine zx_istore (L' := [(8, .int 0), (7, .int 16), (6, .ref (a0 + 10)), (4, .long r4), (2, .long r2), (0, .ref a0), (1, .int x1)]) h0 dX0_payWave_23 (by decide) rfl ?_
  exact zx_sub [5, 6, 4, 3, 2, 1, 0] rfl h
set_option maxRecDepth 100000 in
set_option maxHeartbeats 4000000 in
theorem sg_X0_payWave_25 {C : zC} {G : zG} {Qc : Array Value → State → Outcome → State → Prop} (S : St_X0_payWave C G Qc) {P_X0_paidInAll : Nat → zM → Prop} {Q_X0_paidInAll : Nat → zM → Int64 → Prop} (c_X0_paidInAll : Con_X0_paidInAll (zl C) G P_X0_paidInAll Q_X0_paidInAll) {P_X0_shareOf : Nat → Int32 → Int64 → zM → Prop} {Q_X0_shareOf : Nat → Int32 → Int64 → zM → Int64 → Prop} (c_X0_shareOf : Con_X0_shareOf (zl C) G P_X0_shareOf Q_X0_shareOf) {P_X3_payUpTo : Nat → Int64 → zM → Prop} {Q_X3_payUpTo : Nat → Int64 → zM → zM → Prop} (c_X3_payUpTo : Con_X3_payUpTo (zl C) G P_X3_payUpTo Q_X3_payUpTo) {a0 : Nat} {x1 : Int32} {l2 : Int64} {l4 : Int64} {x8 : Int32} {m : zM} (ka0 : zK G a0 = some (0, a0))
    (h : (16 ≤ x8 → ((P_X0_paidInAll a0 (zsI m 8 a0 0 ((zI m 8 a0 0) + 1))) ∧ (∀ (r2 : Int64), Q_X0_paidInAll a0 (zsI m 8 a0 0 ((zI m 8 a0 0) + 1)) r2 → (zRet C G Qc (some (.long (r2 - l2))) (zsI m 8 a0 0 ((zI m 8 a0 0) + 1)))))) ∧ (¬ 16 ≤ x8 → ((vp_in x8 16) ∧ ((¬ (zI m 105 (a0 + 11 + 7 * x8.toNatClampNeg) 0) = 1 → (Pt_X0_payWave_25 C G a0 x1 l2 l4 (x8 + 1) m)) ∧ ((zI m 105 (a0 + 11 + 7 * x8.toNatClampNeg) 0) = 1 → ((P_X0_shareOf a0 (zI m 106 (a0 + 11 + 7 * x8.toNatClampNeg) 0) l4 m) ∧ (∀ (r5 : Int64), Q_X0_shareOf a0 (zI m 106 (a0 + 11 + 7 * x8.toNatClampNeg) 0) l4 m r5 → ((P_X3_payUpTo ((a0 + 11 + 7 * x8.toNatClampNeg) + 1) ((r5 * ((x1 : Int32).toInt64)) / 100) m) ∧ (∀ (m7 : zM), Q_X3_payUpTo ((a0 + 11 + 7 * x8.toNatClampNeg) + 1) ((r5 * ((x1 : Int32).toInt64)) / 100) m m7 → (Pt_X0_payWave_25 C G a0 x1 l2 l4 (x8 + 1) m7)))))))))) : Pt_X0_payWave_25 C G a0 x1 l2 l4 x8 m := by
  obtain ⟨hF, hQ, hR⟩ := id S
  have h0 : zF0 C cX0_payWave 10 wsX0_payWave RX0 := hF.1
  have hL := hF.2.2.1
  unfold Pt_X0_payWave_25
  refine zx_iload h0 6 dX0_payWave_25 rfl ?_
  refine zx_iload h0 5 dX0_payWave_27 rfl ?_
  refine zx_icmp_ge (tgt := 80) h0 dX0_payWave_29 (by decide) (fun q => ?_) (fun q => ?_)
  · replace h := h.1 q
    refine zx_aload_n h0 0 dX0_payWave_80 rfl ?_
    refine zx_dup h0 dX0_payWave_81 rfl ?_
    refine zx_get hF ka0 (by decide) rfl zi_X0_payWave_0 8 (by decide) zn_X0_payWave_61 rfl rfl dX0_payWave_82 ?_
    refine zx_iconst (v := 1) h0 dX0_payWave_85 (by decide) ?_
    refine zx_iadd h0 dX0_payWave_86 ?_
    refine zp_8 hF ka0 zi_X0_payWave_0 zn_X0_payWave_61 dX0_payWave_87 ?_
    refine zx_aload_n h0 0 dX0_payWave_90 rfl ?_
    obtain ⟨ho1, h⟩ := h
    refine zx_callVl (As := []) (rest := []) hF (c_X0_paidInAll a0 (zsI m 8 a0 0 ((zI m 8 a0 0) + 1)) ka0 ho1) (zc_X0_payWave_X0_paidInAll S) ka0 (by decide) rfl dX0_payWave_91 rfl rfl (Nat.le_of_ble_eq_true rfl) ⟨Nat.zero_le _, Nat.zero_le _⟩ (fun r2 m2 hq => ?_)
    obtain ⟨hme, hq⟩ := hq
    subst m2
    replace h := h r2 hq
    refine zx_lload_n h0 2 dX0_payWave_94 rfl ?_
    refine zx_lsub h0 dX0_payWave_95 ?_
    exact zx_lret hF hQ dX0_payWave_96 h
  · replace h := h.2 q
    refine zx_aload h0 4 dX0_payWave_32 rfl ?_
    refine zx_iload h0 6 dX0_payWave_34 rfl ?_
    obtain ⟨ho3, h⟩ := h
    refine zx_aaldC (j := x8.toNatClampNeg) hF (zL_0_10 hL ka0) ho3 rfl dX0_payWave_36 ?_
    refine zx_astore (L' := [(9, .ref (a0 + 11 + 7 * x8.toNatClampNeg)), (0, .ref a0), (1, .int x1), (2, .long l2), (4, .long l4), (6, .ref (a0 + 10)), (7, .int 16), (8, .int x8)]) h0 dX0_payWave_37 (by decide) rfl ?_
    refine zx_aload h0 0 dX0_payWave_39 rfl ?_
    refine zx_get hF (zL_claim hL ka0 (z_inlt ho3)) (by decide) rfl zi_X0_payWave_1 5 (by decide) zn_X0_payWave_83 rfl rfl dX0_payWave_41 ?_
    refine zx_iconst (v := 1) h0 dX0_payWave_44 (by decide) ?_
    refine zx_icmp_ne (tgt := 74) h0 dX0_payWave_45 (by decide) (fun q => ?_) (fun q => ?_)
    · replace h := h.1 q
      refine zx_iinc (v := (x8 + 1)) (L' := [(8, .int (x8 + 1)), (9, .ref (a0 + 11 + 7 * x8.toNatClampNeg)), (0, .ref a0), (1, .int x1), (2, .long l2), (4, .long l4), (6, .ref (a0 + 10)), (7, .int 16)]) h0 7 dX0_payWave_74 rfl rfl (by decide) rfl ?_
      refine zx_goto (tgt := 25) h0 dX0_payWave_77 (by decide) ?_
      exact zx_sub [2, 3, 4, 5, 6, 7, 0] rfl h
    · replace h := h.2 q
      refine zx_aload h0 0 dX0_payWave_48 rfl ?_
      refine zx_get hF (zL_claim hL ka0 (z_inlt ho3)) (by decide) rfl zi_X0_payWave_1 8 (by decide) zn_X0_payWave_86 rfl rfl dX0_payWave_50 ?_
      refine zx_aload_n h0 1 dX0_payWave_53 rfl ?_
      refine zx_aload h0 0 dX0_payWave_54 rfl ?_
      refine zx_get hF (zL_claim hL ka0 (z_inlt ho3)) (by decide) rfl zi_X0_payWave_1 6 (by decide) zn_X0_payWave_108 rfl rfl dX0_payWave_56 ?_
      refine zx_lload h0 4 dX0_payWave_59 rfl ?_
      obtain ⟨ho4, h⟩ := h
      refine zx_callVl (As := [.int (zI m 106 (a0 + 11 + 7 * x8.toNatClampNeg) 0), .long l4]) (rest := [.ref ((a0 + 11 + 7 * x8.toNatClampNeg) + 1)]) hF (c_X0_shareOf a0 (zI m 106 (a0 + 11 + 7 * x8.toNatClampNeg) 0) l4 m ka0 ho4) (zc_X0_payWave_X0_shareOf S) ka0 (by decide) rfl dX0_payWave_61 rfl rfl (Nat.le_of_ble_eq_true rfl) ⟨Nat.zero_le _, Nat.zero_le _⟩ (fun r5 m5 hq => ?_)
      obtain ⟨hme, hq⟩ := hq
      subst m5
      replace h := h r5 hq
      refine zx_iload_n h0 2 dX0_payWave_64 rfl ?_
      refine zx_i2l (v := ((x1 : Int32).toInt64)) h0 dX0_payWave_65 rfl ?_
      refine zx_lmul h0 dX0_payWave_66 ?_
      refine zx_ldc2 (v := 100) h0 zn_X0_payWave_k122 dX0_payWave_67 ?_
      refine zx_ldiv h0 dX0_payWave_70 (by decide) ?_
      obtain ⟨ho6, h⟩ := h
      refine zx_callVv (As := [.long ((r5 * ((x1 : Int32).toInt64)) / 100)]) (rest := []) hF (c_X3_payUpTo ((a0 + 11 + 7 * x8.toNatClampNeg) + 1) ((r5 * ((x1 : Int32).toInt64)) / 100) m (zL_1_1 hL (zL_claim hL ka0 (z_inlt ho3))) ho6) (zc_X0_payWave_X3_payUpTo S) (zL_1_1 hL (zL_claim hL ka0 (z_inlt ho3))) (by decide) rfl dX0_payWave_71 rfl rfl (Nat.le_of_ble_eq_true rfl) ⟨Nat.zero_le _, Nat.zero_le _⟩ (fun m7 hq => ?_)
      replace h := h m7 hq
      refine zx_iinc (v := (x8 + 1)) (L' := [(8, .int (x8 + 1)), (9, .ref (a0 + 11 + 7 * x8.toNatClampNeg)), (0, .ref a0), (1, .int x1), (2, .long l2), (4, .long l4), (6, .ref (a0 + 10)), (7, .int 16)]) h0 7 dX0_payWave_74 rfl rfl (by decide) rfl ?_
      refine zx_goto (tgt := 25) h0 dX0_payWave_77 (by decide) ?_
      exact zx_sub [2, 3, 4, 5, 6, 7, 0] rfl h
theorem zn_X0_inState_34 : Cond.fieldLink RX0 34 RX0 (TX0 6).2.1 (TX0 6).2.2.1 ∈ wsX0_inState := List.mem_of_getElem? (i := 1) rfl
theorem zi_X0_inState_0 : ∀ w ∈ u_ws RX0 TX0 10, w ∈ wsX0_inState := fun _ h => List.mem_cons_of_mem _ (List.mem_append_left _ (List.mem_append_right _ h))
theorem zn_X0_inState_83 : Cond.fieldLink RX0 83 RX1 (TX1 5).2.1 (TX1 5).2.2.1 ∈ wsX0_inState := List.mem_of_getElem? (i := 2) rfl
theorem zi_X0_inState_1 : ∀ w ∈ u_ws RX1 TX1 9, w ∈ wsX0_inState := fun _ h => List.mem_cons_of_mem _ (List.mem_append_right _ h)
set_option maxRecDepth 100000 in
set_option maxHeartbeats 4000000 in
theorem sg_X0_inState_0 {C : zC} {G : zG} {Qc : Array Value → State → Outcome → State → Prop} (S : St_X0_inState C G Qc) {a0 : Nat} {x1 : Int32} {m : zM} (ka0 : zK G a0 = some (0, a0))
    (h : Pt_X0_inState_14 C G x1 0 0 a0 m) : Pt_X0_inState_0 C G a0 x1 m := by
  obtain ⟨hF, hQ, hR⟩ := id S
  have h0 : zF0 C cX0_inState 7 wsX0_inState RX0 := hF.1
  have hL := hF.2.2.1
  unfold Pt_X0_inState_0
  refine zx_iconst (v := 0) h0 dX0_inState_0 (by decide) ?_
  refine zx_istore_n (L' := [(2, .int 0), (0, .ref a0), (1, .int x1)]) h0 dX0_inState_1 (by decide) rfl ?_
  refine zx_aload_n h0 1 dX0_inState_2 rfl ?_
  refine zx_get hF ka0 (by decide) rfl zi_X0_inState_0 6 (by decide) zn_X0_inState_34 rfl rfl dX0_inState_3 ?_
  refine zx_astore_n (L' := [(3, .ref (a0 + 10)), (2, .int 0), (0, .ref a0), (1, .int x1)]) h0 dX0_inState_6 (by decide) rfl ?_
  refine zx_aload_n h0 0 dX0_inState_7 rfl ?_
  refine zx_alen (v := 16) hF (zL_0_10 hL ka0) (by decide) rfl (by decide) rfl rfl dX0_inState_8 ?_
  refine zx_istore (L' := [(4, .int 16), (3, .ref (a0 + 10)), (2, .int 0), (0, .ref a0), (1, .int x1)]) h0 dX0_inState_9 (by decide) rfl ?_
  refine zx_iconst (v := 0) h0 dX0_inState_11 (by decide) ?_
  refine zx_istore (L' := [(5, .int 0), (4, .int 16), (3, .ref (a0 + 10)), (2, .int 0), (0, .ref a0), (1, .int x1)]) h0 dX0_inState_12 (by decide) rfl ?_
  exact zx_sub [5, 3, 2, 1, 0] rfl h
set_option maxRecDepth 100000 in
set_option maxHeartbeats 4000000 in
theorem sg_X0_inState_14 {C : zC} {G : zG} {Qc : Array Value → State → Outcome → State → Prop} (S : St_X0_inState C G Qc) {x1 : Int32} {x2 : Int32} {x5 : Int32} {a0 : Nat} {m : zM} (ka0 : zK G a0 = some (0, a0))
    (h : (16 ≤ x5 → (zRet C G Qc (some (.int x2)) m)) ∧ (¬ 16 ≤ x5 → ((vp_in x5 16) ∧ ((¬ (zI m 105 (a0 + 11 + 7 * x5.toNatClampNeg) 0) = x1 → (Pt_X0_inState_14 C G x1 x2 (x5 + 1) a0 m)) ∧ ((zI m 105 (a0 + 11 + 7 * x5.toNatClampNeg) 0) = x1 → (Pt_X0_inState_14 C G x1 (x2 + 1) (x5 + 1) a0 m)))))) : Pt_X0_inState_14 C G x1 x2 x5 a0 m := by
  obtain ⟨hF, hQ, hR⟩ := id S
  have h0 : zF0 C cX0_inState 7 wsX0_inState RX0 := hF.1
  have hL := hF.2.2.1
  unfold Pt_X0_inState_14
  refine zx_iload h0 4 dX0_inState_14 rfl ?_
  refine zx_iload h0 3 dX0_inState_16 rfl ?_
  refine zx_icmp_ge (tgt := 45) h0 dX0_inState_18 (by decide) (fun q => ?_) (fun q => ?_)
  · replace h := h.1 q
    refine zx_iload_n h0 1 dX0_inState_45 rfl ?_
    exact zx_iret hF hQ dX0_inState_46 h
  · replace h := h.2 q
    refine zx_aload_n h0 2 dX0_inState_21 rfl ?_
    refine zx_iload h0 4 dX0_inState_22 rfl ?_
    obtain ⟨ho1, h⟩ := h
    refine zx_aaldC (j := x5.toNatClampNeg) hF (zL_0_10 hL ka0) ho1 rfl dX0_inState_24 ?_
    refine zx_astore (L' := [(6, .ref (a0 + 11 + 7 * x5.toNatClampNeg)), (1, .int x1), (2, .int x2), (3, .ref (a0 + 10)), (4, .int 16), (5, .int x5)]) h0 dX0_inState_25 (by decide) rfl ?_
    refine zx_aload h0 0 dX0_inState_27 rfl ?_
    refine zx_get hF (zL_claim hL ka0 (z_inlt ho1)) (by decide) rfl zi_X0_inState_1 5 (by decide) zn_X0_inState_83 rfl rfl dX0_inState_29 ?_
    refine zx_iload_n h0 1 dX0_inState_32 rfl ?_
    refine zx_icmp_ne (tgt := 39) h0 dX0_inState_33 (by decide) (fun q => ?_) (fun q => ?_)
    · replace h := h.1 q
      refine zx_iinc (v := (x5 + 1)) (L' := [(5, .int (x5 + 1)), (6, .ref (a0 + 11 + 7 * x5.toNatClampNeg)), (1, .int x1), (2, .int x2), (3, .ref (a0 + 10)), (4, .int 16)]) h0 5 dX0_inState_39 rfl rfl (by decide) rfl ?_
      refine zx_goto (tgt := 14) h0 dX0_inState_42 (by decide) ?_
      exact zx_sub [2, 3, 4, 5, 0] rfl h
    · replace h := h.2 q
      refine zx_iinc (v := (x2 + 1)) (L' := [(2, .int (x2 + 1)), (6, .ref (a0 + 11 + 7 * x5.toNatClampNeg)), (1, .int x1), (3, .ref (a0 + 10)), (4, .int 16), (5, .int x5)]) h0 2 dX0_inState_36 rfl rfl (by decide) rfl ?_
      refine zx_iinc (v := (x5 + 1)) (L' := [(5, .int (x5 + 1)), (2, .int (x2 + 1)), (6, .ref (a0 + 11 + 7 * x5.toNatClampNeg)), (1, .int x1), (3, .ref (a0 + 10)), (4, .int 16)]) h0 5 dX0_inState_39 rfl rfl (by decide) rfl ?_
      refine zx_goto (tgt := 14) h0 dX0_inState_42 (by decide) ?_
      exact zx_sub [3, 1, 4, 5, 0] rfl h
theorem zn_X0_restOf_11 : Cond.fieldLink RX0 11 RX0 (TX0 0).2.1 (TX0 0).2.2.1 ∈ wsX0_restOf := List.mem_of_getElem? (i := 1) rfl
theorem zi_X0_restOf_0 : ∀ w ∈ u_ws RX0 TX0 10, w ∈ wsX0_restOf := fun _ h => List.mem_cons_of_mem _ (List.mem_append_right _ h)
set_option maxRecDepth 100000 in
set_option maxHeartbeats 4000000 in
theorem sg_X0_restOf_0 {C : zC} {G : zG} {Qc : Array Value → State → Outcome → State → Prop} (S : St_X0_restOf C G Qc) {a0 : Nat} {x1 : Int32} {l2 : Int64} {m : zM} (ka0 : zK G a0 = some (0, a0))
    (h : (l2 ≤ 0 → (zRet C G Qc (some (.long 0)) m)) ∧ (¬ l2 ≤ 0 → ((¬ l2 = 0) ∧ (zRet C G Qc (some (.long (((zJ m 0 a0 0) * ((x1 : Int32).toInt64)) - ((zJ m 0 a0 0) * ((x1 : Int32).toInt64)) / l2 * l2))) m)))) : Pt_X0_restOf_0 C G a0 x1 l2 m := by
  obtain ⟨hF, hQ, hR⟩ := id S
  have h0 : zF0 C cX0_restOf 4 wsX0_restOf RX0 := hF.1
  have hL := hF.2.2.1
  unfold Pt_X0_restOf_0
  refine zx_lload_n h0 2 dX0_restOf_0 rfl ?_
  refine zx_lconst (v := 0) h0 dX0_restOf_1 (by decide) ?_
  refine zx_lcmp_le (tgt := 18) h0 dX0_restOf_2 dX0_restOf_3 (by decide) (fun q => ?_) (fun q => ?_)
  · replace h := h.1 q
    refine zx_lconst (v := 0) h0 dX0_restOf_18 (by decide) ?_
    exact zx_lret hF hQ dX0_restOf_19 h
  · replace h := h.2 q
    refine zx_aload_n h0 0 dX0_restOf_6 rfl ?_
    refine zx_get hF ka0 (by decide) rfl zi_X0_restOf_0 0 (by decide) zn_X0_restOf_11 rfl rfl dX0_restOf_7 ?_
    refine zx_iload_n h0 1 dX0_restOf_10 rfl ?_
    refine zx_i2l (v := ((x1 : Int32).toInt64)) h0 dX0_restOf_11 rfl ?_
    refine zx_lmul h0 dX0_restOf_12 ?_
    refine zx_lload_n h0 2 dX0_restOf_13 rfl ?_
    obtain ⟨ho1, h⟩ := h
    refine zx_lrem h0 dX0_restOf_14 ho1 ?_
    refine zx_goto (tgt := 19) h0 dX0_restOf_15 (by decide) ?_
    exact zx_lret hF hQ dX0_restOf_19 h
theorem zn_X0_greatestRest_k128 : Cond.constantLong RX0 128 (-1) ∈ wsX0_greatestRest := List.mem_of_getElem? (i := 1) rfl
theorem zn_X0_greatestRest_34 : Cond.fieldLink RX0 34 RX0 (TX0 6).2.1 (TX0 6).2.2.1 ∈ wsX0_greatestRest := List.mem_of_getElem? (i := 2) rfl
theorem zi_X0_greatestRest_0 : ∀ w ∈ u_ws RX0 TX0 10, w ∈ wsX0_greatestRest := fun _ h => List.mem_cons_of_mem _ (List.mem_append_left _ (List.mem_append_right _ h))
theorem zn_X0_greatestRest_105 : Cond.fieldLink RX0 105 RX1 (TX1 7).2.1 (TX1 7).2.2.1 ∈ wsX0_greatestRest := List.mem_of_getElem? (i := 3) rfl
theorem zi_X0_greatestRest_1 : ∀ w ∈ u_ws RX1 TX1 9, w ∈ wsX0_greatestRest := fun _ h => List.mem_cons_of_mem _ (List.mem_append_right _ h)
theorem zn_X0_greatestRest_83 : Cond.fieldLink RX0 83 RX1 (TX1 5).2.1 (TX1 5).2.2.1 ∈ wsX0_greatestRest := List.mem_of_getElem? (i := 4) rfl
theorem zc_X0_greatestRest_X0_restOf {C : zC} {G : zG} {Qc : Array Value → State → Outcome → State → Prop} (S : St_X0_greatestRest C G Qc) : CallW (zRm C) (zs C) (zar C) RX0 RX0 140 yX0_restOf cX0_restOf 4 (some .long) wsX0_restOf rm_X0_restOf 0 0 2 := cwV 2 S.1.1.2.2.2.2 gX0_greatestRest_X0_restOf rfl rfl rfl (by decide +kernel) (by rw [S.2.2]; exact ⟨Nat.le_of_ble_eq_true rfl, Nat.le_of_ble_eq_true rfl⟩)
set_option maxRecDepth 100000 in
set_option maxHeartbeats 4000000 in
theorem sg_X0_greatestRest_0 {C : zC} {G : zG} {Qc : Array Value → State → Outcome → State → Prop} (S : St_X0_greatestRest C G Qc) {a0 : Nat} {l1 : Int64} {x3 : Int32} {m : zM} (ka0 : zK G a0 = some (0, a0))
    (h : Pt_X0_greatestRest_11 C G a0 l1 x3 (-1) (-1) 0 m) : Pt_X0_greatestRest_0 C G a0 l1 x3 m := by
  obtain ⟨hF, hQ, hR⟩ := id S
  have h0 : zF0 C cX0_greatestRest 11 wsX0_greatestRest RX0 := hF.1
  have hL := hF.2.2.1
  unfold Pt_X0_greatestRest_0
  refine zx_iconst (v := (-1)) h0 dX0_greatestRest_0 (by decide) ?_
  refine zx_istore (L' := [(4, .int (-1)), (0, .ref a0), (1, .long l1), (3, .int x3)]) h0 dX0_greatestRest_1 (by decide) rfl ?_
  refine zx_ldc2 (v := (-1)) h0 zn_X0_greatestRest_k128 dX0_greatestRest_3 ?_
  refine zx_lstore (L' := [(5, .long (-1)), (4, .int (-1)), (0, .ref a0), (1, .long l1), (3, .int x3)]) h0 dX0_greatestRest_6 (by decide) rfl ?_
  refine zx_iconst (v := 0) h0 dX0_greatestRest_8 (by decide) ?_
  refine zx_istore (L' := [(7, .int 0), (5, .long (-1)), (4, .int (-1)), (0, .ref a0), (1, .long l1), (3, .int x3)]) h0 dX0_greatestRest_9 (by decide) rfl ?_
  exact zx_sub [3, 4, 5, 2, 1, 0] rfl h
set_option maxRecDepth 100000 in
set_option maxHeartbeats 4000000 in
theorem sg_X0_greatestRest_11 {C : zC} {G : zG} {Qc : Array Value → State → Outcome → State → Prop} (S : St_X0_greatestRest C G Qc) {P_X0_restOf : Nat → Int32 → Int64 → zM → Prop} {Q_X0_restOf : Nat → Int32 → Int64 → zM → Int64 → Prop} (c_X0_restOf : Con_X0_restOf (zl C) G P_X0_restOf Q_X0_restOf) {a0 : Nat} {l1 : Int64} {x3 : Int32} {x4 : Int32} {l5 : Int64} {x7 : Int32} {m : zM} (ka0 : zK G a0 = some (0, a0))
    (h : (16 ≤ x7 → (zRet C G Qc (some (.int x4)) m)) ∧ (¬ 16 ≤ x7 → ((vp_in x7 16) ∧ ((P_X0_restOf a0 (zI m 107 (a0 + 11 + 7 * x7.toNatClampNeg) 0) l1 m) ∧ (∀ (r3 : Int64), Q_X0_restOf a0 (zI m 107 (a0 + 11 + 7 * x7.toNatClampNeg) 0) l1 m r3 → ((¬ (zI m 105 (a0 + 11 + 7 * x7.toNatClampNeg) 0) = 1 → (Pt_X0_greatestRest_11 C G a0 l1 x3 x4 l5 (x7 + 1) m)) ∧ ((zI m 105 (a0 + 11 + 7 * x7.toNatClampNeg) 0) = 1 → ((¬ ((x3 >>> (x7 &&& 31)) &&& 1) = 0 → (Pt_X0_greatestRest_11 C G a0 l1 x3 x4 l5 (x7 + 1) m)) ∧ (((x3 >>> (x7 &&& 31)) &&& 1) = 0 → ((r3 ≤ l5 → (Pt_X0_greatestRest_11 C G a0 l1 x3 x4 l5 (x7 + 1) m)) ∧ (¬ r3 ≤ l5 → (Pt_X0_greatestRest_11 C G a0 l1 x3 x7 r3 (x7 + 1) m)))))))))))) : Pt_X0_greatestRest_11 C G a0 l1 x3 x4 l5 x7 m := by
  obtain ⟨hF, hQ, hR⟩ := id S
  have h0 : zF0 C cX0_greatestRest 11 wsX0_greatestRest RX0 := hF.1
  have hL := hF.2.2.1
  unfold Pt_X0_greatestRest_11
  refine zx_iload h0 5 dX0_greatestRest_11 rfl ?_
  refine zx_bipush (v := 16) h0 dX0_greatestRest_13 (by decide) ?_
  refine zx_icmp_ge (tgt := 79) h0 dX0_greatestRest_15 (by decide) (fun q => ?_) (fun q => ?_)
  · replace h := h.1 q
    refine zx_iload h0 3 dX0_greatestRest_79 rfl ?_
    exact zx_iret hF hQ dX0_greatestRest_81 h
  · replace h := h.2 q
    refine zx_aload_n h0 0 dX0_greatestRest_18 rfl ?_
    refine zx_get hF ka0 (by decide) rfl zi_X0_greatestRest_0 6 (by decide) zn_X0_greatestRest_34 rfl rfl dX0_greatestRest_19 ?_
    refine zx_iload h0 5 dX0_greatestRest_22 rfl ?_
    obtain ⟨ho1, h⟩ := h
    refine zx_aaldC (j := x7.toNatClampNeg) hF (zL_0_10 hL ka0) ho1 rfl dX0_greatestRest_24 ?_
    refine zx_astore (L' := [(8, .ref (a0 + 11 + 7 * x7.toNatClampNeg)), (0, .ref a0), (1, .long l1), (3, .int x3), (4, .int x4), (5, .long l5), (7, .int x7)]) h0 dX0_greatestRest_25 (by decide) rfl ?_
    refine zx_aload_n h0 1 dX0_greatestRest_27 rfl ?_
    refine zx_aload h0 0 dX0_greatestRest_28 rfl ?_
    refine zx_get hF (zL_claim hL ka0 (z_inlt ho1)) (by decide) rfl zi_X0_greatestRest_1 7 (by decide) zn_X0_greatestRest_105 rfl rfl dX0_greatestRest_30 ?_
    refine zx_lload_n h0 2 dX0_greatestRest_33 rfl ?_
    obtain ⟨ho2, h⟩ := h
    refine zx_callVl (As := [.int (zI m 107 (a0 + 11 + 7 * x7.toNatClampNeg) 0), .long l1]) (rest := []) hF (c_X0_restOf a0 (zI m 107 (a0 + 11 + 7 * x7.toNatClampNeg) 0) l1 m ka0 ho2) (zc_X0_greatestRest_X0_restOf S) ka0 (by decide) rfl dX0_greatestRest_34 rfl rfl (Nat.le_of_ble_eq_true rfl) ⟨Nat.zero_le _, Nat.zero_le _⟩ (fun r3 m3 hq => ?_)
    obtain ⟨hme, hq⟩ := hq
    subst m3
    replace h := h r3 hq
    refine zx_lstore (L' := [(9, .long r3), (8, .ref (a0 + 11 + 7 * x7.toNatClampNeg)), (0, .ref a0), (1, .long l1), (3, .int x3), (4, .int x4), (5, .long l5), (7, .int x7)]) h0 dX0_greatestRest_37 (by decide) rfl ?_
    refine zx_aload h0 1 dX0_greatestRest_39 rfl ?_
    refine zx_get hF (zL_claim hL ka0 (z_inlt ho1)) (by decide) rfl zi_X0_greatestRest_1 5 (by decide) zn_X0_greatestRest_83 rfl rfl dX0_greatestRest_41 ?_
    refine zx_iconst (v := 1) h0 dX0_greatestRest_44 (by decide) ?_
    refine zx_icmp_ne (tgt := 73) h0 dX0_greatestRest_45 (by decide) (fun q => ?_) (fun q => ?_)
    · replace h := h.1 q
      refine zx_iinc (v := (x7 + 1)) (L' := [(7, .int (x7 + 1)), (9, .long r3), (8, .ref (a0 + 11 + 7 * x7.toNatClampNeg)), (0, .ref a0), (1, .long l1), (3, .int x3), (4, .int x4), (5, .long l5)]) h0 7 dX0_greatestRest_73 rfl rfl (by decide) rfl ?_
      refine zx_goto (tgt := 11) h0 dX0_greatestRest_76 (by decide) ?_
      exact zx_sub [3, 4, 5, 6, 7, 0] rfl h
    · replace h := h.2 q
      refine zx_iload_n h0 4 dX0_greatestRest_48 rfl ?_
      refine zx_iload h0 7 dX0_greatestRest_49 rfl ?_
      refine zx_ishr h0 dX0_greatestRest_51 ?_
      refine zx_iconst (v := 1) h0 dX0_greatestRest_52 (by decide) ?_
      refine zx_iand h0 dX0_greatestRest_53 ?_
      refine zx_if_ne (tgt := 73) h0 dX0_greatestRest_54 (by decide) (fun q => ?_) (fun q => ?_)
      · replace h := h.1 q
        refine zx_iinc (v := (x7 + 1)) (L' := [(7, .int (x7 + 1)), (9, .long r3), (8, .ref (a0 + 11 + 7 * x7.toNatClampNeg)), (0, .ref a0), (1, .long l1), (3, .int x3), (4, .int x4), (5, .long l5)]) h0 7 dX0_greatestRest_73 rfl rfl (by decide) rfl ?_
        refine zx_goto (tgt := 11) h0 dX0_greatestRest_76 (by decide) ?_
        exact zx_sub [3, 4, 5, 6, 7, 0] rfl h
      · replace h := h.2 q
        refine zx_lload h0 0 dX0_greatestRest_57 rfl ?_
        refine zx_lload h0 6 dX0_greatestRest_59 rfl ?_
        refine zx_lcmp_le (tgt := 73) h0 dX0_greatestRest_61 dX0_greatestRest_62 (by decide) (fun q => ?_) (fun q => ?_)
        · replace h := h.1 q
          refine zx_iinc (v := (x7 + 1)) (L' := [(7, .int (x7 + 1)), (9, .long r3), (8, .ref (a0 + 11 + 7 * x7.toNatClampNeg)), (0, .ref a0), (1, .long l1), (3, .int x3), (4, .int x4), (5, .long l5)]) h0 7 dX0_greatestRest_73 rfl rfl (by decide) rfl ?_
          refine zx_goto (tgt := 11) h0 dX0_greatestRest_76 (by decide) ?_
          exact zx_sub [3, 4, 5, 6, 7, 0] rfl h
        · replace h := h.2 q
          refine zx_iload h0 7 dX0_greatestRest_65 rfl ?_
          refine zx_istore (L' := [(4, .int x7), (9, .long r3), (8, .ref (a0 + 11 + 7 * x7.toNatClampNeg)), (0, .ref a0), (1, .long l1), (3, .int x3), (5, .long l5), (7, .int x7)]) h0 dX0_greatestRest_67 (by decide) rfl ?_
          refine zx_lload h0 1 dX0_greatestRest_69 rfl ?_
          refine zx_lstore (L' := [(5, .long r3), (4, .int x7), (9, .long r3), (8, .ref (a0 + 11 + 7 * x7.toNatClampNeg)), (0, .ref a0), (1, .long l1), (3, .int x3), (7, .int x7)]) h0 dX0_greatestRest_71 (by decide) rfl ?_
          refine zx_iinc (v := (x7 + 1)) (L' := [(7, .int (x7 + 1)), (5, .long r3), (4, .int x7), (9, .long r3), (8, .ref (a0 + 11 + 7 * x7.toNatClampNeg)), (0, .ref a0), (1, .long l1), (3, .int x3)]) h0 7 dX0_greatestRest_73 rfl rfl (by decide) rfl ?_
          refine zx_goto (tgt := 11) h0 dX0_greatestRest_76 (by decide) ?_
          exact zx_sub [5, 6, 7, 2, 1, 0] rfl h
theorem zn_X0_payRests_11 : Cond.fieldLink RX0 11 RX0 (TX0 0).2.1 (TX0 0).2.2.1 ∈ wsX0_payRests := List.mem_of_getElem? (i := 1) rfl
theorem zi_X0_payRests_0 : ∀ w ∈ u_ws RX0 TX0 10, w ∈ wsX0_payRests := fun _ h => List.mem_cons_of_mem _ (List.mem_append_left _ (List.mem_append_left _ (List.mem_append_right _ h)))
theorem zn_X0_payRests_34 : Cond.fieldLink RX0 34 RX0 (TX0 6).2.1 (TX0 6).2.2.1 ∈ wsX0_payRests := List.mem_of_getElem? (i := 2) rfl
theorem zn_X0_payRests_86 : Cond.fieldLink RX0 86 RX1 (TX1 8).2.1 (TX1 8).2.2.1 ∈ wsX0_payRests := List.mem_of_getElem? (i := 3) rfl
theorem zi_X0_payRests_1 : ∀ w ∈ u_ws RX1 TX1 9, w ∈ wsX0_payRests := fun _ h => List.mem_cons_of_mem _ (List.mem_append_left _ (List.mem_append_right _ h))
theorem zc_X0_payRests_X0_paidInAll {C : zC} {G : zG} {Qc : Array Value → State → Outcome → State → Prop} (S : St_X0_payRests C G Qc) : CallW (zRm C) (zs C) (zar C) RX0 RX0 119 yX0_paidInAll cX0_paidInAll 7 (some .long) wsX0_paidInAll rm_X0_paidInAll 0 0 0 := cwV 0 S.1.1.2.2.2.2 gX0_payRests_X0_paidInAll rfl rfl rfl (by decide +kernel) (by rw [S.2.2]; exact ⟨Nat.le_of_ble_eq_true rfl, Nat.le_of_ble_eq_true rfl⟩)
theorem zc_X0_payRests_X0_greatestRest {C : zC} {G : zG} {Qc : Array Value → State → Outcome → State → Prop} (S : St_X0_payRests C G Qc) : CallW (zRm C) (zs C) (zar C) RX0 RX0 133 yX0_greatestRest cX0_greatestRest 11 (some .int) wsX0_greatestRest rm_X0_greatestRest 0 0 2 := cwV 2 S.1.1.2.2.2.2 gX0_payRests_X0_greatestRest rfl rfl rfl (by decide +kernel) (by rw [S.2.2]; exact ⟨Nat.le_of_ble_eq_true rfl, Nat.le_of_ble_eq_true rfl⟩)
theorem zc_X0_payRests_X3_pay {C : zC} {G : zG} {Qc : Array Value → State → Outcome → State → Prop} (S : St_X0_payRests C G Qc) : CallW (zRm C) (zs C) (zar C) RX0 RX3 137 yX3_pay cX3_pay 5 none wsX3_pay rm_X3_pay 0 0 1 := cwV 1 S.1.1.2.2.2.2 gX0_payRests_X3_pay rfl rfl rfl (by decide +kernel) (by rw [S.2.2]; exact ⟨Nat.le_of_ble_eq_true rfl, Nat.le_of_ble_eq_true rfl⟩)
set_option maxRecDepth 100000 in
set_option maxHeartbeats 4000000 in
theorem sg_X0_payRests_0 {C : zC} {G : zG} {Qc : Array Value → State → Outcome → State → Prop} (S : St_X0_payRests C G Qc) {P_X0_paidInAll : Nat → zM → Prop} {Q_X0_paidInAll : Nat → zM → Int64 → Prop} (c_X0_paidInAll : Con_X0_paidInAll (zl C) G P_X0_paidInAll Q_X0_paidInAll) {a0 : Nat} {l1 : Int64} {m : zM} (ka0 : zK G a0 = some (0, a0))
    (h : (P_X0_paidInAll a0 m) ∧ (∀ (r2 : Int64), Q_X0_paidInAll a0 m r2 → (Pt_X0_payRests_16 C G a0 l1 ((zJ m 0 a0 0) - r2) 0 0 m))) : Pt_X0_payRests_0 C G a0 l1 m := by
  obtain ⟨hF, hQ, hR⟩ := id S
  have h0 : zF0 C cX0_payRests 8 wsX0_payRests RX0 := hF.1
  have hL := hF.2.2.1
  unfold Pt_X0_payRests_0
  refine zx_aload_n h0 0 dX0_payRests_0 rfl ?_
  refine zx_get hF ka0 (by decide) rfl zi_X0_payRests_0 0 (by decide) zn_X0_payRests_11 rfl rfl dX0_payRests_1 ?_
  refine zx_aload_n h0 0 dX0_payRests_4 rfl ?_
  obtain ⟨ho1, h⟩ := h
  refine zx_callVl (As := []) (rest := [.long (zJ m 0 a0 0)]) hF (c_X0_paidInAll a0 m ka0 ho1) (zc_X0_payRests_X0_paidInAll S) ka0 (by decide) rfl dX0_payRests_5 rfl rfl (Nat.le_of_ble_eq_true rfl) ⟨Nat.zero_le _, Nat.zero_le _⟩ (fun r2 m2 hq => ?_)
  obtain ⟨hme, hq⟩ := hq
  subst m2
  replace h := h r2 hq
  refine zx_lsub h0 dX0_payRests_8 ?_
  refine zx_lstore_n (L' := [(3, .long ((zJ m 0 a0 0) - r2)), (0, .ref a0), (1, .long l1)]) h0 dX0_payRests_9 (by decide) rfl ?_
  refine zx_iconst (v := 0) h0 dX0_payRests_10 (by decide) ?_
  refine zx_istore (L' := [(5, .int 0), (3, .long ((zJ m 0 a0 0) - r2)), (0, .ref a0), (1, .long l1)]) h0 dX0_payRests_11 (by decide) rfl ?_
  refine zx_iconst (v := 0) h0 dX0_payRests_13 (by decide) ?_
  refine zx_istore (L' := [(6, .int 0), (5, .int 0), (3, .long ((zJ m 0 a0 0) - r2)), (0, .ref a0), (1, .long l1)]) h0 dX0_payRests_14 (by decide) rfl ?_
  exact zx_sub [3, 4, 2, 1, 0] rfl h
set_option maxRecDepth 100000 in
set_option maxHeartbeats 4000000 in
theorem sg_X0_payRests_16 {C : zC} {G : zG} {Qc : Array Value → State → Outcome → State → Prop} (S : St_X0_payRests C G Qc) {P_X0_greatestRest : Nat → Int64 → Int32 → zM → Prop} {Q_X0_greatestRest : Nat → Int64 → Int32 → zM → Int32 → Prop} (c_X0_greatestRest : Con_X0_greatestRest (zl C) G P_X0_greatestRest Q_X0_greatestRest) {P_X3_pay : Nat → Int64 → zM → Prop} {Q_X3_pay : Nat → Int64 → zM → zM → Prop} (c_X3_pay : Con_X3_pay (zl C) G P_X3_pay Q_X3_pay) {a0 : Nat} {l1 : Int64} {l3 : Int64} {x5 : Int32} {x6 : Int32} {m : zM} (ka0 : zK G a0 = some (0, a0))
    (h : (16 ≤ x6 → (zRet C G Qc none m)) ∧ (¬ 16 ≤ x6 → ((l3 ≤ ((x6 : Int32).toInt64) → (zRet C G Qc none m)) ∧ (¬ l3 ≤ ((x6 : Int32).toInt64) → ((P_X0_greatestRest a0 l1 x5 m) ∧ (∀ (r2 : Int32), Q_X0_greatestRest a0 l1 x5 m r2 → ((r2 < 0 → (zRet C G Qc none m)) ∧ (¬ r2 < 0 → ((r2 < 16 → ((vp_in r2 16) ∧ ((P_X3_pay ((a0 + 11 + 7 * r2.toNatClampNeg) + 1) 1 m) ∧ (∀ (m5 : zM), Q_X3_pay ((a0 + 11 + 7 * r2.toNatClampNeg) + 1) 1 m m5 → (Pt_X0_payRests_16 C G a0 l1 l3 (x5 ||| (1 <<< (r2 &&& 31))) (x6 + 1) m5))))) ∧ (¬ r2 < 16 → (zRet C G Qc none m))))))))))) : Pt_X0_payRests_16 C G a0 l1 l3 x5 x6 m := by
  obtain ⟨hF, hQ, hR⟩ := id S
  have h0 : zF0 C cX0_payRests 8 wsX0_payRests RX0 := hF.1
  have hL := hF.2.2.1
  unfold Pt_X0_payRests_16
  refine zx_iload h0 4 dX0_payRests_16 rfl ?_
  refine zx_bipush (v := 16) h0 dX0_payRests_18 (by decide) ?_
  refine zx_icmp_ge (tgt := 82) h0 dX0_payRests_20 (by decide) (fun q => ?_) (fun q => ?_)
  · replace h := h.1 q
    exact zx_vret hF hQ dX0_payRests_82 h
  · replace h := h.2 q
    refine zx_iload h0 4 dX0_payRests_23 rfl ?_
    refine zx_i2l (v := ((x6 : Int32).toInt64)) h0 dX0_payRests_25 rfl ?_
    refine zx_lload_n h0 2 dX0_payRests_26 rfl ?_
    refine zx_lcmp_ge (tgt := 82) h0 dX0_payRests_27 dX0_payRests_28 (by decide) (fun q => ?_) (fun q => ?_)
    · replace h := h.1 q
      exact zx_vret hF hQ dX0_payRests_82 h
    · replace h := h.2 q
      refine zx_aload_n h0 0 dX0_payRests_31 rfl ?_
      refine zx_lload_n h0 1 dX0_payRests_32 rfl ?_
      refine zx_iload h0 3 dX0_payRests_33 rfl ?_
      obtain ⟨ho1, h⟩ := h
      refine zx_callVi (As := [.long l1, .int x5]) (rest := []) hF (c_X0_greatestRest a0 l1 x5 m ka0 ho1) (zc_X0_payRests_X0_greatestRest S) ka0 (by decide) rfl dX0_payRests_35 rfl rfl (Nat.le_of_ble_eq_true rfl) ⟨Nat.zero_le _, Nat.zero_le _⟩ (fun r2 m2 hq => ?_)
      obtain ⟨hme, hq⟩ := hq
      subst m2
      replace h := h r2 hq
      refine zx_istore (L' := [(7, .int r2), (0, .ref a0), (1, .long l1), (3, .long l3), (5, .int x5), (6, .int x6)]) h0 dX0_payRests_38 (by decide) rfl ?_
      refine zx_iload h0 0 dX0_payRests_40 rfl ?_
      refine zx_if_lt (tgt := 52) h0 dX0_payRests_42 (by decide) (fun q => ?_) (fun q => ?_)
      · replace h := h.1 q
        exact zx_vret hF hQ dX0_payRests_52 h
      · replace h := h.2 q
        refine zx_iload h0 0 dX0_payRests_45 rfl ?_
        refine zx_bipush (v := 16) h0 dX0_payRests_47 (by decide) ?_
        refine zx_icmp_lt (tgt := 53) h0 dX0_payRests_49 (by decide) (fun q => ?_) (fun q => ?_)
        · replace h := h.1 q
          refine zx_iload h0 4 dX0_payRests_53 rfl ?_
          refine zx_iconst (v := 1) h0 dX0_payRests_55 (by decide) ?_
          refine zx_iload h0 0 dX0_payRests_56 rfl ?_
          refine zx_ishl h0 dX0_payRests_58 ?_
          refine zx_ior h0 dX0_payRests_59 ?_
          refine zx_istore (L' := [(5, .int (x5 ||| (1 <<< (r2 &&& 31)))), (7, .int r2), (0, .ref a0), (1, .long l1), (3, .long l3), (6, .int x6)]) h0 dX0_payRests_60 (by decide) rfl ?_
          refine zx_aload_n h0 2 dX0_payRests_62 rfl ?_
          refine zx_get hF ka0 (by decide) rfl zi_X0_payRests_0 6 (by decide) zn_X0_payRests_34 rfl rfl dX0_payRests_63 ?_
          refine zx_iload h0 1 dX0_payRests_66 rfl ?_
          obtain ⟨ho3, h⟩ := h
          refine zx_aaldC (j := r2.toNatClampNeg) hF (zL_0_10 hL ka0) ho3 rfl dX0_payRests_68 ?_
          refine zx_get hF (zL_claim hL ka0 (z_inlt ho3)) (by decide) rfl zi_X0_payRests_1 8 (by decide) zn_X0_payRests_86 rfl rfl dX0_payRests_69 ?_
          refine zx_lconst (v := 1) h0 dX0_payRests_72 (by decide) ?_
          obtain ⟨ho4, h⟩ := h
          refine zx_callVv (As := [.long 1]) (rest := []) hF (c_X3_pay ((a0 + 11 + 7 * r2.toNatClampNeg) + 1) 1 m (zL_1_1 hL (zL_claim hL ka0 (z_inlt ho3))) ho4) (zc_X0_payRests_X3_pay S) (zL_1_1 hL (zL_claim hL ka0 (z_inlt ho3))) (by decide) rfl dX0_payRests_73 rfl rfl (Nat.le_of_ble_eq_true rfl) ⟨Nat.zero_le _, Nat.zero_le _⟩ (fun m5 hq => ?_)
          replace h := h m5 hq
          refine zx_iinc (v := (x6 + 1)) (L' := [(6, .int (x6 + 1)), (5, .int (x5 ||| (1 <<< (r2 &&& 31)))), (7, .int r2), (0, .ref a0), (1, .long l1), (3, .long l3)]) h0 5 dX0_payRests_76 rfl rfl (by decide) rfl ?_
          refine zx_goto (tgt := 16) h0 dX0_payRests_79 (by decide) ?_
          exact zx_sub [3, 4, 5, 1, 0] rfl h
        · replace h := h.2 q
          exact zx_vret hF hQ dX0_payRests_52 h
theorem zn_X0_payAll_34 : Cond.fieldLink RX0 34 RX0 (TX0 6).2.1 (TX0 6).2.2.1 ∈ wsX0_payAll := List.mem_of_getElem? (i := 2) rfl
theorem zi_X0_payAll_0 : ∀ w ∈ u_ws RX0 TX0 10, w ∈ wsX0_payAll := fun _ h => List.mem_cons_of_mem _ (List.mem_append_left _ (List.mem_append_left _ (List.mem_append_right _ h)))
theorem zn_X0_payAll_k128 : Cond.constantLong RX0 128 (-1) ∈ wsX0_payAll := List.mem_of_getElem? (i := 1) rfl
theorem zn_X0_payAll_64 : Cond.fieldLink RX0 64 RX0 (TX0 9).2.1 (TX0 9).2.2.1 ∈ wsX0_payAll := List.mem_of_getElem? (i := 6) rfl
theorem zn_X0_payAll_83 : Cond.fieldLink RX0 83 RX1 (TX1 5).2.1 (TX1 5).2.2.1 ∈ wsX0_payAll := List.mem_of_getElem? (i := 3) rfl
theorem zi_X0_payAll_1 : ∀ w ∈ u_ws RX1 TX1 9, w ∈ wsX0_payAll := fun _ h => List.mem_cons_of_mem _ (List.mem_append_left _ (List.mem_append_right _ h))
theorem zn_X0_payAll_86 : Cond.fieldLink RX0 86 RX1 (TX1 8).2.1 (TX1 8).2.2.1 ∈ wsX0_payAll := List.mem_of_getElem? (i := 4) rfl
theorem zn_X0_payAll_105 : Cond.fieldLink RX0 105 RX1 (TX1 7).2.1 (TX1 7).2.2.1 ∈ wsX0_payAll := List.mem_of_getElem? (i := 5) rfl
theorem zc_X0_payAll_X0_mostInAll {C : zC} {G : zG} {Qc : Array Value → State → Outcome → State → Prop} (S : St_X0_payAll C G Qc) : CallW (zRm C) (zs C) (zar C) RX0 RX0 111 yX0_mostInAll cX0_mostInAll 7 (some .long) wsX0_mostInAll rm_X0_mostInAll 0 0 0 := cwV 0 S.1.1.2.2.2.2 gX0_payAll_X0_mostInAll rfl rfl rfl (by decide +kernel) (by rw [S.2.2]; exact ⟨Nat.le_of_ble_eq_true rfl, Nat.le_of_ble_eq_true rfl⟩)
theorem zc_X0_payAll_X0_paidInAll {C : zC} {G : zG} {Qc : Array Value → State → Outcome → State → Prop} (S : St_X0_payAll C G Qc) : CallW (zRm C) (zs C) (zar C) RX0 RX0 119 yX0_paidInAll cX0_paidInAll 7 (some .long) wsX0_paidInAll rm_X0_paidInAll 0 0 0 := cwV 0 S.1.1.2.2.2.2 gX0_payAll_X0_paidInAll rfl rfl rfl (by decide +kernel) (by rw [S.2.2]; exact ⟨Nat.le_of_ble_eq_true rfl, Nat.le_of_ble_eq_true rfl⟩)
theorem zc_X0_payAll_X0_payRests {C : zC} {G : zG} {Qc : Array Value → State → Outcome → State → Prop} (S : St_X0_payAll C G Qc) : CallW (zRm C) (zs C) (zar C) RX0 RX0 130 yX0_payRests cX0_payRests 8 none wsX0_payRests rm_X0_payRests 0 0 1 := cwV 1 S.1.1.2.2.2.2 gX0_payAll_X0_payRests rfl rfl rfl (by decide +kernel) (by rw [S.2.2]; exact ⟨Nat.le_of_ble_eq_true rfl, Nat.le_of_ble_eq_true rfl⟩)
theorem zc_X0_payAll_X0_shareOf {C : zC} {G : zG} {Qc : Array Value → State → Outcome → State → Prop} (S : St_X0_payAll C G Qc) : CallW (zRm C) (zs C) (zar C) RX0 RX0 115 yX0_shareOf cX0_shareOf 4 (some .long) wsX0_shareOf rm_X0_shareOf 0 0 2 := cwV 2 S.1.1.2.2.2.2 gX0_payAll_X0_shareOf rfl rfl rfl (by decide +kernel) (by rw [S.2.2]; exact ⟨Nat.le_of_ble_eq_true rfl, Nat.le_of_ble_eq_true rfl⟩)
theorem zc_X0_payAll_X3_payUpTo {C : zC} {G : zG} {Qc : Array Value → State → Outcome → State → Prop} (S : St_X0_payAll C G Qc) : CallW (zRm C) (zs C) (zar C) RX0 RX3 124 yX3_payUpTo cX3_payUpTo 3 none wsX3_payUpTo rm_X3_payUpTo 0 0 1 := cwV 1 S.1.1.2.2.2.2 gX0_payAll_X3_payUpTo rfl rfl rfl (by decide +kernel) (by rw [S.2.2]; exact ⟨Nat.le_of_ble_eq_true rfl, Nat.le_of_ble_eq_true rfl⟩)
set_option maxRecDepth 100000 in
set_option maxHeartbeats 4000000 in
theorem sg_X0_payAll_0 {C : zC} {G : zG} {Qc : Array Value → State → Outcome → State → Prop} (S : St_X0_payAll C G Qc) {P_X0_mostInAll : Nat → zM → Prop} {Q_X0_mostInAll : Nat → zM → Int64 → Prop} (c_X0_mostInAll : Con_X0_mostInAll (zl C) G P_X0_mostInAll Q_X0_mostInAll) {P_X0_paidInAll : Nat → zM → Prop} {Q_X0_paidInAll : Nat → zM → Int64 → Prop} (c_X0_paidInAll : Con_X0_paidInAll (zl C) G P_X0_paidInAll Q_X0_paidInAll) {a0 : Nat} {m : zM} (ka0 : zK G a0 = some (0, a0))
    (h : (P_X0_mostInAll a0 m) ∧ (∀ (r2 : Int64), Q_X0_mostInAll a0 m r2 → ((¬ r2 = 0 → ((P_X0_paidInAll a0 m) ∧ (∀ (r4 : Int64), Q_X0_paidInAll a0 m r4 → (Pt_X0_payAll_34 C G a0 r2 r4 0 m)))) ∧ (r2 = 0 → (zRet C G Qc (some (.long (-1))) m))))) : Pt_X0_payAll_0 C G a0 m := by
  obtain ⟨hF, hQ, hR⟩ := id S
  have h0 : zF0 C cX0_payAll 9 wsX0_payAll RX0 := hF.1
  have hL := hF.2.2.1
  unfold Pt_X0_payAll_0
  refine zx_aload_n h0 0 dX0_payAll_0 rfl ?_
  obtain ⟨ho1, h⟩ := h
  refine zx_callVl (As := []) (rest := []) hF (c_X0_mostInAll a0 m ka0 ho1) (zc_X0_payAll_X0_mostInAll S) ka0 (by decide) rfl dX0_payAll_1 rfl rfl (Nat.le_of_ble_eq_true rfl) ⟨Nat.zero_le _, Nat.zero_le _⟩ (fun r2 m2 hq => ?_)
  obtain ⟨hme, hq⟩ := hq
  subst m2
  replace h := h r2 hq
  refine zx_lstore_n (L' := [(1, .long r2), (0, .ref a0)]) h0 dX0_payAll_4 (by decide) rfl ?_
  refine zx_lload_n h0 0 dX0_payAll_5 rfl ?_
  refine zx_lconst (v := 0) h0 dX0_payAll_6 (by decide) ?_
  refine zx_lcmp_ne (tgt := 15) h0 dX0_payAll_7 dX0_payAll_8 (by decide) (fun q => ?_) (fun q => ?_)
  · replace h := h.1 q
    refine zx_aload_n h0 1 dX0_payAll_15 rfl ?_
    obtain ⟨ho3, h⟩ := h
    refine zx_callVl (As := []) (rest := []) hF (c_X0_paidInAll a0 m ka0 ho3) (zc_X0_payAll_X0_paidInAll S) ka0 (by decide) rfl dX0_payAll_16 rfl rfl (Nat.le_of_ble_eq_true rfl) ⟨Nat.zero_le _, Nat.zero_le _⟩ (fun r4 m4 hq => ?_)
    obtain ⟨hme, hq⟩ := hq
    subst m4
    replace h := h r4 hq
    refine zx_lstore_n (L' := [(3, .long r4), (1, .long r2), (0, .ref a0)]) h0 dX0_payAll_19 (by decide) rfl ?_
    refine zx_aload_n h0 2 dX0_payAll_20 rfl ?_
    refine zx_get hF ka0 (by decide) rfl zi_X0_payAll_0 6 (by decide) zn_X0_payAll_34 rfl rfl dX0_payAll_21 ?_
    refine zx_astore (L' := [(5, .ref (a0 + 10)), (3, .long r4), (1, .long r2), (0, .ref a0)]) h0 dX0_payAll_24 (by decide) rfl ?_
    refine zx_aload h0 0 dX0_payAll_26 rfl ?_
    refine zx_alen (v := 16) hF (zL_0_10 hL ka0) (by decide) rfl (by decide) rfl rfl dX0_payAll_28 ?_
    refine zx_istore (L' := [(6, .int 16), (5, .ref (a0 + 10)), (3, .long r4), (1, .long r2), (0, .ref a0)]) h0 dX0_payAll_29 (by decide) rfl ?_
    refine zx_iconst (v := 0) h0 dX0_payAll_31 (by decide) ?_
    refine zx_istore (L' := [(7, .int 0), (6, .int 16), (5, .ref (a0 + 10)), (3, .long r4), (1, .long r2), (0, .ref a0)]) h0 dX0_payAll_32 (by decide) rfl ?_
    exact zx_sub [5, 4, 3, 2, 1, 0] rfl h
  · replace h := h.2 q
    refine zx_ldc2 (v := (-1)) h0 zn_X0_payAll_k128 dX0_payAll_11 ?_
    exact zx_lret hF hQ dX0_payAll_14 h
set_option maxRecDepth 100000 in
set_option maxHeartbeats 4000000 in
theorem sg_X0_payAll_34 {C : zC} {G : zG} {Qc : Array Value → State → Outcome → State → Prop} (S : St_X0_payAll C G Qc) {P_X0_payRests : Nat → Int64 → zM → Prop} {Q_X0_payRests : Nat → Int64 → zM → zM → Prop} (c_X0_payRests : Con_X0_payRests (zl C) G P_X0_payRests Q_X0_payRests) {P_X0_paidInAll : Nat → zM → Prop} {Q_X0_paidInAll : Nat → zM → Int64 → Prop} (c_X0_paidInAll : Con_X0_paidInAll (zl C) G P_X0_paidInAll Q_X0_paidInAll) {P_X0_shareOf : Nat → Int32 → Int64 → zM → Prop} {Q_X0_shareOf : Nat → Int32 → Int64 → zM → Int64 → Prop} (c_X0_shareOf : Con_X0_shareOf (zl C) G P_X0_shareOf Q_X0_shareOf) {P_X3_payUpTo : Nat → Int64 → zM → Prop} {Q_X3_payUpTo : Nat → Int64 → zM → zM → Prop} (c_X3_payUpTo : Con_X3_payUpTo (zl C) G P_X3_payUpTo Q_X3_payUpTo) {a0 : Nat} {l1 : Int64} {l3 : Int64} {x7 : Int32} {m : zM} (ka0 : zK G a0 = some (0, a0))
    (h : (16 ≤ x7 → ((P_X0_payRests a0 l1 m) ∧ (∀ (m2 : zM), Q_X0_payRests a0 l1 m m2 → ((P_X0_paidInAll a0 (zsI m2 9 a0 0 1)) ∧ (∀ (r4 : Int64), Q_X0_paidInAll a0 (zsI m2 9 a0 0 1) r4 → (zRet C G Qc (some (.long (r4 - l3))) (zsI m2 9 a0 0 1))))))) ∧ (¬ 16 ≤ x7 → ((vp_in x7 16) ∧ ((¬ (zI m 105 (a0 + 11 + 7 * x7.toNatClampNeg) 0) = 1 → (Pt_X0_payAll_34 C G a0 l1 l3 (x7 + 1) m)) ∧ ((zI m 105 (a0 + 11 + 7 * x7.toNatClampNeg) 0) = 1 → ((P_X0_shareOf a0 (zI m 107 (a0 + 11 + 7 * x7.toNatClampNeg) 0) l1 m) ∧ (∀ (r7 : Int64), Q_X0_shareOf a0 (zI m 107 (a0 + 11 + 7 * x7.toNatClampNeg) 0) l1 m r7 → ((P_X3_payUpTo ((a0 + 11 + 7 * x7.toNatClampNeg) + 1) r7 m) ∧ (∀ (m9 : zM), Q_X3_payUpTo ((a0 + 11 + 7 * x7.toNatClampNeg) + 1) r7 m m9 → (Pt_X0_payAll_34 C G a0 l1 l3 (x7 + 1) m9)))))))))) : Pt_X0_payAll_34 C G a0 l1 l3 x7 m := by
  obtain ⟨hF, hQ, hR⟩ := id S
  have h0 : zF0 C cX0_payAll 9 wsX0_payAll RX0 := hF.1
  have hL := hF.2.2.1
  unfold Pt_X0_payAll_34
  refine zx_iload h0 5 dX0_payAll_34 rfl ?_
  refine zx_iload h0 4 dX0_payAll_36 rfl ?_
  refine zx_icmp_ge (tgt := 81) h0 dX0_payAll_38 (by decide) (fun q => ?_) (fun q => ?_)
  · replace h := h.1 q
    refine zx_aload_n h0 0 dX0_payAll_81 rfl ?_
    refine zx_lload_n h0 1 dX0_payAll_82 rfl ?_
    obtain ⟨ho1, h⟩ := h
    refine zx_callVv (As := [.long l1]) (rest := []) hF (c_X0_payRests a0 l1 m ka0 ho1) (zc_X0_payAll_X0_payRests S) ka0 (by decide) rfl dX0_payAll_83 rfl rfl (Nat.le_of_ble_eq_true rfl) ⟨Nat.zero_le _, Nat.zero_le _⟩ (fun m2 hq => ?_)
    replace h := h m2 hq
    refine zx_aload_n h0 0 dX0_payAll_86 rfl ?_
    refine zx_iconst (v := 1) h0 dX0_payAll_87 (by decide) ?_
    refine zp_9 hF ka0 zi_X0_payAll_0 zn_X0_payAll_64 (by decide) dX0_payAll_88 ?_
    refine zx_aload_n h0 0 dX0_payAll_91 rfl ?_
    obtain ⟨ho3, h⟩ := h
    refine zx_callVl (As := []) (rest := []) hF (c_X0_paidInAll a0 (zsI m2 9 a0 0 1) ka0 ho3) (zc_X0_payAll_X0_paidInAll S) ka0 (by decide) rfl dX0_payAll_92 rfl rfl (Nat.le_of_ble_eq_true rfl) ⟨Nat.zero_le _, Nat.zero_le _⟩ (fun r4 m4 hq => ?_)
    obtain ⟨hme, hq⟩ := hq
    subst m4
    replace h := h r4 hq
    refine zx_lload_n h0 2 dX0_payAll_95 rfl ?_
    refine zx_lsub h0 dX0_payAll_96 ?_
    exact zx_lret hF hQ dX0_payAll_97 h
  · replace h := h.2 q
    refine zx_aload h0 3 dX0_payAll_41 rfl ?_
    refine zx_iload h0 5 dX0_payAll_43 rfl ?_
    obtain ⟨ho5, h⟩ := h
    refine zx_aaldC (j := x7.toNatClampNeg) hF (zL_0_10 hL ka0) ho5 rfl dX0_payAll_45 ?_
    refine zx_astore (L' := [(8, .ref (a0 + 11 + 7 * x7.toNatClampNeg)), (0, .ref a0), (1, .long l1), (3, .long l3), (5, .ref (a0 + 10)), (6, .int 16), (7, .int x7)]) h0 dX0_payAll_46 (by decide) rfl ?_
    refine zx_aload h0 0 dX0_payAll_48 rfl ?_
    refine zx_get hF (zL_claim hL ka0 (z_inlt ho5)) (by decide) rfl zi_X0_payAll_1 5 (by decide) zn_X0_payAll_83 rfl rfl dX0_payAll_50 ?_
    refine zx_iconst (v := 1) h0 dX0_payAll_53 (by decide) ?_
    refine zx_icmp_ne (tgt := 75) h0 dX0_payAll_54 (by decide) (fun q => ?_) (fun q => ?_)
    · replace h := h.1 q
      refine zx_iinc (v := (x7 + 1)) (L' := [(7, .int (x7 + 1)), (8, .ref (a0 + 11 + 7 * x7.toNatClampNeg)), (0, .ref a0), (1, .long l1), (3, .long l3), (5, .ref (a0 + 10)), (6, .int 16)]) h0 6 dX0_payAll_75 rfl rfl (by decide) rfl ?_
      refine zx_goto (tgt := 34) h0 dX0_payAll_78 (by decide) ?_
      exact zx_sub [2, 3, 4, 5, 6, 0] rfl h
    · replace h := h.2 q
      refine zx_aload h0 0 dX0_payAll_57 rfl ?_
      refine zx_get hF (zL_claim hL ka0 (z_inlt ho5)) (by decide) rfl zi_X0_payAll_1 8 (by decide) zn_X0_payAll_86 rfl rfl dX0_payAll_59 ?_
      refine zx_aload_n h0 1 dX0_payAll_62 rfl ?_
      refine zx_aload h0 0 dX0_payAll_63 rfl ?_
      refine zx_get hF (zL_claim hL ka0 (z_inlt ho5)) (by decide) rfl zi_X0_payAll_1 7 (by decide) zn_X0_payAll_105 rfl rfl dX0_payAll_65 ?_
      refine zx_lload_n h0 2 dX0_payAll_68 rfl ?_
      obtain ⟨ho6, h⟩ := h
      refine zx_callVl (As := [.int (zI m 107 (a0 + 11 + 7 * x7.toNatClampNeg) 0), .long l1]) (rest := [.ref ((a0 + 11 + 7 * x7.toNatClampNeg) + 1)]) hF (c_X0_shareOf a0 (zI m 107 (a0 + 11 + 7 * x7.toNatClampNeg) 0) l1 m ka0 ho6) (zc_X0_payAll_X0_shareOf S) ka0 (by decide) rfl dX0_payAll_69 rfl rfl (Nat.le_of_ble_eq_true rfl) ⟨Nat.zero_le _, Nat.zero_le _⟩ (fun r7 m7 hq => ?_)
      obtain ⟨hme, hq⟩ := hq
      subst m7
      replace h := h r7 hq
      obtain ⟨ho8, h⟩ := h
      refine zx_callVv (As := [.long r7]) (rest := []) hF (c_X3_payUpTo ((a0 + 11 + 7 * x7.toNatClampNeg) + 1) r7 m (zL_1_1 hL (zL_claim hL ka0 (z_inlt ho5))) ho8) (zc_X0_payAll_X3_payUpTo S) (zL_1_1 hL (zL_claim hL ka0 (z_inlt ho5))) (by decide) rfl dX0_payAll_72 rfl rfl (Nat.le_of_ble_eq_true rfl) ⟨Nat.zero_le _, Nat.zero_le _⟩ (fun m9 hq => ?_)
      replace h := h m9 hq
      refine zx_iinc (v := (x7 + 1)) (L' := [(7, .int (x7 + 1)), (8, .ref (a0 + 11 + 7 * x7.toNatClampNeg)), (0, .ref a0), (1, .long l1), (3, .long l3), (5, .ref (a0 + 10)), (6, .int 16)]) h0 6 dX0_payAll_75 rfl rfl (by decide) rfl ?_
      refine zx_goto (tgt := 34) h0 dX0_payAll_78 (by decide) ?_
      exact zx_sub [2, 3, 4, 5, 6, 0] rfl h
theorem zn_X0_leastInAll_34 : Cond.fieldLink RX0 34 RX0 (TX0 6).2.1 (TX0 6).2.2.1 ∈ wsX0_leastInAll := List.mem_of_getElem? (i := 1) rfl
theorem zi_X0_leastInAll_0 : ∀ w ∈ u_ws RX0 TX0 10, w ∈ wsX0_leastInAll := fun _ h => List.mem_cons_of_mem _ (List.mem_append_left _ (List.mem_append_right _ h))
theorem zn_X0_leastInAll_108 : Cond.fieldLink RX0 108 RX1 (TX1 6).2.1 (TX1 6).2.2.1 ∈ wsX0_leastInAll := List.mem_of_getElem? (i := 2) rfl
theorem zi_X0_leastInAll_1 : ∀ w ∈ u_ws RX1 TX1 9, w ∈ wsX0_leastInAll := fun _ h => List.mem_cons_of_mem _ (List.mem_append_right _ h)
set_option maxRecDepth 100000 in
set_option maxHeartbeats 4000000 in
theorem sg_X0_leastInAll_0 {C : zC} {G : zG} {Qc : Array Value → State → Outcome → State → Prop} (S : St_X0_leastInAll C G Qc) {a0 : Nat} {m : zM} (ka0 : zK G a0 = some (0, a0))
    (h : Pt_X0_leastInAll_14 C G 0 0 a0 m) : Pt_X0_leastInAll_0 C G a0 m := by
  obtain ⟨hF, hQ, hR⟩ := id S
  have h0 : zF0 C cX0_leastInAll 7 wsX0_leastInAll RX0 := hF.1
  have hL := hF.2.2.1
  unfold Pt_X0_leastInAll_0
  refine zx_lconst (v := 0) h0 dX0_leastInAll_0 (by decide) ?_
  refine zx_lstore_n (L' := [(1, .long 0), (0, .ref a0)]) h0 dX0_leastInAll_1 (by decide) rfl ?_
  refine zx_aload_n h0 1 dX0_leastInAll_2 rfl ?_
  refine zx_get hF ka0 (by decide) rfl zi_X0_leastInAll_0 6 (by decide) zn_X0_leastInAll_34 rfl rfl dX0_leastInAll_3 ?_
  refine zx_astore_n (L' := [(3, .ref (a0 + 10)), (1, .long 0), (0, .ref a0)]) h0 dX0_leastInAll_6 (by decide) rfl ?_
  refine zx_aload_n h0 0 dX0_leastInAll_7 rfl ?_
  refine zx_alen (v := 16) hF (zL_0_10 hL ka0) (by decide) rfl (by decide) rfl rfl dX0_leastInAll_8 ?_
  refine zx_istore (L' := [(4, .int 16), (3, .ref (a0 + 10)), (1, .long 0), (0, .ref a0)]) h0 dX0_leastInAll_9 (by decide) rfl ?_
  refine zx_iconst (v := 0) h0 dX0_leastInAll_11 (by decide) ?_
  refine zx_istore (L' := [(5, .int 0), (4, .int 16), (3, .ref (a0 + 10)), (1, .long 0), (0, .ref a0)]) h0 dX0_leastInAll_12 (by decide) rfl ?_
  exact zx_sub [3, 2, 1, 0] rfl h
set_option maxRecDepth 100000 in
set_option maxHeartbeats 4000000 in
theorem sg_X0_leastInAll_14 {C : zC} {G : zG} {Qc : Array Value → State → Outcome → State → Prop} (S : St_X0_leastInAll C G Qc) {l1 : Int64} {x5 : Int32} {a0 : Nat} {m : zM} (ka0 : zK G a0 = some (0, a0))
    (h : (16 ≤ x5 → (zRet C G Qc (some (.long l1)) m)) ∧ (¬ 16 ≤ x5 → ((vp_in x5 16) ∧ (Pt_X0_leastInAll_14 C G (l1 + (((zI m 106 (a0 + 11 + 7 * x5.toNatClampNeg) 0) : Int32).toInt64)) (x5 + 1) a0 m)))) : Pt_X0_leastInAll_14 C G l1 x5 a0 m := by
  obtain ⟨hF, hQ, hR⟩ := id S
  have h0 : zF0 C cX0_leastInAll 7 wsX0_leastInAll RX0 := hF.1
  have hL := hF.2.2.1
  unfold Pt_X0_leastInAll_14
  refine zx_iload h0 3 dX0_leastInAll_14 rfl ?_
  refine zx_iload h0 2 dX0_leastInAll_16 rfl ?_
  refine zx_icmp_ge (tgt := 42) h0 dX0_leastInAll_18 (by decide) (fun q => ?_) (fun q => ?_)
  · replace h := h.1 q
    refine zx_lload_n h0 0 dX0_leastInAll_42 rfl ?_
    exact zx_lret hF hQ dX0_leastInAll_43 h
  · replace h := h.2 q
    refine zx_aload_n h0 1 dX0_leastInAll_21 rfl ?_
    refine zx_iload h0 3 dX0_leastInAll_22 rfl ?_
    obtain ⟨ho1, h⟩ := h
    refine zx_aaldC (j := x5.toNatClampNeg) hF (zL_0_10 hL ka0) ho1 rfl dX0_leastInAll_24 ?_
    refine zx_astore (L' := [(6, .ref (a0 + 11 + 7 * x5.toNatClampNeg)), (1, .long l1), (3, .ref (a0 + 10)), (4, .int 16), (5, .int x5)]) h0 dX0_leastInAll_25 (by decide) rfl ?_
    refine zx_lload_n h0 1 dX0_leastInAll_27 rfl ?_
    refine zx_aload h0 0 dX0_leastInAll_28 rfl ?_
    refine zx_get hF (zL_claim hL ka0 (z_inlt ho1)) (by decide) rfl zi_X0_leastInAll_1 6 (by decide) zn_X0_leastInAll_108 rfl rfl dX0_leastInAll_30 ?_
    refine zx_i2l (v := (((zI m 106 (a0 + 11 + 7 * x5.toNatClampNeg) 0) : Int32).toInt64)) h0 dX0_leastInAll_33 rfl ?_
    refine zx_ladd h0 dX0_leastInAll_34 ?_
    refine zx_lstore_n (L' := [(1, .long (l1 + (((zI m 106 (a0 + 11 + 7 * x5.toNatClampNeg) 0) : Int32).toInt64))), (6, .ref (a0 + 11 + 7 * x5.toNatClampNeg)), (3, .ref (a0 + 10)), (4, .int 16), (5, .int x5)]) h0 dX0_leastInAll_35 (by decide) rfl ?_
    refine zx_iinc (v := (x5 + 1)) (L' := [(5, .int (x5 + 1)), (1, .long (l1 + (((zI m 106 (a0 + 11 + 7 * x5.toNatClampNeg) 0) : Int32).toInt64))), (6, .ref (a0 + 11 + 7 * x5.toNatClampNeg)), (3, .ref (a0 + 10)), (4, .int 16)]) h0 4 dX0_leastInAll_36 rfl rfl (by decide) rfl ?_
    refine zx_goto (tgt := 14) h0 dX0_leastInAll_39 (by decide) ?_
    exact zx_sub [1, 3, 4, 0] rfl h
theorem zn_X0_copyFrom_11 : Cond.fieldLink RX0 11 RX0 (TX0 0).2.1 (TX0 0).2.2.1 ∈ wsX0_copyFrom := List.mem_of_getElem? (i := 1) rfl
theorem zi_X0_copyFrom_0 : ∀ w ∈ u_ws RX0 TX0 10, w ∈ wsX0_copyFrom := fun _ h => List.mem_cons_of_mem _ (List.mem_append_left _ (List.mem_append_left _ (List.mem_append_left _ (List.mem_append_right _ h))))
theorem zn_X0_copyFrom_17 : Cond.fieldLink RX0 17 RX0 (TX0 1).2.1 (TX0 1).2.2.1 ∈ wsX0_copyFrom := List.mem_of_getElem? (i := 2) rfl
theorem zn_X0_copyFrom_ml39 : Cond.methodLink RX0 39 arraycopyName ∈ wsX0_copyFrom := List.mem_of_getElem? (i := 3) rfl
theorem zn_X0_copyFrom_mn : Cond.native arraycopyName ∈ wsX0_copyFrom := List.mem_of_getElem? (i := 4) rfl
theorem zn_X0_copyFrom_ms : Cond.static arraycopyName ∈ wsX0_copyFrom := List.mem_of_getElem? (i := 5) rfl
theorem zn_X0_copyFrom_mi : Cond.initialized "java/lang/System" ∈ wsX0_copyFrom := List.mem_of_getElem? (i := 6) rfl
theorem zn_X0_copyFrom_45 : Cond.fieldLink RX0 45 RX0 (TX0 2).2.1 (TX0 2).2.2.1 ∈ wsX0_copyFrom := List.mem_of_getElem? (i := 7) rfl
theorem zn_X0_copyFrom_24 : Cond.fieldLink RX0 24 RX0 (TX0 3).2.1 (TX0 3).2.2.1 ∈ wsX0_copyFrom := List.mem_of_getElem? (i := 8) rfl
theorem zn_X0_copyFrom_52 : Cond.fieldLink RX0 52 RX0 (TX0 4).2.1 (TX0 4).2.2.1 ∈ wsX0_copyFrom := List.mem_of_getElem? (i := 9) rfl
theorem zn_X0_copyFrom_28 : Cond.fieldLink RX0 28 RX0 (TX0 5).2.1 (TX0 5).2.2.1 ∈ wsX0_copyFrom := List.mem_of_getElem? (i := 10) rfl
theorem zn_X0_copyFrom_58 : Cond.fieldLink RX0 58 RX0 (TX0 7).2.1 (TX0 7).2.2.1 ∈ wsX0_copyFrom := List.mem_of_getElem? (i := 12) rfl
theorem zn_X0_copyFrom_61 : Cond.fieldLink RX0 61 RX0 (TX0 8).2.1 (TX0 8).2.2.1 ∈ wsX0_copyFrom := List.mem_of_getElem? (i := 13) rfl
theorem zn_X0_copyFrom_64 : Cond.fieldLink RX0 64 RX0 (TX0 9).2.1 (TX0 9).2.2.1 ∈ wsX0_copyFrom := List.mem_of_getElem? (i := 14) rfl
theorem zn_X0_copyFrom_34 : Cond.fieldLink RX0 34 RX0 (TX0 6).2.1 (TX0 6).2.2.1 ∈ wsX0_copyFrom := List.mem_of_getElem? (i := 11) rfl
theorem zc_X0_copyFrom_X2_copyFrom {C : zC} {G : zG} {Qc : Array Value → State → Outcome → State → Prop} (S : St_X0_copyFrom C G Qc) : CallW (zRm C) (zs C) (zar C) RX0 RX2 48 yX2_copyFrom cX2_copyFrom 2 none wsX2_copyFrom rm_X2_copyFrom 0 0 1 := cwV 1 S.1.1.2.2.2.2 gX0_copyFrom_X2_copyFrom rfl rfl rfl (by decide +kernel) (by rw [S.2.2]; exact ⟨Nat.le_of_ble_eq_true rfl, Nat.le_of_ble_eq_true rfl⟩)
theorem zc_X0_copyFrom_X1_copyFrom {C : zC} {G : zG} {Qc : Array Value → State → Outcome → State → Prop} (S : St_X0_copyFrom C G Qc) : CallW (zRm C) (zs C) (zar C) RX0 RX1 55 yX1_copyFrom cX1_copyFrom 2 none wsX1_copyFrom rm_X1_copyFrom 0 0 1 := cwV 1 S.1.1.2.2.2.2 gX0_copyFrom_X1_copyFrom rfl rfl rfl (by decide +kernel) (by rw [S.2.2]; exact ⟨Nat.le_of_ble_eq_true rfl, Nat.le_of_ble_eq_true rfl⟩)
set_option maxRecDepth 100000 in
set_option maxHeartbeats 4000000 in
theorem sg_X0_copyFrom_0 {C : zC} {G : zG} {Qc : Array Value → State → Outcome → State → Prop} (S : St_X0_copyFrom C G Qc) {P_X2_copyFrom : Nat → Nat → zM → Prop} {Q_X2_copyFrom : Nat → Nat → zM → zM → Prop} (c_X2_copyFrom : Con_X2_copyFrom (zl C) G P_X2_copyFrom Q_X2_copyFrom) {a0 : Nat} {a1 : Nat} {m : zM} (ka0 : zK G a0 = some (0, a0)) (ka1 : zK G a1 = some (0, a1))
    (h : (P_X2_copyFrom (zR m 3 a0) (zR m 3 a1) (zsI (zcI (zsJ m 0 a0 0 (zJ m 0 a1 0)) 1001 a0 (zI m 1001 a1)) 2 a0 0 (zI m 2 a1 0))) ∧ (∀ (m4 : zM), Q_X2_copyFrom (zR m 3 a0) (zR m 3 a1) (zsI (zcI (zsJ m 0 a0 0 (zJ m 0 a1 0)) 1001 a0 (zI m 1001 a1)) 2 a0 0 (zI m 2 a1 0)) m4 → (Pt_X0_copyFrom_61 C G a0 a1 0 (zsI (zsI m4 4 a0 0 (zI m4 4 a1 0)) 5 a0 0 (zI m4 5 a1 0))))) : Pt_X0_copyFrom_0 C G a0 a1 m := by
  obtain ⟨hF, hQ, hR⟩ := id S
  have h0 : zF0 C cX0_copyFrom 3 wsX0_copyFrom RX0 := hF.1
  have hL := hF.2.2.1
  unfold Pt_X0_copyFrom_0
  refine zx_aload_n h0 0 dX0_copyFrom_0 rfl ?_
  refine zx_aload_n h0 1 dX0_copyFrom_1 rfl ?_
  refine zx_get hF ka1 (by decide) rfl zi_X0_copyFrom_0 0 (by decide) zn_X0_copyFrom_11 rfl rfl dX0_copyFrom_2 ?_
  refine zp_0 hF ka0 zi_X0_copyFrom_0 zn_X0_copyFrom_11 dX0_copyFrom_5 ?_
  refine zx_aload_n h0 1 dX0_copyFrom_8 rfl ?_
  refine zx_get hF ka1 (by decide) rfl zi_X0_copyFrom_0 1 (by decide) zn_X0_copyFrom_17 rfl rfl dX0_copyFrom_9 ?_
  refine zx_iconst (v := 0) h0 dX0_copyFrom_12 (by decide) ?_
  refine zx_aload_n h0 0 dX0_copyFrom_13 rfl ?_
  refine zx_get hF ka0 (by decide) rfl zi_X0_copyFrom_0 1 (by decide) zn_X0_copyFrom_17 rfl rfl dX0_copyFrom_14 ?_
  refine zx_iconst (v := 0) h0 dX0_copyFrom_17 (by decide) ?_
  refine zx_sipush (v := 400) h0 dX0_copyFrom_18 (by decide) ?_
  refine zx_copyB (g := (zI m 1001 a1)) hF (zL_0_1 hL ka1) (zL_0_1 hL ka0) zn_X0_copyFrom_ml39 zn_X0_copyFrom_mn zn_X0_copyFrom_ms zn_X0_copyFrom_mi (by decide) rfl rfl (by decide) (funext fun jj => zI_J) (by rw [hR]; exact Nat.le_of_ble_eq_true rfl) (by rw [hR]; exact Nat.le_of_ble_eq_true rfl) dX0_copyFrom_21 ?_
  refine zx_aload_n h0 0 dX0_copyFrom_24 rfl ?_
  refine zx_aload_n h0 1 dX0_copyFrom_25 rfl ?_
  refine zx_get hF ka1 (by decide) rfl zi_X0_copyFrom_0 2 (by decide) zn_X0_copyFrom_45 rfl rfl dX0_copyFrom_26 ?_
  refine zx_topI ((zI_cn (by decide)).trans (zI_J)) ?_
  refine zp_2 hF ka0 zi_X0_copyFrom_0 zn_X0_copyFrom_45 dX0_copyFrom_29 ?_
  refine zx_aload_n h0 0 dX0_copyFrom_32 rfl ?_
  refine zx_wt (fun hw1 => ?_)
  refine zx_get hF ka0 (by decide) rfl zi_X0_copyFrom_0 3 (by decide) zn_X0_copyFrom_24 rfl rfl dX0_copyFrom_33 ?_
  refine zx_topR ((zR_I).trans ((zR_CI).trans (zR_J))) ?_
  refine zx_aload_n h0 1 dX0_copyFrom_36 rfl ?_
  refine zx_wt (fun hw2 => ?_)
  refine zx_get hF ka1 (by decide) rfl zi_X0_copyFrom_0 3 (by decide) zn_X0_copyFrom_24 rfl rfl dX0_copyFrom_37 ?_
  refine zx_topR ((zR_I).trans ((zR_CI).trans (zR_J))) ?_
  obtain ⟨ho3, h⟩ := h
  refine zx_callVv (As := [.ref (zR m 3 a1)]) (rest := []) hF (c_X2_copyFrom (zR m 3 a0) (zR m 3 a1) (zsI (zcI (zsJ m 0 a0 0 (zJ m 0 a1 0)) 1001 a0 (zI m 1001 a1)) 2 a0 0 (zI m 2 a1 0)) (show zK G (zR m 3 a0) = some (2, (zR m 3 a0)) from (hw1.2.1 _ ka0)) (show zK G (zR m 3 a1) = some (2, (zR m 3 a1)) from (hw2.2.1 _ ka1)) ho3) (zc_X0_copyFrom_X2_copyFrom S) (show zK G (zR m 3 a0) = some (2, (zR m 3 a0)) from (hw1.2.1 _ ka0)) (by decide) rfl dX0_copyFrom_40 rfl rfl (Nat.le_of_ble_eq_true rfl) ⟨Nat.zero_le _, Nat.zero_le _⟩ (fun m4 hq => ?_)
  replace h := h m4 hq
  refine zx_aload_n h0 0 dX0_copyFrom_43 rfl ?_
  refine zx_aload_n h0 1 dX0_copyFrom_44 rfl ?_
  refine zx_get hF ka1 (by decide) rfl zi_X0_copyFrom_0 4 (by decide) zn_X0_copyFrom_52 rfl rfl dX0_copyFrom_45 ?_
  refine zp_4 hF ka0 zi_X0_copyFrom_0 zn_X0_copyFrom_52 dX0_copyFrom_48 ?_
  refine zx_aload_n h0 0 dX0_copyFrom_51 rfl ?_
  refine zx_aload_n h0 1 dX0_copyFrom_52 rfl ?_
  refine zx_get hF ka1 (by decide) rfl zi_X0_copyFrom_0 5 (by decide) zn_X0_copyFrom_28 rfl rfl dX0_copyFrom_53 ?_
  refine zx_topI (zI_n (by decide)) ?_
  refine zp_5 hF ka0 zi_X0_copyFrom_0 zn_X0_copyFrom_28 dX0_copyFrom_56 ?_
  refine zx_iconst (v := 0) h0 dX0_copyFrom_59 (by decide) ?_
  refine zx_istore_n (L' := [(2, .int 0), (0, .ref a0), (1, .ref a1)]) h0 dX0_copyFrom_60 (by decide) rfl ?_
  exact zx_sub [1, 2, 0] rfl h
set_option maxRecDepth 100000 in
set_option maxHeartbeats 4000000 in
theorem sg_X0_copyFrom_61 {C : zC} {G : zG} {Qc : Array Value → State → Outcome → State → Prop} (S : St_X0_copyFrom C G Qc) {P_X1_copyFrom : Nat → Nat → zM → Prop} {Q_X1_copyFrom : Nat → Nat → zM → zM → Prop} (c_X1_copyFrom : Con_X1_copyFrom (zl C) G P_X1_copyFrom Q_X1_copyFrom) {a0 : Nat} {a1 : Nat} {x2 : Int32} {m : zM} (ka0 : zK G a0 = some (0, a0)) (ka1 : zK G a1 = some (0, a1))
    (h : (16 ≤ x2 → (((zI m 9 a1 0) = 0 ∨ (zI m 9 a1 0) = 1) ∧ (zRet C G Qc none (zsI (zsI (zsI m 7 a0 0 (zI m 7 a1 0)) 8 a0 0 (zI m 8 a1 0)) 9 a0 0 (zI m 9 a1 0))))) ∧ (¬ 16 ≤ x2 → ((vp_in x2 16) ∧ ((P_X1_copyFrom (a0 + 11 + 7 * x2.toNatClampNeg) (a1 + 11 + 7 * x2.toNatClampNeg) m) ∧ (∀ (m4 : zM), Q_X1_copyFrom (a0 + 11 + 7 * x2.toNatClampNeg) (a1 + 11 + 7 * x2.toNatClampNeg) m m4 → (Pt_X0_copyFrom_61 C G a0 a1 (x2 + 1) m4)))))) : Pt_X0_copyFrom_61 C G a0 a1 x2 m := by
  obtain ⟨hF, hQ, hR⟩ := id S
  have h0 : zF0 C cX0_copyFrom 3 wsX0_copyFrom RX0 := hF.1
  have hL := hF.2.2.1
  unfold Pt_X0_copyFrom_61
  refine zx_iload_n h0 2 dX0_copyFrom_61 rfl ?_
  refine zx_bipush (v := 16) h0 dX0_copyFrom_62 (by decide) ?_
  refine zx_icmp_ge (tgt := 88) h0 dX0_copyFrom_64 (by decide) (fun q => ?_) (fun q => ?_)
  · replace h := h.1 q
    refine zx_aload_n h0 0 dX0_copyFrom_88 rfl ?_
    refine zx_aload_n h0 1 dX0_copyFrom_89 rfl ?_
    refine zx_get hF ka1 (by decide) rfl zi_X0_copyFrom_0 7 (by decide) zn_X0_copyFrom_58 rfl rfl dX0_copyFrom_90 ?_
    refine zp_7 hF ka0 zi_X0_copyFrom_0 zn_X0_copyFrom_58 dX0_copyFrom_93 ?_
    refine zx_aload_n h0 0 dX0_copyFrom_96 rfl ?_
    refine zx_aload_n h0 1 dX0_copyFrom_97 rfl ?_
    refine zx_get hF ka1 (by decide) rfl zi_X0_copyFrom_0 8 (by decide) zn_X0_copyFrom_61 rfl rfl dX0_copyFrom_98 ?_
    refine zx_topI (zI_n (by decide)) ?_
    refine zp_8 hF ka0 zi_X0_copyFrom_0 zn_X0_copyFrom_61 dX0_copyFrom_101 ?_
    refine zx_aload_n h0 0 dX0_copyFrom_104 rfl ?_
    refine zx_aload_n h0 1 dX0_copyFrom_105 rfl ?_
    refine zx_get hF ka1 (by decide) rfl zi_X0_copyFrom_0 9 (by decide) zn_X0_copyFrom_64 rfl rfl dX0_copyFrom_106 ?_
    refine zx_topI ((zI_n (by decide)).trans (zI_n (by decide))) ?_
    obtain ⟨ho1, h⟩ := h
    refine zp_9 hF ka0 zi_X0_copyFrom_0 zn_X0_copyFrom_64 ho1 dX0_copyFrom_109 ?_
    exact zx_vret hF hQ dX0_copyFrom_112 h
  · replace h := h.2 q
    refine zx_aload_n h0 0 dX0_copyFrom_67 rfl ?_
    refine zx_get hF ka0 (by decide) rfl zi_X0_copyFrom_0 6 (by decide) zn_X0_copyFrom_34 rfl rfl dX0_copyFrom_68 ?_
    refine zx_iload_n h0 2 dX0_copyFrom_71 rfl ?_
    obtain ⟨ho2, h⟩ := h
    refine zx_aaldC (j := x2.toNatClampNeg) hF (zL_0_10 hL ka0) ho2 rfl dX0_copyFrom_72 ?_
    refine zx_aload_n h0 1 dX0_copyFrom_73 rfl ?_
    refine zx_get hF ka1 (by decide) rfl zi_X0_copyFrom_0 6 (by decide) zn_X0_copyFrom_34 rfl rfl dX0_copyFrom_74 ?_
    refine zx_iload_n h0 2 dX0_copyFrom_77 rfl ?_
    refine zx_aaldC (j := x2.toNatClampNeg) hF (zL_0_10 hL ka1) ho2 rfl dX0_copyFrom_78 ?_
    obtain ⟨ho3, h⟩ := h
    refine zx_callVv (As := [.ref (a1 + 11 + 7 * x2.toNatClampNeg)]) (rest := []) hF (c_X1_copyFrom (a0 + 11 + 7 * x2.toNatClampNeg) (a1 + 11 + 7 * x2.toNatClampNeg) m (zL_claim hL ka0 (z_inlt ho2)) (zL_claim hL ka1 (z_inlt ho2)) ho3) (zc_X0_copyFrom_X1_copyFrom S) (zL_claim hL ka0 (z_inlt ho2)) (by decide) rfl dX0_copyFrom_79 rfl rfl (Nat.le_of_ble_eq_true rfl) ⟨Nat.zero_le _, Nat.zero_le _⟩ (fun m4 hq => ?_)
    replace h := h m4 hq
    refine zx_iinc (v := (x2 + 1)) (L' := [(2, .int (x2 + 1)), (0, .ref a0), (1, .ref a1)]) h0 2 dX0_copyFrom_82 rfl rfl (by decide) rfl ?_
    refine zx_goto (tgt := 61) h0 dX0_copyFrom_85 (by decide) ?_
    exact zx_sub [1, 2, 0] rfl h
theorem zn_X0_setFault_52 : Cond.fieldLink RX0 52 RX0 (TX0 4).2.1 (TX0 4).2.2.1 ∈ wsX0_setFault := List.mem_of_getElem? (i := 1) rfl
theorem zi_X0_setFault_0 : ∀ w ∈ u_ws RX0 TX0 10, w ∈ wsX0_setFault := fun _ h => List.mem_cons_of_mem _ (List.mem_append_right _ h)
theorem zn_X0_setFault_28 : Cond.fieldLink RX0 28 RX0 (TX0 5).2.1 (TX0 5).2.2.1 ∈ wsX0_setFault := List.mem_of_getElem? (i := 2) rfl
set_option maxRecDepth 100000 in
set_option maxHeartbeats 4000000 in
theorem sg_X0_setFault_0 {C : zC} {G : zG} {Qc : Array Value → State → Outcome → State → Prop} (S : St_X0_setFault C G Qc) {a0 : Nat} {x1 : Int32} {x2 : Int32} {m : zM} (ka0 : zK G a0 = some (0, a0))
    (h : zRet C G Qc none (zsI (zsI m 4 a0 0 x1) 5 a0 0 x2)) : Pt_X0_setFault_0 C G a0 x1 x2 m := by
  obtain ⟨hF, hQ, hR⟩ := id S
  have h0 : zF0 C cX0_setFault 3 wsX0_setFault RX0 := hF.1
  have hL := hF.2.2.1
  unfold Pt_X0_setFault_0
  refine zx_aload_n h0 0 dX0_setFault_0 rfl ?_
  refine zx_iload_n h0 1 dX0_setFault_1 rfl ?_
  refine zp_4 hF ka0 zi_X0_setFault_0 zn_X0_setFault_52 dX0_setFault_2 ?_
  refine zx_aload_n h0 0 dX0_setFault_5 rfl ?_
  refine zx_iload_n h0 2 dX0_setFault_6 rfl ?_
  refine zp_5 hF ka0 zi_X0_setFault_0 zn_X0_setFault_28 dX0_setFault_7 ?_
  exact zx_vret hF hQ dX0_setFault_10 h
theorem zn_X0_useRules_24 : Cond.fieldLink RX0 24 RX0 (TX0 3).2.1 (TX0 3).2.2.1 ∈ wsX0_useRules := List.mem_of_getElem? (i := 1) rfl
theorem zi_X0_useRules_0 : ∀ w ∈ u_ws RX0 TX0 10, w ∈ wsX0_useRules := fun _ h => List.mem_cons_of_mem _ (List.mem_append_left _ (List.mem_append_left _ (List.mem_append_right _ h)))
theorem zn_X0_useRules_34 : Cond.fieldLink RX0 34 RX0 (TX0 6).2.1 (TX0 6).2.2.1 ∈ wsX0_useRules := List.mem_of_getElem? (i := 2) rfl
theorem zc_X0_useRules_X1_measure {C : zC} {G : zG} {Qc : Array Value → State → Outcome → State → Prop} (S : St_X0_useRules C G Qc) : CallW (zRm C) (zs C) (zar C) RX0 RX1 68 yX1_measure cX1_measure 4 none wsX1_measure rm_X1_measure 0 0 1 := cwV 1 S.1.1.2.2.2.2 gX0_useRules_X1_measure rfl rfl rfl (by decide +kernel) (by rw [S.2.2]; exact ⟨Nat.le_of_ble_eq_true rfl, Nat.le_of_ble_eq_true rfl⟩)
set_option maxRecDepth 100000 in
set_option maxHeartbeats 4000000 in
theorem sg_X0_useRules_0 {C : zC} {G : zG} {Qc : Array Value → State → Outcome → State → Prop} (S : St_X0_useRules C G Qc) {a0 : Nat} {a1 : Nat} {m : zM} (ka0 : zK G a0 = some (0, a0)) (ka1 : zK G a1 = some (2, a1))
    (h : Pt_X0_useRules_16 C G a0 0 (zsR m 3 a0 a1)) : Pt_X0_useRules_0 C G a0 a1 m := by
  obtain ⟨hF, hQ, hR⟩ := id S
  have h0 : zF0 C cX0_useRules 6 wsX0_useRules RX0 := hF.1
  have hL := hF.2.2.1
  unfold Pt_X0_useRules_0
  refine zx_aload_n h0 0 dX0_useRules_0 rfl ?_
  refine zx_aload_n h0 1 dX0_useRules_1 rfl ?_
  refine zp_3 hF ka0 zi_X0_useRules_0 zn_X0_useRules_24 ka1 dX0_useRules_2 ?_
  refine zx_aload_n h0 0 dX0_useRules_5 rfl ?_
  refine zx_get hF ka0 (by decide) rfl zi_X0_useRules_0 6 (by decide) zn_X0_useRules_34 rfl rfl dX0_useRules_6 ?_
  refine zx_astore_n (L' := [(2, .ref (a0 + 10)), (0, .ref a0), (1, .ref a1)]) h0 dX0_useRules_9 (by decide) rfl ?_
  refine zx_aload_n h0 0 dX0_useRules_10 rfl ?_
  refine zx_alen (v := 16) hF (zL_0_10 hL ka0) (by decide) rfl (by decide) rfl rfl dX0_useRules_11 ?_
  refine zx_istore_n (L' := [(3, .int 16), (2, .ref (a0 + 10)), (0, .ref a0), (1, .ref a1)]) h0 dX0_useRules_12 (by decide) rfl ?_
  refine zx_iconst (v := 0) h0 dX0_useRules_13 (by decide) ?_
  refine zx_istore (L' := [(4, .int 0), (3, .int 16), (2, .ref (a0 + 10)), (0, .ref a0), (1, .ref a1)]) h0 dX0_useRules_14 (by decide) rfl ?_
  exact zx_sub [3, 2, 1, 0] rfl h
set_option maxRecDepth 100000 in
set_option maxHeartbeats 4000000 in
theorem sg_X0_useRules_16 {C : zC} {G : zG} {Qc : Array Value → State → Outcome → State → Prop} (S : St_X0_useRules C G Qc) {P_X1_measure : Nat → Nat → zM → Prop} {Q_X1_measure : Nat → Nat → zM → zM → Prop} (c_X1_measure : Con_X1_measure (zl C) G P_X1_measure Q_X1_measure) {a0 : Nat} {x4 : Int32} {m : zM} (ka0 : zK G a0 = some (0, a0))
    (h : (16 ≤ x4 → (zRet C G Qc none m)) ∧ (¬ 16 ≤ x4 → ((vp_in x4 16) ∧ ((P_X1_measure (a0 + 11 + 7 * x4.toNatClampNeg) (zR m 3 a0) m) ∧ (∀ (m4 : zM), Q_X1_measure (a0 + 11 + 7 * x4.toNatClampNeg) (zR m 3 a0) m m4 → (Pt_X0_useRules_16 C G a0 (x4 + 1) m4)))))) : Pt_X0_useRules_16 C G a0 x4 m := by
  obtain ⟨hF, hQ, hR⟩ := id S
  have h0 : zF0 C cX0_useRules 6 wsX0_useRules RX0 := hF.1
  have hL := hF.2.2.1
  unfold Pt_X0_useRules_16
  refine zx_iload h0 3 dX0_useRules_16 rfl ?_
  refine zx_iload_n h0 2 dX0_useRules_18 rfl ?_
  refine zx_icmp_ge (tgt := 43) h0 dX0_useRules_19 (by decide) (fun q => ?_) (fun q => ?_)
  · replace h := h.1 q
    exact zx_vret hF hQ dX0_useRules_43 h
  · replace h := h.2 q
    refine zx_aload_n h0 1 dX0_useRules_22 rfl ?_
    refine zx_iload h0 3 dX0_useRules_23 rfl ?_
    obtain ⟨ho1, h⟩ := h
    refine zx_aaldC (j := x4.toNatClampNeg) hF (zL_0_10 hL ka0) ho1 rfl dX0_useRules_25 ?_
    refine zx_astore (L' := [(5, .ref (a0 + 11 + 7 * x4.toNatClampNeg)), (0, .ref a0), (2, .ref (a0 + 10)), (3, .int 16), (4, .int x4)]) h0 dX0_useRules_26 (by decide) rfl ?_
    refine zx_aload h0 0 dX0_useRules_28 rfl ?_
    refine zx_aload_n h0 1 dX0_useRules_30 rfl ?_
    refine zx_wt (fun hw2 => ?_)
    refine zx_get hF ka0 (by decide) rfl zi_X0_useRules_0 3 (by decide) zn_X0_useRules_24 rfl rfl dX0_useRules_31 ?_
    obtain ⟨ho3, h⟩ := h
    refine zx_callVv (As := [.ref (zR m 3 a0)]) (rest := []) hF (c_X1_measure (a0 + 11 + 7 * x4.toNatClampNeg) (zR m 3 a0) m (zL_claim hL ka0 (z_inlt ho1)) (hw2.2.1 _ ka0) ho3) (zc_X0_useRules_X1_measure S) (zL_claim hL ka0 (z_inlt ho1)) (by decide) rfl dX0_useRules_34 rfl rfl (Nat.le_of_ble_eq_true rfl) ⟨Nat.zero_le _, Nat.zero_le _⟩ (fun m4 hq => ?_)
    replace h := h m4 hq
    refine zx_iinc (v := (x4 + 1)) (L' := [(4, .int (x4 + 1)), (5, .ref (a0 + 11 + 7 * x4.toNatClampNeg)), (0, .ref a0), (2, .ref (a0 + 10)), (3, .int 16)]) h0 4 dX0_useRules_37 rfl rfl (by decide) rfl ?_
    refine zx_goto (tgt := 16) h0 dX0_useRules_40 (by decide) ?_
    exact zx_sub [2, 3, 4, 0] rfl h
