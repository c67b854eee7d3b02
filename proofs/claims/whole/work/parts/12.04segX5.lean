theorem zn_X5_fund_12 : Cond.fieldLink RX5 12 RX5 (TX5 0).2.1 (TX5 0).2.2.1 ∈ wsX5_fund := List.mem_of_getElem? (i := 1) rfl
theorem zi_X5_fund_5 : ∀ w ∈ u_ws RX5 TX5 3, w ∈ wsX5_fund := fun _ h => List.mem_cons_of_mem _ (List.mem_append_left _ (List.mem_append_left _ (List.mem_append_left _ (List.mem_append_right _ h))))
theorem zn_X5_fund_27 : Cond.fieldLink RX5 27 RX0 (TX0 9).2.1 (TX0 9).2.2.1 ∈ wsX5_fund := List.mem_of_getElem? (i := 2) rfl
theorem zi_X5_fund_0 : ∀ w ∈ u_ws RX0 TX0 10, w ∈ wsX5_fund := fun _ h => List.mem_cons_of_mem _ (List.mem_append_left _ (List.mem_append_left _ (List.mem_append_right _ h)))
theorem zn_X5_fund_k31 : Cond.constantLong RX5 31 1000000000000 ∈ wsX5_fund := List.mem_of_getElem? (i := 3) rfl
theorem zn_X5_fund_37 : Cond.fieldLink RX5 37 RX0 (TX0 0).2.1 (TX0 0).2.2.1 ∈ wsX5_fund := List.mem_of_getElem? (i := 4) rfl
theorem zc_X5_fund_X0_paidInAll {C : zC} {G : zG} {Qc : Array Value → State → Outcome → State → Prop} (S : St_X5_fund C G Qc) : CallW (zRm C) (zs C) (zar C) RX5 RX0 33 yX0_paidInAll cX0_paidInAll 7 (some .long) wsX0_paidInAll rm_X0_paidInAll 0 0 0 := cwV 0 S.1.1.2.2.2.2 gX5_fund_X0_paidInAll rfl rfl rfl (by decide +kernel) (by rw [S.2.2]; exact ⟨Nat.le_of_ble_eq_true rfl, Nat.le_of_ble_eq_true rfl⟩)
set_option maxRecDepth 100000 in
set_option maxHeartbeats 4000000 in
theorem sg_X5_fund_0 {C : zC} {G : zG} {Qc : Array Value → State → Outcome → State → Prop} (S : St_X5_fund C G Qc) {P_X0_paidInAll : Nat → zM → Prop} {Q_X0_paidInAll : Nat → zM → Int64 → Prop} (c_X0_paidInAll : Con_X0_paidInAll (zl C) G P_X0_paidInAll Q_X0_paidInAll) {a0 : Nat} {l1 : Int64} {m : zM} (ka0 : zK G a0 = some (5, a0))
    (h : (¬ (zI m 9 (a0 + 1) 0) = 0 → (zRet C G Qc (some (.int 0)) m)) ∧ ((zI m 9 (a0 + 1) 0) = 0 → ((l1 < 1 → (zRet C G Qc (some (.int 0)) m)) ∧ (¬ l1 < 1 → ((1000000000000 < l1 → (zRet C G Qc (some (.int 0)) m)) ∧ (¬ 1000000000000 < l1 → ((P_X0_paidInAll (a0 + 1) m) ∧ (∀ (r2 : Int64), Q_X0_paidInAll (a0 + 1) m r2 → ((r2 ≤ 0 → (zRet C G Qc (some (.int 1)) (zsJ m 0 (a0 + 1) 0 l1))) ∧ (¬ r2 ≤ 0 → (zRet C G Qc (some (.int 0)) m))))))))))) : Pt_X5_fund_0 C G a0 l1 m := by
  obtain ⟨hF, hQ, hR⟩ := id S
  have h0 : zF0 C cX5_fund 3 wsX5_fund RX5 := hF.1
  have hL := hF.2.2.1
  unfold Pt_X5_fund_0
  refine zx_aload_n h0 0 dX5_fund_0 rfl ?_
  refine zx_get hF ka0 (by decide) rfl zi_X5_fund_5 0 (by decide) zn_X5_fund_12 rfl rfl dX5_fund_1 ?_
  refine zx_get hF (zL_5_1 hL ka0) (by decide) rfl zi_X5_fund_0 9 (by decide) zn_X5_fund_27 rfl rfl dX5_fund_4 ?_
  refine zx_if_ne (tgt := 36) h0 dX5_fund_7 (by decide) (fun q => ?_) (fun q => ?_)
  · replace h := h.1 q
    refine zx_iconst (v := 0) h0 dX5_fund_36 (by decide) ?_
    exact zx_zret hF hQ rfl dX5_fund_37 h
  · replace h := h.2 q
    refine zx_lload_n h0 1 dX5_fund_10 rfl ?_
    refine zx_lconst (v := 1) h0 dX5_fund_11 (by decide) ?_
    refine zx_lcmp_lt (tgt := 36) h0 dX5_fund_12 dX5_fund_13 (by decide) (fun q => ?_) (fun q => ?_)
    · replace h := h.1 q
      refine zx_iconst (v := 0) h0 dX5_fund_36 (by decide) ?_
      exact zx_zret hF hQ rfl dX5_fund_37 h
    · replace h := h.2 q
      refine zx_lload_n h0 1 dX5_fund_16 rfl ?_
      refine zx_ldc2 (v := 1000000000000) h0 zn_X5_fund_k31 dX5_fund_17 ?_
      refine zx_lcmp_gt (tgt := 36) h0 dX5_fund_20 dX5_fund_21 (by decide) (fun q => ?_) (fun q => ?_)
      · replace h := h.1 q
        refine zx_iconst (v := 0) h0 dX5_fund_36 (by decide) ?_
        exact zx_zret hF hQ rfl dX5_fund_37 h
      · replace h := h.2 q
        refine zx_aload_n h0 0 dX5_fund_24 rfl ?_
        refine zx_get hF ka0 (by decide) rfl zi_X5_fund_5 0 (by decide) zn_X5_fund_12 rfl rfl dX5_fund_25 ?_
        obtain ⟨ho1, h⟩ := h
        refine zx_callVl (As := []) (rest := []) hF (c_X0_paidInAll (a0 + 1) m (zL_5_1 hL ka0) ho1) (zc_X5_fund_X0_paidInAll S) (zL_5_1 hL ka0) (by decide) rfl dX5_fund_28 rfl rfl (Nat.le_of_ble_eq_true rfl) ⟨Nat.zero_le _, Nat.zero_le _⟩ (fun r2 m2 hq => ?_)
        obtain ⟨hme, hq⟩ := hq
        subst m2
        replace h := h r2 hq
        refine zx_lconst (v := 0) h0 dX5_fund_31 (by decide) ?_
        refine zx_lcmp_le (tgt := 38) h0 dX5_fund_32 dX5_fund_33 (by decide) (fun q => ?_) (fun q => ?_)
        · replace h := h.1 q
          refine zx_aload_n h0 0 dX5_fund_38 rfl ?_
          refine zx_get hF ka0 (by decide) rfl zi_X5_fund_5 0 (by decide) zn_X5_fund_12 rfl rfl dX5_fund_39 ?_
          refine zx_lload_n h0 1 dX5_fund_42 rfl ?_
          refine zp_0 hF (zL_5_1 hL ka0) zi_X5_fund_0 zn_X5_fund_37 dX5_fund_43 ?_
          refine zx_iconst (v := 1) h0 dX5_fund_46 (by decide) ?_
          exact zx_zret hF hQ rfl dX5_fund_47 h
        · replace h := h.2 q
          refine zx_iconst (v := 0) h0 dX5_fund_36 (by decide) ?_
          exact zx_zret hF hQ rfl dX5_fund_37 h
theorem zn_X5_feed_12 : Cond.fieldLink RX5 12 RX5 (TX5 0).2.1 (TX5 0).2.2.1 ∈ wsX5_feed := List.mem_of_getElem? (i := 1) rfl
theorem zi_X5_feed_5 : ∀ w ∈ u_ws RX5 TX5 3, w ∈ wsX5_feed := fun _ h => List.mem_cons_of_mem _ (List.mem_append_left _ (List.mem_append_right _ h))
theorem zn_X5_feed_41 : Cond.fieldLink RX5 41 RX0 (TX0 2).2.1 (TX0 2).2.2.1 ∈ wsX5_feed := List.mem_of_getElem? (i := 2) rfl
theorem zi_X5_feed_0 : ∀ w ∈ u_ws RX0 TX0 10, w ∈ wsX5_feed := fun _ h => List.mem_cons_of_mem _ (List.mem_append_right _ h)
theorem zc_X5_feed_X0_addBytes {C : zC} {G : zG} {Qc : Array Value → State → Outcome → State → Prop} (S : St_X5_feed C G Qc) : CallW (zRm C) (zs C) (zar C) RX5 RX0 45 yX0_addBytes cX0_addBytes 3 none wsX0_addBytes rm_X0_addBytes 0 0 1 := cwV 1 S.1.1.2.2.2.2 gX5_feed_X0_addBytes rfl rfl rfl (by decide +kernel) (by rw [S.2.2]; exact ⟨Nat.le_of_ble_eq_true rfl, Nat.le_of_ble_eq_true rfl⟩)
set_option maxRecDepth 100000 in
set_option maxHeartbeats 4000000 in
theorem sg_X5_feed_0 {C : zC} {G : zG} {Qc : Array Value → State → Outcome → State → Prop} (S : St_X5_feed C G Qc) {P_X0_addBytes : Nat → Int32 → zM → Prop} {Q_X0_addBytes : Nat → Int32 → zM → zM → Prop} (c_X0_addBytes : Con_X0_addBytes (zl C) G P_X0_addBytes Q_X0_addBytes) {a0 : Nat} {x1 : Int32} {x2 : Int32} {x3 : Int32} {x4 : Int32} {x5 : Int32} {m : zM} (ka0 : zK G a0 = some (5, a0))
    (h : ((zI m 2 (a0 + 1) 0) ≤ 380 → ((P_X0_addBytes (a0 + 1) x1 m) ∧ (∀ (m2 : zM), Q_X0_addBytes (a0 + 1) x1 m m2 → ((P_X0_addBytes (a0 + 1) x2 m2) ∧ (∀ (m4 : zM), Q_X0_addBytes (a0 + 1) x2 m2 m4 → ((P_X0_addBytes (a0 + 1) x3 m4) ∧ (∀ (m6 : zM), Q_X0_addBytes (a0 + 1) x3 m4 m6 → ((P_X0_addBytes (a0 + 1) x4 m6) ∧ (∀ (m8 : zM), Q_X0_addBytes (a0 + 1) x4 m6 m8 → ((P_X0_addBytes (a0 + 1) x5 m8) ∧ (∀ (m10 : zM), Q_X0_addBytes (a0 + 1) x5 m8 m10 → (zRet C G Qc (some (.int (zI m10 2 (a0 + 1) 0))) m10)))))))))))) ∧ (¬ (zI m 2 (a0 + 1) 0) ≤ 380 → (zRet C G Qc (some (.int (-1))) m))) : Pt_X5_feed_0 C G a0 x1 x2 x3 x4 x5 m := by
  obtain ⟨hF, hQ, hR⟩ := id S
  have h0 : zF0 C cX5_feed 6 wsX5_feed RX5 := hF.1
  have hL := hF.2.2.1
  unfold Pt_X5_feed_0
  refine zx_aload_n h0 0 dX5_feed_0 rfl ?_
  refine zx_get hF ka0 (by decide) rfl zi_X5_feed_5 0 (by decide) zn_X5_feed_12 rfl rfl dX5_feed_1 ?_
  refine zx_get hF (zL_5_1 hL ka0) (by decide) rfl zi_X5_feed_0 2 (by decide) zn_X5_feed_41 rfl rfl dX5_feed_4 ?_
  refine zx_sipush (v := 380) h0 dX5_feed_7 (by decide) ?_
  refine zx_icmp_le (tgt := 15) h0 dX5_feed_10 (by decide) (fun q => ?_) (fun q => ?_)
  · replace h := h.1 q
    refine zx_aload_n h0 0 dX5_feed_15 rfl ?_
    refine zx_get hF ka0 (by decide) rfl zi_X5_feed_5 0 (by decide) zn_X5_feed_12 rfl rfl dX5_feed_16 ?_
    refine zx_iload_n h0 1 dX5_feed_19 rfl ?_
    obtain ⟨ho1, h⟩ := h
    refine zx_callVv (As := [.int x1]) (rest := []) hF (c_X0_addBytes (a0 + 1) x1 m (zL_5_1 hL ka0) ho1) (zc_X5_feed_X0_addBytes S) (zL_5_1 hL ka0) (by decide) rfl dX5_feed_20 rfl rfl (Nat.le_of_ble_eq_true rfl) ⟨Nat.zero_le _, Nat.zero_le _⟩ (fun m2 hq => ?_)
    replace h := h m2 hq
    refine zx_aload_n h0 0 dX5_feed_23 rfl ?_
    refine zx_get hF ka0 (by decide) rfl zi_X5_feed_5 0 (by decide) zn_X5_feed_12 rfl rfl dX5_feed_24 ?_
    refine zx_iload_n h0 2 dX5_feed_27 rfl ?_
    obtain ⟨ho3, h⟩ := h
    refine zx_callVv (As := [.int x2]) (rest := []) hF (c_X0_addBytes (a0 + 1) x2 m2 (zL_5_1 hL ka0) ho3) (zc_X5_feed_X0_addBytes S) (zL_5_1 hL ka0) (by decide) rfl dX5_feed_28 rfl rfl (Nat.le_of_ble_eq_true rfl) ⟨Nat.zero_le _, Nat.zero_le _⟩ (fun m4 hq => ?_)
    replace h := h m4 hq
    refine zx_aload_n h0 0 dX5_feed_31 rfl ?_
    refine zx_get hF ka0 (by decide) rfl zi_X5_feed_5 0 (by decide) zn_X5_feed_12 rfl rfl dX5_feed_32 ?_
    refine zx_iload_n h0 3 dX5_feed_35 rfl ?_
    obtain ⟨ho5, h⟩ := h
    refine zx_callVv (As := [.int x3]) (rest := []) hF (c_X0_addBytes (a0 + 1) x3 m4 (zL_5_1 hL ka0) ho5) (zc_X5_feed_X0_addBytes S) (zL_5_1 hL ka0) (by decide) rfl dX5_feed_36 rfl rfl (Nat.le_of_ble_eq_true rfl) ⟨Nat.zero_le _, Nat.zero_le _⟩ (fun m6 hq => ?_)
    replace h := h m6 hq
    refine zx_aload_n h0 0 dX5_feed_39 rfl ?_
    refine zx_get hF ka0 (by decide) rfl zi_X5_feed_5 0 (by decide) zn_X5_feed_12 rfl rfl dX5_feed_40 ?_
    refine zx_iload h0 4 dX5_feed_43 rfl ?_
    obtain ⟨ho7, h⟩ := h
    refine zx_callVv (As := [.int x4]) (rest := []) hF (c_X0_addBytes (a0 + 1) x4 m6 (zL_5_1 hL ka0) ho7) (zc_X5_feed_X0_addBytes S) (zL_5_1 hL ka0) (by decide) rfl dX5_feed_45 rfl rfl (Nat.le_of_ble_eq_true rfl) ⟨Nat.zero_le _, Nat.zero_le _⟩ (fun m8 hq => ?_)
    replace h := h m8 hq
    refine zx_aload_n h0 0 dX5_feed_48 rfl ?_
    refine zx_get hF ka0 (by decide) rfl zi_X5_feed_5 0 (by decide) zn_X5_feed_12 rfl rfl dX5_feed_49 ?_
    refine zx_iload h0 5 dX5_feed_52 rfl ?_
    obtain ⟨ho9, h⟩ := h
    refine zx_callVv (As := [.int x5]) (rest := []) hF (c_X0_addBytes (a0 + 1) x5 m8 (zL_5_1 hL ka0) ho9) (zc_X5_feed_X0_addBytes S) (zL_5_1 hL ka0) (by decide) rfl dX5_feed_54 rfl rfl (Nat.le_of_ble_eq_true rfl) ⟨Nat.zero_le _, Nat.zero_le _⟩ (fun m10 hq => ?_)
    replace h := h m10 hq
    refine zx_aload_n h0 0 dX5_feed_57 rfl ?_
    refine zx_get hF ka0 (by decide) rfl zi_X5_feed_5 0 (by decide) zn_X5_feed_12 rfl rfl dX5_feed_58 ?_
    refine zx_get hF (zL_5_1 hL ka0) (by decide) rfl zi_X5_feed_0 2 (by decide) zn_X5_feed_41 rfl rfl dX5_feed_61 ?_
    exact zx_iret hF hQ dX5_feed_64 h
  · replace h := h.2 q
    refine zx_iconst (v := (-1)) h0 dX5_feed_13 (by decide) ?_
    exact zx_iret hF hQ dX5_feed_14 h
theorem zn_X5_end_12 : Cond.fieldLink RX5 12 RX5 (TX5 0).2.1 (TX5 0).2.2.1 ∈ wsX5_end := List.mem_of_getElem? (i := 1) rfl
theorem zi_X5_end_5 : ∀ w ∈ u_ws RX5 TX5 3, w ∈ wsX5_end := fun _ h => List.mem_cons_of_mem _ (List.mem_append_left _ (List.mem_append_right _ h))
theorem zn_X5_end_41 : Cond.fieldLink RX5 41 RX0 (TX0 2).2.1 (TX0 2).2.2.1 ∈ wsX5_end := List.mem_of_getElem? (i := 2) rfl
theorem zi_X5_end_0 : ∀ w ∈ u_ws RX0 TX0 10, w ∈ wsX5_end := fun _ h => List.mem_cons_of_mem _ (List.mem_append_right _ h)
set_option maxRecDepth 100000 in
set_option maxHeartbeats 4000000 in
theorem sg_X5_end_0 {C : zC} {G : zG} {Qc : Array Value → State → Outcome → State → Prop} (S : St_X5_end C G Qc) {a0 : Nat} {x1 : Int32} {m : zM} (ka0 : zK G a0 = some (5, a0))
    (h : (x1 < 0 → (zRet C G Qc (some (.int (-1))) m)) ∧ (¬ x1 < 0 → ((x1 ≤ (zI m 2 (a0 + 1) 0) → (zRet C G Qc (some (.int x1)) (zsI m 2 (a0 + 1) 0 x1))) ∧ (¬ x1 ≤ (zI m 2 (a0 + 1) 0) → (zRet C G Qc (some (.int (-1))) m))))) : Pt_X5_end_0 C G a0 x1 m := by
  obtain ⟨hF, hQ, hR⟩ := id S
  have h0 : zF0 C cX5_end 2 wsX5_end RX5 := hF.1
  have hL := hF.2.2.1
  unfold Pt_X5_end_0
  refine zx_iload_n h0 1 dX5_end_0 rfl ?_
  refine zx_if_lt (tgt := 15) h0 dX5_end_1 (by decide) (fun q => ?_) (fun q => ?_)
  · replace h := h.1 q
    refine zx_iconst (v := (-1)) h0 dX5_end_15 (by decide) ?_
    exact zx_iret hF hQ dX5_end_16 h
  · replace h := h.2 q
    refine zx_iload_n h0 1 dX5_end_4 rfl ?_
    refine zx_aload_n h0 0 dX5_end_5 rfl ?_
    refine zx_get hF ka0 (by decide) rfl zi_X5_end_5 0 (by decide) zn_X5_end_12 rfl rfl dX5_end_6 ?_
    refine zx_get hF (zL_5_1 hL ka0) (by decide) rfl zi_X5_end_0 2 (by decide) zn_X5_end_41 rfl rfl dX5_end_9 ?_
    refine zx_icmp_le (tgt := 17) h0 dX5_end_12 (by decide) (fun q => ?_) (fun q => ?_)
    · replace h := h.1 q
      refine zx_aload_n h0 0 dX5_end_17 rfl ?_
      refine zx_get hF ka0 (by decide) rfl zi_X5_end_5 0 (by decide) zn_X5_end_12 rfl rfl dX5_end_18 ?_
      refine zx_iload_n h0 1 dX5_end_21 rfl ?_
      refine zp_2 hF (zL_5_1 hL ka0) zi_X5_end_0 zn_X5_end_41 dX5_end_22 ?_
      refine zx_iload_n h0 1 dX5_end_25 rfl ?_
      exact zx_iret hF hQ dX5_end_26 h
    · replace h := h.2 q
      refine zx_iconst (v := (-1)) h0 dX5_end_15 (by decide) ?_
      exact zx_iret hF hQ dX5_end_16 h
theorem zn_X5_fault_12 : Cond.fieldLink RX5 12 RX5 (TX5 0).2.1 (TX5 0).2.2.1 ∈ wsX5_fault := List.mem_of_getElem? (i := 1) rfl
theorem zi_X5_fault_5 : ∀ w ∈ u_ws RX5 TX5 3, w ∈ wsX5_fault := fun _ h => List.mem_cons_of_mem _ (List.mem_append_left _ (List.mem_append_right _ h))
theorem zn_X5_fault_86 : Cond.fieldLink RX5 86 RX0 (TX0 5).2.1 (TX0 5).2.2.1 ∈ wsX5_fault := List.mem_of_getElem? (i := 3) rfl
theorem zi_X5_fault_0 : ∀ w ∈ u_ws RX0 TX0 10, w ∈ wsX5_fault := fun _ h => List.mem_cons_of_mem _ (List.mem_append_right _ h)
theorem zn_X5_fault_85 : Cond.fieldLink RX5 85 RX0 (TX0 4).2.1 (TX0 4).2.2.1 ∈ wsX5_fault := List.mem_of_getElem? (i := 2) rfl
set_option maxRecDepth 100000 in
set_option maxHeartbeats 4000000 in
theorem sg_X5_fault_0 {C : zC} {G : zG} {Qc : Array Value → State → Outcome → State → Prop} (S : St_X5_fault C G Qc) {a0 : Nat} {x1 : Int32} {m : zM} (ka0 : zK G a0 = some (5, a0))
    (h : (¬ x1 = 0 → ((¬ x1 = 1 → (zRet C G Qc (some (.int (-1))) m)) ∧ (x1 = 1 → (zRet C G Qc (some (.int (zI m 5 (a0 + 1) 0))) m)))) ∧ (x1 = 0 → (zRet C G Qc (some (.int (zI m 4 (a0 + 1) 0))) m))) : Pt_X5_fault_0 C G a0 x1 m := by
  obtain ⟨hF, hQ, hR⟩ := id S
  have h0 : zF0 C cX5_fault 2 wsX5_fault RX5 := hF.1
  have hL := hF.2.2.1
  unfold Pt_X5_fault_0
  refine zx_iload_n h0 1 dX5_fault_0 rfl ?_
  refine zx_if_ne (tgt := 12) h0 dX5_fault_1 (by decide) (fun q => ?_) (fun q => ?_)
  · replace h := h.1 q
    refine zx_iload_n h0 1 dX5_fault_12 rfl ?_
    refine zx_iconst (v := 1) h0 dX5_fault_13 (by decide) ?_
    refine zx_icmp_ne (tgt := 27) h0 dX5_fault_14 (by decide) (fun q => ?_) (fun q => ?_)
    · replace h := h.1 q
      refine zx_iconst (v := (-1)) h0 dX5_fault_27 (by decide) ?_
      exact zx_iret hF hQ dX5_fault_28 h
    · replace h := h.2 q
      refine zx_aload_n h0 0 dX5_fault_17 rfl ?_
      refine zx_get hF ka0 (by decide) rfl zi_X5_fault_5 0 (by decide) zn_X5_fault_12 rfl rfl dX5_fault_18 ?_
      refine zx_get hF (zL_5_1 hL ka0) (by decide) rfl zi_X5_fault_0 5 (by decide) zn_X5_fault_86 rfl rfl dX5_fault_21 ?_
      refine zx_goto (tgt := 28) h0 dX5_fault_24 (by decide) ?_
      exact zx_iret hF hQ dX5_fault_28 h
  · replace h := h.2 q
    refine zx_aload_n h0 0 dX5_fault_4 rfl ?_
    refine zx_get hF ka0 (by decide) rfl zi_X5_fault_5 0 (by decide) zn_X5_fault_12 rfl rfl dX5_fault_5 ?_
    refine zx_get hF (zL_5_1 hL ka0) (by decide) rfl zi_X5_fault_0 4 (by decide) zn_X5_fault_85 rfl rfl dX5_fault_8 ?_
    exact zx_iret hF hQ dX5_fault_11 h

set_option maxRecDepth 100000 in
set_option maxHeartbeats 4000000 in
theorem sg_X5_areFacts_0 {C : zC} {G : zG} {Qc : Array Value → State → Outcome → State → Prop} (S : St_X5_areFacts C G Qc) {x0 : Int32} {x1 : Int32} {x2 : Int32} {x3 : Int32} {m : zM}
    (h : (x0 < 0 → (zRet C G Qc (some (.int 0)) m)) ∧ (¬ x0 < 0 → ((3 < x0 → (zRet C G Qc (some (.int 0)) m)) ∧ (¬ 3 < x0 → ((x1 < 0 → (zRet C G Qc (some (.int 0)) m)) ∧ (¬ x1 < 0 → ((60 < x1 → (zRet C G Qc (some (.int 0)) m)) ∧ (¬ 60 < x1 → ((x2 < 0 → (zRet C G Qc (some (.int 0)) m)) ∧ (¬ x2 < 0 → ((999 < x2 → (zRet C G Qc (some (.int 0)) m)) ∧ (¬ 999 < x2 → ((x3 < 0 → (zRet C G Qc (some (.int 0)) m)) ∧ (¬ x3 < 0 → ((63 < x3 → (zRet C G Qc (some (.int 0)) m)) ∧ (¬ 63 < x3 → (zRet C G Qc (some (.int 1)) m))))))))))))))))) : Pt_X5_areFacts_0 C G x0 x1 x2 x3 m := by
  obtain ⟨hF, hQ, hR⟩ := id S
  have h0 : zF0 C cX5_areFacts 4 wsX5_areFacts RX5 := hF.1
  have hL := hF.2.2.1
  unfold Pt_X5_areFacts_0
  refine zx_iload_n h0 0 dX5_areFacts_0 rfl ?_
  refine zx_if_lt (tgt := 44) h0 dX5_areFacts_1 (by decide) (fun q => ?_) (fun q => ?_)
  · replace h := h.1 q
    refine zx_iconst (v := 0) h0 dX5_areFacts_44 (by decide) ?_
    exact zx_zret hF hQ rfl dX5_areFacts_45 h
  · replace h := h.2 q
    refine zx_iload_n h0 0 dX5_areFacts_4 rfl ?_
    refine zx_iconst (v := 3) h0 dX5_areFacts_5 (by decide) ?_
    refine zx_icmp_gt (tgt := 44) h0 dX5_areFacts_6 (by decide) (fun q => ?_) (fun q => ?_)
    · replace h := h.1 q
      refine zx_iconst (v := 0) h0 dX5_areFacts_44 (by decide) ?_
      exact zx_zret hF hQ rfl dX5_areFacts_45 h
    · replace h := h.2 q
      refine zx_iload_n h0 1 dX5_areFacts_9 rfl ?_
      refine zx_if_lt (tgt := 44) h0 dX5_areFacts_10 (by decide) (fun q => ?_) (fun q => ?_)
      · replace h := h.1 q
        refine zx_iconst (v := 0) h0 dX5_areFacts_44 (by decide) ?_
        exact zx_zret hF hQ rfl dX5_areFacts_45 h
      · replace h := h.2 q
        refine zx_iload_n h0 1 dX5_areFacts_13 rfl ?_
        refine zx_bipush (v := 60) h0 dX5_areFacts_14 (by decide) ?_
        refine zx_icmp_gt (tgt := 44) h0 dX5_areFacts_16 (by decide) (fun q => ?_) (fun q => ?_)
        · replace h := h.1 q
          refine zx_iconst (v := 0) h0 dX5_areFacts_44 (by decide) ?_
          exact zx_zret hF hQ rfl dX5_areFacts_45 h
        · replace h := h.2 q
          refine zx_iload_n h0 2 dX5_areFacts_19 rfl ?_
          refine zx_if_lt (tgt := 44) h0 dX5_areFacts_20 (by decide) (fun q => ?_) (fun q => ?_)
          · replace h := h.1 q
            refine zx_iconst (v := 0) h0 dX5_areFacts_44 (by decide) ?_
            exact zx_zret hF hQ rfl dX5_areFacts_45 h
          · replace h := h.2 q
            refine zx_iload_n h0 2 dX5_areFacts_23 rfl ?_
            refine zx_sipush (v := 999) h0 dX5_areFacts_24 (by decide) ?_
            refine zx_icmp_gt (tgt := 44) h0 dX5_areFacts_27 (by decide) (fun q => ?_) (fun q => ?_)
            · replace h := h.1 q
              refine zx_iconst (v := 0) h0 dX5_areFacts_44 (by decide) ?_
              exact zx_zret hF hQ rfl dX5_areFacts_45 h
            · replace h := h.2 q
              refine zx_iload_n h0 3 dX5_areFacts_30 rfl ?_
              refine zx_if_lt (tgt := 44) h0 dX5_areFacts_31 (by decide) (fun q => ?_) (fun q => ?_)
              · replace h := h.1 q
                refine zx_iconst (v := 0) h0 dX5_areFacts_44 (by decide) ?_
                exact zx_zret hF hQ rfl dX5_areFacts_45 h
              · replace h := h.2 q
                refine zx_iload_n h0 3 dX5_areFacts_34 rfl ?_
                refine zx_bipush (v := 63) h0 dX5_areFacts_35 (by decide) ?_
                refine zx_icmp_gt (tgt := 44) h0 dX5_areFacts_37 (by decide) (fun q => ?_) (fun q => ?_)
                · replace h := h.1 q
                  refine zx_iconst (v := 0) h0 dX5_areFacts_44 (by decide) ?_
                  exact zx_zret hF hQ rfl dX5_areFacts_45 h
                · replace h := h.2 q
                  refine zx_iconst (v := 1) h0 dX5_areFacts_40 (by decide) ?_
                  refine zx_goto (tgt := 45) h0 dX5_areFacts_41 (by decide) ?_
                  exact zx_zret hF hQ rfl dX5_areFacts_45 h
theorem zn_X5_claim_12 : Cond.fieldLink RX5 12 RX5 (TX5 0).2.1 (TX5 0).2.2.1 ∈ wsX5_claim := List.mem_of_getElem? (i := 1) rfl
theorem zi_X5_claim_5 : ∀ w ∈ u_ws RX5 TX5 3, w ∈ wsX5_claim := fun _ h => List.mem_cons_of_mem _ (List.mem_append_left _ (List.mem_append_left _ (List.mem_append_left _ (List.mem_append_left _ (List.mem_append_right _ h)))))
theorem zn_X5_claim_27 : Cond.fieldLink RX5 27 RX0 (TX0 9).2.1 (TX0 9).2.2.1 ∈ wsX5_claim := List.mem_of_getElem? (i := 2) rfl
theorem zi_X5_claim_0 : ∀ w ∈ u_ws RX0 TX0 10, w ∈ wsX5_claim := fun _ h => List.mem_cons_of_mem _ (List.mem_append_left _ (List.mem_append_left _ (List.mem_append_left _ (List.mem_append_right _ h))))
theorem zc_X5_claim_X5_areFacts {C : zC} {G : zG} {Qc : Array Value → State → Outcome → State → Prop} (S : St_X5_claim C G Qc) : CallB (zRm C) (zs C) (zar C) RX5 87 yX5_areFacts cX5_areFacts 4 (some .boolean) wsX5_areFacts rm_X5_areFacts 0 0 4 ∧ (Cond.static yX5_areFacts).before (zar C) (zs C) = true := cwS 4 S.1.1.2.2.2.2 gX5_claim_X5_areFacts rfl rfl rfl (by decide +kernel) (by rw [S.2.2]; exact ⟨Nat.le_of_ble_eq_true rfl, Nat.le_of_ble_eq_true rfl⟩)
theorem zc_X5_claim_X0_admit {C : zC} {G : zG} {Qc : Array Value → State → Outcome → State → Prop} (S : St_X5_claim C G Qc) : CallW (zRm C) (zs C) (zar C) RX5 RX0 91 yX0_admit cX0_admit 7 (some .int) wsX0_admit rm_X0_admit 0 0 5 := cwV 5 S.1.1.2.2.2.2 gX5_claim_X0_admit rfl rfl rfl (by decide +kernel) (by rw [S.2.2]; exact ⟨Nat.le_of_ble_eq_true rfl, Nat.le_of_ble_eq_true rfl⟩)
set_option maxRecDepth 100000 in
set_option maxHeartbeats 4000000 in
theorem sg_X5_claim_0 {C : zC} {G : zG} {Qc : Array Value → State → Outcome → State → Prop} (S : St_X5_claim C G Qc) {P_X5_areFacts : Int32 → Int32 → Int32 → Int32 → zM → Prop} {Q_X5_areFacts : Int32 → Int32 → Int32 → Int32 → zM → Int32 → Prop} (c_X5_areFacts : Con_X5_areFacts (zl C) G P_X5_areFacts Q_X5_areFacts) {P_X0_admit : Nat → Int32 → Int32 → Int32 → Int32 → Int32 → zM → Prop} {Q_X0_admit : Nat → Int32 → Int32 → Int32 → Int32 → Int32 → zM → Int32 → zM → Prop} (c_X0_admit : Con_X0_admit (zl C) G P_X0_admit Q_X0_admit) {a0 : Nat} {x1 : Int32} {x2 : Int32} {x3 : Int32} {x4 : Int32} {x5 : Int32} {m : zM} (ka0 : zK G a0 = some (5, a0))
    (h : (¬ (zI m 9 (a0 + 1) 0) = 0 → (zRet C G Qc (some (.int (-1))) m)) ∧ ((zI m 9 (a0 + 1) 0) = 0 → ((x1 < 0 → (zRet C G Qc (some (.int (-1))) m)) ∧ (¬ x1 < 0 → ((99 < x1 → (zRet C G Qc (some (.int (-1))) m)) ∧ (¬ 99 < x1 → ((P_X5_areFacts x2 x3 x4 x5 m) ∧ (∀ (r2 : Int32), Q_X5_areFacts x2 x3 x4 x5 m r2 → ((¬ r2 = 0 → ((P_X0_admit (a0 + 1) x1 x2 x3 x4 x5 m) ∧ (∀ (r4 : Int32) (m4 : zM), Q_X0_admit (a0 + 1) x1 x2 x3 x4 x5 m r4 m4 → (zRet C G Qc (some (.int r4)) m4)))) ∧ (r2 = 0 → (zRet C G Qc (some (.int (-1))) m))))))))))) : Pt_X5_claim_0 C G a0 x1 x2 x3 x4 x5 m := by
  obtain ⟨hF, hQ, hR⟩ := id S
  have h0 : zF0 C cX5_claim 6 wsX5_claim RX5 := hF.1
  have hL := hF.2.2.1
  unfold Pt_X5_claim_0
  refine zx_aload_n h0 0 dX5_claim_0 rfl ?_
  refine zx_get hF ka0 (by decide) rfl zi_X5_claim_5 0 (by decide) zn_X5_claim_12 rfl rfl dX5_claim_1 ?_
  refine zx_get hF (zL_5_1 hL ka0) (by decide) rfl zi_X5_claim_0 9 (by decide) zn_X5_claim_27 rfl rfl dX5_claim_4 ?_
  refine zx_if_ne (tgt := 32) h0 dX5_claim_7 (by decide) (fun q => ?_) (fun q => ?_)
  · replace h := h.1 q
    refine zx_iconst (v := (-1)) h0 dX5_claim_32 (by decide) ?_
    exact zx_iret hF hQ dX5_claim_33 h
  · replace h := h.2 q
    refine zx_iload_n h0 1 dX5_claim_10 rfl ?_
    refine zx_if_lt (tgt := 32) h0 dX5_claim_11 (by decide) (fun q => ?_) (fun q => ?_)
    · replace h := h.1 q
      refine zx_iconst (v := (-1)) h0 dX5_claim_32 (by decide) ?_
      exact zx_iret hF hQ dX5_claim_33 h
    · replace h := h.2 q
      refine zx_iload_n h0 1 dX5_claim_14 rfl ?_
      refine zx_bipush (v := 99) h0 dX5_claim_15 (by decide) ?_
      refine zx_icmp_gt (tgt := 32) h0 dX5_claim_17 (by decide) (fun q => ?_) (fun q => ?_)
      · replace h := h.1 q
        refine zx_iconst (v := (-1)) h0 dX5_claim_32 (by decide) ?_
        exact zx_iret hF hQ dX5_claim_33 h
      · replace h := h.2 q
        refine zx_iload_n h0 2 dX5_claim_20 rfl ?_
        refine zx_iload_n h0 3 dX5_claim_21 rfl ?_
        refine zx_iload h0 4 dX5_claim_22 rfl ?_
        refine zx_iload h0 5 dX5_claim_24 rfl ?_
        obtain ⟨ho1, h⟩ := h
        refine zx_callSi (As := [.int x2, .int x3, .int x4, .int x5]) (rest := []) hF (c_X5_areFacts x2 x3 x4 x5 m  ho1) (zc_X5_claim_X5_areFacts S)  dX5_claim_26 rfl rfl (Nat.le_of_ble_eq_true rfl) ⟨Nat.zero_le _, Nat.zero_le _⟩ (fun r2 m2 hq => ?_)
        obtain ⟨hme, hq⟩ := hq
        subst m2
        replace h := h r2 hq
        refine zx_if_ne (tgt := 34) h0 dX5_claim_29 (by decide) (fun q => ?_) (fun q => ?_)
        · replace h := h.1 q
          refine zx_aload_n h0 0 dX5_claim_34 rfl ?_
          refine zx_get hF ka0 (by decide) rfl zi_X5_claim_5 0 (by decide) zn_X5_claim_12 rfl rfl dX5_claim_35 ?_
          refine zx_iload_n h0 1 dX5_claim_38 rfl ?_
          refine zx_iload_n h0 2 dX5_claim_39 rfl ?_
          refine zx_iload_n h0 3 dX5_claim_40 rfl ?_
          refine zx_iload h0 4 dX5_claim_41 rfl ?_
          refine zx_iload h0 5 dX5_claim_43 rfl ?_
          obtain ⟨ho3, h⟩ := h
          refine zx_callVi (As := [.int x1, .int x2, .int x3, .int x4, .int x5]) (rest := []) hF (c_X0_admit (a0 + 1) x1 x2 x3 x4 x5 m (zL_5_1 hL ka0) ho3) (zc_X5_claim_X0_admit S) (zL_5_1 hL ka0) (by decide) rfl dX5_claim_45 rfl rfl (Nat.le_of_ble_eq_true rfl) ⟨Nat.zero_le _, Nat.zero_le _⟩ (fun r4 m4 hq => ?_)
          replace h := h r4 m4 hq
          exact zx_iret hF hQ dX5_claim_48 h
        · replace h := h.2 q
          refine zx_iconst (v := (-1)) h0 dX5_claim_32 (by decide) ?_
          exact zx_iret hF hQ dX5_claim_33 h
theorem zn_X5_paper_12 : Cond.fieldLink RX5 12 RX5 (TX5 0).2.1 (TX5 0).2.2.1 ∈ wsX5_paper := List.mem_of_getElem? (i := 1) rfl
theorem zi_X5_paper_5 : ∀ w ∈ u_ws RX5 TX5 3, w ∈ wsX5_paper := fun _ h => List.mem_cons_of_mem _ (List.mem_append_left _ (List.mem_append_left _ (List.mem_append_left _ (List.mem_append_right _ h))))
theorem zn_X5_paper_27 : Cond.fieldLink RX5 27 RX0 (TX0 9).2.1 (TX0 9).2.2.1 ∈ wsX5_paper := List.mem_of_getElem? (i := 2) rfl
theorem zi_X5_paper_0 : ∀ w ∈ u_ws RX0 TX0 10, w ∈ wsX5_paper := fun _ h => List.mem_cons_of_mem _ (List.mem_append_left _ (List.mem_append_left _ (List.mem_append_right _ h)))
theorem zn_X5_paper_105 : Cond.fieldLink RX5 105 RX1 (TX1 4).2.1 (TX1 4).2.2.1 ∈ wsX5_paper := List.mem_of_getElem? (i := 3) rfl
theorem zi_X5_paper_1 : ∀ w ∈ u_ws RX1 TX1 9, w ∈ wsX5_paper := fun _ h => List.mem_cons_of_mem _ (List.mem_append_left _ (List.mem_append_right _ h))
theorem zn_X5_paper_71 : Cond.fieldLink RX5 71 RX0 (TX0 3).2.1 (TX0 3).2.2.1 ∈ wsX5_paper := List.mem_of_getElem? (i := 4) rfl
theorem zc_X5_paper_X0_claimAt {C : zC} {G : zG} {Qc : Array Value → State → Outcome → State → Prop} (S : St_X5_paper C G Qc) : CallW (zRm C) (zs C) (zar C) RX5 RX0 95 yX0_claimAt cX0_claimAt 2 (some (.object "ClaimsFund$Claim")) wsX0_claimAt rm_X0_claimAt 0 0 1 := cwV 1 S.1.1.2.2.2.2 gX5_paper_X0_claimAt rfl rfl rfl (by decide +kernel) (by rw [S.2.2]; exact ⟨Nat.le_of_ble_eq_true rfl, Nat.le_of_ble_eq_true rfl⟩)
theorem zc_X5_paper_X1_mayBring {C : zC} {G : zG} {Qc : Array Value → State → Outcome → State → Prop} (S : St_X5_paper C G Qc) : CallW (zRm C) (zs C) (zar C) RX5 RX1 99 yX1_mayBring cX1_mayBring 2 (some .boolean) wsX1_mayBring rm_X1_mayBring 0 0 1 := cwV 1 S.1.1.2.2.2.2 gX5_paper_X1_mayBring rfl rfl rfl (by decide +kernel) (by rw [S.2.2]; exact ⟨Nat.le_of_ble_eq_true rfl, Nat.le_of_ble_eq_true rfl⟩)
theorem zc_X5_paper_X1_measure {C : zC} {G : zG} {Qc : Array Value → State → Outcome → State → Prop} (S : St_X5_paper C G Qc) : CallW (zRm C) (zs C) (zar C) RX5 RX1 108 yX1_measure cX1_measure 4 none wsX1_measure rm_X1_measure 0 0 1 := cwV 1 S.1.1.2.2.2.2 gX5_paper_X1_measure rfl rfl rfl (by decide +kernel) (by rw [S.2.2]; exact ⟨Nat.le_of_ble_eq_true rfl, Nat.le_of_ble_eq_true rfl⟩)
set_option maxRecDepth 100000 in
set_option maxHeartbeats 4000000 in
theorem sg_X5_paper_0 {C : zC} {G : zG} {Qc : Array Value → State → Outcome → State → Prop} (S : St_X5_paper C G Qc) {P_X0_claimAt : Nat → Int32 → zM → Prop} {Q_X0_claimAt : Nat → Int32 → zM → Option Nat → Prop} (c_X0_claimAt : Con_X0_claimAt (zl C) G P_X0_claimAt Q_X0_claimAt) {P_X1_mayBring : Nat → Int32 → zM → Prop} {Q_X1_mayBring : Nat → Int32 → zM → Int32 → Prop} (c_X1_mayBring : Con_X1_mayBring (zl C) G P_X1_mayBring Q_X1_mayBring) {P_X1_measure : Nat → Nat → zM → Prop} {Q_X1_measure : Nat → Nat → zM → zM → Prop} (c_X1_measure : Con_X1_measure (zl C) G P_X1_measure Q_X1_measure) {a0 : Nat} {x1 : Int32} {x2 : Int32} {m : zM} (ka0 : zK G a0 = some (5, a0))
    (h : (P_X0_claimAt (a0 + 1) x1 m) ∧ (∀ (r2 : Option Nat), Q_X0_claimAt (a0 + 1) x1 m r2 → ((r2 = none → ((¬ (zI m 9 (a0 + 1) 0) = 0 → (zRet C G Qc (some (.int 0)) m)) ∧ ((zI m 9 (a0 + 1) 0) = 0 → (zRet C G Qc (some (.int 0)) m)))) ∧ (∀ b3 : Nat, r2 = some b3 → zK G b3 = some (1, b3) → ((¬ (zI m 9 (a0 + 1) 0) = 0 → (zRet C G Qc (some (.int 0)) m)) ∧ ((zI m 9 (a0 + 1) 0) = 0 → ((P_X1_mayBring b3 x2 m) ∧ (∀ (r5 : Int32), Q_X1_mayBring b3 x2 m r5 → ((¬ r5 = 0 → ((P_X1_measure b3 (zR m 3 (a0 + 1)) (zsI m 104 b3 0 ((zI m 104 b3 0) ||| (1 <<< (x2 &&& 31))))) ∧ (∀ (m8 : zM), Q_X1_measure b3 (zR m 3 (a0 + 1)) (zsI m 104 b3 0 ((zI m 104 b3 0) ||| (1 <<< (x2 &&& 31)))) m8 → (zRet C G Qc (some (.int 1)) m8)))) ∧ (r5 = 0 → (zRet C G Qc (some (.int 0)) m))))))))))) : Pt_X5_paper_0 C G a0 x1 x2 m := by
  obtain ⟨hF, hQ, hR⟩ := id S
  have h0 : zF0 C cX5_paper 4 wsX5_paper RX5 := hF.1
  have hL := hF.2.2.1
  unfold Pt_X5_paper_0
  refine zx_aload_n h0 0 dX5_paper_0 rfl ?_
  refine zx_get hF ka0 (by decide) rfl zi_X5_paper_5 0 (by decide) zn_X5_paper_12 rfl rfl dX5_paper_1 ?_
  refine zx_iload_n h0 1 dX5_paper_4 rfl ?_
  obtain ⟨ho1, h⟩ := h
  refine zx_callVq (As := [.int x1]) (rest := []) hF (c_X0_claimAt (a0 + 1) x1 m (zL_5_1 hL ka0) ho1) (zc_X5_paper_X0_claimAt S) (zL_5_1 hL ka0) (by decide) rfl dX5_paper_5 rfl rfl (Nat.le_of_ble_eq_true rfl) ⟨Nat.zero_le _, Nat.zero_le _⟩ (fun r2 m2 hq => ?_)
  obtain ⟨hka, hme, hq⟩ := hq
  subst m2
  replace h := h r2 hq
  refine zx_rf (fun q => ?_) (fun b3 hb3 => ?_)
  · replace h := h.1 q
    refine zx_astore_nN (L' := [(3, .null), (0, .ref a0), (1, .int x1), (2, .int x2)]) h0 dX5_paper_8 (by decide) rfl ?_
    refine zx_aload_n h0 1 dX5_paper_9 rfl ?_
    refine zx_get hF ka0 (by decide) rfl zi_X5_paper_5 0 (by decide) zn_X5_paper_12 rfl rfl dX5_paper_10 ?_
    refine zx_get hF (zL_5_1 hL ka0) (by decide) rfl zi_X5_paper_0 9 (by decide) zn_X5_paper_27 rfl rfl dX5_paper_13 ?_
    refine zx_if_ne (tgt := 31) h0 dX5_paper_16 (by decide) (fun q => ?_) (fun q => ?_)
    · replace h := h.1 q
      refine zx_iconst (v := 0) h0 dX5_paper_31 (by decide) ?_
      exact zx_zret hF hQ rfl dX5_paper_32 h
    · replace h := h.2 q
      refine zx_aload_nN h0 0 dX5_paper_19 rfl ?_
      refine zx_ifnullN (tgt := 31) h0 dX5_paper_20 (by decide) ?_
      refine zx_iconst (v := 0) h0 dX5_paper_31 (by decide) ?_
      exact zx_zret hF hQ rfl dX5_paper_32 h
  · replace h := h.2 b3 hb3 (hka _ hb3)
    refine zx_astore_n (L' := [(3, .ref b3), (0, .ref a0), (1, .int x1), (2, .int x2)]) h0 dX5_paper_8 (by decide) rfl ?_
    refine zx_aload_n h0 1 dX5_paper_9 rfl ?_
    refine zx_get hF ka0 (by decide) rfl zi_X5_paper_5 0 (by decide) zn_X5_paper_12 rfl rfl dX5_paper_10 ?_
    refine zx_get hF (zL_5_1 hL ka0) (by decide) rfl zi_X5_paper_0 9 (by decide) zn_X5_paper_27 rfl rfl dX5_paper_13 ?_
    refine zx_if_ne (tgt := 31) h0 dX5_paper_16 (by decide) (fun q => ?_) (fun q => ?_)
    · replace h := h.1 q
      refine zx_iconst (v := 0) h0 dX5_paper_31 (by decide) ?_
      exact zx_zret hF hQ rfl dX5_paper_32 h
    · replace h := h.2 q
      refine zx_aload_n h0 0 dX5_paper_19 rfl ?_
      refine zx_ifnull h0 dX5_paper_20 ?_
      refine zx_aload_n h0 0 dX5_paper_23 rfl ?_
      refine zx_iload_n h0 3 dX5_paper_24 rfl ?_
      obtain ⟨ho4, h⟩ := h
      refine zx_callVi (As := [.int x2]) (rest := []) hF (c_X1_mayBring b3 x2 m (hka _ hb3) ho4) (zc_X5_paper_X1_mayBring S) (hka _ hb3) (by decide) rfl dX5_paper_25 rfl rfl (Nat.le_of_ble_eq_true rfl) ⟨Nat.zero_le _, Nat.zero_le _⟩ (fun r5 m5 hq => ?_)
      obtain ⟨hme, hq⟩ := hq
      subst m5
      replace h := h r5 hq
      refine zx_if_ne (tgt := 33) h0 dX5_paper_28 (by decide) (fun q => ?_) (fun q => ?_)
      · replace h := h.1 q
        refine zx_aload_n h0 0 dX5_paper_33 rfl ?_
        refine zx_dup h0 dX5_paper_34 rfl ?_
        refine zx_get hF (hka _ hb3) (by decide) rfl zi_X5_paper_1 4 (by decide) zn_X5_paper_105 rfl rfl dX5_paper_35 ?_
        refine zx_iconst (v := 1) h0 dX5_paper_38 (by decide) ?_
        refine zx_iload_n h0 3 dX5_paper_39 rfl ?_
        refine zx_ishl h0 dX5_paper_40 ?_
        refine zx_ior h0 dX5_paper_41 ?_
        refine zp_104 hF (hka _ hb3) zi_X5_paper_1 zn_X5_paper_105 dX5_paper_42 ?_
        refine zx_aload_n h0 0 dX5_paper_45 rfl ?_
        refine zx_aload_n h0 1 dX5_paper_46 rfl ?_
        refine zx_get hF ka0 (by decide) rfl zi_X5_paper_5 0 (by decide) zn_X5_paper_12 rfl rfl dX5_paper_47 ?_
        refine zx_wt (fun hw6 => ?_)
        refine zx_get hF (zL_5_1 hL ka0) (by decide) rfl zi_X5_paper_0 3 (by decide) zn_X5_paper_71 rfl rfl dX5_paper_50 ?_
        refine zx_topR (zR_I) ?_
        obtain ⟨ho7, h⟩ := h
        refine zx_callVv (As := [.ref (zR m 3 (a0 + 1))]) (rest := []) hF (c_X1_measure b3 (zR m 3 (a0 + 1)) (zsI m 104 b3 0 ((zI m 104 b3 0) ||| (1 <<< (x2 &&& 31)))) (hka _ hb3) (show zK G (zR m 3 (a0 + 1)) = some (2, (zR m 3 (a0 + 1))) from (hw6.2.1 _ (zL_5_1 hL ka0))) ho7) (zc_X5_paper_X1_measure S) (hka _ hb3) (by decide) rfl dX5_paper_53 rfl rfl (Nat.le_of_ble_eq_true rfl) ⟨Nat.zero_le _, Nat.zero_le _⟩ (fun m8 hq => ?_)
        replace h := h m8 hq
        refine zx_iconst (v := 1) h0 dX5_paper_56 (by decide) ?_
        exact zx_zret hF hQ rfl dX5_paper_57 h
      · replace h := h.2 q
        refine zx_iconst (v := 0) h0 dX5_paper_31 (by decide) ?_
        exact zx_zret hF hQ rfl dX5_paper_32 h
theorem zn_X5_judge_12 : Cond.fieldLink RX5 12 RX5 (TX5 0).2.1 (TX5 0).2.2.1 ∈ wsX5_judge := List.mem_of_getElem? (i := 1) rfl
theorem zi_X5_judge_5 : ∀ w ∈ u_ws RX5 TX5 3, w ∈ wsX5_judge := fun _ h => List.mem_cons_of_mem _ (List.mem_append_left _ (List.mem_append_left _ (List.mem_append_left _ (List.mem_append_right _ h))))
theorem zn_X5_judge_27 : Cond.fieldLink RX5 27 RX0 (TX0 9).2.1 (TX0 9).2.2.1 ∈ wsX5_judge := List.mem_of_getElem? (i := 2) rfl
theorem zi_X5_judge_0 : ∀ w ∈ u_ws RX0 TX0 10, w ∈ wsX5_judge := fun _ h => List.mem_cons_of_mem _ (List.mem_append_left _ (List.mem_append_left _ (List.mem_append_right _ h)))
theorem zn_X5_judge_111 : Cond.fieldLink RX5 111 RX1 (TX1 5).2.1 (TX1 5).2.2.1 ∈ wsX5_judge := List.mem_of_getElem? (i := 3) rfl
theorem zi_X5_judge_1 : ∀ w ∈ u_ws RX1 TX1 9, w ∈ wsX5_judge := fun _ h => List.mem_cons_of_mem _ (List.mem_append_left _ (List.mem_append_right _ h))
theorem zn_X5_judge_71 : Cond.fieldLink RX5 71 RX0 (TX0 3).2.1 (TX0 3).2.2.1 ∈ wsX5_judge := List.mem_of_getElem? (i := 4) rfl
theorem zn_X5_judge_105 : Cond.fieldLink RX5 105 RX1 (TX1 4).2.1 (TX1 4).2.2.1 ∈ wsX5_judge := List.mem_of_getElem? (i := 5) rfl
theorem zc_X5_judge_X0_claimAt {C : zC} {G : zG} {Qc : Array Value → State → Outcome → State → Prop} (S : St_X5_judge C G Qc) : CallW (zRm C) (zs C) (zar C) RX5 RX0 95 yX0_claimAt cX0_claimAt 2 (some (.object "ClaimsFund$Claim")) wsX0_claimAt rm_X0_claimAt 0 0 1 := cwV 1 S.1.1.2.2.2.2 gX5_judge_X0_claimAt rfl rfl rfl (by decide +kernel) (by rw [S.2.2]; exact ⟨Nat.le_of_ble_eq_true rfl, Nat.le_of_ble_eq_true rfl⟩)
theorem zc_X5_judge_X0_hasJudgedTwin {C : zC} {G : zG} {Qc : Array Value → State → Outcome → State → Prop} (S : St_X5_judge C G Qc) : CallW (zRm C) (zs C) (zar C) RX5 RX0 114 yX0_hasJudgedTwin cX0_hasJudgedTwin 6 (some .boolean) wsX0_hasJudgedTwin rm_X0_hasJudgedTwin 0 0 1 := cwV 1 S.1.1.2.2.2.2 gX5_judge_X0_hasJudgedTwin rfl rfl rfl (by decide +kernel) (by rw [S.2.2]; exact ⟨Nat.le_of_ble_eq_true rfl, Nat.le_of_ble_eq_true rfl⟩)
theorem zc_X5_judge_X1_pointsWith {C : zC} {G : zG} {Qc : Array Value → State → Outcome → State → Prop} (S : St_X5_judge C G Qc) : CallW (zRm C) (zs C) (zar C) RX5 RX1 118 yX1_pointsWith cX1_pointsWith 3 (some .int) wsX1_pointsWith rm_X1_pointsWith 0 0 2 := cwV 2 S.1.1.2.2.2.2 gX5_judge_X1_pointsWith rfl rfl rfl (by decide +kernel) (by rw [S.2.2]; exact ⟨Nat.le_of_ble_eq_true rfl, Nat.le_of_ble_eq_true rfl⟩)
theorem zc_X5_judge_X1_settle {C : zC} {G : zG} {Qc : Array Value → State → Outcome → State → Prop} (S : St_X5_judge C G Qc) : CallW (zRm C) (zs C) (zar C) RX5 RX1 122 yX1_settle cX1_settle 3 none wsX1_settle rm_X1_settle 0 0 2 := cwV 2 S.1.1.2.2.2.2 gX5_judge_X1_settle rfl rfl rfl (by decide +kernel) (by rw [S.2.2]; exact ⟨Nat.le_of_ble_eq_true rfl, Nat.le_of_ble_eq_true rfl⟩)
set_option maxRecDepth 100000 in
set_option maxHeartbeats 4000000 in
theorem sg_X5_judge_0 {C : zC} {G : zG} {Qc : Array Value → State → Outcome → State → Prop} (S : St_X5_judge C G Qc) {P_X0_claimAt : Nat → Int32 → zM → Prop} {Q_X0_claimAt : Nat → Int32 → zM → Option Nat → Prop} (c_X0_claimAt : Con_X0_claimAt (zl C) G P_X0_claimAt Q_X0_claimAt) {P_X0_hasJudgedTwin : Nat → Nat → zM → Prop} {Q_X0_hasJudgedTwin : Nat → Nat → zM → Int32 → Prop} (c_X0_hasJudgedTwin : Con_X0_hasJudgedTwin (zl C) G P_X0_hasJudgedTwin Q_X0_hasJudgedTwin) {P_X1_pointsWith : Nat → Nat → Int32 → zM → Prop} {Q_X1_pointsWith : Nat → Nat → Int32 → zM → Int32 → Prop} (c_X1_pointsWith : Con_X1_pointsWith (zl C) G P_X1_pointsWith Q_X1_pointsWith) {P_X1_settle : Nat → Int32 → Int32 → zM → Prop} {Q_X1_settle : Nat → Int32 → Int32 → zM → zM → Prop} (c_X1_settle : Con_X1_settle (zl C) G P_X1_settle Q_X1_settle) {a0 : Nat} {x1 : Int32} {m : zM} (ka0 : zK G a0 = some (5, a0))
    (h : (P_X0_claimAt (a0 + 1) x1 m) ∧ (∀ (r2 : Option Nat), Q_X0_claimAt (a0 + 1) x1 m r2 → ((r2 = none → ((¬ (zI m 9 (a0 + 1) 0) = 0 → (zRet C G Qc (some (.int (-1))) m)) ∧ ((zI m 9 (a0 + 1) 0) = 0 → (zRet C G Qc (some (.int (-1))) m)))) ∧ (∀ b3 : Nat, r2 = some b3 → zK G b3 = some (1, b3) → ((¬ (zI m 9 (a0 + 1) 0) = 0 → (zRet C G Qc (some (.int (-1))) m)) ∧ ((zI m 9 (a0 + 1) 0) = 0 → ((¬ (zI m 105 b3 0) = 0 → (zRet C G Qc (some (.int (-1))) m)) ∧ ((zI m 105 b3 0) = 0 → ((P_X0_hasJudgedTwin (a0 + 1) b3 m) ∧ (∀ (r5 : Int32), Q_X0_hasJudgedTwin (a0 + 1) b3 m r5 → ((r5 = 0 → ((P_X1_pointsWith b3 (zR m 3 (a0 + 1)) (zI m 104 b3 0) m) ∧ (∀ (r8 : Int32), Q_X1_pointsWith b3 (zR m 3 (a0 + 1)) (zI m 104 b3 0) m r8 → ((P_X1_settle b3 1 r8 m) ∧ (∀ (m10 : zM), Q_X1_settle b3 1 r8 m m10 → (zRet C G Qc (some (.int r8)) m10)))))) ∧ (¬ r5 = 0 → (zRet C G Qc (some (.int (-1))) m))))))))))))) : Pt_X5_judge_0 C G a0 x1 m := by
  obtain ⟨hF, hQ, hR⟩ := id S
  have h0 : zF0 C cX5_judge 4 wsX5_judge RX5 := hF.1
  have hL := hF.2.2.1
  unfold Pt_X5_judge_0
  refine zx_aload_n h0 0 dX5_judge_0 rfl ?_
  refine zx_get hF ka0 (by decide) rfl zi_X5_judge_5 0 (by decide) zn_X5_judge_12 rfl rfl dX5_judge_1 ?_
  refine zx_iload_n h0 1 dX5_judge_4 rfl ?_
  obtain ⟨ho1, h⟩ := h
  refine zx_callVq (As := [.int x1]) (rest := []) hF (c_X0_claimAt (a0 + 1) x1 m (zL_5_1 hL ka0) ho1) (zc_X5_judge_X0_claimAt S) (zL_5_1 hL ka0) (by decide) rfl dX5_judge_5 rfl rfl (Nat.le_of_ble_eq_true rfl) ⟨Nat.zero_le _, Nat.zero_le _⟩ (fun r2 m2 hq => ?_)
  obtain ⟨hka, hme, hq⟩ := hq
  subst m2
  replace h := h r2 hq
  refine zx_rf (fun q => ?_) (fun b3 hb3 => ?_)
  · replace h := h.1 q
    refine zx_astore_nN (L' := [(2, .null), (0, .ref a0), (1, .int x1)]) h0 dX5_judge_8 (by decide) rfl ?_
    refine zx_aload_n h0 1 dX5_judge_9 rfl ?_
    refine zx_get hF ka0 (by decide) rfl zi_X5_judge_5 0 (by decide) zn_X5_judge_12 rfl rfl dX5_judge_10 ?_
    refine zx_get hF (zL_5_1 hL ka0) (by decide) rfl zi_X5_judge_0 9 (by decide) zn_X5_judge_27 rfl rfl dX5_judge_13 ?_
    refine zx_if_ne (tgt := 41) h0 dX5_judge_16 (by decide) (fun q => ?_) (fun q => ?_)
    · replace h := h.1 q
      refine zx_iconst (v := (-1)) h0 dX5_judge_41 (by decide) ?_
      exact zx_iret hF hQ dX5_judge_42 h
    · replace h := h.2 q
      refine zx_aload_nN h0 0 dX5_judge_19 rfl ?_
      refine zx_ifnullN (tgt := 41) h0 dX5_judge_20 (by decide) ?_
      refine zx_iconst (v := (-1)) h0 dX5_judge_41 (by decide) ?_
      exact zx_iret hF hQ dX5_judge_42 h
  · replace h := h.2 b3 hb3 (hka _ hb3)
    refine zx_astore_n (L' := [(2, .ref b3), (0, .ref a0), (1, .int x1)]) h0 dX5_judge_8 (by decide) rfl ?_
    refine zx_aload_n h0 1 dX5_judge_9 rfl ?_
    refine zx_get hF ka0 (by decide) rfl zi_X5_judge_5 0 (by decide) zn_X5_judge_12 rfl rfl dX5_judge_10 ?_
    refine zx_get hF (zL_5_1 hL ka0) (by decide) rfl zi_X5_judge_0 9 (by decide) zn_X5_judge_27 rfl rfl dX5_judge_13 ?_
    refine zx_if_ne (tgt := 41) h0 dX5_judge_16 (by decide) (fun q => ?_) (fun q => ?_)
    · replace h := h.1 q
      refine zx_iconst (v := (-1)) h0 dX5_judge_41 (by decide) ?_
      exact zx_iret hF hQ dX5_judge_42 h
    · replace h := h.2 q
      refine zx_aload_n h0 0 dX5_judge_19 rfl ?_
      refine zx_ifnull h0 dX5_judge_20 ?_
      refine zx_aload_n h0 0 dX5_judge_23 rfl ?_
      refine zx_get hF (hka _ hb3) (by decide) rfl zi_X5_judge_1 5 (by decide) zn_X5_judge_111 rfl rfl dX5_judge_24 ?_
      refine zx_if_ne (tgt := 41) h0 dX5_judge_27 (by decide) (fun q => ?_) (fun q => ?_)
      · replace h := h.1 q
        refine zx_iconst (v := (-1)) h0 dX5_judge_41 (by decide) ?_
        exact zx_iret hF hQ dX5_judge_42 h
      · replace h := h.2 q
        refine zx_aload_n h0 1 dX5_judge_30 rfl ?_
        refine zx_get hF ka0 (by decide) rfl zi_X5_judge_5 0 (by decide) zn_X5_judge_12 rfl rfl dX5_judge_31 ?_
        refine zx_aload_n h0 0 dX5_judge_34 rfl ?_
        obtain ⟨ho4, h⟩ := h
        refine zx_callVi (As := [.ref b3]) (rest := []) hF (c_X0_hasJudgedTwin (a0 + 1) b3 m (zL_5_1 hL ka0) (hka _ hb3) ho4) (zc_X5_judge_X0_hasJudgedTwin S) (zL_5_1 hL ka0) (by decide) rfl dX5_judge_35 rfl rfl (Nat.le_of_ble_eq_true rfl) ⟨Nat.zero_le _, Nat.zero_le _⟩ (fun r5 m5 hq => ?_)
        obtain ⟨hme, hq⟩ := hq
        subst m5
        replace h := h r5 hq
        refine zx_if_eq (tgt := 43) h0 dX5_judge_38 (by decide) (fun q => ?_) (fun q => ?_)
        · replace h := h.1 q
          refine zx_aload_n h0 0 dX5_judge_43 rfl ?_
          refine zx_aload_n h0 1 dX5_judge_44 rfl ?_
          refine zx_get hF ka0 (by decide) rfl zi_X5_judge_5 0 (by decide) zn_X5_judge_12 rfl rfl dX5_judge_45 ?_
          refine zx_wt (fun hw6 => ?_)
          refine zx_get hF (zL_5_1 hL ka0) (by decide) rfl zi_X5_judge_0 3 (by decide) zn_X5_judge_71 rfl rfl dX5_judge_48 ?_
          refine zx_aload_n h0 0 dX5_judge_51 rfl ?_
          refine zx_get hF (hka _ hb3) (by decide) rfl zi_X5_judge_1 4 (by decide) zn_X5_judge_105 rfl rfl dX5_judge_52 ?_
          obtain ⟨ho7, h⟩ := h
          refine zx_callVi (As := [.ref (zR m 3 (a0 + 1)), .int (zI m 104 b3 0)]) (rest := []) hF (c_X1_pointsWith b3 (zR m 3 (a0 + 1)) (zI m 104 b3 0) m (hka _ hb3) (hw6.2.1 _ (zL_5_1 hL ka0)) ho7) (zc_X5_judge_X1_pointsWith S) (hka _ hb3) (by decide) rfl dX5_judge_55 rfl rfl (Nat.le_of_ble_eq_true rfl) ⟨Nat.zero_le _, Nat.zero_le _⟩ (fun r8 m8 hq => ?_)
          obtain ⟨hme, hq⟩ := hq
          subst m8
          replace h := h r8 hq
          refine zx_istore_n (L' := [(3, .int r8), (2, .ref b3), (0, .ref a0), (1, .int x1)]) h0 dX5_judge_58 (by decide) rfl ?_
          refine zx_aload_n h0 1 dX5_judge_59 rfl ?_
          refine zx_iconst (v := 1) h0 dX5_judge_60 (by decide) ?_
          refine zx_iload_n h0 0 dX5_judge_61 rfl ?_
          obtain ⟨ho9, h⟩ := h
          refine zx_callVv (As := [.int 1, .int r8]) (rest := []) hF (c_X1_settle b3 1 r8 m (hka _ hb3) ho9) (zc_X5_judge_X1_settle S) (hka _ hb3) (by decide) rfl dX5_judge_62 rfl rfl (Nat.le_of_ble_eq_true rfl) ⟨Nat.zero_le _, Nat.zero_le _⟩ (fun m10 hq => ?_)
          replace h := h m10 hq
          refine zx_iload_n h0 0 dX5_judge_65 rfl ?_
          exact zx_iret hF hQ dX5_judge_66 h
        · replace h := h.2 q
          refine zx_iconst (v := (-1)) h0 dX5_judge_41 (by decide) ?_
          exact zx_iret hF hQ dX5_judge_42 h
theorem zn_X5_appeal_12 : Cond.fieldLink RX5 12 RX5 (TX5 0).2.1 (TX5 0).2.2.1 ∈ wsX5_appeal := List.mem_of_getElem? (i := 1) rfl
theorem zi_X5_appeal_5 : ∀ w ∈ u_ws RX5 TX5 3, w ∈ wsX5_appeal := fun _ h => List.mem_cons_of_mem _ (List.mem_append_left _ (List.mem_append_left _ (List.mem_append_left _ (List.mem_append_right _ h))))
theorem zn_X5_appeal_27 : Cond.fieldLink RX5 27 RX0 (TX0 9).2.1 (TX0 9).2.2.1 ∈ wsX5_appeal := List.mem_of_getElem? (i := 2) rfl
theorem zi_X5_appeal_0 : ∀ w ∈ u_ws RX0 TX0 10, w ∈ wsX5_appeal := fun _ h => List.mem_cons_of_mem _ (List.mem_append_left _ (List.mem_append_left _ (List.mem_append_right _ h)))
theorem zn_X5_appeal_111 : Cond.fieldLink RX5 111 RX1 (TX1 5).2.1 (TX1 5).2.2.1 ∈ wsX5_appeal := List.mem_of_getElem? (i := 3) rfl
theorem zi_X5_appeal_1 : ∀ w ∈ u_ws RX1 TX1 9, w ∈ wsX5_appeal := fun _ h => List.mem_cons_of_mem _ (List.mem_append_left _ (List.mem_append_right _ h))
theorem zn_X5_appeal_k125 : Cond.constant RX5 125 1000000 ∈ wsX5_appeal := List.mem_of_getElem? (i := 4) rfl
theorem zn_X5_appeal_126 : Cond.fieldLink RX5 126 RX1 (TX1 7).2.1 (TX1 7).2.2.1 ∈ wsX5_appeal := List.mem_of_getElem? (i := 5) rfl
theorem zc_X5_appeal_X0_claimAt {C : zC} {G : zG} {Qc : Array Value → State → Outcome → State → Prop} (S : St_X5_appeal C G Qc) : CallW (zRm C) (zs C) (zar C) RX5 RX0 95 yX0_claimAt cX0_claimAt 2 (some (.object "ClaimsFund$Claim")) wsX0_claimAt rm_X0_claimAt 0 0 1 := cwV 1 S.1.1.2.2.2.2 gX5_appeal_X0_claimAt rfl rfl rfl (by decide +kernel) (by rw [S.2.2]; exact ⟨Nat.le_of_ble_eq_true rfl, Nat.le_of_ble_eq_true rfl⟩)
theorem zc_X5_appeal_X1_settle {C : zC} {G : zG} {Qc : Array Value → State → Outcome → State → Prop} (S : St_X5_appeal C G Qc) : CallW (zRm C) (zs C) (zar C) RX5 RX1 122 yX1_settle cX1_settle 3 none wsX1_settle rm_X1_settle 0 0 2 := cwV 2 S.1.1.2.2.2.2 gX5_appeal_X1_settle rfl rfl rfl (by decide +kernel) (by rw [S.2.2]; exact ⟨Nat.le_of_ble_eq_true rfl, Nat.le_of_ble_eq_true rfl⟩)
theorem zc_X5_appeal_X0_holds {C : zC} {G : zG} {Qc : Array Value → State → Outcome → State → Prop} (S : St_X5_appeal C G Qc) : CallW (zRm C) (zs C) (zar C) RX5 RX0 78 yX0_holds cX0_holds 7 (some .boolean) wsX0_holds rm_X0_holds 0 0 0 := cwV 0 S.1.1.2.2.2.2 gX5_appeal_X0_holds rfl rfl rfl (by decide +kernel) (by rw [S.2.2]; exact ⟨Nat.le_of_ble_eq_true rfl, Nat.le_of_ble_eq_true rfl⟩)
set_option maxRecDepth 100000 in
set_option maxHeartbeats 4000000 in
theorem sg_X5_appeal_0 {C : zC} {G : zG} {Qc : Array Value → State → Outcome → State → Prop} (S : St_X5_appeal C G Qc) {P_X0_claimAt : Nat → Int32 → zM → Prop} {Q_X0_claimAt : Nat → Int32 → zM → Option Nat → Prop} (c_X0_claimAt : Con_X0_claimAt (zl C) G P_X0_claimAt Q_X0_claimAt) {P_X1_settle : Nat → Int32 → Int32 → zM → Prop} {Q_X1_settle : Nat → Int32 → Int32 → zM → zM → Prop} (c_X1_settle : Con_X1_settle (zl C) G P_X1_settle Q_X1_settle) {P_X0_holds : Nat → zM → Prop} {Q_X0_holds : Nat → zM → Int32 → Prop} (c_X0_holds : Con_X0_holds (zl C) G P_X0_holds Q_X0_holds) {a0 : Nat} {x1 : Int32} {x2 : Int32} {m : zM} (ka0 : zK G a0 = some (5, a0))
    (h : (P_X0_claimAt (a0 + 1) x1 m) ∧ (∀ (r2 : Option Nat), Q_X0_claimAt (a0 + 1) x1 m r2 → ((r2 = none → ((¬ (zI m 9 (a0 + 1) 0) = 0 → (zRet C G Qc (some (.int 0)) m)) ∧ ((zI m 9 (a0 + 1) 0) = 0 → (zRet C G Qc (some (.int 0)) m)))) ∧ (∀ b3 : Nat, r2 = some b3 → zK G b3 = some (1, b3) → ((¬ (zI m 9 (a0 + 1) 0) = 0 → (zRet C G Qc (some (.int 0)) m)) ∧ ((zI m 9 (a0 + 1) 0) = 0 → ((¬ (zI m 105 b3 0) = 1 → (zRet C G Qc (some (.int 0)) m)) ∧ ((zI m 105 b3 0) = 1 → ((x2 < 0 → (zRet C G Qc (some (.int 0)) m)) ∧ (¬ x2 < 0 → ((x2 ≤ 1000000 → ((P_X1_settle b3 1 x2 m) ∧ (∀ (m5 : zM), Q_X1_settle b3 1 x2 m m5 → ((P_X0_holds (a0 + 1) m5) ∧ (∀ (r7 : Int32), Q_X0_holds (a0 + 1) m5 r7 → ((¬ r7 = 0 → (zRet C G Qc (some (.int 1)) m5)) ∧ (r7 = 0 → ((P_X1_settle b3 1 (zI m 107 b3 0) m5) ∧ (∀ (m9 : zM), Q_X1_settle b3 1 (zI m 107 b3 0) m5 m9 → (zRet C G Qc (some (.int 0)) m9)))))))))) ∧ (¬ x2 ≤ 1000000 → (zRet C G Qc (some (.int 0)) m))))))))))))) : Pt_X5_appeal_0 C G a0 x1 x2 m := by
  obtain ⟨hF, hQ, hR⟩ := id S
  have h0 : zF0 C cX5_appeal 5 wsX5_appeal RX5 := hF.1
  have hL := hF.2.2.1
  unfold Pt_X5_appeal_0
  refine zx_aload_n h0 0 dX5_appeal_0 rfl ?_
  refine zx_get hF ka0 (by decide) rfl zi_X5_appeal_5 0 (by decide) zn_X5_appeal_12 rfl rfl dX5_appeal_1 ?_
  refine zx_iload_n h0 1 dX5_appeal_4 rfl ?_
  obtain ⟨ho1, h⟩ := h
  refine zx_callVq (As := [.int x1]) (rest := []) hF (c_X0_claimAt (a0 + 1) x1 m (zL_5_1 hL ka0) ho1) (zc_X5_appeal_X0_claimAt S) (zL_5_1 hL ka0) (by decide) rfl dX5_appeal_5 rfl rfl (Nat.le_of_ble_eq_true rfl) ⟨Nat.zero_le _, Nat.zero_le _⟩ (fun r2 m2 hq => ?_)
  obtain ⟨hka, hme, hq⟩ := hq
  subst m2
  replace h := h r2 hq
  refine zx_rf (fun q => ?_) (fun b3 hb3 => ?_)
  · replace h := h.1 q
    refine zx_astore_nN (L' := [(3, .null), (0, .ref a0), (1, .int x1), (2, .int x2)]) h0 dX5_appeal_8 (by decide) rfl ?_
    refine zx_aload_n h0 1 dX5_appeal_9 rfl ?_
    refine zx_get hF ka0 (by decide) rfl zi_X5_appeal_5 0 (by decide) zn_X5_appeal_12 rfl rfl dX5_appeal_10 ?_
    refine zx_get hF (zL_5_1 hL ka0) (by decide) rfl zi_X5_appeal_0 9 (by decide) zn_X5_appeal_27 rfl rfl dX5_appeal_13 ?_
    refine zx_if_ne (tgt := 41) h0 dX5_appeal_16 (by decide) (fun q => ?_) (fun q => ?_)
    · replace h := h.1 q
      refine zx_iconst (v := 0) h0 dX5_appeal_41 (by decide) ?_
      exact zx_zret hF hQ rfl dX5_appeal_42 h
    · replace h := h.2 q
      refine zx_aload_nN h0 0 dX5_appeal_19 rfl ?_
      refine zx_ifnullN (tgt := 41) h0 dX5_appeal_20 (by decide) ?_
      refine zx_iconst (v := 0) h0 dX5_appeal_41 (by decide) ?_
      exact zx_zret hF hQ rfl dX5_appeal_42 h
  · replace h := h.2 b3 hb3 (hka _ hb3)
    refine zx_astore_n (L' := [(3, .ref b3), (0, .ref a0), (1, .int x1), (2, .int x2)]) h0 dX5_appeal_8 (by decide) rfl ?_
    refine zx_aload_n h0 1 dX5_appeal_9 rfl ?_
    refine zx_get hF ka0 (by decide) rfl zi_X5_appeal_5 0 (by decide) zn_X5_appeal_12 rfl rfl dX5_appeal_10 ?_
    refine zx_get hF (zL_5_1 hL ka0) (by decide) rfl zi_X5_appeal_0 9 (by decide) zn_X5_appeal_27 rfl rfl dX5_appeal_13 ?_
    refine zx_if_ne (tgt := 41) h0 dX5_appeal_16 (by decide) (fun q => ?_) (fun q => ?_)
    · replace h := h.1 q
      refine zx_iconst (v := 0) h0 dX5_appeal_41 (by decide) ?_
      exact zx_zret hF hQ rfl dX5_appeal_42 h
    · replace h := h.2 q
      refine zx_aload_n h0 0 dX5_appeal_19 rfl ?_
      refine zx_ifnull h0 dX5_appeal_20 ?_
      refine zx_aload_n h0 0 dX5_appeal_23 rfl ?_
      refine zx_get hF (hka _ hb3) (by decide) rfl zi_X5_appeal_1 5 (by decide) zn_X5_appeal_111 rfl rfl dX5_appeal_24 ?_
      refine zx_iconst (v := 1) h0 dX5_appeal_27 (by decide) ?_
      refine zx_icmp_ne (tgt := 41) h0 dX5_appeal_28 (by decide) (fun q => ?_) (fun q => ?_)
      · replace h := h.1 q
        refine zx_iconst (v := 0) h0 dX5_appeal_41 (by decide) ?_
        exact zx_zret hF hQ rfl dX5_appeal_42 h
      · replace h := h.2 q
        refine zx_iload_n h0 3 dX5_appeal_31 rfl ?_
        refine zx_if_lt (tgt := 41) h0 dX5_appeal_32 (by decide) (fun q => ?_) (fun q => ?_)
        · replace h := h.1 q
          refine zx_iconst (v := 0) h0 dX5_appeal_41 (by decide) ?_
          exact zx_zret hF hQ rfl dX5_appeal_42 h
        · replace h := h.2 q
          refine zx_iload_n h0 3 dX5_appeal_35 rfl ?_
          refine zx_ldc (v := 1000000) h0 zn_X5_appeal_k125 dX5_appeal_36 ?_
          refine zx_icmp_le (tgt := 43) h0 dX5_appeal_38 (by decide) (fun q => ?_) (fun q => ?_)
          · replace h := h.1 q
            refine zx_aload_n h0 0 dX5_appeal_43 rfl ?_
            refine zx_get hF (hka _ hb3) (by decide) rfl zi_X5_appeal_1 7 (by decide) zn_X5_appeal_126 rfl rfl dX5_appeal_44 ?_
            refine zx_istore (L' := [(4, .int (zI m 107 b3 0)), (3, .ref b3), (0, .ref a0), (1, .int x1), (2, .int x2)]) h0 dX5_appeal_47 (by decide) rfl ?_
            refine zx_aload_n h0 1 dX5_appeal_49 rfl ?_
            refine zx_iconst (v := 1) h0 dX5_appeal_50 (by decide) ?_
            refine zx_iload_n h0 4 dX5_appeal_51 rfl ?_
            obtain ⟨ho4, h⟩ := h
            refine zx_callVv (As := [.int 1, .int x2]) (rest := []) hF (c_X1_settle b3 1 x2 m (hka _ hb3) ho4) (zc_X5_appeal_X1_settle S) (hka _ hb3) (by decide) rfl dX5_appeal_52 rfl rfl (Nat.le_of_ble_eq_true rfl) ⟨Nat.zero_le _, Nat.zero_le _⟩ (fun m5 hq => ?_)
            replace h := h m5 hq
            refine zx_aload_n h0 2 dX5_appeal_55 rfl ?_
            refine zx_get hF ka0 (by decide) rfl zi_X5_appeal_5 0 (by decide) zn_X5_appeal_12 rfl rfl dX5_appeal_56 ?_
            obtain ⟨ho6, h⟩ := h
            refine zx_callVi (As := []) (rest := []) hF (c_X0_holds (a0 + 1) m5 (zL_5_1 hL ka0) ho6) (zc_X5_appeal_X0_holds S) (zL_5_1 hL ka0) (by decide) rfl dX5_appeal_59 rfl rfl (Nat.le_of_ble_eq_true rfl) ⟨Nat.zero_le _, Nat.zero_le _⟩ (fun r7 m7 hq => ?_)
            obtain ⟨hme, hq⟩ := hq
            subst m7
            replace h := h r7 hq
            refine zx_if_ne (tgt := 74) h0 dX5_appeal_62 (by decide) (fun q => ?_) (fun q => ?_)
            · replace h := h.1 q
              refine zx_iconst (v := 1) h0 dX5_appeal_74 (by decide) ?_
              exact zx_zret hF hQ rfl dX5_appeal_75 h
            · replace h := h.2 q
              refine zx_aload_n h0 1 dX5_appeal_65 rfl ?_
              refine zx_iconst (v := 1) h0 dX5_appeal_66 (by decide) ?_
              refine zx_iload h0 0 dX5_appeal_67 rfl ?_
              obtain ⟨ho8, h⟩ := h
              refine zx_callVv (As := [.int 1, .int (zI m 107 b3 0)]) (rest := []) hF (c_X1_settle b3 1 (zI m 107 b3 0) m5 (hka _ hb3) ho8) (zc_X5_appeal_X1_settle S) (hka _ hb3) (by decide) rfl dX5_appeal_69 rfl rfl (Nat.le_of_ble_eq_true rfl) ⟨Nat.zero_le _, Nat.zero_le _⟩ (fun m9 hq => ?_)
              replace h := h m9 hq
              refine zx_iconst (v := 0) h0 dX5_appeal_72 (by decide) ?_
              exact zx_zret hF hQ rfl dX5_appeal_73 h
          · replace h := h.2 q
            refine zx_iconst (v := 0) h0 dX5_appeal_41 (by decide) ?_
            exact zx_zret hF hQ rfl dX5_appeal_42 h
theorem zn_X5_out_12 : Cond.fieldLink RX5 12 RX5 (TX5 0).2.1 (TX5 0).2.2.1 ∈ wsX5_out := List.mem_of_getElem? (i := 1) rfl
theorem zi_X5_out_5 : ∀ w ∈ u_ws RX5 TX5 3, w ∈ wsX5_out := fun _ h => List.mem_cons_of_mem _ (List.mem_append_left _ (List.mem_append_left _ (List.mem_append_left _ (List.mem_append_left _ (List.mem_append_right _ h)))))
theorem zn_X5_out_27 : Cond.fieldLink RX5 27 RX0 (TX0 9).2.1 (TX0 9).2.2.1 ∈ wsX5_out := List.mem_of_getElem? (i := 2) rfl
theorem zi_X5_out_0 : ∀ w ∈ u_ws RX0 TX0 10, w ∈ wsX5_out := fun _ h => List.mem_cons_of_mem _ (List.mem_append_left _ (List.mem_append_left _ (List.mem_append_left _ (List.mem_append_right _ h))))
theorem zc_X5_out_X0_claimAt {C : zC} {G : zG} {Qc : Array Value → State → Outcome → State → Prop} (S : St_X5_out C G Qc) : CallW (zRm C) (zs C) (zar C) RX5 RX0 95 yX0_claimAt cX0_claimAt 2 (some (.object "ClaimsFund$Claim")) wsX0_claimAt rm_X0_claimAt 0 0 1 := cwV 1 S.1.1.2.2.2.2 gX5_out_X0_claimAt rfl rfl rfl (by decide +kernel) (by rw [S.2.2]; exact ⟨Nat.le_of_ble_eq_true rfl, Nat.le_of_ble_eq_true rfl⟩)
theorem zc_X5_out_X0_takeBack {C : zC} {G : zG} {Qc : Array Value → State → Outcome → State → Prop} (S : St_X5_out C G Qc) : CallW (zRm C) (zs C) (zar C) RX5 RX0 132 yX0_takeBack cX0_takeBack 2 (some .boolean) wsX0_takeBack rm_X0_takeBack 0 0 1 := cwV 1 S.1.1.2.2.2.2 gX5_out_X0_takeBack rfl rfl rfl (by decide +kernel) (by rw [S.2.2]; exact ⟨Nat.le_of_ble_eq_true rfl, Nat.le_of_ble_eq_true rfl⟩)
theorem zc_X5_out_X0_sendOut {C : zC} {G : zG} {Qc : Array Value → State → Outcome → State → Prop} (S : St_X5_out C G Qc) : CallW (zRm C) (zs C) (zar C) RX5 RX0 129 yX0_sendOut cX0_sendOut 2 (some .boolean) wsX0_sendOut rm_X0_sendOut 0 0 1 := cwV 1 S.1.1.2.2.2.2 gX5_out_X0_sendOut rfl rfl rfl (by decide +kernel) (by rw [S.2.2]; exact ⟨Nat.le_of_ble_eq_true rfl, Nat.le_of_ble_eq_true rfl⟩)
set_option maxRecDepth 100000 in
set_option maxHeartbeats 4000000 in
theorem sg_X5_out_0 {C : zC} {G : zG} {Qc : Array Value → State → Outcome → State → Prop} (S : St_X5_out C G Qc) {P_X0_claimAt : Nat → Int32 → zM → Prop} {Q_X0_claimAt : Nat → Int32 → zM → Option Nat → Prop} (c_X0_claimAt : Con_X0_claimAt (zl C) G P_X0_claimAt Q_X0_claimAt) {P_X0_takeBack : Nat → Nat → zM → Prop} {Q_X0_takeBack : Nat → Nat → zM → Int32 → zM → Prop} (c_X0_takeBack : Con_X0_takeBack (zl C) G P_X0_takeBack Q_X0_takeBack) {P_X0_sendOut : Nat → Nat → zM → Prop} {Q_X0_sendOut : Nat → Nat → zM → Int32 → zM → Prop} (c_X0_sendOut : Con_X0_sendOut (zl C) G P_X0_sendOut Q_X0_sendOut) {a0 : Nat} {x1 : Int32} {x2 : Int32} {m : zM} (ka0 : zK G a0 = some (5, a0))
    (h : (P_X0_claimAt (a0 + 1) x1 m) ∧ (∀ (r2 : Option Nat), Q_X0_claimAt (a0 + 1) x1 m r2 → ((r2 = none → ((¬ (zI m 9 (a0 + 1) 0) = 0 → (zRet C G Qc (some (.int 0)) m)) ∧ ((zI m 9 (a0 + 1) 0) = 0 → (zRet C G Qc (some (.int 0)) m)))) ∧ (∀ b3 : Nat, r2 = some b3 → zK G b3 = some (1, b3) → ((¬ (zI m 9 (a0 + 1) 0) = 0 → (zRet C G Qc (some (.int 0)) m)) ∧ ((zI m 9 (a0 + 1) 0) = 0 → ((x2 = 0 → ((P_X0_takeBack (a0 + 1) b3 m) ∧ (∀ (r5 : Int32) (m5 : zM), Q_X0_takeBack (a0 + 1) b3 m r5 m5 → ((r5 = 0 ∨ r5 = 1) ∧ (zRet C G Qc (some (.int r5)) m5))))) ∧ (¬ x2 = 0 → ((P_X0_sendOut (a0 + 1) b3 m) ∧ (∀ (r8 : Int32) (m8 : zM), Q_X0_sendOut (a0 + 1) b3 m r8 m8 → ((r8 = 0 ∨ r8 = 1) ∧ (zRet C G Qc (some (.int r8)) m8)))))))))))) : Pt_X5_out_0 C G a0 x1 x2 m := by
  obtain ⟨hF, hQ, hR⟩ := id S
  have h0 : zF0 C cX5_out 4 wsX5_out RX5 := hF.1
  have hL := hF.2.2.1
  unfold Pt_X5_out_0
  refine zx_aload_n h0 0 dX5_out_0 rfl ?_
  refine zx_get hF ka0 (by decide) rfl zi_X5_out_5 0 (by decide) zn_X5_out_12 rfl rfl dX5_out_1 ?_
  refine zx_iload_n h0 1 dX5_out_4 rfl ?_
  obtain ⟨ho1, h⟩ := h
  refine zx_callVq (As := [.int x1]) (rest := []) hF (c_X0_claimAt (a0 + 1) x1 m (zL_5_1 hL ka0) ho1) (zc_X5_out_X0_claimAt S) (zL_5_1 hL ka0) (by decide) rfl dX5_out_5 rfl rfl (Nat.le_of_ble_eq_true rfl) ⟨Nat.zero_le _, Nat.zero_le _⟩ (fun r2 m2 hq => ?_)
  obtain ⟨hka, hme, hq⟩ := hq
  subst m2
  replace h := h r2 hq
  refine zx_rf (fun q => ?_) (fun b3 hb3 => ?_)
  · replace h := h.1 q
    refine zx_astore_nN (L' := [(3, .null), (0, .ref a0), (1, .int x1), (2, .int x2)]) h0 dX5_out_8 (by decide) rfl ?_
    refine zx_aload_n h0 1 dX5_out_9 rfl ?_
    refine zx_get hF ka0 (by decide) rfl zi_X5_out_5 0 (by decide) zn_X5_out_12 rfl rfl dX5_out_10 ?_
    refine zx_get hF (zL_5_1 hL ka0) (by decide) rfl zi_X5_out_0 9 (by decide) zn_X5_out_27 rfl rfl dX5_out_13 ?_
    refine zx_if_ne (tgt := 23) h0 dX5_out_16 (by decide) (fun q => ?_) (fun q => ?_)
    · replace h := h.1 q
      refine zx_iconst (v := 0) h0 dX5_out_23 (by decide) ?_
      exact zx_zret hF hQ rfl dX5_out_24 h
    · replace h := h.2 q
      refine zx_aload_nN h0 0 dX5_out_19 rfl ?_
      refine zx_ifnonnullN h0 dX5_out_20 ?_
      refine zx_iconst (v := 0) h0 dX5_out_23 (by decide) ?_
      exact zx_zret hF hQ rfl dX5_out_24 h
  · replace h := h.2 b3 hb3 (hka _ hb3)
    refine zx_astore_n (L' := [(3, .ref b3), (0, .ref a0), (1, .int x1), (2, .int x2)]) h0 dX5_out_8 (by decide) rfl ?_
    refine zx_aload_n h0 1 dX5_out_9 rfl ?_
    refine zx_get hF ka0 (by decide) rfl zi_X5_out_5 0 (by decide) zn_X5_out_12 rfl rfl dX5_out_10 ?_
    refine zx_get hF (zL_5_1 hL ka0) (by decide) rfl zi_X5_out_0 9 (by decide) zn_X5_out_27 rfl rfl dX5_out_13 ?_
    refine zx_if_ne (tgt := 23) h0 dX5_out_16 (by decide) (fun q => ?_) (fun q => ?_)
    · replace h := h.1 q
      refine zx_iconst (v := 0) h0 dX5_out_23 (by decide) ?_
      exact zx_zret hF hQ rfl dX5_out_24 h
    · replace h := h.2 q
      refine zx_aload_n h0 0 dX5_out_19 rfl ?_
      refine zx_ifnonnull (tgt := 25) h0 dX5_out_20 (by decide) ?_
      refine zx_iload_n h0 3 dX5_out_25 rfl ?_
      refine zx_if_eq (tgt := 40) h0 dX5_out_26 (by decide) (fun q => ?_) (fun q => ?_)
      · replace h := h.1 q
        refine zx_aload_n h0 1 dX5_out_40 rfl ?_
        refine zx_get hF ka0 (by decide) rfl zi_X5_out_5 0 (by decide) zn_X5_out_12 rfl rfl dX5_out_41 ?_
        refine zx_aload_n h0 0 dX5_out_44 rfl ?_
        obtain ⟨ho4, h⟩ := h
        refine zx_callVi (As := [.ref b3]) (rest := []) hF (c_X0_takeBack (a0 + 1) b3 m (zL_5_1 hL ka0) (hka _ hb3) ho4) (zc_X5_out_X0_takeBack S) (zL_5_1 hL ka0) (by decide) rfl dX5_out_45 rfl rfl (Nat.le_of_ble_eq_true rfl) ⟨Nat.zero_le _, Nat.zero_le _⟩ (fun r5 m5 hq => ?_)
        replace h := h r5 m5 hq
        obtain ⟨ho6, h⟩ := h
        exact zx_zret hF hQ (z_nb ho6) dX5_out_48 h
      · replace h := h.2 q
        refine zx_aload_n h0 1 dX5_out_29 rfl ?_
        refine zx_get hF ka0 (by decide) rfl zi_X5_out_5 0 (by decide) zn_X5_out_12 rfl rfl dX5_out_30 ?_
        refine zx_aload_n h0 0 dX5_out_33 rfl ?_
        obtain ⟨ho7, h⟩ := h
        refine zx_callVi (As := [.ref b3]) (rest := []) hF (c_X0_sendOut (a0 + 1) b3 m (zL_5_1 hL ka0) (hka _ hb3) ho7) (zc_X5_out_X0_sendOut S) (zL_5_1 hL ka0) (by decide) rfl dX5_out_34 rfl rfl (Nat.le_of_ble_eq_true rfl) ⟨Nat.zero_le _, Nat.zero_le _⟩ (fun r8 m8 hq => ?_)
        replace h := h r8 m8 hq
        refine zx_goto (tgt := 48) h0 dX5_out_37 (by decide) ?_
        obtain ⟨ho9, h⟩ := h
        exact zx_zret hF hQ (z_nb ho9) dX5_out_48 h
theorem zn_X5_points_12 : Cond.fieldLink RX5 12 RX5 (TX5 0).2.1 (TX5 0).2.2.1 ∈ wsX5_points := List.mem_of_getElem? (i := 1) rfl
theorem zi_X5_points_5 : ∀ w ∈ u_ws RX5 TX5 3, w ∈ wsX5_points := fun _ h => List.mem_cons_of_mem _ (List.mem_append_left _ (List.mem_append_left _ (List.mem_append_right _ h)))
theorem zn_X5_points_71 : Cond.fieldLink RX5 71 RX0 (TX0 3).2.1 (TX0 3).2.2.1 ∈ wsX5_points := List.mem_of_getElem? (i := 2) rfl
theorem zi_X5_points_0 : ∀ w ∈ u_ws RX0 TX0 10, w ∈ wsX5_points := fun _ h => List.mem_cons_of_mem _ (List.mem_append_left _ (List.mem_append_right _ h))
theorem zc_X5_points_X5_areFacts {C : zC} {G : zG} {Qc : Array Value → State → Outcome → State → Prop} (S : St_X5_points C G Qc) : CallB (zRm C) (zs C) (zar C) RX5 87 yX5_areFacts cX5_areFacts 4 (some .boolean) wsX5_areFacts rm_X5_areFacts 0 0 4 ∧ (Cond.static yX5_areFacts).before (zar C) (zs C) = true := cwS 4 S.1.1.2.2.2.2 gX5_points_X5_areFacts rfl rfl rfl (by decide +kernel) (by rw [S.2.2]; exact ⟨Nat.le_of_ble_eq_true rfl, Nat.le_of_ble_eq_true rfl⟩)
theorem zc_X5_points_X2_pointsFor {C : zC} {G : zG} {Qc : Array Value → State → Outcome → State → Prop} (S : St_X5_points C G Qc) : CallW (zRm C) (zs C) (zar C) RX5 RX2 135 yX2_pointsFor cX2_pointsFor 7 (some .int) wsX2_pointsFor rm_X2_pointsFor 0 0 4 := cwV 4 S.1.1.2.2.2.2 gX5_points_X2_pointsFor rfl rfl rfl (by decide +kernel) (by rw [S.2.2]; exact ⟨Nat.le_of_ble_eq_true rfl, Nat.le_of_ble_eq_true rfl⟩)
set_option maxRecDepth 100000 in
set_option maxHeartbeats 4000000 in
theorem sg_X5_points_0 {C : zC} {G : zG} {Qc : Array Value → State → Outcome → State → Prop} (S : St_X5_points C G Qc) {P_X5_areFacts : Int32 → Int32 → Int32 → Int32 → zM → Prop} {Q_X5_areFacts : Int32 → Int32 → Int32 → Int32 → zM → Int32 → Prop} (c_X5_areFacts : Con_X5_areFacts (zl C) G P_X5_areFacts Q_X5_areFacts) {P_X2_pointsFor : Nat → Int32 → Int32 → Int32 → Int32 → zM → Prop} {Q_X2_pointsFor : Nat → Int32 → Int32 → Int32 → Int32 → zM → Int32 → Prop} (c_X2_pointsFor : Con_X2_pointsFor (zl C) G P_X2_pointsFor Q_X2_pointsFor) {a0 : Nat} {x1 : Int32} {x2 : Int32} {x3 : Int32} {x4 : Int32} {m : zM} (ka0 : zK G a0 = some (5, a0))
    (h : (P_X5_areFacts x1 x2 x3 x4 m) ∧ (∀ (r2 : Int32), Q_X5_areFacts x1 x2 x3 x4 m r2 → ((r2 = 0 → (zRet C G Qc (some (.int (-1))) m)) ∧ (¬ r2 = 0 → ((P_X2_pointsFor (zR m 3 (a0 + 1)) x1 x2 x3 x4 m) ∧ (∀ (r5 : Int32), Q_X2_pointsFor (zR m 3 (a0 + 1)) x1 x2 x3 x4 m r5 → (zRet C G Qc (some (.int r5)) m))))))) : Pt_X5_points_0 C G a0 x1 x2 x3 x4 m := by
  obtain ⟨hF, hQ, hR⟩ := id S
  have h0 : zF0 C cX5_points 5 wsX5_points RX5 := hF.1
  have hL := hF.2.2.1
  unfold Pt_X5_points_0
  refine zx_iload_n h0 1 dX5_points_0 rfl ?_
  refine zx_iload_n h0 2 dX5_points_1 rfl ?_
  refine zx_iload_n h0 3 dX5_points_2 rfl ?_
  refine zx_iload h0 4 dX5_points_3 rfl ?_
  obtain ⟨ho1, h⟩ := h
  refine zx_callSi (As := [.int x1, .int x2, .int x3, .int x4]) (rest := []) hF (c_X5_areFacts x1 x2 x3 x4 m  ho1) (zc_X5_points_X5_areFacts S)  dX5_points_5 rfl rfl (Nat.le_of_ble_eq_true rfl) ⟨Nat.zero_le _, Nat.zero_le _⟩ (fun r2 m2 hq => ?_)
  obtain ⟨hme, hq⟩ := hq
  subst m2
  replace h := h r2 hq
  refine zx_if_eq (tgt := 29) h0 dX5_points_8 (by decide) (fun q => ?_) (fun q => ?_)
  · replace h := h.1 q
    refine zx_iconst (v := (-1)) h0 dX5_points_29 (by decide) ?_
    exact zx_iret hF hQ dX5_points_30 h
  · replace h := h.2 q
    refine zx_aload_n h0 0 dX5_points_11 rfl ?_
    refine zx_get hF ka0 (by decide) rfl zi_X5_points_5 0 (by decide) zn_X5_points_12 rfl rfl dX5_points_12 ?_
    refine zx_wt (fun hw3 => ?_)
    refine zx_get hF (zL_5_1 hL ka0) (by decide) rfl zi_X5_points_0 3 (by decide) zn_X5_points_71 rfl rfl dX5_points_15 ?_
    refine zx_iload_n h0 1 dX5_points_18 rfl ?_
    refine zx_iload_n h0 2 dX5_points_19 rfl ?_
    refine zx_iload_n h0 3 dX5_points_20 rfl ?_
    refine zx_iload h0 4 dX5_points_21 rfl ?_
    obtain ⟨ho4, h⟩ := h
    refine zx_callVi (As := [.int x1, .int x2, .int x3, .int x4]) (rest := []) hF (c_X2_pointsFor (zR m 3 (a0 + 1)) x1 x2 x3 x4 m (hw3.2.1 _ (zL_5_1 hL ka0)) ho4) (zc_X5_points_X2_pointsFor S) (hw3.2.1 _ (zL_5_1 hL ka0)) (by decide) rfl dX5_points_23 rfl rfl (Nat.le_of_ble_eq_true rfl) ⟨Nat.zero_le _, Nat.zero_le _⟩ (fun r5 m5 hq => ?_)
    obtain ⟨hme, hq⟩ := hq
    subst m5
    replace h := h r5 hq
    refine zx_goto (tgt := 30) h0 dX5_points_26 (by decide) ?_
    exact zx_iret hF hQ dX5_points_30 h
theorem zn_X5_lacks_12 : Cond.fieldLink RX5 12 RX5 (TX5 0).2.1 (TX5 0).2.2.1 ∈ wsX5_lacks := List.mem_of_getElem? (i := 1) rfl
theorem zi_X5_lacks_5 : ∀ w ∈ u_ws RX5 TX5 3, w ∈ wsX5_lacks := fun _ h => List.mem_cons_of_mem _ (List.mem_append_left _ (List.mem_append_left _ (List.mem_append_left _ (List.mem_append_right _ h))))
theorem zn_X5_lacks_k139 : Cond.constant RX5 139 (-10000000) ∈ wsX5_lacks := List.mem_of_getElem? (i := 2) rfl
theorem zn_X5_lacks_71 : Cond.fieldLink RX5 71 RX0 (TX0 3).2.1 (TX0 3).2.2.1 ∈ wsX5_lacks := List.mem_of_getElem? (i := 3) rfl
theorem zi_X5_lacks_0 : ∀ w ∈ u_ws RX0 TX0 10, w ∈ wsX5_lacks := fun _ h => List.mem_cons_of_mem _ (List.mem_append_left _ (List.mem_append_left _ (List.mem_append_right _ h)))
theorem zn_X5_lacks_105 : Cond.fieldLink RX5 105 RX1 (TX1 4).2.1 (TX1 4).2.2.1 ∈ wsX5_lacks := List.mem_of_getElem? (i := 4) rfl
theorem zi_X5_lacks_1 : ∀ w ∈ u_ws RX1 TX1 9, w ∈ wsX5_lacks := fun _ h => List.mem_cons_of_mem _ (List.mem_append_left _ (List.mem_append_right _ h))
theorem zc_X5_lacks_X0_claimAt {C : zC} {G : zG} {Qc : Array Value → State → Outcome → State → Prop} (S : St_X5_lacks C G Qc) : CallW (zRm C) (zs C) (zar C) RX5 RX0 95 yX0_claimAt cX0_claimAt 2 (some (.object "ClaimsFund$Claim")) wsX0_claimAt rm_X0_claimAt 0 0 1 := cwV 1 S.1.1.2.2.2.2 gX5_lacks_X0_claimAt rfl rfl rfl (by decide +kernel) (by rw [S.2.2]; exact ⟨Nat.le_of_ble_eq_true rfl, Nat.le_of_ble_eq_true rfl⟩)
theorem zc_X5_lacks_X1_mayBring {C : zC} {G : zG} {Qc : Array Value → State → Outcome → State → Prop} (S : St_X5_lacks C G Qc) : CallW (zRm C) (zs C) (zar C) RX5 RX1 99 yX1_mayBring cX1_mayBring 2 (some .boolean) wsX1_mayBring rm_X1_mayBring 0 0 1 := cwV 1 S.1.1.2.2.2.2 gX5_lacks_X1_mayBring rfl rfl rfl (by decide +kernel) (by rw [S.2.2]; exact ⟨Nat.le_of_ble_eq_true rfl, Nat.le_of_ble_eq_true rfl⟩)
theorem zc_X5_lacks_X1_pointsWith {C : zC} {G : zG} {Qc : Array Value → State → Outcome → State → Prop} (S : St_X5_lacks C G Qc) : CallW (zRm C) (zs C) (zar C) RX5 RX1 118 yX1_pointsWith cX1_pointsWith 3 (some .int) wsX1_pointsWith rm_X1_pointsWith 0 0 2 := cwV 2 S.1.1.2.2.2.2 gX5_lacks_X1_pointsWith rfl rfl rfl (by decide +kernel) (by rw [S.2.2]; exact ⟨Nat.le_of_ble_eq_true rfl, Nat.le_of_ble_eq_true rfl⟩)
set_option maxRecDepth 100000 in
set_option maxHeartbeats 4000000 in
theorem sg_X5_lacks_0 {C : zC} {G : zG} {Qc : Array Value → State → Outcome → State → Prop} (S : St_X5_lacks C G Qc) {P_X0_claimAt : Nat → Int32 → zM → Prop} {Q_X0_claimAt : Nat → Int32 → zM → Option Nat → Prop} (c_X0_claimAt : Con_X0_claimAt (zl C) G P_X0_claimAt Q_X0_claimAt) {P_X1_mayBring : Nat → Int32 → zM → Prop} {Q_X1_mayBring : Nat → Int32 → zM → Int32 → Prop} (c_X1_mayBring : Con_X1_mayBring (zl C) G P_X1_mayBring Q_X1_mayBring) {P_X1_pointsWith : Nat → Nat → Int32 → zM → Prop} {Q_X1_pointsWith : Nat → Nat → Int32 → zM → Int32 → Prop} (c_X1_pointsWith : Con_X1_pointsWith (zl C) G P_X1_pointsWith Q_X1_pointsWith) {a0 : Nat} {x1 : Int32} {x2 : Int32} {m : zM} (ka0 : zK G a0 = some (5, a0))
    (h : (P_X0_claimAt (a0 + 1) x1 m) ∧ (∀ (r2 : Option Nat), Q_X0_claimAt (a0 + 1) x1 m r2 → ((r2 = none → (zRet C G Qc (some (.int (-10000000))) m)) ∧ (∀ b3 : Nat, r2 = some b3 → zK G b3 = some (1, b3) → ((P_X1_mayBring b3 x2 m) ∧ (∀ (r5 : Int32), Q_X1_mayBring b3 x2 m r5 → ((¬ r5 = 0 → ((P_X1_pointsWith b3 (zR m 3 (a0 + 1)) ((zI m 104 b3 0) ||| (1 <<< (x2 &&& 31))) m) ∧ (∀ (r8 : Int32), Q_X1_pointsWith b3 (zR m 3 (a0 + 1)) ((zI m 104 b3 0) ||| (1 <<< (x2 &&& 31))) m r8 → ((P_X1_pointsWith b3 (zR m 3 (a0 + 1)) (zI m 104 b3 0) m) ∧ (∀ (r11 : Int32), Q_X1_pointsWith b3 (zR m 3 (a0 + 1)) (zI m 104 b3 0) m r11 → (zRet C G Qc (some (.int (r8 - r11))) m)))))) ∧ (r5 = 0 → (zRet C G Qc (some (.int (-10000000))) m))))))))) : Pt_X5_lacks_0 C G a0 x1 x2 m := by
  obtain ⟨hF, hQ, hR⟩ := id S
  have h0 : zF0 C cX5_lacks 4 wsX5_lacks RX5 := hF.1
  have hL := hF.2.2.1
  unfold Pt_X5_lacks_0
  refine zx_aload_n h0 0 dX5_lacks_0 rfl ?_
  refine zx_get hF ka0 (by decide) rfl zi_X5_lacks_5 0 (by decide) zn_X5_lacks_12 rfl rfl dX5_lacks_1 ?_
  refine zx_iload_n h0 1 dX5_lacks_4 rfl ?_
  obtain ⟨ho1, h⟩ := h
  refine zx_callVq (As := [.int x1]) (rest := []) hF (c_X0_claimAt (a0 + 1) x1 m (zL_5_1 hL ka0) ho1) (zc_X5_lacks_X0_claimAt S) (zL_5_1 hL ka0) (by decide) rfl dX5_lacks_5 rfl rfl (Nat.le_of_ble_eq_true rfl) ⟨Nat.zero_le _, Nat.zero_le _⟩ (fun r2 m2 hq => ?_)
  obtain ⟨hka, hme, hq⟩ := hq
  subst m2
  replace h := h r2 hq
  refine zx_rf (fun q => ?_) (fun b3 hb3 => ?_)
  · replace h := h.1 q
    refine zx_astore_nN (L' := [(3, .null), (0, .ref a0), (1, .int x1), (2, .int x2)]) h0 dX5_lacks_8 (by decide) rfl ?_
    refine zx_aload_nN h0 0 dX5_lacks_9 rfl ?_
    refine zx_ifnullN (tgt := 21) h0 dX5_lacks_10 (by decide) ?_
    refine zx_ldc (v := (-10000000)) h0 zn_X5_lacks_k139 dX5_lacks_21 ?_
    exact zx_iret hF hQ dX5_lacks_23 h
  · replace h := h.2 b3 hb3 (hka _ hb3)
    refine zx_astore_n (L' := [(3, .ref b3), (0, .ref a0), (1, .int x1), (2, .int x2)]) h0 dX5_lacks_8 (by decide) rfl ?_
    refine zx_aload_n h0 0 dX5_lacks_9 rfl ?_
    refine zx_ifnull h0 dX5_lacks_10 ?_
    refine zx_aload_n h0 0 dX5_lacks_13 rfl ?_
    refine zx_iload_n h0 3 dX5_lacks_14 rfl ?_
    obtain ⟨ho4, h⟩ := h
    refine zx_callVi (As := [.int x2]) (rest := []) hF (c_X1_mayBring b3 x2 m (hka _ hb3) ho4) (zc_X5_lacks_X1_mayBring S) (hka _ hb3) (by decide) rfl dX5_lacks_15 rfl rfl (Nat.le_of_ble_eq_true rfl) ⟨Nat.zero_le _, Nat.zero_le _⟩ (fun r5 m5 hq => ?_)
    obtain ⟨hme, hq⟩ := hq
    subst m5
    replace h := h r5 hq
    refine zx_if_ne (tgt := 24) h0 dX5_lacks_18 (by decide) (fun q => ?_) (fun q => ?_)
    · replace h := h.1 q
      refine zx_aload_n h0 0 dX5_lacks_24 rfl ?_
      refine zx_aload_n h0 1 dX5_lacks_25 rfl ?_
      refine zx_get hF ka0 (by decide) rfl zi_X5_lacks_5 0 (by decide) zn_X5_lacks_12 rfl rfl dX5_lacks_26 ?_
      refine zx_wt (fun hw6 => ?_)
      refine zx_get hF (zL_5_1 hL ka0) (by decide) rfl zi_X5_lacks_0 3 (by decide) zn_X5_lacks_71 rfl rfl dX5_lacks_29 ?_
      refine zx_aload_n h0 0 dX5_lacks_32 rfl ?_
      refine zx_get hF (hka _ hb3) (by decide) rfl zi_X5_lacks_1 4 (by decide) zn_X5_lacks_105 rfl rfl dX5_lacks_33 ?_
      refine zx_iconst (v := 1) h0 dX5_lacks_36 (by decide) ?_
      refine zx_iload_n h0 3 dX5_lacks_37 rfl ?_
      refine zx_ishl h0 dX5_lacks_38 ?_
      refine zx_ior h0 dX5_lacks_39 ?_
      obtain ⟨ho7, h⟩ := h
      refine zx_callVi (As := [.ref (zR m 3 (a0 + 1)), .int ((zI m 104 b3 0) ||| (1 <<< (x2 &&& 31)))]) (rest := []) hF (c_X1_pointsWith b3 (zR m 3 (a0 + 1)) ((zI m 104 b3 0) ||| (1 <<< (x2 &&& 31))) m (hka _ hb3) (hw6.2.1 _ (zL_5_1 hL ka0)) ho7) (zc_X5_lacks_X1_pointsWith S) (hka _ hb3) (by decide) rfl dX5_lacks_40 rfl rfl (Nat.le_of_ble_eq_true rfl) ⟨Nat.zero_le _, Nat.zero_le _⟩ (fun r8 m8 hq => ?_)
      obtain ⟨hme, hq⟩ := hq
      subst m8
      replace h := h r8 hq
      refine zx_aload_n h0 0 dX5_lacks_43 rfl ?_
      refine zx_aload_n h0 1 dX5_lacks_44 rfl ?_
      refine zx_get hF ka0 (by decide) rfl zi_X5_lacks_5 0 (by decide) zn_X5_lacks_12 rfl rfl dX5_lacks_45 ?_
      refine zx_wt (fun hw9 => ?_)
      refine zx_get hF (zL_5_1 hL ka0) (by decide) rfl zi_X5_lacks_0 3 (by decide) zn_X5_lacks_71 rfl rfl dX5_lacks_48 ?_
      refine zx_aload_n h0 0 dX5_lacks_51 rfl ?_
      refine zx_get hF (hka _ hb3) (by decide) rfl zi_X5_lacks_1 4 (by decide) zn_X5_lacks_105 rfl rfl dX5_lacks_52 ?_
      obtain ⟨ho10, h⟩ := h
      refine zx_callVi (As := [.ref (zR m 3 (a0 + 1)), .int (zI m 104 b3 0)]) (rest := [.int r8]) hF (c_X1_pointsWith b3 (zR m 3 (a0 + 1)) (zI m 104 b3 0) m (hka _ hb3) (hw9.2.1 _ (zL_5_1 hL ka0)) ho10) (zc_X5_lacks_X1_pointsWith S) (hka _ hb3) (by decide) rfl dX5_lacks_55 rfl rfl (Nat.le_of_ble_eq_true rfl) ⟨Nat.zero_le _, Nat.zero_le _⟩ (fun r11 m11 hq => ?_)
      obtain ⟨hme, hq⟩ := hq
      subst m11
      replace h := h r11 hq
      refine zx_isub h0 dX5_lacks_58 ?_
      exact zx_iret hF hQ dX5_lacks_59 h
    · replace h := h.2 q
      refine zx_ldc (v := (-10000000)) h0 zn_X5_lacks_k139 dX5_lacks_21 ?_
      exact zx_iret hF hQ dX5_lacks_23 h
theorem zn_X5_tell_12 : Cond.fieldLink RX5 12 RX5 (TX5 0).2.1 (TX5 0).2.2.1 ∈ wsX5_tell := List.mem_of_getElem? (i := 1) rfl
theorem zi_X5_tell_5 : ∀ w ∈ u_ws RX5 TX5 3, w ∈ wsX5_tell := fun _ h => List.mem_cons_of_mem _ (List.mem_append_left _ (List.mem_append_left _ (List.mem_append_left _ (List.mem_append_right _ h))))
theorem zn_X5_tell_140 : Cond.fieldLink RX5 140 RX1 (TX1 0).2.1 (TX1 0).2.2.1 ∈ wsX5_tell := List.mem_of_getElem? (i := 2) rfl
theorem zi_X5_tell_1 : ∀ w ∈ u_ws RX1 TX1 9, w ∈ wsX5_tell := fun _ h => List.mem_cons_of_mem _ (List.mem_append_left _ (List.mem_append_left _ (List.mem_append_right _ h)))
theorem zn_X5_tell_143 : Cond.fieldLink RX5 143 RX1 (TX1 1).2.1 (TX1 1).2.2.1 ∈ wsX5_tell := List.mem_of_getElem? (i := 3) rfl
theorem zn_X5_tell_146 : Cond.fieldLink RX5 146 RX1 (TX1 2).2.1 (TX1 2).2.2.1 ∈ wsX5_tell := List.mem_of_getElem? (i := 4) rfl
theorem zn_X5_tell_149 : Cond.fieldLink RX5 149 RX1 (TX1 3).2.1 (TX1 3).2.2.1 ∈ wsX5_tell := List.mem_of_getElem? (i := 5) rfl
theorem zn_X5_tell_105 : Cond.fieldLink RX5 105 RX1 (TX1 4).2.1 (TX1 4).2.2.1 ∈ wsX5_tell := List.mem_of_getElem? (i := 6) rfl
theorem zn_X5_tell_111 : Cond.fieldLink RX5 111 RX1 (TX1 5).2.1 (TX1 5).2.2.1 ∈ wsX5_tell := List.mem_of_getElem? (i := 7) rfl
theorem zn_X5_tell_152 : Cond.fieldLink RX5 152 RX1 (TX1 6).2.1 (TX1 6).2.2.1 ∈ wsX5_tell := List.mem_of_getElem? (i := 8) rfl
theorem zn_X5_tell_126 : Cond.fieldLink RX5 126 RX1 (TX1 7).2.1 (TX1 7).2.2.1 ∈ wsX5_tell := List.mem_of_getElem? (i := 9) rfl
theorem zn_X5_tell_159 : Cond.fieldLink RX5 159 RX1 (TX1 8).2.1 (TX1 8).2.2.1 ∈ wsX5_tell := List.mem_of_getElem? (i := 10) rfl
theorem zn_X5_tell_163 : Cond.fieldLink RX5 163 RX3 (TX3 0).2.1 (TX3 0).2.2.1 ∈ wsX5_tell := List.mem_of_getElem? (i := 11) rfl
theorem zi_X5_tell_3 : ∀ w ∈ u_ws RX3 TX3 11, w ∈ wsX5_tell := fun _ h => List.mem_cons_of_mem _ (List.mem_append_left _ (List.mem_append_right _ h))
theorem zn_X5_tell_168 : Cond.fieldLink RX5 168 RX3 (TX3 1).2.1 (TX3 1).2.2.1 ∈ wsX5_tell := List.mem_of_getElem? (i := 12) rfl
theorem zn_X5_tell_171 : Cond.fieldLink RX5 171 RX3 (TX3 2).2.1 (TX3 2).2.2.1 ∈ wsX5_tell := List.mem_of_getElem? (i := 13) rfl
theorem zc_X5_tell_X0_claimAt {C : zC} {G : zG} {Qc : Array Value → State → Outcome → State → Prop} (S : St_X5_tell C G Qc) : CallW (zRm C) (zs C) (zar C) RX5 RX0 95 yX0_claimAt cX0_claimAt 2 (some (.object "ClaimsFund$Claim")) wsX0_claimAt rm_X0_claimAt 0 0 1 := cwV 1 S.1.1.2.2.2.2 gX5_tell_X0_claimAt rfl rfl rfl (by decide +kernel) (by rw [S.2.2]; exact ⟨Nat.le_of_ble_eq_true rfl, Nat.le_of_ble_eq_true rfl⟩)
theorem zc_X5_tell_X0_twinsOf {C : zC} {G : zG} {Qc : Array Value → State → Outcome → State → Prop} (S : St_X5_tell C G Qc) : CallW (zRm C) (zs C) (zar C) RX5 RX0 155 yX0_twinsOf cX0_twinsOf 7 (some .int) wsX0_twinsOf rm_X0_twinsOf 0 0 1 := cwV 1 S.1.1.2.2.2.2 gX5_tell_X0_twinsOf rfl rfl rfl (by decide +kernel) (by rw [S.2.2]; exact ⟨Nat.le_of_ble_eq_true rfl, Nat.le_of_ble_eq_true rfl⟩)
set_option maxRecDepth 100000 in
set_option maxHeartbeats 4000000 in
theorem sg_X5_tell_0 {C : zC} {G : zG} {Qc : Array Value → State → Outcome → State → Prop} (S : St_X5_tell C G Qc) {P_X0_claimAt : Nat → Int32 → zM → Prop} {Q_X0_claimAt : Nat → Int32 → zM → Option Nat → Prop} (c_X0_claimAt : Con_X0_claimAt (zl C) G P_X0_claimAt Q_X0_claimAt) {P_X0_twinsOf : Nat → Nat → zM → Prop} {Q_X0_twinsOf : Nat → Nat → zM → Int32 → Prop} (c_X0_twinsOf : Con_X0_twinsOf (zl C) G P_X0_twinsOf Q_X0_twinsOf) {a0 : Nat} {x1 : Int32} {x2 : Int32} {m : zM} (ka0 : zK G a0 = some (5, a0))
    (h : (P_X0_claimAt (a0 + 1) x1 m) ∧ (∀ (r2 : Option Nat), Q_X0_claimAt (a0 + 1) x1 m r2 → ((r2 = none → (zRet C G Qc (some (.int (-1))) m)) ∧ (∀ b3 : Nat, r2 = some b3 → zK G b3 = some (1, b3) → (((x2).toInt < 0 ∨ 11 < (x2).toInt → (zRet C G Qc (some (.int (-1))) m)) ∧ (x2 = 0 → (zRet C G Qc (some (.int (zI m 100 b3 0))) m)) ∧ (x2 = 1 → (zRet C G Qc (some (.int (zI m 101 b3 0))) m)) ∧ (x2 = 2 → (zRet C G Qc (some (.int (zI m 102 b3 0))) m)) ∧ (x2 = 3 → (zRet C G Qc (some (.int (zI m 103 b3 0))) m)) ∧ (x2 = 4 → (zRet C G Qc (some (.int (zI m 104 b3 0))) m)) ∧ (x2 = 5 → (zRet C G Qc (some (.int (zI m 105 b3 0))) m)) ∧ (x2 = 6 → (zRet C G Qc (some (.int (zI m 106 b3 0))) m)) ∧ (x2 = 7 → (zRet C G Qc (some (.int (zI m 107 b3 0))) m)) ∧ (x2 = 8 → ((P_X0_twinsOf (a0 + 1) b3 m) ∧ (∀ (r5 : Int32), Q_X0_twinsOf (a0 + 1) b3 m r5 → (zRet C G Qc (some (.int r5)) m)))) ∧ (x2 = 9 → (zRet C G Qc (some (.int (zI m 300 (b3 + 1) 0))) m)) ∧ (x2 = 10 → (zRet C G Qc (some (.int (zI m 301 (b3 + 1) 0))) m)) ∧ (x2 = 11 → (zRet C G Qc (some (.int (zI m 302 (b3 + 1) 0))) m))))))) : Pt_X5_tell_0 C G a0 x1 x2 m := by
  obtain ⟨hF, hQ, hR⟩ := id S
  have h0 : zF0 C cX5_tell 4 wsX5_tell RX5 := hF.1
  have hL := hF.2.2.1
  unfold Pt_X5_tell_0
  refine zx_aload_n h0 0 dX5_tell_0 rfl ?_
  refine zx_get hF ka0 (by decide) rfl zi_X5_tell_5 0 (by decide) zn_X5_tell_12 rfl rfl dX5_tell_1 ?_
  refine zx_iload_n h0 1 dX5_tell_4 rfl ?_
  obtain ⟨ho1, h⟩ := h
  refine zx_callVq (As := [.int x1]) (rest := []) hF (c_X0_claimAt (a0 + 1) x1 m (zL_5_1 hL ka0) ho1) (zc_X5_tell_X0_claimAt S) (zL_5_1 hL ka0) (by decide) rfl dX5_tell_5 rfl rfl (Nat.le_of_ble_eq_true rfl) ⟨Nat.zero_le _, Nat.zero_le _⟩ (fun r2 m2 hq => ?_)
  obtain ⟨hka, hme, hq⟩ := hq
  subst m2
  replace h := h r2 hq
  refine zx_rf (fun q => ?_) (fun b3 hb3 => ?_)
  · replace h := h.1 q
    refine zx_astore_nN (L' := [(3, .null), (0, .ref a0), (1, .int x1), (2, .int x2)]) h0 dX5_tell_8 (by decide) rfl ?_
    refine zx_aload_nN h0 0 dX5_tell_9 rfl ?_
    refine zx_ifnonnullN h0 dX5_tell_10 ?_
    refine zx_iconst (v := (-1)) h0 dX5_tell_13 (by decide) ?_
    exact zx_iret hF hQ dX5_tell_14 h
  · replace h := h.2 b3 hb3 (hka _ hb3)
    refine zx_astore_n (L' := [(3, .ref b3), (0, .ref a0), (1, .int x1), (2, .int x2)]) h0 dX5_tell_8 (by decide) rfl ?_
    refine zx_aload_n h0 0 dX5_tell_9 rfl ?_
    refine zx_ifnonnull (tgt := 15) h0 dX5_tell_10 (by decide) ?_
    refine zx_iload_n h0 3 dX5_tell_15 rfl ?_
    by_cases hout : (x2).toInt < 0 ∨ 11 < (x2).toInt
    · replace h := h.1 hout
      refine zx_tabOut (tgt := 153) h0 dX5_tell_16 hout (by decide) ?_
      refine zx_iconst (v := (-1)) h0 dX5_tell_153 (by decide) ?_
      exact zx_iret hF hQ dX5_tell_154 h
    replace h := h.2
    by_cases q0 : x2 = 0
    · replace h := h.1 q0
      refine zx_tabIn (tgt := 80) h0 dX5_tell_16 (by rw [q0]; decide) (by rw [q0]; decide) (by rw [q0]; rfl) (by decide) ?_
      refine zx_aload_n h0 0 dX5_tell_80 rfl ?_
      refine zx_get hF (hka _ hb3) (by decide) rfl zi_X5_tell_1 0 (by decide) zn_X5_tell_140 rfl rfl dX5_tell_81 ?_
      exact zx_iret hF hQ dX5_tell_84 h
    by_cases q1 : x2 = 1
    · replace h := h.2.1 q1
      refine zx_tabIn (tgt := 85) h0 dX5_tell_16 (by rw [q1]; decide) (by rw [q1]; decide) (by rw [q1]; rfl) (by decide) ?_
      refine zx_aload_n h0 0 dX5_tell_85 rfl ?_
      refine zx_get hF (hka _ hb3) (by decide) rfl zi_X5_tell_1 1 (by decide) zn_X5_tell_143 rfl rfl dX5_tell_86 ?_
      exact zx_iret hF hQ dX5_tell_89 h
    by_cases q2 : x2 = 2
    · replace h := h.2.2.1 q2
      refine zx_tabIn (tgt := 90) h0 dX5_tell_16 (by rw [q2]; decide) (by rw [q2]; decide) (by rw [q2]; rfl) (by decide) ?_
      refine zx_aload_n h0 0 dX5_tell_90 rfl ?_
      refine zx_get hF (hka _ hb3) (by decide) rfl zi_X5_tell_1 2 (by decide) zn_X5_tell_146 rfl rfl dX5_tell_91 ?_
      exact zx_iret hF hQ dX5_tell_94 h
    by_cases q3 : x2 = 3
    · replace h := h.2.2.2.1 q3
      refine zx_tabIn (tgt := 95) h0 dX5_tell_16 (by rw [q3]; decide) (by rw [q3]; decide) (by rw [q3]; rfl) (by decide) ?_
      refine zx_aload_n h0 0 dX5_tell_95 rfl ?_
      refine zx_get hF (hka _ hb3) (by decide) rfl zi_X5_tell_1 3 (by decide) zn_X5_tell_149 rfl rfl dX5_tell_96 ?_
      exact zx_iret hF hQ dX5_tell_99 h
    by_cases q4 : x2 = 4
    · replace h := h.2.2.2.2.1 q4
      refine zx_tabIn (tgt := 100) h0 dX5_tell_16 (by rw [q4]; decide) (by rw [q4]; decide) (by rw [q4]; rfl) (by decide) ?_
      refine zx_aload_n h0 0 dX5_tell_100 rfl ?_
      refine zx_get hF (hka _ hb3) (by decide) rfl zi_X5_tell_1 4 (by decide) zn_X5_tell_105 rfl rfl dX5_tell_101 ?_
      exact zx_iret hF hQ dX5_tell_104 h
    by_cases q5 : x2 = 5
    · replace h := h.2.2.2.2.2.1 q5
      refine zx_tabIn (tgt := 105) h0 dX5_tell_16 (by rw [q5]; decide) (by rw [q5]; decide) (by rw [q5]; rfl) (by decide) ?_
      refine zx_aload_n h0 0 dX5_tell_105 rfl ?_
      refine zx_get hF (hka _ hb3) (by decide) rfl zi_X5_tell_1 5 (by decide) zn_X5_tell_111 rfl rfl dX5_tell_106 ?_
      exact zx_iret hF hQ dX5_tell_109 h
    by_cases q6 : x2 = 6
    · replace h := h.2.2.2.2.2.2.1 q6
      refine zx_tabIn (tgt := 110) h0 dX5_tell_16 (by rw [q6]; decide) (by rw [q6]; decide) (by rw [q6]; rfl) (by decide) ?_
      refine zx_aload_n h0 0 dX5_tell_110 rfl ?_
      refine zx_get hF (hka _ hb3) (by decide) rfl zi_X5_tell_1 6 (by decide) zn_X5_tell_152 rfl rfl dX5_tell_111 ?_
      exact zx_iret hF hQ dX5_tell_114 h
    by_cases q7 : x2 = 7
    · replace h := h.2.2.2.2.2.2.2.1 q7
      refine zx_tabIn (tgt := 115) h0 dX5_tell_16 (by rw [q7]; decide) (by rw [q7]; decide) (by rw [q7]; rfl) (by decide) ?_
      refine zx_aload_n h0 0 dX5_tell_115 rfl ?_
      refine zx_get hF (hka _ hb3) (by decide) rfl zi_X5_tell_1 7 (by decide) zn_X5_tell_126 rfl rfl dX5_tell_116 ?_
      exact zx_iret hF hQ dX5_tell_119 h
    by_cases q8 : x2 = 8
    · replace h := h.2.2.2.2.2.2.2.2.1 q8
      refine zx_tabIn (tgt := 120) h0 dX5_tell_16 (by rw [q8]; decide) (by rw [q8]; decide) (by rw [q8]; rfl) (by decide) ?_
      refine zx_aload_n h0 1 dX5_tell_120 rfl ?_
      refine zx_get hF ka0 (by decide) rfl zi_X5_tell_5 0 (by decide) zn_X5_tell_12 rfl rfl dX5_tell_121 ?_
      refine zx_aload_n h0 0 dX5_tell_124 rfl ?_
      obtain ⟨ho4, h⟩ := h
      refine zx_callVi (As := [.ref b3]) (rest := []) hF (c_X0_twinsOf (a0 + 1) b3 m (zL_5_1 hL ka0) (hka _ hb3) ho4) (zc_X5_tell_X0_twinsOf S) (zL_5_1 hL ka0) (by decide) rfl dX5_tell_125 rfl rfl (Nat.le_of_ble_eq_true rfl) ⟨Nat.zero_le _, Nat.zero_le _⟩ (fun r5 m5 hq => ?_)
      obtain ⟨hme, hq⟩ := hq
      subst m5
      replace h := h r5 hq
      exact zx_iret hF hQ dX5_tell_128 h
    by_cases q9 : x2 = 9
    · replace h := h.2.2.2.2.2.2.2.2.2.1 q9
      refine zx_tabIn (tgt := 129) h0 dX5_tell_16 (by rw [q9]; decide) (by rw [q9]; decide) (by rw [q9]; rfl) (by decide) ?_
      refine zx_aload_n h0 0 dX5_tell_129 rfl ?_
      refine zx_get hF (hka _ hb3) (by decide) rfl zi_X5_tell_1 8 (by decide) zn_X5_tell_159 rfl rfl dX5_tell_130 ?_
      refine zx_get hF (zL_1_1 hL (hka _ hb3)) (by decide) rfl zi_X5_tell_3 0 (by decide) zn_X5_tell_163 rfl rfl dX5_tell_133 ?_
      exact zx_iret hF hQ dX5_tell_136 h
    by_cases q10 : x2 = 10
    · replace h := h.2.2.2.2.2.2.2.2.2.2.1 q10
      refine zx_tabIn (tgt := 137) h0 dX5_tell_16 (by rw [q10]; decide) (by rw [q10]; decide) (by rw [q10]; rfl) (by decide) ?_
      refine zx_aload_n h0 0 dX5_tell_137 rfl ?_
      refine zx_get hF (hka _ hb3) (by decide) rfl zi_X5_tell_1 8 (by decide) zn_X5_tell_159 rfl rfl dX5_tell_138 ?_
      refine zx_get hF (zL_1_1 hL (hka _ hb3)) (by decide) rfl zi_X5_tell_3 1 (by decide) zn_X5_tell_168 rfl rfl dX5_tell_141 ?_
      exact zx_iret hF hQ dX5_tell_144 h
    by_cases q11 : x2 = 11
    · replace h := h.2.2.2.2.2.2.2.2.2.2.2 q11
      refine zx_tabIn (tgt := 145) h0 dX5_tell_16 (by rw [q11]; decide) (by rw [q11]; decide) (by rw [q11]; rfl) (by decide) ?_
      refine zx_aload_n h0 0 dX5_tell_145 rfl ?_
      refine zx_get hF (hka _ hb3) (by decide) rfl zi_X5_tell_1 8 (by decide) zn_X5_tell_159 rfl rfl dX5_tell_146 ?_
      refine zx_get hF (zL_1_1 hL (hka _ hb3)) (by decide) rfl zi_X5_tell_3 2 (by decide) zn_X5_tell_171 rfl rfl dX5_tell_149 ?_
      exact zx_iret hF hQ dX5_tell_152 h
    exact absurd (z_out11 q0 q1 q2 q3 q4 q5 q6 q7 q8 q9 q10 q11) hout
theorem zn_X5_money_12 : Cond.fieldLink RX5 12 RX5 (TX5 0).2.1 (TX5 0).2.2.1 ∈ wsX5_money := List.mem_of_getElem? (i := 1) rfl
theorem zi_X5_money_5 : ∀ w ∈ u_ws RX5 TX5 3, w ∈ wsX5_money := fun _ h => List.mem_cons_of_mem _ (List.mem_append_left _ (List.mem_append_left _ (List.mem_append_left _ (List.mem_append_right _ h))))
theorem zn_X5_money_k174 : Cond.constantLong RX5 174 (-1) ∈ wsX5_money := List.mem_of_getElem? (i := 2) rfl
theorem zn_X5_money_159 : Cond.fieldLink RX5 159 RX1 (TX1 8).2.1 (TX1 8).2.2.1 ∈ wsX5_money := List.mem_of_getElem? (i := 3) rfl
theorem zi_X5_money_1 : ∀ w ∈ u_ws RX1 TX1 9, w ∈ wsX5_money := fun _ h => List.mem_cons_of_mem _ (List.mem_append_left _ (List.mem_append_left _ (List.mem_append_right _ h)))
theorem zc_X5_money_X0_claimAt {C : zC} {G : zG} {Qc : Array Value → State → Outcome → State → Prop} (S : St_X5_money C G Qc) : CallW (zRm C) (zs C) (zar C) RX5 RX0 95 yX0_claimAt cX0_claimAt 2 (some (.object "ClaimsFund$Claim")) wsX0_claimAt rm_X0_claimAt 0 0 1 := cwV 1 S.1.1.2.2.2.2 gX5_money_X0_claimAt rfl rfl rfl (by decide +kernel) (by rw [S.2.2]; exact ⟨Nat.le_of_ble_eq_true rfl, Nat.le_of_ble_eq_true rfl⟩)
theorem zc_X5_money_X3_coinsOf {C : zC} {G : zG} {Qc : Array Value → State → Outcome → State → Prop} (S : St_X5_money C G Qc) : CallW (zRm C) (zs C) (zar C) RX5 RX3 180 yX3_coinsOf cX3_coinsOf 2 (some .long) wsX3_coinsOf rm_X3_coinsOf 0 0 1 := cwV 1 S.1.1.2.2.2.2 gX5_money_X3_coinsOf rfl rfl rfl (by decide +kernel) (by rw [S.2.2]; exact ⟨Nat.le_of_ble_eq_true rfl, Nat.le_of_ble_eq_true rfl⟩)
theorem zc_X5_money_X0_worstOf {C : zC} {G : zG} {Qc : Array Value → State → Outcome → State → Prop} (S : St_X5_money C G Qc) : CallW (zRm C) (zs C) (zar C) RX5 RX0 176 yX0_worstOf cX0_worstOf 2 (some .long) wsX0_worstOf rm_X0_worstOf 0 0 1 := cwV 1 S.1.1.2.2.2.2 gX5_money_X0_worstOf rfl rfl rfl (by decide +kernel) (by rw [S.2.2]; exact ⟨Nat.le_of_ble_eq_true rfl, Nat.le_of_ble_eq_true rfl⟩)
set_option maxRecDepth 100000 in
set_option maxHeartbeats 4000000 in
theorem sg_X5_money_0 {C : zC} {G : zG} {Qc : Array Value → State → Outcome → State → Prop} (S : St_X5_money C G Qc) {P_X0_claimAt : Nat → Int32 → zM → Prop} {Q_X0_claimAt : Nat → Int32 → zM → Option Nat → Prop} (c_X0_claimAt : Con_X0_claimAt (zl C) G P_X0_claimAt Q_X0_claimAt) {P_X3_coinsOf : Nat → Int32 → zM → Prop} {Q_X3_coinsOf : Nat → Int32 → zM → Int64 → Prop} (c_X3_coinsOf : Con_X3_coinsOf (zl C) G P_X3_coinsOf Q_X3_coinsOf) {P_X0_worstOf : Nat → Nat → zM → Prop} {Q_X0_worstOf : Nat → Nat → zM → Int64 → Prop} (c_X0_worstOf : Con_X0_worstOf (zl C) G P_X0_worstOf Q_X0_worstOf) {a0 : Nat} {x1 : Int32} {x2 : Int32} {m : zM} (ka0 : zK G a0 = some (5, a0))
    (h : (P_X0_claimAt (a0 + 1) x1 m) ∧ (∀ (r2 : Option Nat), Q_X0_claimAt (a0 + 1) x1 m r2 → ((r2 = none → (zRet C G Qc (some (.long (-1))) m)) ∧ (∀ b3 : Nat, r2 = some b3 → zK G b3 = some (1, b3) → ((¬ x2 = 0 → ((P_X3_coinsOf (b3 + 1) x2 m) ∧ (∀ (r5 : Int64), Q_X3_coinsOf (b3 + 1) x2 m r5 → (zRet C G Qc (some (.long r5)) m)))) ∧ (x2 = 0 → ((P_X0_worstOf (a0 + 1) b3 m) ∧ (∀ (r7 : Int64), Q_X0_worstOf (a0 + 1) b3 m r7 → (zRet C G Qc (some (.long r7)) m))))))))) : Pt_X5_money_0 C G a0 x1 x2 m := by
  obtain ⟨hF, hQ, hR⟩ := id S
  have h0 : zF0 C cX5_money 4 wsX5_money RX5 := hF.1
  have hL := hF.2.2.1
  unfold Pt_X5_money_0
  refine zx_aload_n h0 0 dX5_money_0 rfl ?_
  refine zx_get hF ka0 (by decide) rfl zi_X5_money_5 0 (by decide) zn_X5_money_12 rfl rfl dX5_money_1 ?_
  refine zx_iload_n h0 1 dX5_money_4 rfl ?_
  obtain ⟨ho1, h⟩ := h
  refine zx_callVq (As := [.int x1]) (rest := []) hF (c_X0_claimAt (a0 + 1) x1 m (zL_5_1 hL ka0) ho1) (zc_X5_money_X0_claimAt S) (zL_5_1 hL ka0) (by decide) rfl dX5_money_5 rfl rfl (Nat.le_of_ble_eq_true rfl) ⟨Nat.zero_le _, Nat.zero_le _⟩ (fun r2 m2 hq => ?_)
  obtain ⟨hka, hme, hq⟩ := hq
  subst m2
  replace h := h r2 hq
  refine zx_rf (fun q => ?_) (fun b3 hb3 => ?_)
  · replace h := h.1 q
    refine zx_astore_nN (L' := [(3, .null), (0, .ref a0), (1, .int x1), (2, .int x2)]) h0 dX5_money_8 (by decide) rfl ?_
    refine zx_aload_nN h0 0 dX5_money_9 rfl ?_
    refine zx_ifnonnullN h0 dX5_money_10 ?_
    refine zx_ldc2 (v := (-1)) h0 zn_X5_money_k174 dX5_money_13 ?_
    exact zx_lret hF hQ dX5_money_16 h
  · replace h := h.2 b3 hb3 (hka _ hb3)
    refine zx_astore_n (L' := [(3, .ref b3), (0, .ref a0), (1, .int x1), (2, .int x2)]) h0 dX5_money_8 (by decide) rfl ?_
    refine zx_aload_n h0 0 dX5_money_9 rfl ?_
    refine zx_ifnonnull (tgt := 17) h0 dX5_money_10 (by decide) ?_
    refine zx_iload_n h0 3 dX5_money_17 rfl ?_
    refine zx_if_ne (tgt := 32) h0 dX5_money_18 (by decide) (fun q => ?_) (fun q => ?_)
    · replace h := h.1 q
      refine zx_aload_n h0 0 dX5_money_32 rfl ?_
      refine zx_get hF (hka _ hb3) (by decide) rfl zi_X5_money_1 8 (by decide) zn_X5_money_159 rfl rfl dX5_money_33 ?_
      refine zx_iload_n h0 3 dX5_money_36 rfl ?_
      obtain ⟨ho4, h⟩ := h
      refine zx_callVl (As := [.int x2]) (rest := []) hF (c_X3_coinsOf (b3 + 1) x2 m (zL_1_1 hL (hka _ hb3)) ho4) (zc_X5_money_X3_coinsOf S) (zL_1_1 hL (hka _ hb3)) (by decide) rfl dX5_money_37 rfl rfl (Nat.le_of_ble_eq_true rfl) ⟨Nat.zero_le _, Nat.zero_le _⟩ (fun r5 m5 hq => ?_)
      obtain ⟨hme, hq⟩ := hq
      subst m5
      replace h := h r5 hq
      exact zx_lret hF hQ dX5_money_40 h
    · replace h := h.2 q
      refine zx_aload_n h0 1 dX5_money_21 rfl ?_
      refine zx_get hF ka0 (by decide) rfl zi_X5_money_5 0 (by decide) zn_X5_money_12 rfl rfl dX5_money_22 ?_
      refine zx_aload_n h0 0 dX5_money_25 rfl ?_
      obtain ⟨ho6, h⟩ := h
      refine zx_callVl (As := [.ref b3]) (rest := []) hF (c_X0_worstOf (a0 + 1) b3 m (zL_5_1 hL ka0) (hka _ hb3) ho6) (zc_X5_money_X0_worstOf S) (zL_5_1 hL ka0) (by decide) rfl dX5_money_26 rfl rfl (Nat.le_of_ble_eq_true rfl) ⟨Nat.zero_le _, Nat.zero_le _⟩ (fun r7 m7 hq => ?_)
      obtain ⟨hme, hq⟩ := hq
      subst m7
      replace h := h r7 hq
      refine zx_goto (tgt := 40) h0 dX5_money_29 (by decide) ?_
      exact zx_lret hF hQ dX5_money_40 h
theorem zn_X5_fee_12 : Cond.fieldLink RX5 12 RX5 (TX5 0).2.1 (TX5 0).2.2.1 ∈ wsX5_fee := List.mem_of_getElem? (i := 1) rfl
theorem zi_X5_fee_5 : ∀ w ∈ u_ws RX5 TX5 3, w ∈ wsX5_fee := fun _ h => List.mem_cons_of_mem _ (List.mem_append_left _ (List.mem_append_left _ (List.mem_append_left _ (List.mem_append_right _ h))))
theorem zn_X5_fee_27 : Cond.fieldLink RX5 27 RX0 (TX0 9).2.1 (TX0 9).2.2.1 ∈ wsX5_fee := List.mem_of_getElem? (i := 2) rfl
theorem zi_X5_fee_0 : ∀ w ∈ u_ws RX0 TX0 10, w ∈ wsX5_fee := fun _ h => List.mem_cons_of_mem _ (List.mem_append_left _ (List.mem_append_left _ (List.mem_append_right _ h)))
theorem zn_X5_fee_159 : Cond.fieldLink RX5 159 RX1 (TX1 8).2.1 (TX1 8).2.2.1 ∈ wsX5_fee := List.mem_of_getElem? (i := 3) rfl
theorem zi_X5_fee_1 : ∀ w ∈ u_ws RX1 TX1 9, w ∈ wsX5_fee := fun _ h => List.mem_cons_of_mem _ (List.mem_append_left _ (List.mem_append_right _ h))
theorem zn_X5_fee_163 : Cond.fieldLink RX5 163 RX3 (TX3 0).2.1 (TX3 0).2.2.1 ∈ wsX5_fee := List.mem_of_getElem? (i := 4) rfl
theorem zi_X5_fee_3 : ∀ w ∈ u_ws RX3 TX3 11, w ∈ wsX5_fee := fun _ h => List.mem_cons_of_mem _ (List.mem_append_right _ h)
theorem zc_X5_fee_X0_claimAt {C : zC} {G : zG} {Qc : Array Value → State → Outcome → State → Prop} (S : St_X5_fee C G Qc) : CallW (zRm C) (zs C) (zar C) RX5 RX0 95 yX0_claimAt cX0_claimAt 2 (some (.object "ClaimsFund$Claim")) wsX0_claimAt rm_X0_claimAt 0 0 1 := cwV 1 S.1.1.2.2.2.2 gX5_fee_X0_claimAt rfl rfl rfl (by decide +kernel) (by rw [S.2.2]; exact ⟨Nat.le_of_ble_eq_true rfl, Nat.le_of_ble_eq_true rfl⟩)
set_option maxRecDepth 100000 in
set_option maxHeartbeats 4000000 in
theorem sg_X5_fee_0 {C : zC} {G : zG} {Qc : Array Value → State → Outcome → State → Prop} (S : St_X5_fee C G Qc) {P_X0_claimAt : Nat → Int32 → zM → Prop} {Q_X0_claimAt : Nat → Int32 → zM → Option Nat → Prop} (c_X0_claimAt : Con_X0_claimAt (zl C) G P_X0_claimAt Q_X0_claimAt) {a0 : Nat} {x1 : Int32} {x2 : Int32} {m : zM} (ka0 : zK G a0 = some (5, a0))
    (h : (P_X0_claimAt (a0 + 1) x1 m) ∧ (∀ (r2 : Option Nat), Q_X0_claimAt (a0 + 1) x1 m r2 → ((r2 = none → ((¬ (zI m 9 (a0 + 1) 0) = 0 → (zRet C G Qc (some (.int 0)) m)) ∧ ((zI m 9 (a0 + 1) 0) = 0 → (zRet C G Qc (some (.int 0)) m)))) ∧ (∀ b3 : Nat, r2 = some b3 → zK G b3 = some (1, b3) → ((¬ (zI m 9 (a0 + 1) 0) = 0 → (zRet C G Qc (some (.int 0)) m)) ∧ ((zI m 9 (a0 + 1) 0) = 0 → ((x2 < 0 → (zRet C G Qc (some (.int 0)) m)) ∧ (¬ x2 < 0 → ((x2 ≤ 40 → (zRet C G Qc (some (.int 1)) (zsI m 300 (b3 + 1) 0 x2))) ∧ (¬ x2 ≤ 40 → (zRet C G Qc (some (.int 0)) m))))))))))) : Pt_X5_fee_0 C G a0 x1 x2 m := by
  obtain ⟨hF, hQ, hR⟩ := id S
  have h0 : zF0 C cX5_fee 4 wsX5_fee RX5 := hF.1
  have hL := hF.2.2.1
  unfold Pt_X5_fee_0
  refine zx_aload_n h0 0 dX5_fee_0 rfl ?_
  refine zx_get hF ka0 (by decide) rfl zi_X5_fee_5 0 (by decide) zn_X5_fee_12 rfl rfl dX5_fee_1 ?_
  refine zx_iload_n h0 1 dX5_fee_4 rfl ?_
  obtain ⟨ho1, h⟩ := h
  refine zx_callVq (As := [.int x1]) (rest := []) hF (c_X0_claimAt (a0 + 1) x1 m (zL_5_1 hL ka0) ho1) (zc_X5_fee_X0_claimAt S) (zL_5_1 hL ka0) (by decide) rfl dX5_fee_5 rfl rfl (Nat.le_of_ble_eq_true rfl) ⟨Nat.zero_le _, Nat.zero_le _⟩ (fun r2 m2 hq => ?_)
  obtain ⟨hka, hme, hq⟩ := hq
  subst m2
  replace h := h r2 hq
  refine zx_rf (fun q => ?_) (fun b3 hb3 => ?_)
  · replace h := h.1 q
    refine zx_astore_nN (L' := [(3, .null), (0, .ref a0), (1, .int x1), (2, .int x2)]) h0 dX5_fee_8 (by decide) rfl ?_
    refine zx_aload_n h0 1 dX5_fee_9 rfl ?_
    refine zx_get hF ka0 (by decide) rfl zi_X5_fee_5 0 (by decide) zn_X5_fee_12 rfl rfl dX5_fee_10 ?_
    refine zx_get hF (zL_5_1 hL ka0) (by decide) rfl zi_X5_fee_0 9 (by decide) zn_X5_fee_27 rfl rfl dX5_fee_13 ?_
    refine zx_if_ne (tgt := 33) h0 dX5_fee_16 (by decide) (fun q => ?_) (fun q => ?_)
    · replace h := h.1 q
      refine zx_iconst (v := 0) h0 dX5_fee_33 (by decide) ?_
      exact zx_zret hF hQ rfl dX5_fee_34 h
    · replace h := h.2 q
      refine zx_aload_nN h0 0 dX5_fee_19 rfl ?_
      refine zx_ifnullN (tgt := 33) h0 dX5_fee_20 (by decide) ?_
      refine zx_iconst (v := 0) h0 dX5_fee_33 (by decide) ?_
      exact zx_zret hF hQ rfl dX5_fee_34 h
  · replace h := h.2 b3 hb3 (hka _ hb3)
    refine zx_astore_n (L' := [(3, .ref b3), (0, .ref a0), (1, .int x1), (2, .int x2)]) h0 dX5_fee_8 (by decide) rfl ?_
    refine zx_aload_n h0 1 dX5_fee_9 rfl ?_
    refine zx_get hF ka0 (by decide) rfl zi_X5_fee_5 0 (by decide) zn_X5_fee_12 rfl rfl dX5_fee_10 ?_
    refine zx_get hF (zL_5_1 hL ka0) (by decide) rfl zi_X5_fee_0 9 (by decide) zn_X5_fee_27 rfl rfl dX5_fee_13 ?_
    refine zx_if_ne (tgt := 33) h0 dX5_fee_16 (by decide) (fun q => ?_) (fun q => ?_)
    · replace h := h.1 q
      refine zx_iconst (v := 0) h0 dX5_fee_33 (by decide) ?_
      exact zx_zret hF hQ rfl dX5_fee_34 h
    · replace h := h.2 q
      refine zx_aload_n h0 0 dX5_fee_19 rfl ?_
      refine zx_ifnull h0 dX5_fee_20 ?_
      refine zx_iload_n h0 3 dX5_fee_23 rfl ?_
      refine zx_if_lt (tgt := 33) h0 dX5_fee_24 (by decide) (fun q => ?_) (fun q => ?_)
      · replace h := h.1 q
        refine zx_iconst (v := 0) h0 dX5_fee_33 (by decide) ?_
        exact zx_zret hF hQ rfl dX5_fee_34 h
      · replace h := h.2 q
        refine zx_iload_n h0 3 dX5_fee_27 rfl ?_
        refine zx_bipush (v := 40) h0 dX5_fee_28 (by decide) ?_
        refine zx_icmp_le (tgt := 35) h0 dX5_fee_30 (by decide) (fun q => ?_) (fun q => ?_)
        · replace h := h.1 q
          refine zx_aload_n h0 0 dX5_fee_35 rfl ?_
          refine zx_get hF (hka _ hb3) (by decide) rfl zi_X5_fee_1 8 (by decide) zn_X5_fee_159 rfl rfl dX5_fee_36 ?_
          refine zx_iload_n h0 3 dX5_fee_39 rfl ?_
          refine zp_300 hF (zL_1_1 hL (hka _ hb3)) zi_X5_fee_3 zn_X5_fee_163 dX5_fee_40 ?_
          refine zx_iconst (v := 1) h0 dX5_fee_43 (by decide) ?_
          exact zx_zret hF hQ rfl dX5_fee_44 h
        · replace h := h.2 q
          refine zx_iconst (v := 0) h0 dX5_fee_33 (by decide) ?_
          exact zx_zret hF hQ rfl dX5_fee_34 h
theorem zn_X5_lien_12 : Cond.fieldLink RX5 12 RX5 (TX5 0).2.1 (TX5 0).2.2.1 ∈ wsX5_lien := List.mem_of_getElem? (i := 1) rfl
theorem zi_X5_lien_5 : ∀ w ∈ u_ws RX5 TX5 3, w ∈ wsX5_lien := fun _ h => List.mem_cons_of_mem _ (List.mem_append_left _ (List.mem_append_left _ (List.mem_append_left _ (List.mem_append_right _ h))))
theorem zn_X5_lien_27 : Cond.fieldLink RX5 27 RX0 (TX0 9).2.1 (TX0 9).2.2.1 ∈ wsX5_lien := List.mem_of_getElem? (i := 3) rfl
theorem zi_X5_lien_0 : ∀ w ∈ u_ws RX0 TX0 10, w ∈ wsX5_lien := fun _ h => List.mem_cons_of_mem _ (List.mem_append_left _ (List.mem_append_left _ (List.mem_append_right _ h)))
theorem zn_X5_lien_k184 : Cond.constantLong RX5 184 1000000000 ∈ wsX5_lien := List.mem_of_getElem? (i := 2) rfl
theorem zn_X5_lien_159 : Cond.fieldLink RX5 159 RX1 (TX1 8).2.1 (TX1 8).2.2.1 ∈ wsX5_lien := List.mem_of_getElem? (i := 4) rfl
theorem zi_X5_lien_1 : ∀ w ∈ u_ws RX1 TX1 9, w ∈ wsX5_lien := fun _ h => List.mem_cons_of_mem _ (List.mem_append_left _ (List.mem_append_right _ h))
theorem zc_X5_lien_X0_claimAt {C : zC} {G : zG} {Qc : Array Value → State → Outcome → State → Prop} (S : St_X5_lien C G Qc) : CallW (zRm C) (zs C) (zar C) RX5 RX0 95 yX0_claimAt cX0_claimAt 2 (some (.object "ClaimsFund$Claim")) wsX0_claimAt rm_X0_claimAt 0 0 1 := cwV 1 S.1.1.2.2.2.2 gX5_lien_X0_claimAt rfl rfl rfl (by decide +kernel) (by rw [S.2.2]; exact ⟨Nat.le_of_ble_eq_true rfl, Nat.le_of_ble_eq_true rfl⟩)
theorem zc_X5_lien_X3_addLien {C : zC} {G : zG} {Qc : Array Value → State → Outcome → State → Prop} (S : St_X5_lien C G Qc) : CallW (zRm C) (zs C) (zar C) RX5 RX3 186 yX3_addLien cX3_addLien 4 (some .int) wsX3_addLien rm_X3_addLien 0 0 2 := cwV 2 S.1.1.2.2.2.2 gX5_lien_X3_addLien rfl rfl rfl (by decide +kernel) (by rw [S.2.2]; exact ⟨Nat.le_of_ble_eq_true rfl, Nat.le_of_ble_eq_true rfl⟩)
set_option maxRecDepth 100000 in
set_option maxHeartbeats 4000000 in
theorem sg_X5_lien_0 {C : zC} {G : zG} {Qc : Array Value → State → Outcome → State → Prop} (S : St_X5_lien C G Qc) {P_X0_claimAt : Nat → Int32 → zM → Prop} {Q_X0_claimAt : Nat → Int32 → zM → Option Nat → Prop} (c_X0_claimAt : Con_X0_claimAt (zl C) G P_X0_claimAt Q_X0_claimAt) {P_X3_addLien : Nat → Int32 → Int64 → zM → Prop} {Q_X3_addLien : Nat → Int32 → Int64 → zM → Int32 → zM → Prop} (c_X3_addLien : Con_X3_addLien (zl C) G P_X3_addLien Q_X3_addLien) {a0 : Nat} {x1 : Int32} {x2 : Int32} {l3 : Int64} {m : zM} (ka0 : zK G a0 = some (5, a0))
    (h : (P_X0_claimAt (a0 + 1) x1 m) ∧ (∀ (r2 : Option Nat), Q_X0_claimAt (a0 + 1) x1 m r2 → ((r2 = none → ((x2 < 0 → ((¬ (zI m 9 (a0 + 1) 0) = 0 → (zRet C G Qc (some (.int (-1))) m)) ∧ ((zI m 9 (a0 + 1) 0) = 0 → (zRet C G Qc (some (.int (-1))) m)))) ∧ (¬ x2 < 0 → ((9 < x2 → ((¬ (zI m 9 (a0 + 1) 0) = 0 → (zRet C G Qc (some (.int (-1))) m)) ∧ ((zI m 9 (a0 + 1) 0) = 0 → (zRet C G Qc (some (.int (-1))) m)))) ∧ (¬ 9 < x2 → ((l3 < 1 → ((¬ (zI m 9 (a0 + 1) 0) = 0 → (zRet C G Qc (some (.int (-1))) m)) ∧ ((zI m 9 (a0 + 1) 0) = 0 → (zRet C G Qc (some (.int (-1))) m)))) ∧ (¬ l3 < 1 → ((1000000000 < l3 → ((¬ (zI m 9 (a0 + 1) 0) = 0 → (zRet C G Qc (some (.int (-1))) m)) ∧ ((zI m 9 (a0 + 1) 0) = 0 → (zRet C G Qc (some (.int (-1))) m)))) ∧ (¬ 1000000000 < l3 → ((¬ (zI m 9 (a0 + 1) 0) = 0 → (zRet C G Qc (some (.int (-1))) m)) ∧ ((zI m 9 (a0 + 1) 0) = 0 → (zRet C G Qc (some (.int (-1))) m)))))))))))) ∧ (∀ b3 : Nat, r2 = some b3 → zK G b3 = some (1, b3) → ((x2 < 0 → ((¬ (zI m 9 (a0 + 1) 0) = 0 → (zRet C G Qc (some (.int (-1))) m)) ∧ ((zI m 9 (a0 + 1) 0) = 0 → (zRet C G Qc (some (.int (-1))) m)))) ∧ (¬ x2 < 0 → ((9 < x2 → ((¬ (zI m 9 (a0 + 1) 0) = 0 → (zRet C G Qc (some (.int (-1))) m)) ∧ ((zI m 9 (a0 + 1) 0) = 0 → (zRet C G Qc (some (.int (-1))) m)))) ∧ (¬ 9 < x2 → ((l3 < 1 → ((¬ (zI m 9 (a0 + 1) 0) = 0 → (zRet C G Qc (some (.int (-1))) m)) ∧ ((zI m 9 (a0 + 1) 0) = 0 → (zRet C G Qc (some (.int (-1))) m)))) ∧ (¬ l3 < 1 → ((1000000000 < l3 → ((¬ (zI m 9 (a0 + 1) 0) = 0 → (zRet C G Qc (some (.int (-1))) m)) ∧ ((zI m 9 (a0 + 1) 0) = 0 → (zRet C G Qc (some (.int (-1))) m)))) ∧ (¬ 1000000000 < l3 → ((¬ (zI m 9 (a0 + 1) 0) = 0 → (zRet C G Qc (some (.int (-1))) m)) ∧ ((zI m 9 (a0 + 1) 0) = 0 → ((P_X3_addLien (b3 + 1) x2 l3 m) ∧ (∀ (r5 : Int32) (m5 : zM), Q_X3_addLien (b3 + 1) x2 l3 m r5 m5 → (zRet C G Qc (some (.int r5)) m5))))))))))))))))) : Pt_X5_lien_0 C G a0 x1 x2 l3 m := by
  obtain ⟨hF, hQ, hR⟩ := id S
  have h0 : zF0 C cX5_lien 7 wsX5_lien RX5 := hF.1
  have hL := hF.2.2.1
  unfold Pt_X5_lien_0
  refine zx_aload_n h0 0 dX5_lien_0 rfl ?_
  refine zx_get hF ka0 (by decide) rfl zi_X5_lien_5 0 (by decide) zn_X5_lien_12 rfl rfl dX5_lien_1 ?_
  refine zx_iload_n h0 1 dX5_lien_4 rfl ?_
  obtain ⟨ho1, h⟩ := h
  refine zx_callVq (As := [.int x1]) (rest := []) hF (c_X0_claimAt (a0 + 1) x1 m (zL_5_1 hL ka0) ho1) (zc_X5_lien_X0_claimAt S) (zL_5_1 hL ka0) (by decide) rfl dX5_lien_5 rfl rfl (Nat.le_of_ble_eq_true rfl) ⟨Nat.zero_le _, Nat.zero_le _⟩ (fun r2 m2 hq => ?_)
  obtain ⟨hka, hme, hq⟩ := hq
  subst m2
  replace h := h r2 hq
  refine zx_rf (fun q => ?_) (fun b3 hb3 => ?_)
  · replace h := h.1 q
    refine zx_astoreN (L' := [(5, .null), (0, .ref a0), (1, .int x1), (2, .int x2), (3, .long l3)]) h0 dX5_lien_8 (by decide) rfl ?_
    refine zx_iload_n h0 3 dX5_lien_10 rfl ?_
    refine zx_if_lt (tgt := 38) h0 dX5_lien_11 (by decide) (fun q => ?_) (fun q => ?_)
    · replace h := h.1 q
      refine zx_iconst (v := 0) h0 dX5_lien_38 (by decide) ?_
      refine zx_istore (L' := [(6, .int 0), (5, .null), (0, .ref a0), (1, .int x1), (2, .int x2), (3, .long l3)]) h0 dX5_lien_39 (by decide) rfl ?_
      refine zx_aload_n h0 2 dX5_lien_41 rfl ?_
      refine zx_get hF ka0 (by decide) rfl zi_X5_lien_5 0 (by decide) zn_X5_lien_12 rfl rfl dX5_lien_42 ?_
      refine zx_get hF (zL_5_1 hL ka0) (by decide) rfl zi_X5_lien_0 9 (by decide) zn_X5_lien_27 rfl rfl dX5_lien_45 ?_
      refine zx_if_ne (tgt := 61) h0 dX5_lien_48 (by decide) (fun q => ?_) (fun q => ?_)
      · replace h := h.1 q
        refine zx_iconst (v := (-1)) h0 dX5_lien_61 (by decide) ?_
        exact zx_iret hF hQ dX5_lien_62 h
      · replace h := h.2 q
        refine zx_aloadN h0 1 dX5_lien_51 rfl ?_
        refine zx_ifnullN (tgt := 61) h0 dX5_lien_53 (by decide) ?_
        refine zx_iconst (v := (-1)) h0 dX5_lien_61 (by decide) ?_
        exact zx_iret hF hQ dX5_lien_62 h
    · replace h := h.2 q
      refine zx_iload_n h0 3 dX5_lien_14 rfl ?_
      refine zx_bipush (v := 9) h0 dX5_lien_15 (by decide) ?_
      refine zx_icmp_gt (tgt := 38) h0 dX5_lien_17 (by decide) (fun q => ?_) (fun q => ?_)
      · replace h := h.1 q
        refine zx_iconst (v := 0) h0 dX5_lien_38 (by decide) ?_
        refine zx_istore (L' := [(6, .int 0), (5, .null), (0, .ref a0), (1, .int x1), (2, .int x2), (3, .long l3)]) h0 dX5_lien_39 (by decide) rfl ?_
        refine zx_aload_n h0 2 dX5_lien_41 rfl ?_
        refine zx_get hF ka0 (by decide) rfl zi_X5_lien_5 0 (by decide) zn_X5_lien_12 rfl rfl dX5_lien_42 ?_
        refine zx_get hF (zL_5_1 hL ka0) (by decide) rfl zi_X5_lien_0 9 (by decide) zn_X5_lien_27 rfl rfl dX5_lien_45 ?_
        refine zx_if_ne (tgt := 61) h0 dX5_lien_48 (by decide) (fun q => ?_) (fun q => ?_)
        · replace h := h.1 q
          refine zx_iconst (v := (-1)) h0 dX5_lien_61 (by decide) ?_
          exact zx_iret hF hQ dX5_lien_62 h
        · replace h := h.2 q
          refine zx_aloadN h0 1 dX5_lien_51 rfl ?_
          refine zx_ifnullN (tgt := 61) h0 dX5_lien_53 (by decide) ?_
          refine zx_iconst (v := (-1)) h0 dX5_lien_61 (by decide) ?_
          exact zx_iret hF hQ dX5_lien_62 h
      · replace h := h.2 q
        refine zx_lload_n h0 4 dX5_lien_20 rfl ?_
        refine zx_lconst (v := 1) h0 dX5_lien_21 (by decide) ?_
        refine zx_lcmp_lt (tgt := 38) h0 dX5_lien_22 dX5_lien_23 (by decide) (fun q => ?_) (fun q => ?_)
        · replace h := h.1 q
          refine zx_iconst (v := 0) h0 dX5_lien_38 (by decide) ?_
          refine zx_istore (L' := [(6, .int 0), (5, .null), (0, .ref a0), (1, .int x1), (2, .int x2), (3, .long l3)]) h0 dX5_lien_39 (by decide) rfl ?_
          refine zx_aload_n h0 2 dX5_lien_41 rfl ?_
          refine zx_get hF ka0 (by decide) rfl zi_X5_lien_5 0 (by decide) zn_X5_lien_12 rfl rfl dX5_lien_42 ?_
          refine zx_get hF (zL_5_1 hL ka0) (by decide) rfl zi_X5_lien_0 9 (by decide) zn_X5_lien_27 rfl rfl dX5_lien_45 ?_
          refine zx_if_ne (tgt := 61) h0 dX5_lien_48 (by decide) (fun q => ?_) (fun q => ?_)
          · replace h := h.1 q
            refine zx_iconst (v := (-1)) h0 dX5_lien_61 (by decide) ?_
            exact zx_iret hF hQ dX5_lien_62 h
          · replace h := h.2 q
            refine zx_aloadN h0 1 dX5_lien_51 rfl ?_
            refine zx_ifnullN (tgt := 61) h0 dX5_lien_53 (by decide) ?_
            refine zx_iconst (v := (-1)) h0 dX5_lien_61 (by decide) ?_
            exact zx_iret hF hQ dX5_lien_62 h
        · replace h := h.2 q
          refine zx_lload_n h0 4 dX5_lien_26 rfl ?_
          refine zx_ldc2 (v := 1000000000) h0 zn_X5_lien_k184 dX5_lien_27 ?_
          refine zx_lcmp_gt (tgt := 38) h0 dX5_lien_30 dX5_lien_31 (by decide) (fun q => ?_) (fun q => ?_)
          · replace h := h.1 q
            refine zx_iconst (v := 0) h0 dX5_lien_38 (by decide) ?_
            refine zx_istore (L' := [(6, .int 0), (5, .null), (0, .ref a0), (1, .int x1), (2, .int x2), (3, .long l3)]) h0 dX5_lien_39 (by decide) rfl ?_
            refine zx_aload_n h0 2 dX5_lien_41 rfl ?_
            refine zx_get hF ka0 (by decide) rfl zi_X5_lien_5 0 (by decide) zn_X5_lien_12 rfl rfl dX5_lien_42 ?_
            refine zx_get hF (zL_5_1 hL ka0) (by decide) rfl zi_X5_lien_0 9 (by decide) zn_X5_lien_27 rfl rfl dX5_lien_45 ?_
            refine zx_if_ne (tgt := 61) h0 dX5_lien_48 (by decide) (fun q => ?_) (fun q => ?_)
            · replace h := h.1 q
              refine zx_iconst (v := (-1)) h0 dX5_lien_61 (by decide) ?_
              exact zx_iret hF hQ dX5_lien_62 h
            · replace h := h.2 q
              refine zx_aloadN h0 1 dX5_lien_51 rfl ?_
              refine zx_ifnullN (tgt := 61) h0 dX5_lien_53 (by decide) ?_
              refine zx_iconst (v := (-1)) h0 dX5_lien_61 (by decide) ?_
              exact zx_iret hF hQ dX5_lien_62 h
          · replace h := h.2 q
            refine zx_iconst (v := 1) h0 dX5_lien_34 (by decide) ?_
            refine zx_goto (tgt := 39) h0 dX5_lien_35 (by decide) ?_
            refine zx_istore (L' := [(6, .int 1), (5, .null), (0, .ref a0), (1, .int x1), (2, .int x2), (3, .long l3)]) h0 dX5_lien_39 (by decide) rfl ?_
            refine zx_aload_n h0 2 dX5_lien_41 rfl ?_
            refine zx_get hF ka0 (by decide) rfl zi_X5_lien_5 0 (by decide) zn_X5_lien_12 rfl rfl dX5_lien_42 ?_
            refine zx_get hF (zL_5_1 hL ka0) (by decide) rfl zi_X5_lien_0 9 (by decide) zn_X5_lien_27 rfl rfl dX5_lien_45 ?_
            refine zx_if_ne (tgt := 61) h0 dX5_lien_48 (by decide) (fun q => ?_) (fun q => ?_)
            · replace h := h.1 q
              refine zx_iconst (v := (-1)) h0 dX5_lien_61 (by decide) ?_
              exact zx_iret hF hQ dX5_lien_62 h
            · replace h := h.2 q
              refine zx_aloadN h0 1 dX5_lien_51 rfl ?_
              refine zx_ifnullN (tgt := 61) h0 dX5_lien_53 (by decide) ?_
              refine zx_iconst (v := (-1)) h0 dX5_lien_61 (by decide) ?_
              exact zx_iret hF hQ dX5_lien_62 h
  · replace h := h.2 b3 hb3 (hka _ hb3)
    refine zx_astore (L' := [(5, .ref b3), (0, .ref a0), (1, .int x1), (2, .int x2), (3, .long l3)]) h0 dX5_lien_8 (by decide) rfl ?_
    refine zx_iload_n h0 3 dX5_lien_10 rfl ?_
    refine zx_if_lt (tgt := 38) h0 dX5_lien_11 (by decide) (fun q => ?_) (fun q => ?_)
    · replace h := h.1 q
      refine zx_iconst (v := 0) h0 dX5_lien_38 (by decide) ?_
      refine zx_istore (L' := [(6, .int 0), (5, .ref b3), (0, .ref a0), (1, .int x1), (2, .int x2), (3, .long l3)]) h0 dX5_lien_39 (by decide) rfl ?_
      refine zx_aload_n h0 2 dX5_lien_41 rfl ?_
      refine zx_get hF ka0 (by decide) rfl zi_X5_lien_5 0 (by decide) zn_X5_lien_12 rfl rfl dX5_lien_42 ?_
      refine zx_get hF (zL_5_1 hL ka0) (by decide) rfl zi_X5_lien_0 9 (by decide) zn_X5_lien_27 rfl rfl dX5_lien_45 ?_
      refine zx_if_ne (tgt := 61) h0 dX5_lien_48 (by decide) (fun q => ?_) (fun q => ?_)
      · replace h := h.1 q
        refine zx_iconst (v := (-1)) h0 dX5_lien_61 (by decide) ?_
        exact zx_iret hF hQ dX5_lien_62 h
      · replace h := h.2 q
        refine zx_aload h0 1 dX5_lien_51 rfl ?_
        refine zx_ifnull h0 dX5_lien_53 ?_
        refine zx_iload h0 0 dX5_lien_56 rfl ?_
        refine zx_if_ne (tgt := 63) h0 dX5_lien_58 (by decide) (fun q => absurd q (by decide)) (fun _ => ?_)
        refine zx_iconst (v := (-1)) h0 dX5_lien_61 (by decide) ?_
        exact zx_iret hF hQ dX5_lien_62 h
    · replace h := h.2 q
      refine zx_iload_n h0 3 dX5_lien_14 rfl ?_
      refine zx_bipush (v := 9) h0 dX5_lien_15 (by decide) ?_
      refine zx_icmp_gt (tgt := 38) h0 dX5_lien_17 (by decide) (fun q => ?_) (fun q => ?_)
      · replace h := h.1 q
        refine zx_iconst (v := 0) h0 dX5_lien_38 (by decide) ?_
        refine zx_istore (L' := [(6, .int 0), (5, .ref b3), (0, .ref a0), (1, .int x1), (2, .int x2), (3, .long l3)]) h0 dX5_lien_39 (by decide) rfl ?_
        refine zx_aload_n h0 2 dX5_lien_41 rfl ?_
        refine zx_get hF ka0 (by decide) rfl zi_X5_lien_5 0 (by decide) zn_X5_lien_12 rfl rfl dX5_lien_42 ?_
        refine zx_get hF (zL_5_1 hL ka0) (by decide) rfl zi_X5_lien_0 9 (by decide) zn_X5_lien_27 rfl rfl dX5_lien_45 ?_
        refine zx_if_ne (tgt := 61) h0 dX5_lien_48 (by decide) (fun q => ?_) (fun q => ?_)
        · replace h := h.1 q
          refine zx_iconst (v := (-1)) h0 dX5_lien_61 (by decide) ?_
          exact zx_iret hF hQ dX5_lien_62 h
        · replace h := h.2 q
          refine zx_aload h0 1 dX5_lien_51 rfl ?_
          refine zx_ifnull h0 dX5_lien_53 ?_
          refine zx_iload h0 0 dX5_lien_56 rfl ?_
          refine zx_if_ne (tgt := 63) h0 dX5_lien_58 (by decide) (fun q => absurd q (by decide)) (fun _ => ?_)
          refine zx_iconst (v := (-1)) h0 dX5_lien_61 (by decide) ?_
          exact zx_iret hF hQ dX5_lien_62 h
      · replace h := h.2 q
        refine zx_lload_n h0 4 dX5_lien_20 rfl ?_
        refine zx_lconst (v := 1) h0 dX5_lien_21 (by decide) ?_
        refine zx_lcmp_lt (tgt := 38) h0 dX5_lien_22 dX5_lien_23 (by decide) (fun q => ?_) (fun q => ?_)
        · replace h := h.1 q
          refine zx_iconst (v := 0) h0 dX5_lien_38 (by decide) ?_
          refine zx_istore (L' := [(6, .int 0), (5, .ref b3), (0, .ref a0), (1, .int x1), (2, .int x2), (3, .long l3)]) h0 dX5_lien_39 (by decide) rfl ?_
          refine zx_aload_n h0 2 dX5_lien_41 rfl ?_
          refine zx_get hF ka0 (by decide) rfl zi_X5_lien_5 0 (by decide) zn_X5_lien_12 rfl rfl dX5_lien_42 ?_
          refine zx_get hF (zL_5_1 hL ka0) (by decide) rfl zi_X5_lien_0 9 (by decide) zn_X5_lien_27 rfl rfl dX5_lien_45 ?_
          refine zx_if_ne (tgt := 61) h0 dX5_lien_48 (by decide) (fun q => ?_) (fun q => ?_)
          · replace h := h.1 q
            refine zx_iconst (v := (-1)) h0 dX5_lien_61 (by decide) ?_
            exact zx_iret hF hQ dX5_lien_62 h
          · replace h := h.2 q
            refine zx_aload h0 1 dX5_lien_51 rfl ?_
            refine zx_ifnull h0 dX5_lien_53 ?_
            refine zx_iload h0 0 dX5_lien_56 rfl ?_
            refine zx_if_ne (tgt := 63) h0 dX5_lien_58 (by decide) (fun q => absurd q (by decide)) (fun _ => ?_)
            refine zx_iconst (v := (-1)) h0 dX5_lien_61 (by decide) ?_
            exact zx_iret hF hQ dX5_lien_62 h
        · replace h := h.2 q
          refine zx_lload_n h0 4 dX5_lien_26 rfl ?_
          refine zx_ldc2 (v := 1000000000) h0 zn_X5_lien_k184 dX5_lien_27 ?_
          refine zx_lcmp_gt (tgt := 38) h0 dX5_lien_30 dX5_lien_31 (by decide) (fun q => ?_) (fun q => ?_)
          · replace h := h.1 q
            refine zx_iconst (v := 0) h0 dX5_lien_38 (by decide) ?_
            refine zx_istore (L' := [(6, .int 0), (5, .ref b3), (0, .ref a0), (1, .int x1), (2, .int x2), (3, .long l3)]) h0 dX5_lien_39 (by decide) rfl ?_
            refine zx_aload_n h0 2 dX5_lien_41 rfl ?_
            refine zx_get hF ka0 (by decide) rfl zi_X5_lien_5 0 (by decide) zn_X5_lien_12 rfl rfl dX5_lien_42 ?_
            refine zx_get hF (zL_5_1 hL ka0) (by decide) rfl zi_X5_lien_0 9 (by decide) zn_X5_lien_27 rfl rfl dX5_lien_45 ?_
            refine zx_if_ne (tgt := 61) h0 dX5_lien_48 (by decide) (fun q => ?_) (fun q => ?_)
            · replace h := h.1 q
              refine zx_iconst (v := (-1)) h0 dX5_lien_61 (by decide) ?_
              exact zx_iret hF hQ dX5_lien_62 h
            · replace h := h.2 q
              refine zx_aload h0 1 dX5_lien_51 rfl ?_
              refine zx_ifnull h0 dX5_lien_53 ?_
              refine zx_iload h0 0 dX5_lien_56 rfl ?_
              refine zx_if_ne (tgt := 63) h0 dX5_lien_58 (by decide) (fun q => absurd q (by decide)) (fun _ => ?_)
              refine zx_iconst (v := (-1)) h0 dX5_lien_61 (by decide) ?_
              exact zx_iret hF hQ dX5_lien_62 h
          · replace h := h.2 q
            refine zx_iconst (v := 1) h0 dX5_lien_34 (by decide) ?_
            refine zx_goto (tgt := 39) h0 dX5_lien_35 (by decide) ?_
            refine zx_istore (L' := [(6, .int 1), (5, .ref b3), (0, .ref a0), (1, .int x1), (2, .int x2), (3, .long l3)]) h0 dX5_lien_39 (by decide) rfl ?_
            refine zx_aload_n h0 2 dX5_lien_41 rfl ?_
            refine zx_get hF ka0 (by decide) rfl zi_X5_lien_5 0 (by decide) zn_X5_lien_12 rfl rfl dX5_lien_42 ?_
            refine zx_get hF (zL_5_1 hL ka0) (by decide) rfl zi_X5_lien_0 9 (by decide) zn_X5_lien_27 rfl rfl dX5_lien_45 ?_
            refine zx_if_ne (tgt := 61) h0 dX5_lien_48 (by decide) (fun q => ?_) (fun q => ?_)
            · replace h := h.1 q
              refine zx_iconst (v := (-1)) h0 dX5_lien_61 (by decide) ?_
              exact zx_iret hF hQ dX5_lien_62 h
            · replace h := h.2 q
              refine zx_aload h0 1 dX5_lien_51 rfl ?_
              refine zx_ifnull h0 dX5_lien_53 ?_
              refine zx_iload h0 0 dX5_lien_56 rfl ?_
              refine zx_if_ne (tgt := 63) h0 dX5_lien_58 (by decide) (fun _ => ?_) (fun q => absurd q (by decide))
              refine zx_aload h0 1 dX5_lien_63 rfl ?_
              refine zx_get hF (hka _ hb3) (by decide) rfl zi_X5_lien_1 8 (by decide) zn_X5_lien_159 rfl rfl dX5_lien_65 ?_
              refine zx_iload_n h0 4 dX5_lien_68 rfl ?_
              refine zx_lload_n h0 5 dX5_lien_69 rfl ?_
              obtain ⟨ho4, h⟩ := h
              refine zx_callVi (As := [.int x2, .long l3]) (rest := []) hF (c_X3_addLien (b3 + 1) x2 l3 m (zL_1_1 hL (hka _ hb3)) ho4) (zc_X5_lien_X3_addLien S) (zL_1_1 hL (hka _ hb3)) (by decide) rfl dX5_lien_70 rfl rfl (Nat.le_of_ble_eq_true rfl) ⟨Nat.zero_le _, Nat.zero_le _⟩ (fun r5 m5 hq => ?_)
              replace h := h r5 m5 hq
              exact zx_iret hF hQ dX5_lien_73 h
theorem zn_X5_heir_12 : Cond.fieldLink RX5 12 RX5 (TX5 0).2.1 (TX5 0).2.2.1 ∈ wsX5_heir := List.mem_of_getElem? (i := 1) rfl
theorem zi_X5_heir_5 : ∀ w ∈ u_ws RX5 TX5 3, w ∈ wsX5_heir := fun _ h => List.mem_cons_of_mem _ (List.mem_append_left _ (List.mem_append_left _ (List.mem_append_left _ (List.mem_append_right _ h))))
theorem zn_X5_heir_27 : Cond.fieldLink RX5 27 RX0 (TX0 9).2.1 (TX0 9).2.2.1 ∈ wsX5_heir := List.mem_of_getElem? (i := 2) rfl
theorem zi_X5_heir_0 : ∀ w ∈ u_ws RX0 TX0 10, w ∈ wsX5_heir := fun _ h => List.mem_cons_of_mem _ (List.mem_append_left _ (List.mem_append_left _ (List.mem_append_right _ h)))
theorem zn_X5_heir_159 : Cond.fieldLink RX5 159 RX1 (TX1 8).2.1 (TX1 8).2.2.1 ∈ wsX5_heir := List.mem_of_getElem? (i := 3) rfl
theorem zi_X5_heir_1 : ∀ w ∈ u_ws RX1 TX1 9, w ∈ wsX5_heir := fun _ h => List.mem_cons_of_mem _ (List.mem_append_left _ (List.mem_append_right _ h))
theorem zc_X5_heir_X0_claimAt {C : zC} {G : zG} {Qc : Array Value → State → Outcome → State → Prop} (S : St_X5_heir C G Qc) : CallW (zRm C) (zs C) (zar C) RX5 RX0 95 yX0_claimAt cX0_claimAt 2 (some (.object "ClaimsFund$Claim")) wsX0_claimAt rm_X0_claimAt 0 0 1 := cwV 1 S.1.1.2.2.2.2 gX5_heir_X0_claimAt rfl rfl rfl (by decide +kernel) (by rw [S.2.2]; exact ⟨Nat.le_of_ble_eq_true rfl, Nat.le_of_ble_eq_true rfl⟩)
theorem zc_X5_heir_X3_addHeir {C : zC} {G : zG} {Qc : Array Value → State → Outcome → State → Prop} (S : St_X5_heir C G Qc) : CallW (zRm C) (zs C) (zar C) RX5 RX3 190 yX3_addHeir cX3_addHeir 2 (some .int) wsX3_addHeir rm_X3_addHeir 0 0 1 := cwV 1 S.1.1.2.2.2.2 gX5_heir_X3_addHeir rfl rfl rfl (by decide +kernel) (by rw [S.2.2]; exact ⟨Nat.le_of_ble_eq_true rfl, Nat.le_of_ble_eq_true rfl⟩)
set_option maxRecDepth 100000 in
set_option maxHeartbeats 4000000 in
theorem sg_X5_heir_0 {C : zC} {G : zG} {Qc : Array Value → State → Outcome → State → Prop} (S : St_X5_heir C G Qc) {P_X0_claimAt : Nat → Int32 → zM → Prop} {Q_X0_claimAt : Nat → Int32 → zM → Option Nat → Prop} (c_X0_claimAt : Con_X0_claimAt (zl C) G P_X0_claimAt Q_X0_claimAt) {P_X3_addHeir : Nat → Int32 → zM → Prop} {Q_X3_addHeir : Nat → Int32 → zM → Int32 → zM → Prop} (c_X3_addHeir : Con_X3_addHeir (zl C) G P_X3_addHeir Q_X3_addHeir) {a0 : Nat} {x1 : Int32} {x2 : Int32} {m : zM} (ka0 : zK G a0 = some (5, a0))
    (h : (P_X0_claimAt (a0 + 1) x1 m) ∧ (∀ (r2 : Option Nat), Q_X0_claimAt (a0 + 1) x1 m r2 → ((r2 = none → ((¬ (zI m 9 (a0 + 1) 0) = 0 → (zRet C G Qc (some (.int (-1))) m)) ∧ ((zI m 9 (a0 + 1) 0) = 0 → (zRet C G Qc (some (.int (-1))) m)))) ∧ (∀ b3 : Nat, r2 = some b3 → zK G b3 = some (1, b3) → ((¬ (zI m 9 (a0 + 1) 0) = 0 → (zRet C G Qc (some (.int (-1))) m)) ∧ ((zI m 9 (a0 + 1) 0) = 0 → ((x2 < 1 → (zRet C G Qc (some (.int (-1))) m)) ∧ (¬ x2 < 1 → ((x2 ≤ 9 → ((P_X3_addHeir (b3 + 1) x2 m) ∧ (∀ (r5 : Int32) (m5 : zM), Q_X3_addHeir (b3 + 1) x2 m r5 m5 → (zRet C G Qc (some (.int r5)) m5)))) ∧ (¬ x2 ≤ 9 → (zRet C G Qc (some (.int (-1))) m))))))))))) : Pt_X5_heir_0 C G a0 x1 x2 m := by
  obtain ⟨hF, hQ, hR⟩ := id S
  have h0 : zF0 C cX5_heir 4 wsX5_heir RX5 := hF.1
  have hL := hF.2.2.1
  unfold Pt_X5_heir_0
  refine zx_aload_n h0 0 dX5_heir_0 rfl ?_
  refine zx_get hF ka0 (by decide) rfl zi_X5_heir_5 0 (by decide) zn_X5_heir_12 rfl rfl dX5_heir_1 ?_
  refine zx_iload_n h0 1 dX5_heir_4 rfl ?_
  obtain ⟨ho1, h⟩ := h
  refine zx_callVq (As := [.int x1]) (rest := []) hF (c_X0_claimAt (a0 + 1) x1 m (zL_5_1 hL ka0) ho1) (zc_X5_heir_X0_claimAt S) (zL_5_1 hL ka0) (by decide) rfl dX5_heir_5 rfl rfl (Nat.le_of_ble_eq_true rfl) ⟨Nat.zero_le _, Nat.zero_le _⟩ (fun r2 m2 hq => ?_)
  obtain ⟨hka, hme, hq⟩ := hq
  subst m2
  replace h := h r2 hq
  refine zx_rf (fun q => ?_) (fun b3 hb3 => ?_)
  · replace h := h.1 q
    refine zx_astore_nN (L' := [(3, .null), (0, .ref a0), (1, .int x1), (2, .int x2)]) h0 dX5_heir_8 (by decide) rfl ?_
    refine zx_aload_n h0 1 dX5_heir_9 rfl ?_
    refine zx_get hF ka0 (by decide) rfl zi_X5_heir_5 0 (by decide) zn_X5_heir_12 rfl rfl dX5_heir_10 ?_
    refine zx_get hF (zL_5_1 hL ka0) (by decide) rfl zi_X5_heir_0 9 (by decide) zn_X5_heir_27 rfl rfl dX5_heir_13 ?_
    refine zx_if_ne (tgt := 34) h0 dX5_heir_16 (by decide) (fun q => ?_) (fun q => ?_)
    · replace h := h.1 q
      refine zx_iconst (v := (-1)) h0 dX5_heir_34 (by decide) ?_
      exact zx_iret hF hQ dX5_heir_35 h
    · replace h := h.2 q
      refine zx_aload_nN h0 0 dX5_heir_19 rfl ?_
      refine zx_ifnullN (tgt := 34) h0 dX5_heir_20 (by decide) ?_
      refine zx_iconst (v := (-1)) h0 dX5_heir_34 (by decide) ?_
      exact zx_iret hF hQ dX5_heir_35 h
  · replace h := h.2 b3 hb3 (hka _ hb3)
    refine zx_astore_n (L' := [(3, .ref b3), (0, .ref a0), (1, .int x1), (2, .int x2)]) h0 dX5_heir_8 (by decide) rfl ?_
    refine zx_aload_n h0 1 dX5_heir_9 rfl ?_
    refine zx_get hF ka0 (by decide) rfl zi_X5_heir_5 0 (by decide) zn_X5_heir_12 rfl rfl dX5_heir_10 ?_
    refine zx_get hF (zL_5_1 hL ka0) (by decide) rfl zi_X5_heir_0 9 (by decide) zn_X5_heir_27 rfl rfl dX5_heir_13 ?_
    refine zx_if_ne (tgt := 34) h0 dX5_heir_16 (by decide) (fun q => ?_) (fun q => ?_)
    · replace h := h.1 q
      refine zx_iconst (v := (-1)) h0 dX5_heir_34 (by decide) ?_
      exact zx_iret hF hQ dX5_heir_35 h
    · replace h := h.2 q
      refine zx_aload_n h0 0 dX5_heir_19 rfl ?_
      refine zx_ifnull h0 dX5_heir_20 ?_
      refine zx_iload_n h0 3 dX5_heir_23 rfl ?_
      refine zx_iconst (v := 1) h0 dX5_heir_24 (by decide) ?_
      refine zx_icmp_lt (tgt := 34) h0 dX5_heir_25 (by decide) (fun q => ?_) (fun q => ?_)
      · replace h := h.1 q
        refine zx_iconst (v := (-1)) h0 dX5_heir_34 (by decide) ?_
        exact zx_iret hF hQ dX5_heir_35 h
      · replace h := h.2 q
        refine zx_iload_n h0 3 dX5_heir_28 rfl ?_
        refine zx_bipush (v := 9) h0 dX5_heir_29 (by decide) ?_
        refine zx_icmp_le (tgt := 36) h0 dX5_heir_31 (by decide) (fun q => ?_) (fun q => ?_)
        · replace h := h.1 q
          refine zx_aload_n h0 0 dX5_heir_36 rfl ?_
          refine zx_get hF (hka _ hb3) (by decide) rfl zi_X5_heir_1 8 (by decide) zn_X5_heir_159 rfl rfl dX5_heir_37 ?_
          refine zx_iload_n h0 3 dX5_heir_40 rfl ?_
          obtain ⟨ho4, h⟩ := h
          refine zx_callVi (As := [.int x2]) (rest := []) hF (c_X3_addHeir (b3 + 1) x2 m (zL_1_1 hL (hka _ hb3)) ho4) (zc_X5_heir_X3_addHeir S) (zL_1_1 hL (hka _ hb3)) (by decide) rfl dX5_heir_41 rfl rfl (Nat.le_of_ble_eq_true rfl) ⟨Nat.zero_le _, Nat.zero_le _⟩ (fun r5 m5 hq => ?_)
          replace h := h r5 m5 hq
          exact zx_iret hF hQ dX5_heir_44 h
        · replace h := h.2 q
          refine zx_iconst (v := (-1)) h0 dX5_heir_34 (by decide) ?_
          exact zx_iret hF hQ dX5_heir_35 h
theorem zn_X5_wave_12 : Cond.fieldLink RX5 12 RX5 (TX5 0).2.1 (TX5 0).2.2.1 ∈ wsX5_wave := List.mem_of_getElem? (i := 1) rfl
theorem zi_X5_wave_5 : ∀ w ∈ u_ws RX5 TX5 3, w ∈ wsX5_wave := fun _ h => List.mem_cons_of_mem _ (List.mem_append_left _ (List.mem_append_left _ (List.mem_append_left _ (List.mem_append_right _ h))))
theorem zn_X5_wave_27 : Cond.fieldLink RX5 27 RX0 (TX0 9).2.1 (TX0 9).2.2.1 ∈ wsX5_wave := List.mem_of_getElem? (i := 2) rfl
theorem zi_X5_wave_0 : ∀ w ∈ u_ws RX0 TX0 10, w ∈ wsX5_wave := fun _ h => List.mem_cons_of_mem _ (List.mem_append_left _ (List.mem_append_left _ (List.mem_append_right _ h)))
theorem zn_X5_wave_k174 : Cond.constantLong RX5 174 (-1) ∈ wsX5_wave := List.mem_of_getElem? (i := 3) rfl
theorem zc_X5_wave_X0_payWave {C : zC} {G : zG} {Qc : Array Value → State → Outcome → State → Prop} (S : St_X5_wave C G Qc) : CallW (zRm C) (zs C) (zar C) RX5 RX0 194 yX0_payWave cX0_payWave 10 (some .long) wsX0_payWave rm_X0_payWave 0 0 1 := cwV 1 S.1.1.2.2.2.2 gX5_wave_X0_payWave rfl rfl rfl (by decide +kernel) (by rw [S.2.2]; exact ⟨Nat.le_of_ble_eq_true rfl, Nat.le_of_ble_eq_true rfl⟩)
set_option maxRecDepth 100000 in
set_option maxHeartbeats 4000000 in
theorem sg_X5_wave_0 {C : zC} {G : zG} {Qc : Array Value → State → Outcome → State → Prop} (S : St_X5_wave C G Qc) {P_X0_payWave : Nat → Int32 → zM → Prop} {Q_X0_payWave : Nat → Int32 → zM → Int64 → zM → Prop} (c_X0_payWave : Con_X0_payWave (zl C) G P_X0_payWave Q_X0_payWave) {a0 : Nat} {x1 : Int32} {m : zM} (ka0 : zK G a0 = some (5, a0))
    (h : (¬ (zI m 9 (a0 + 1) 0) = 0 → (zRet C G Qc (some (.long (-1))) m)) ∧ ((zI m 9 (a0 + 1) 0) = 0 → ((x1 < 1 → (zRet C G Qc (some (.long (-1))) m)) ∧ (¬ x1 < 1 → ((x1 ≤ 100 → ((P_X0_payWave (a0 + 1) x1 m) ∧ (∀ (r2 : Int64) (m2 : zM), Q_X0_payWave (a0 + 1) x1 m r2 m2 → (zRet C G Qc (some (.long r2)) m2)))) ∧ (¬ x1 ≤ 100 → (zRet C G Qc (some (.long (-1))) m))))))) : Pt_X5_wave_0 C G a0 x1 m := by
  obtain ⟨hF, hQ, hR⟩ := id S
  have h0 : zF0 C cX5_wave 2 wsX5_wave RX5 := hF.1
  have hL := hF.2.2.1
  unfold Pt_X5_wave_0
  refine zx_aload_n h0 0 dX5_wave_0 rfl ?_
  refine zx_get hF ka0 (by decide) rfl zi_X5_wave_5 0 (by decide) zn_X5_wave_12 rfl rfl dX5_wave_1 ?_
  refine zx_get hF (zL_5_1 hL ka0) (by decide) rfl zi_X5_wave_0 9 (by decide) zn_X5_wave_27 rfl rfl dX5_wave_4 ?_
  refine zx_if_ne (tgt := 21) h0 dX5_wave_7 (by decide) (fun q => ?_) (fun q => ?_)
  · replace h := h.1 q
    refine zx_ldc2 (v := (-1)) h0 zn_X5_wave_k174 dX5_wave_21 ?_
    exact zx_lret hF hQ dX5_wave_24 h
  · replace h := h.2 q
    refine zx_iload_n h0 1 dX5_wave_10 rfl ?_
    refine zx_iconst (v := 1) h0 dX5_wave_11 (by decide) ?_
    refine zx_icmp_lt (tgt := 21) h0 dX5_wave_12 (by decide) (fun q => ?_) (fun q => ?_)
    · replace h := h.1 q
      refine zx_ldc2 (v := (-1)) h0 zn_X5_wave_k174 dX5_wave_21 ?_
      exact zx_lret hF hQ dX5_wave_24 h
    · replace h := h.2 q
      refine zx_iload_n h0 1 dX5_wave_15 rfl ?_
      refine zx_bipush (v := 100) h0 dX5_wave_16 (by decide) ?_
      refine zx_icmp_le (tgt := 25) h0 dX5_wave_18 (by decide) (fun q => ?_) (fun q => ?_)
      · replace h := h.1 q
        refine zx_aload_n h0 0 dX5_wave_25 rfl ?_
        refine zx_get hF ka0 (by decide) rfl zi_X5_wave_5 0 (by decide) zn_X5_wave_12 rfl rfl dX5_wave_26 ?_
        refine zx_iload_n h0 1 dX5_wave_29 rfl ?_
        obtain ⟨ho1, h⟩ := h
        refine zx_callVl (As := [.int x1]) (rest := []) hF (c_X0_payWave (a0 + 1) x1 m (zL_5_1 hL ka0) ho1) (zc_X5_wave_X0_payWave S) (zL_5_1 hL ka0) (by decide) rfl dX5_wave_30 rfl rfl (Nat.le_of_ble_eq_true rfl) ⟨Nat.zero_le _, Nat.zero_le _⟩ (fun r2 m2 hq => ?_)
        replace h := h r2 m2 hq
        exact zx_lret hF hQ dX5_wave_33 h
      · replace h := h.2 q
        refine zx_ldc2 (v := (-1)) h0 zn_X5_wave_k174 dX5_wave_21 ?_
        exact zx_lret hF hQ dX5_wave_24 h
theorem zn_X5_finish_12 : Cond.fieldLink RX5 12 RX5 (TX5 0).2.1 (TX5 0).2.2.1 ∈ wsX5_finish := List.mem_of_getElem? (i := 1) rfl
theorem zi_X5_finish_5 : ∀ w ∈ u_ws RX5 TX5 3, w ∈ wsX5_finish := fun _ h => List.mem_cons_of_mem _ (List.mem_append_left _ (List.mem_append_left _ (List.mem_append_left _ (List.mem_append_right _ h))))
theorem zn_X5_finish_27 : Cond.fieldLink RX5 27 RX0 (TX0 9).2.1 (TX0 9).2.2.1 ∈ wsX5_finish := List.mem_of_getElem? (i := 2) rfl
theorem zi_X5_finish_0 : ∀ w ∈ u_ws RX0 TX0 10, w ∈ wsX5_finish := fun _ h => List.mem_cons_of_mem _ (List.mem_append_left _ (List.mem_append_left _ (List.mem_append_right _ h)))
theorem zn_X5_finish_k174 : Cond.constantLong RX5 174 (-1) ∈ wsX5_finish := List.mem_of_getElem? (i := 3) rfl
theorem zc_X5_finish_X0_inState {C : zC} {G : zG} {Qc : Array Value → State → Outcome → State → Prop} (S : St_X5_finish C G Qc) : CallW (zRm C) (zs C) (zar C) RX5 RX0 197 yX0_inState cX0_inState 7 (some .int) wsX0_inState rm_X0_inState 0 0 1 := cwV 1 S.1.1.2.2.2.2 gX5_finish_X0_inState rfl rfl rfl (by decide +kernel) (by rw [S.2.2]; exact ⟨Nat.le_of_ble_eq_true rfl, Nat.le_of_ble_eq_true rfl⟩)
theorem zc_X5_finish_X0_payAll {C : zC} {G : zG} {Qc : Array Value → State → Outcome → State → Prop} (S : St_X5_finish C G Qc) : CallW (zRm C) (zs C) (zar C) RX5 RX0 200 yX0_payAll cX0_payAll 9 (some .long) wsX0_payAll rm_X0_payAll 0 0 0 := cwV 0 S.1.1.2.2.2.2 gX5_finish_X0_payAll rfl rfl rfl (by decide +kernel) (by rw [S.2.2]; exact ⟨Nat.le_of_ble_eq_true rfl, Nat.le_of_ble_eq_true rfl⟩)
set_option maxRecDepth 100000 in
set_option maxHeartbeats 4000000 in
theorem sg_X5_finish_0 {C : zC} {G : zG} {Qc : Array Value → State → Outcome → State → Prop} (S : St_X5_finish C G Qc) {P_X0_inState : Nat → Int32 → zM → Prop} {Q_X0_inState : Nat → Int32 → zM → Int32 → Prop} (c_X0_inState : Con_X0_inState (zl C) G P_X0_inState Q_X0_inState) {P_X0_payAll : Nat → zM → Prop} {Q_X0_payAll : Nat → zM → Int64 → zM → Prop} (c_X0_payAll : Con_X0_payAll (zl C) G P_X0_payAll Q_X0_payAll) {a0 : Nat} {m : zM} (ka0 : zK G a0 = some (5, a0))
    (h : (¬ (zI m 9 (a0 + 1) 0) = 0 → (zRet C G Qc (some (.long (-1))) m)) ∧ ((zI m 9 (a0 + 1) 0) = 0 → ((P_X0_inState (a0 + 1) 0 m) ∧ (∀ (r2 : Int32), Q_X0_inState (a0 + 1) 0 m r2 → ((r2 ≤ 0 → ((P_X0_payAll (a0 + 1) m) ∧ (∀ (r4 : Int64) (m4 : zM), Q_X0_payAll (a0 + 1) m r4 m4 → (zRet C G Qc (some (.long r4)) m4)))) ∧ (¬ r2 ≤ 0 → (zRet C G Qc (some (.long (-1))) m))))))) : Pt_X5_finish_0 C G a0 m := by
  obtain ⟨hF, hQ, hR⟩ := id S
  have h0 : zF0 C cX5_finish 1 wsX5_finish RX5 := hF.1
  have hL := hF.2.2.1
  unfold Pt_X5_finish_0
  refine zx_aload_n h0 0 dX5_finish_0 rfl ?_
  refine zx_get hF ka0 (by decide) rfl zi_X5_finish_5 0 (by decide) zn_X5_finish_12 rfl rfl dX5_finish_1 ?_
  refine zx_get hF (zL_5_1 hL ka0) (by decide) rfl zi_X5_finish_0 9 (by decide) zn_X5_finish_27 rfl rfl dX5_finish_4 ?_
  refine zx_if_ne (tgt := 21) h0 dX5_finish_7 (by decide) (fun q => ?_) (fun q => ?_)
  · replace h := h.1 q
    refine zx_ldc2 (v := (-1)) h0 zn_X5_finish_k174 dX5_finish_21 ?_
    exact zx_lret hF hQ dX5_finish_24 h
  · replace h := h.2 q
    refine zx_aload_n h0 0 dX5_finish_10 rfl ?_
    refine zx_get hF ka0 (by decide) rfl zi_X5_finish_5 0 (by decide) zn_X5_finish_12 rfl rfl dX5_finish_11 ?_
    refine zx_iconst (v := 0) h0 dX5_finish_14 (by decide) ?_
    obtain ⟨ho1, h⟩ := h
    refine zx_callVi (As := [.int 0]) (rest := []) hF (c_X0_inState (a0 + 1) 0 m (zL_5_1 hL ka0) ho1) (zc_X5_finish_X0_inState S) (zL_5_1 hL ka0) (by decide) rfl dX5_finish_15 rfl rfl (Nat.le_of_ble_eq_true rfl) ⟨Nat.zero_le _, Nat.zero_le _⟩ (fun r2 m2 hq => ?_)
    obtain ⟨hme, hq⟩ := hq
    subst m2
    replace h := h r2 hq
    refine zx_if_le (tgt := 25) h0 dX5_finish_18 (by decide) (fun q => ?_) (fun q => ?_)
    · replace h := h.1 q
      refine zx_aload_n h0 0 dX5_finish_25 rfl ?_
      refine zx_get hF ka0 (by decide) rfl zi_X5_finish_5 0 (by decide) zn_X5_finish_12 rfl rfl dX5_finish_26 ?_
      obtain ⟨ho3, h⟩ := h
      refine zx_callVl (As := []) (rest := []) hF (c_X0_payAll (a0 + 1) m (zL_5_1 hL ka0) ho3) (zc_X5_finish_X0_payAll S) (zL_5_1 hL ka0) (by decide) rfl dX5_finish_29 rfl rfl (Nat.le_of_ble_eq_true rfl) ⟨Nat.zero_le _, Nat.zero_le _⟩ (fun r4 m4 hq => ?_)
      replace h := h r4 m4 hq
      exact zx_lret hF hQ dX5_finish_32 h
    · replace h := h.2 q
      refine zx_ldc2 (v := (-1)) h0 zn_X5_finish_k174 dX5_finish_21 ?_
      exact zx_lret hF hQ dX5_finish_24 h
theorem zn_X5_sum_k174 : Cond.constantLong RX5 174 (-1) ∈ wsX5_sum := List.mem_of_getElem? (i := 3) rfl
theorem zn_X5_sum_12 : Cond.fieldLink RX5 12 RX5 (TX5 0).2.1 (TX5 0).2.2.1 ∈ wsX5_sum := List.mem_of_getElem? (i := 1) rfl
theorem zi_X5_sum_5 : ∀ w ∈ u_ws RX5 TX5 3, w ∈ wsX5_sum := fun _ h => List.mem_cons_of_mem _ (List.mem_append_left _ (List.mem_append_left _ (List.mem_append_left _ (List.mem_append_right _ h))))
theorem zn_X5_sum_37 : Cond.fieldLink RX5 37 RX0 (TX0 0).2.1 (TX0 0).2.2.1 ∈ wsX5_sum := List.mem_of_getElem? (i := 2) rfl
theorem zi_X5_sum_0 : ∀ w ∈ u_ws RX0 TX0 10, w ∈ wsX5_sum := fun _ h => List.mem_cons_of_mem _ (List.mem_append_left _ (List.mem_append_left _ (List.mem_append_right _ h)))
theorem zc_X5_sum_X0_paidInAll {C : zC} {G : zG} {Qc : Array Value → State → Outcome → State → Prop} (S : St_X5_sum C G Qc) : CallW (zRm C) (zs C) (zar C) RX5 RX0 33 yX0_paidInAll cX0_paidInAll 7 (some .long) wsX0_paidInAll rm_X0_paidInAll 0 0 0 := cwV 0 S.1.1.2.2.2.2 gX5_sum_X0_paidInAll rfl rfl rfl (by decide +kernel) (by rw [S.2.2]; exact ⟨Nat.le_of_ble_eq_true rfl, Nat.le_of_ble_eq_true rfl⟩)
theorem zc_X5_sum_X0_mostInAll {C : zC} {G : zG} {Qc : Array Value → State → Outcome → State → Prop} (S : St_X5_sum C G Qc) : CallW (zRm C) (zs C) (zar C) RX5 RX0 203 yX0_mostInAll cX0_mostInAll 7 (some .long) wsX0_mostInAll rm_X0_mostInAll 0 0 0 := cwV 0 S.1.1.2.2.2.2 gX5_sum_X0_mostInAll rfl rfl rfl (by decide +kernel) (by rw [S.2.2]; exact ⟨Nat.le_of_ble_eq_true rfl, Nat.le_of_ble_eq_true rfl⟩)
theorem zc_X5_sum_X0_leastInAll {C : zC} {G : zG} {Qc : Array Value → State → Outcome → State → Prop} (S : St_X5_sum C G Qc) : CallW (zRm C) (zs C) (zar C) RX5 RX0 206 yX0_leastInAll cX0_leastInAll 7 (some .long) wsX0_leastInAll rm_X0_leastInAll 0 0 0 := cwV 0 S.1.1.2.2.2.2 gX5_sum_X0_leastInAll rfl rfl rfl (by decide +kernel) (by rw [S.2.2]; exact ⟨Nat.le_of_ble_eq_true rfl, Nat.le_of_ble_eq_true rfl⟩)
set_option maxRecDepth 100000 in
set_option maxHeartbeats 4000000 in
theorem sg_X5_sum_0 {C : zC} {G : zG} {Qc : Array Value → State → Outcome → State → Prop} (S : St_X5_sum C G Qc) {P_X0_paidInAll : Nat → zM → Prop} {Q_X0_paidInAll : Nat → zM → Int64 → Prop} (c_X0_paidInAll : Con_X0_paidInAll (zl C) G P_X0_paidInAll Q_X0_paidInAll) {P_X0_mostInAll : Nat → zM → Prop} {Q_X0_mostInAll : Nat → zM → Int64 → Prop} (c_X0_mostInAll : Con_X0_mostInAll (zl C) G P_X0_mostInAll Q_X0_mostInAll) {P_X0_leastInAll : Nat → zM → Prop} {Q_X0_leastInAll : Nat → zM → Int64 → Prop} (c_X0_leastInAll : Con_X0_leastInAll (zl C) G P_X0_leastInAll Q_X0_leastInAll) {a0 : Nat} {x1 : Int32} {m : zM} (ka0 : zK G a0 = some (5, a0))
    (h : ((x1).toInt < 0 ∨ 3 < (x1).toInt → (zRet C G Qc (some (.long (-1))) m)) ∧ (x1 = 0 → (zRet C G Qc (some (.long (zJ m 0 (a0 + 1) 0))) m)) ∧ (x1 = 1 → ((P_X0_paidInAll (a0 + 1) m) ∧ (∀ (r2 : Int64), Q_X0_paidInAll (a0 + 1) m r2 → (zRet C G Qc (some (.long r2)) m)))) ∧ (x1 = 2 → ((P_X0_mostInAll (a0 + 1) m) ∧ (∀ (r4 : Int64), Q_X0_mostInAll (a0 + 1) m r4 → (zRet C G Qc (some (.long r4)) m)))) ∧ (x1 = 3 → ((P_X0_leastInAll (a0 + 1) m) ∧ (∀ (r6 : Int64), Q_X0_leastInAll (a0 + 1) m r6 → (zRet C G Qc (some (.long r6)) m))))) : Pt_X5_sum_0 C G a0 x1 m := by
  obtain ⟨hF, hQ, hR⟩ := id S
  have h0 : zF0 C cX5_sum 2 wsX5_sum RX5 := hF.1
  have hL := hF.2.2.1
  unfold Pt_X5_sum_0
  refine zx_iload_n h0 1 dX5_sum_0 rfl ?_
  by_cases hout : (x1).toInt < 0 ∨ 3 < (x1).toInt
  · replace h := h.1 hout
    refine zx_tabOut (tgt := 64) h0 dX5_sum_1 hout (by decide) ?_
    refine zx_ldc2 (v := (-1)) h0 zn_X5_sum_k174 dX5_sum_64 ?_
    exact zx_lret hF hQ dX5_sum_67 h
  replace h := h.2
  by_cases q0 : x1 = 0
  · replace h := h.1 q0
    refine zx_tabIn (tgt := 32) h0 dX5_sum_1 (by rw [q0]; decide) (by rw [q0]; decide) (by rw [q0]; rfl) (by decide) ?_
    refine zx_aload_n h0 0 dX5_sum_32 rfl ?_
    refine zx_get hF ka0 (by decide) rfl zi_X5_sum_5 0 (by decide) zn_X5_sum_12 rfl rfl dX5_sum_33 ?_
    refine zx_get hF (zL_5_1 hL ka0) (by decide) rfl zi_X5_sum_0 0 (by decide) zn_X5_sum_37 rfl rfl dX5_sum_36 ?_
    exact zx_lret hF hQ dX5_sum_39 h
  by_cases q1 : x1 = 1
  · replace h := h.2.1 q1
    refine zx_tabIn (tgt := 40) h0 dX5_sum_1 (by rw [q1]; decide) (by rw [q1]; decide) (by rw [q1]; rfl) (by decide) ?_
    refine zx_aload_n h0 0 dX5_sum_40 rfl ?_
    refine zx_get hF ka0 (by decide) rfl zi_X5_sum_5 0 (by decide) zn_X5_sum_12 rfl rfl dX5_sum_41 ?_
    obtain ⟨ho1, h⟩ := h
    refine zx_callVl (As := []) (rest := []) hF (c_X0_paidInAll (a0 + 1) m (zL_5_1 hL ka0) ho1) (zc_X5_sum_X0_paidInAll S) (zL_5_1 hL ka0) (by decide) rfl dX5_sum_44 rfl rfl (Nat.le_of_ble_eq_true rfl) ⟨Nat.zero_le _, Nat.zero_le _⟩ (fun r2 m2 hq => ?_)
    obtain ⟨hme, hq⟩ := hq
    subst m2
    replace h := h r2 hq
    exact zx_lret hF hQ dX5_sum_47 h
  by_cases q2 : x1 = 2
  · replace h := h.2.2.1 q2
    refine zx_tabIn (tgt := 48) h0 dX5_sum_1 (by rw [q2]; decide) (by rw [q2]; decide) (by rw [q2]; rfl) (by decide) ?_
    refine zx_aload_n h0 0 dX5_sum_48 rfl ?_
    refine zx_get hF ka0 (by decide) rfl zi_X5_sum_5 0 (by decide) zn_X5_sum_12 rfl rfl dX5_sum_49 ?_
    obtain ⟨ho3, h⟩ := h
    refine zx_callVl (As := []) (rest := []) hF (c_X0_mostInAll (a0 + 1) m (zL_5_1 hL ka0) ho3) (zc_X5_sum_X0_mostInAll S) (zL_5_1 hL ka0) (by decide) rfl dX5_sum_52 rfl rfl (Nat.le_of_ble_eq_true rfl) ⟨Nat.zero_le _, Nat.zero_le _⟩ (fun r4 m4 hq => ?_)
    obtain ⟨hme, hq⟩ := hq
    subst m4
    replace h := h r4 hq
    exact zx_lret hF hQ dX5_sum_55 h
  by_cases q3 : x1 = 3
  · replace h := h.2.2.2 q3
    refine zx_tabIn (tgt := 56) h0 dX5_sum_1 (by rw [q3]; decide) (by rw [q3]; decide) (by rw [q3]; rfl) (by decide) ?_
    refine zx_aload_n h0 0 dX5_sum_56 rfl ?_
    refine zx_get hF ka0 (by decide) rfl zi_X5_sum_5 0 (by decide) zn_X5_sum_12 rfl rfl dX5_sum_57 ?_
    obtain ⟨ho5, h⟩ := h
    refine zx_callVl (As := []) (rest := []) hF (c_X0_leastInAll (a0 + 1) m (zL_5_1 hL ka0) ho5) (zc_X5_sum_X0_leastInAll S) (zL_5_1 hL ka0) (by decide) rfl dX5_sum_60 rfl rfl (Nat.le_of_ble_eq_true rfl) ⟨Nat.zero_le _, Nat.zero_le _⟩ (fun r6 m6 hq => ?_)
    obtain ⟨hme, hq⟩ := hq
    subst m6
    replace h := h r6 hq
    exact zx_lret hF hQ dX5_sum_63 h
  exact absurd (z_out3 q0 q1 q2 q3) hout
