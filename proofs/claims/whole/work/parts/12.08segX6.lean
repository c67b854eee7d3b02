theorem zn_X6_all_27 : Cond.fieldLink RX6 27 RX6 (TX6 6).2.1 (TX6 6).2.2.1 ∈ wsX6_all := List.mem_of_getElem? (i := 1) rfl
theorem zi_X6_all_6 : ∀ w ∈ u_ws RX6 TX6 50, w ∈ wsX6_all := fun _ h => List.mem_cons_of_mem _ (List.mem_append_right _ h)
theorem zc_X6_all_X6_mostOf {C : zC} {G : zG} {Qc : Array Value → State → Outcome → State → Prop} (S : St_X6_all C G Qc) : CallW (zRm C) (zs C) (zar C) RX6 RX6 290 yX6_mostOf cX6_mostOf 5 (some .int) wsX6_mostOf rm_X6_mostOf 0 0 1 := cwV 1 S.1.1.2.2.2.2 gX6_all_X6_mostOf rfl rfl rfl (by decide +kernel) (by rw [S.2.2]; exact ⟨Nat.le_of_ble_eq_true rfl, Nat.le_of_ble_eq_true rfl⟩)
set_option maxRecDepth 100000 in
set_option maxHeartbeats 4000000 in
theorem sg_X6_all_0 {C : zC} {G : zG} {Qc : Array Value → State → Outcome → State → Prop} (S : St_X6_all C G Qc) {a0 : Nat} {m : zM} (ka0 : zK G a0 = some (6, a0))
    (h : Pt_X6_all_4 C G a0 0 0 m) : Pt_X6_all_0 C G a0 m := by
  obtain ⟨hF, hQ, hR⟩ := id S
  have h0 : zF0 C cX6_all 4 wsX6_all RX6 := hF.1
  have hL := hF.2.2.1
  unfold Pt_X6_all_0
  refine zx_lconst (v := 0) h0 dX6_all_0 (by decide) ?_
  refine zx_lstore_n (L' := [(1, .long 0), (0, .ref a0)]) h0 dX6_all_1 (by decide) rfl ?_
  refine zx_iconst (v := 0) h0 dX6_all_2 (by decide) ?_
  refine zx_istore_n (L' := [(3, .int 0), (1, .long 0), (0, .ref a0)]) h0 dX6_all_3 (by decide) rfl ?_
  exact zx_sub [2, 1, 0] rfl h
set_option maxRecDepth 100000 in
set_option maxHeartbeats 4000000 in
theorem sg_X6_all_4 {C : zC} {G : zG} {Qc : Array Value → State → Outcome → State → Prop} (S : St_X6_all C G Qc) {P_X6_mostOf : Nat → Int32 → zM → Prop} {Q_X6_mostOf : Nat → Int32 → zM → Int32 → Prop} (c_X6_mostOf : Con_X6_mostOf (zl C) G P_X6_mostOf Q_X6_mostOf) {a0 : Nat} {l1 : Int64} {x3 : Int32} {m : zM} (ka0 : zK G a0 = some (6, a0))
    (h : ((zI m 1606 a0 0) ≤ x3 → (zRet C G Qc (some (.long l1)) m)) ∧ (¬ (zI m 1606 a0 0) ≤ x3 → ((P_X6_mostOf a0 x3 m) ∧ (∀ (r2 : Int32), Q_X6_mostOf a0 x3 m r2 → (Pt_X6_all_4 C G a0 (l1 + ((r2 : Int32).toInt64)) (x3 + 1) m))))) : Pt_X6_all_4 C G a0 l1 x3 m := by
  obtain ⟨hF, hQ, hR⟩ := id S
  have h0 : zF0 C cX6_all 4 wsX6_all RX6 := hF.1
  have hL := hF.2.2.1
  unfold Pt_X6_all_4
  refine zx_iload_n h0 2 dX6_all_4 rfl ?_
  refine zx_aload_n h0 0 dX6_all_5 rfl ?_
  refine zx_get hF ka0 (by decide) rfl zi_X6_all_6 6 (by decide) zn_X6_all_27 rfl rfl dX6_all_6 ?_
  refine zx_iconst (v := 0) h0 dX6_all_9 (by decide) ?_
  refine zx_iald (j := 0) hF (zL_6_6 hL ka0) (by decide) rfl rfl (by unfold vp_in; decide) (by decide) dX6_all_10 ?_
  refine zx_icmp_ge (tgt := 29) h0 dX6_all_11 (by decide) (fun q => ?_) (fun q => ?_)
  · replace h := h.1 q
    refine zx_lload_n h0 1 dX6_all_29 rfl ?_
    exact zx_lret hF hQ dX6_all_30 h
  · replace h := h.2 q
    refine zx_lload_n h0 1 dX6_all_14 rfl ?_
    refine zx_aload_n h0 0 dX6_all_15 rfl ?_
    refine zx_iload_n h0 2 dX6_all_16 rfl ?_
    obtain ⟨ho1, h⟩ := h
    refine zx_callVi (As := [.int x3]) (rest := [.long l1]) hF (c_X6_mostOf a0 x3 m ka0 ho1) (zc_X6_all_X6_mostOf S) ka0 (by decide) rfl dX6_all_17 rfl rfl (Nat.le_of_ble_eq_true rfl) ⟨Nat.zero_le _, Nat.zero_le _⟩ (fun r2 m2 hq => ?_)
    obtain ⟨hme, hq⟩ := hq
    subst m2
    replace h := h r2 hq
    refine zx_i2l (v := ((r2 : Int32).toInt64)) h0 dX6_all_20 rfl ?_
    refine zx_ladd h0 dX6_all_21 ?_
    refine zx_lstore_n (L' := [(1, .long (l1 + ((r2 : Int32).toInt64))), (0, .ref a0), (3, .int x3)]) h0 dX6_all_22 (by decide) rfl ?_
    refine zx_iinc (v := (x3 + 1)) (L' := [(3, .int (x3 + 1)), (1, .long (l1 + ((r2 : Int32).toInt64))), (0, .ref a0)]) h0 2 dX6_all_23 rfl rfl (by decide) rfl ?_
    refine zx_goto (tgt := 4) h0 dX6_all_26 (by decide) ?_
    exact zx_sub [2, 1, 0] rfl h
theorem zn_X6_leastOf_k286 : Cond.constant RX6 286 1000000 ∈ wsX6_leastOf := List.mem_of_getElem? (i := 1) rfl
theorem zc_X6_leastOf_X6_of {C : zC} {G : zG} {Qc : Array Value → State → Outcome → State → Prop} (S : St_X6_leastOf C G Qc) : CallW (zRm C) (zs C) (zar C) RX6 RX6 153 yX6_of cX6_of 3 (some .int) wsX6_of rm_X6_of 0 0 2 := cwV 2 S.1.1.2.2.2.2 gX6_leastOf_X6_of rfl rfl rfl (by decide +kernel) (by rw [S.2.2]; exact ⟨Nat.le_of_ble_eq_true rfl, Nat.le_of_ble_eq_true rfl⟩)
theorem zc_X6_leastOf_X6_pointsNow {C : zC} {G : zG} {Qc : Array Value → State → Outcome → State → Prop} (S : St_X6_leastOf C G Qc) : CallW (zRm C) (zs C) (zar C) RX6 RX6 287 yX6_pointsNow cX6_pointsNow 3 (some .int) wsX6_pointsNow rm_X6_pointsNow 0 0 2 := cwV 2 S.1.1.2.2.2.2 gX6_leastOf_X6_pointsNow rfl rfl rfl (by decide +kernel) (by rw [S.2.2]; exact ⟨Nat.le_of_ble_eq_true rfl, Nat.le_of_ble_eq_true rfl⟩)
set_option maxRecDepth 100000 in
set_option maxHeartbeats 4000000 in
theorem sg_X6_leastOf_0 {C : zC} {G : zG} {Qc : Array Value → State → Outcome → State → Prop} (S : St_X6_leastOf C G Qc) {P_X6_of : Nat → Int32 → Int32 → zM → Prop} {Q_X6_of : Nat → Int32 → Int32 → zM → Int32 → Prop} (c_X6_of : Con_X6_of (zl C) G P_X6_of Q_X6_of) {a0 : Nat} {x1 : Int32} {m : zM} (ka0 : zK G a0 = some (6, a0))
    (h : (P_X6_of a0 x1 5 m) ∧ (∀ (r2 : Int32), Q_X6_of a0 x1 5 m r2 → ((r2 = 0 → (Pt_X6_leastOf_37 C G a0 x1 1000000 0 m)) ∧ (¬ r2 = 0 → (∀ (r3 : Int32), Q_X6_of a0 x1 5 m r3 → ((¬ r3 = 1 → (zRet C G Qc (some (.int 0)) m)) ∧ (r3 = 1 → ((P_X6_of a0 x1 6 m) ∧ (∀ (r5 : Int32), Q_X6_of a0 x1 6 m r5 → (zRet C G Qc (some (.int r5)) m)))))))))) : Pt_X6_leastOf_0 C G a0 x1 m := by
  obtain ⟨hF, hQ, hR⟩ := id S
  have h0 : zF0 C cX6_leastOf 5 wsX6_leastOf RX6 := hF.1
  have hL := hF.2.2.1
  unfold Pt_X6_leastOf_0
  refine zx_aload_n h0 0 dX6_leastOf_0 rfl ?_
  refine zx_iload_n h0 1 dX6_leastOf_1 rfl ?_
  refine zx_iconst (v := 5) h0 dX6_leastOf_2 (by decide) ?_
  obtain ⟨ho1, h⟩ := h
  refine zx_callVi (As := [.int x1, .int 5]) (rest := []) hF (c_X6_of a0 x1 5 m ka0 ho1) (zc_X6_leastOf_X6_of S) ka0 (by decide) rfl dX6_leastOf_3 rfl rfl (Nat.le_of_ble_eq_true rfl) ⟨Nat.zero_le _, Nat.zero_le _⟩ (fun r2 m2 hq => ?_)
  obtain ⟨hme, hq⟩ := hq
  subst m2
  replace h := h r2 hq
  refine zx_if_eq (tgt := 31) h0 dX6_leastOf_6 (by decide) (fun q => ?_) (fun q => ?_)
  · replace h := h.1 q
    refine zx_ldcw (v := 1000000) h0 zn_X6_leastOf_k286 dX6_leastOf_31 ?_
    refine zx_istore_n (L' := [(2, .int 1000000), (0, .ref a0), (1, .int x1)]) h0 dX6_leastOf_34 (by decide) rfl ?_
    refine zx_iconst (v := 0) h0 dX6_leastOf_35 (by decide) ?_
    refine zx_istore_n (L' := [(3, .int 0), (2, .int 1000000), (0, .ref a0), (1, .int x1)]) h0 dX6_leastOf_36 (by decide) rfl ?_
    exact zx_sub [2, 3, 1, 0] rfl h
  · replace h := h.2 q
    refine zx_aload_n h0 0 dX6_leastOf_9 rfl ?_
    refine zx_iload_n h0 1 dX6_leastOf_10 rfl ?_
    refine zx_iconst (v := 5) h0 dX6_leastOf_11 (by decide) ?_
    refine zx_callVi (As := [.int x1, .int 5]) (rest := []) hF (c_X6_of a0 x1 5 m ka0 ho1) (zc_X6_leastOf_X6_of S) ka0 (by decide) rfl dX6_leastOf_12 rfl rfl (Nat.le_of_ble_eq_true rfl) ⟨Nat.zero_le _, Nat.zero_le _⟩ (fun r3 m3 hq => ?_)
    obtain ⟨hme, hq⟩ := hq
    subst m3
    replace h := h r3 hq
    refine zx_iconst (v := 1) h0 dX6_leastOf_15 (by decide) ?_
    refine zx_icmp_ne (tgt := 29) h0 dX6_leastOf_16 (by decide) (fun q => ?_) (fun q => ?_)
    · replace h := h.1 q
      refine zx_iconst (v := 0) h0 dX6_leastOf_29 (by decide) ?_
      exact zx_iret hF hQ dX6_leastOf_30 h
    · replace h := h.2 q
      refine zx_aload_n h0 0 dX6_leastOf_19 rfl ?_
      refine zx_iload_n h0 1 dX6_leastOf_20 rfl ?_
      refine zx_bipush (v := 6) h0 dX6_leastOf_21 (by decide) ?_
      obtain ⟨ho4, h⟩ := h
      refine zx_callVi (As := [.int x1, .int 6]) (rest := []) hF (c_X6_of a0 x1 6 m ka0 ho4) (zc_X6_leastOf_X6_of S) ka0 (by decide) rfl dX6_leastOf_23 rfl rfl (Nat.le_of_ble_eq_true rfl) ⟨Nat.zero_le _, Nat.zero_le _⟩ (fun r5 m5 hq => ?_)
      obtain ⟨hme, hq⟩ := hq
      subst m5
      replace h := h r5 hq
      refine zx_goto (tgt := 30) h0 dX6_leastOf_26 (by decide) ?_
      exact zx_iret hF hQ dX6_leastOf_30 h
set_option maxRecDepth 100000 in
set_option maxHeartbeats 4000000 in
theorem sg_X6_leastOf_37 {C : zC} {G : zG} {Qc : Array Value → State → Outcome → State → Prop} (S : St_X6_leastOf C G Qc) {P_X6_of : Nat → Int32 → Int32 → zM → Prop} {Q_X6_of : Nat → Int32 → Int32 → zM → Int32 → Prop} (c_X6_of : Con_X6_of (zl C) G P_X6_of Q_X6_of) {P_X6_pointsNow : Nat → Int32 → Int32 → zM → Prop} {Q_X6_pointsNow : Nat → Int32 → Int32 → zM → Int32 → Prop} (c_X6_pointsNow : Con_X6_pointsNow (zl C) G P_X6_pointsNow Q_X6_pointsNow) {a0 : Nat} {x1 : Int32} {x2 : Int32} {x3 : Int32} {m : zM} (ka0 : zK G a0 = some (6, a0))
    (h : (64 ≤ x3 → (zRet C G Qc (some (.int x2)) m)) ∧ (¬ 64 ≤ x3 → ((P_X6_of a0 x1 4 m) ∧ (∀ (r2 : Int32), Q_X6_of a0 x1 4 m r2 → (∀ (r3 : Int32), Q_X6_of a0 x1 4 m r3 → ((¬ (x3 &&& r2) = r3 → (Pt_X6_leastOf_37 C G a0 x1 x2 (x3 + 1) m)) ∧ ((x3 &&& r2) = r3 → ((P_X6_pointsNow a0 x1 x3 m) ∧ (∀ (r5 : Int32), Q_X6_pointsNow a0 x1 x3 m r5 → ((x2 ≤ r5 → (Pt_X6_leastOf_37 C G a0 x1 x2 (x3 + 1) m)) ∧ (¬ x2 ≤ r5 → (Pt_X6_leastOf_37 C G a0 x1 r5 (x3 + 1) m)))))))))))) : Pt_X6_leastOf_37 C G a0 x1 x2 x3 m := by
  obtain ⟨hF, hQ, hR⟩ := id S
  have h0 : zF0 C cX6_leastOf 5 wsX6_leastOf RX6 := hF.1
  have hL := hF.2.2.1
  unfold Pt_X6_leastOf_37
  refine zx_iload_n h0 3 dX6_leastOf_37 rfl ?_
  refine zx_bipush (v := 64) h0 dX6_leastOf_38 (by decide) ?_
  refine zx_icmp_ge (tgt := 87) h0 dX6_leastOf_40 (by decide) (fun q => ?_) (fun q => ?_)
  · replace h := h.1 q
    refine zx_iload_n h0 2 dX6_leastOf_87 rfl ?_
    exact zx_iret hF hQ dX6_leastOf_88 h
  · replace h := h.2 q
    refine zx_iload_n h0 3 dX6_leastOf_43 rfl ?_
    refine zx_aload_n h0 0 dX6_leastOf_44 rfl ?_
    refine zx_iload_n h0 1 dX6_leastOf_45 rfl ?_
    refine zx_iconst (v := 4) h0 dX6_leastOf_46 (by decide) ?_
    obtain ⟨ho1, h⟩ := h
    refine zx_callVi (As := [.int x1, .int 4]) (rest := [.int x3]) hF (c_X6_of a0 x1 4 m ka0 ho1) (zc_X6_leastOf_X6_of S) ka0 (by decide) rfl dX6_leastOf_47 rfl rfl (Nat.le_of_ble_eq_true rfl) ⟨Nat.zero_le _, Nat.zero_le _⟩ (fun r2 m2 hq => ?_)
    obtain ⟨hme, hq⟩ := hq
    subst m2
    replace h := h r2 hq
    refine zx_iand h0 dX6_leastOf_50 ?_
    refine zx_aload_n h0 0 dX6_leastOf_51 rfl ?_
    refine zx_iload_n h0 1 dX6_leastOf_52 rfl ?_
    refine zx_iconst (v := 4) h0 dX6_leastOf_53 (by decide) ?_
    refine zx_callVi (As := [.int x1, .int 4]) (rest := [.int (x3 &&& r2)]) hF (c_X6_of a0 x1 4 m ka0 ho1) (zc_X6_leastOf_X6_of S) ka0 (by decide) rfl dX6_leastOf_54 rfl rfl (Nat.le_of_ble_eq_true rfl) ⟨Nat.zero_le _, Nat.zero_le _⟩ (fun r3 m3 hq => ?_)
    obtain ⟨hme, hq⟩ := hq
    subst m3
    replace h := h r3 hq
    refine zx_icmp_ne (tgt := 81) h0 dX6_leastOf_57 (by decide) (fun q => ?_) (fun q => ?_)
    · replace h := h.1 q
      refine zx_iinc (v := (x3 + 1)) (L' := [(3, .int (x3 + 1)), (0, .ref a0), (1, .int x1), (2, .int x2)]) h0 3 dX6_leastOf_81 rfl rfl (by decide) rfl ?_
      refine zx_goto (tgt := 37) h0 dX6_leastOf_84 (by decide) ?_
      exact zx_sub [1, 2, 3, 0] rfl h
    · replace h := h.2 q
      refine zx_aload_n h0 0 dX6_leastOf_60 rfl ?_
      refine zx_iload_n h0 1 dX6_leastOf_61 rfl ?_
      refine zx_iload_n h0 3 dX6_leastOf_62 rfl ?_
      obtain ⟨ho4, h⟩ := h
      refine zx_callVi (As := [.int x1, .int x3]) (rest := []) hF (c_X6_pointsNow a0 x1 x3 m ka0 ho4) (zc_X6_leastOf_X6_pointsNow S) ka0 (by decide) rfl dX6_leastOf_63 rfl rfl (Nat.le_of_ble_eq_true rfl) ⟨Nat.zero_le _, Nat.zero_le _⟩ (fun r5 m5 hq => ?_)
      obtain ⟨hme, hq⟩ := hq
      subst m5
      replace h := h r5 hq
      refine zx_istore (L' := [(4, .int r5), (0, .ref a0), (1, .int x1), (2, .int x2), (3, .int x3)]) h0 dX6_leastOf_66 (by decide) rfl ?_
      refine zx_iload h0 0 dX6_leastOf_68 rfl ?_
      refine zx_iload_n h0 3 dX6_leastOf_70 rfl ?_
      refine zx_icmp_ge (tgt := 79) h0 dX6_leastOf_71 (by decide) (fun q => ?_) (fun q => ?_)
      · replace h := h.1 q
        refine zx_iload_n h0 3 dX6_leastOf_79 rfl ?_
        refine zx_istore_n (L' := [(2, .int x2), (4, .int r5), (0, .ref a0), (1, .int x1), (3, .int x3)]) h0 dX6_leastOf_80 (by decide) rfl ?_
        refine zx_iinc (v := (x3 + 1)) (L' := [(3, .int (x3 + 1)), (2, .int x2), (4, .int r5), (0, .ref a0), (1, .int x1)]) h0 4 dX6_leastOf_81 rfl rfl (by decide) rfl ?_
        refine zx_goto (tgt := 37) h0 dX6_leastOf_84 (by decide) ?_
        exact zx_sub [3, 4, 1, 0] rfl h
      · replace h := h.2 q
        refine zx_iload h0 0 dX6_leastOf_74 rfl ?_
        refine zx_goto (tgt := 80) h0 dX6_leastOf_76 (by decide) ?_
        refine zx_istore_n (L' := [(2, .int r5), (4, .int r5), (0, .ref a0), (1, .int x1), (3, .int x3)]) h0 dX6_leastOf_80 (by decide) rfl ?_
        refine zx_iinc (v := (x3 + 1)) (L' := [(3, .int (x3 + 1)), (2, .int r5), (4, .int r5), (0, .ref a0), (1, .int x1)]) h0 4 dX6_leastOf_81 rfl rfl (by decide) rfl ?_
        refine zx_goto (tgt := 37) h0 dX6_leastOf_84 (by decide) ?_
        exact zx_sub [3, 4, 1, 0] rfl h
theorem zn_X6_worst_23 : Cond.fieldLink RX6 23 RX6 (TX6 5).2.1 (TX6 5).2.2.1 ∈ wsX6_worst := List.mem_of_getElem? (i := 1) rfl
theorem zi_X6_worst_6 : ∀ w ∈ u_ws RX6 TX6 50, w ∈ wsX6_worst := fun _ h => List.mem_cons_of_mem _ (List.mem_append_right _ h)
theorem zc_X6_worst_X6_leastOf {C : zC} {G : zG} {Qc : Array Value → State → Outcome → State → Prop} (S : St_X6_worst C G Qc) : CallW (zRm C) (zs C) (zar C) RX6 RX6 293 yX6_leastOf cX6_leastOf 5 (some .int) wsX6_leastOf rm_X6_leastOf 0 0 1 := cwV 1 S.1.1.2.2.2.2 gX6_worst_X6_leastOf rfl rfl rfl (by decide +kernel) (by rw [S.2.2]; exact ⟨Nat.le_of_ble_eq_true rfl, Nat.le_of_ble_eq_true rfl⟩)
set_option maxRecDepth 100000 in
set_option maxHeartbeats 4000000 in
theorem sg_X6_worst_0 {C : zC} {G : zG} {Qc : Array Value → State → Outcome → State → Prop} (S : St_X6_worst C G Qc) {P_X6_leastOf : Nat → Int32 → zM → Prop} {Q_X6_leastOf : Nat → Int32 → zM → Int32 → Prop} (c_X6_leastOf : Con_X6_leastOf (zl C) G P_X6_leastOf Q_X6_leastOf) {a0 : Nat} {x1 : Int32} {l2 : Int64} {m : zM} (ka0 : zK G a0 = some (6, a0))
    (h : (¬ l2 = 0 → ((P_X6_leastOf a0 x1 m) ∧ (∀ (r2 : Int32), Q_X6_leastOf a0 x1 m r2 → ((¬ l2 = 0) ∧ (zRet C G Qc (some (.long (((zJ m 1605 a0 0) * ((r2 : Int32).toInt64)) / l2))) m))))) ∧ (l2 = 0 → (zRet C G Qc (some (.long 0)) m))) : Pt_X6_worst_0 C G a0 x1 l2 m := by
  obtain ⟨hF, hQ, hR⟩ := id S
  have h0 : zF0 C cX6_worst 4 wsX6_worst RX6 := hF.1
  have hL := hF.2.2.1
  unfold Pt_X6_worst_0
  refine zx_lload_n h0 2 dX6_worst_0 rfl ?_
  refine zx_lconst (v := 0) h0 dX6_worst_1 (by decide) ?_
  refine zx_lcmp_ne (tgt := 10) h0 dX6_worst_2 dX6_worst_3 (by decide) (fun q => ?_) (fun q => ?_)
  · replace h := h.1 q
    refine zx_aload_n h0 0 dX6_worst_10 rfl ?_
    refine zx_get hF ka0 (by decide) rfl zi_X6_worst_6 5 (by decide) zn_X6_worst_23 rfl rfl dX6_worst_11 ?_
    refine zx_iconst (v := 0) h0 dX6_worst_14 (by decide) ?_
    refine zx_lald (j := 0) hF (zL_6_5 hL ka0) (by decide) rfl rfl (by unfold vp_in; decide) (by decide) dX6_worst_15 ?_
    refine zx_aload_n h0 0 dX6_worst_16 rfl ?_
    refine zx_iload_n h0 1 dX6_worst_17 rfl ?_
    obtain ⟨ho1, h⟩ := h
    refine zx_callVi (As := [.int x1]) (rest := [.long (zJ m 1605 a0 0)]) hF (c_X6_leastOf a0 x1 m ka0 ho1) (zc_X6_worst_X6_leastOf S) ka0 (by decide) rfl dX6_worst_18 rfl rfl (Nat.le_of_ble_eq_true rfl) ⟨Nat.zero_le _, Nat.zero_le _⟩ (fun r2 m2 hq => ?_)
    obtain ⟨hme, hq⟩ := hq
    subst m2
    replace h := h r2 hq
    refine zx_i2l (v := ((r2 : Int32).toInt64)) h0 dX6_worst_21 rfl ?_
    refine zx_lmul h0 dX6_worst_22 ?_
    refine zx_lload_n h0 2 dX6_worst_23 rfl ?_
    obtain ⟨ho3, h⟩ := h
    refine zx_ldiv h0 dX6_worst_24 ho3 ?_
    exact zx_lret hF hQ dX6_worst_25 h
  · replace h := h.2 q
    refine zx_lconst (v := 0) h0 dX6_worst_6 (by decide) ?_
    refine zx_goto (tgt := 25) h0 dX6_worst_7 (by decide) ?_
    exact zx_lret hF hQ dX6_worst_25 h
theorem zn_X6_holds_27 : Cond.fieldLink RX6 27 RX6 (TX6 6).2.1 (TX6 6).2.2.1 ∈ wsX6_holds := List.mem_of_getElem? (i := 1) rfl
theorem zi_X6_holds_6 : ∀ w ∈ u_ws RX6 TX6 50, w ∈ wsX6_holds := fun _ h => List.mem_cons_of_mem _ (List.mem_append_right _ h)
theorem zn_X6_holds_40 : Cond.fieldLink RX6 40 RX6 (TX6 10).2.1 (TX6 10).2.2.1 ∈ wsX6_holds := List.mem_of_getElem? (i := 2) rfl
theorem zc_X6_holds_X6_all {C : zC} {G : zG} {Qc : Array Value → State → Outcome → State → Prop} (S : St_X6_holds C G Qc) : CallW (zRm C) (zs C) (zar C) RX6 RX6 296 yX6_all cX6_all 4 (some .long) wsX6_all rm_X6_all 0 0 0 := cwV 0 S.1.1.2.2.2.2 gX6_holds_X6_all rfl rfl rfl (by decide +kernel) (by rw [S.2.2]; exact ⟨Nat.le_of_ble_eq_true rfl, Nat.le_of_ble_eq_true rfl⟩)
theorem zc_X6_holds_X6_worst {C : zC} {G : zG} {Qc : Array Value → State → Outcome → State → Prop} (S : St_X6_holds C G Qc) : CallW (zRm C) (zs C) (zar C) RX6 RX6 299 yX6_worst cX6_worst 4 (some .long) wsX6_worst rm_X6_worst 0 0 2 := cwV 2 S.1.1.2.2.2.2 gX6_holds_X6_worst rfl rfl rfl (by decide +kernel) (by rw [S.2.2]; exact ⟨Nat.le_of_ble_eq_true rfl, Nat.le_of_ble_eq_true rfl⟩)
set_option maxRecDepth 100000 in
set_option maxHeartbeats 4000000 in
theorem sg_X6_holds_0 {C : zC} {G : zG} {Qc : Array Value → State → Outcome → State → Prop} (S : St_X6_holds C G Qc) {P_X6_all : Nat → zM → Prop} {Q_X6_all : Nat → zM → Int64 → Prop} (c_X6_all : Con_X6_all (zl C) G P_X6_all Q_X6_all) {a0 : Nat} {m : zM} (ka0 : zK G a0 = some (6, a0))
    (h : (P_X6_all a0 m) ∧ (∀ (r2 : Int64), Q_X6_all a0 m r2 → (Pt_X6_holds_7 C G a0 r2 0 m))) : Pt_X6_holds_0 C G a0 m := by
  obtain ⟨hF, hQ, hR⟩ := id S
  have h0 : zF0 C cX6_holds 4 wsX6_holds RX6 := hF.1
  have hL := hF.2.2.1
  unfold Pt_X6_holds_0
  refine zx_aload_n h0 0 dX6_holds_0 rfl ?_
  obtain ⟨ho1, h⟩ := h
  refine zx_callVl (As := []) (rest := []) hF (c_X6_all a0 m ka0 ho1) (zc_X6_holds_X6_all S) ka0 (by decide) rfl dX6_holds_1 rfl rfl (Nat.le_of_ble_eq_true rfl) ⟨Nat.zero_le _, Nat.zero_le _⟩ (fun r2 m2 hq => ?_)
  obtain ⟨hme, hq⟩ := hq
  subst m2
  replace h := h r2 hq
  refine zx_lstore_n (L' := [(1, .long r2), (0, .ref a0)]) h0 dX6_holds_4 (by decide) rfl ?_
  refine zx_iconst (v := 0) h0 dX6_holds_5 (by decide) ?_
  refine zx_istore_n (L' := [(3, .int 0), (1, .long r2), (0, .ref a0)]) h0 dX6_holds_6 (by decide) rfl ?_
  exact zx_sub [2, 1, 0] rfl h
set_option maxRecDepth 100000 in
set_option maxHeartbeats 4000000 in
theorem sg_X6_holds_7 {C : zC} {G : zG} {Qc : Array Value → State → Outcome → State → Prop} (S : St_X6_holds C G Qc) {P_X6_worst : Nat → Int32 → Int64 → zM → Prop} {Q_X6_worst : Nat → Int32 → Int64 → zM → Int64 → Prop} (c_X6_worst : Con_X6_worst (zl C) G P_X6_worst Q_X6_worst) {a0 : Nat} {l1 : Int64} {x3 : Int32} {m : zM} (ka0 : zK G a0 = some (6, a0))
    (h : ((zI m 1606 a0 0) ≤ x3 → (zRet C G Qc (some (.int 1)) m)) ∧ (¬ (zI m 1606 a0 0) ≤ x3 → ((vp_in x3 64) ∧ (((zJ m 1610 a0 x3.toNatClampNeg) ≤ 0 → (Pt_X6_holds_7 C G a0 l1 (x3 + 1) m)) ∧ (¬ (zJ m 1610 a0 x3.toNatClampNeg) ≤ 0 → ((P_X6_worst a0 x3 l1 m) ∧ (∀ (r3 : Int64), Q_X6_worst a0 x3 l1 m r3 → (((zJ m 1610 a0 x3.toNatClampNeg) ≤ r3 → (Pt_X6_holds_7 C G a0 l1 (x3 + 1) m)) ∧ (¬ (zJ m 1610 a0 x3.toNatClampNeg) ≤ r3 → (zRet C G Qc (some (.int 0)) m)))))))))) : Pt_X6_holds_7 C G a0 l1 x3 m := by
  obtain ⟨hF, hQ, hR⟩ := id S
  have h0 : zF0 C cX6_holds 4 wsX6_holds RX6 := hF.1
  have hL := hF.2.2.1
  unfold Pt_X6_holds_7
  refine zx_iload_n h0 2 dX6_holds_7 rfl ?_
  refine zx_aload_n h0 0 dX6_holds_8 rfl ?_
  refine zx_get hF ka0 (by decide) rfl zi_X6_holds_6 6 (by decide) zn_X6_holds_27 rfl rfl dX6_holds_9 ?_
  refine zx_iconst (v := 0) h0 dX6_holds_12 (by decide) ?_
  refine zx_iald (j := 0) hF (zL_6_6 hL ka0) (by decide) rfl rfl (by unfold vp_in; decide) (by decide) dX6_holds_13 ?_
  refine zx_icmp_ge (tgt := 52) h0 dX6_holds_14 (by decide) (fun q => ?_) (fun q => ?_)
  · replace h := h.1 q
    refine zx_iconst (v := 1) h0 dX6_holds_52 (by decide) ?_
    exact zx_zret hF hQ rfl dX6_holds_53 h
  · replace h := h.2 q
    refine zx_aload_n h0 0 dX6_holds_17 rfl ?_
    refine zx_get hF ka0 (by decide) rfl zi_X6_holds_6 10 (by decide) zn_X6_holds_40 rfl rfl dX6_holds_18 ?_
    refine zx_iload_n h0 2 dX6_holds_21 rfl ?_
    obtain ⟨ho1, h⟩ := h
    refine zx_lald (j := x3.toNatClampNeg) hF (zL_6_10 hL ka0) (by decide) rfl rfl ho1 rfl dX6_holds_22 ?_
    refine zx_lconst (v := 0) h0 dX6_holds_23 (by decide) ?_
    refine zx_lcmp_le (tgt := 46) h0 dX6_holds_24 dX6_holds_25 (by decide) (fun q => ?_) (fun q => ?_)
    · replace h := h.1 q
      refine zx_iinc (v := (x3 + 1)) (L' := [(3, .int (x3 + 1)), (0, .ref a0), (1, .long l1)]) h0 2 dX6_holds_46 rfl rfl (by decide) rfl ?_
      refine zx_goto (tgt := 7) h0 dX6_holds_49 (by decide) ?_
      exact zx_sub [1, 2, 0] rfl h
    · replace h := h.2 q
      refine zx_aload_n h0 0 dX6_holds_28 rfl ?_
      refine zx_get hF ka0 (by decide) rfl zi_X6_holds_6 10 (by decide) zn_X6_holds_40 rfl rfl dX6_holds_29 ?_
      refine zx_iload_n h0 2 dX6_holds_32 rfl ?_
      refine zx_lald (j := x3.toNatClampNeg) hF (zL_6_10 hL ka0) (by decide) rfl rfl ho1 rfl dX6_holds_33 ?_
      refine zx_aload_n h0 0 dX6_holds_34 rfl ?_
      refine zx_iload_n h0 2 dX6_holds_35 rfl ?_
      refine zx_lload_n h0 1 dX6_holds_36 rfl ?_
      obtain ⟨ho2, h⟩ := h
      refine zx_callVl (As := [.int x3, .long l1]) (rest := [.long (zJ m 1610 a0 x3.toNatClampNeg)]) hF (c_X6_worst a0 x3 l1 m ka0 ho2) (zc_X6_holds_X6_worst S) ka0 (by decide) rfl dX6_holds_37 rfl rfl (Nat.le_of_ble_eq_true rfl) ⟨Nat.zero_le _, Nat.zero_le _⟩ (fun r3 m3 hq => ?_)
      obtain ⟨hme, hq⟩ := hq
      subst m3
      replace h := h r3 hq
      refine zx_lcmp_le (tgt := 46) h0 dX6_holds_40 dX6_holds_41 (by decide) (fun q => ?_) (fun q => ?_)
      · replace h := h.1 q
        refine zx_iinc (v := (x3 + 1)) (L' := [(3, .int (x3 + 1)), (0, .ref a0), (1, .long l1)]) h0 2 dX6_holds_46 rfl rfl (by decide) rfl ?_
        refine zx_goto (tgt := 7) h0 dX6_holds_49 (by decide) ?_
        exact zx_sub [1, 2, 0] rfl h
      · replace h := h.2 q
        refine zx_iconst (v := 0) h0 dX6_holds_44 (by decide) ?_
        exact zx_zret hF hQ rfl dX6_holds_45 h
theorem zn_X6_oldGrid_64 : Cond.fieldLink RX6 64 RX6 (TX6 18).2.1 (TX6 18).2.2.1 ∈ wsX6_oldGrid := List.mem_of_getElem? (i := 1) rfl
theorem zi_X6_oldGrid_6 : ∀ w ∈ u_ws RX6 TX6 50, w ∈ wsX6_oldGrid := fun _ h => List.mem_cons_of_mem _ (List.mem_append_right _ h)
theorem zn_X6_oldGrid_267 : Cond.fieldLink RX6 267 RX6 (TX6 41).2.1 (TX6 41).2.2.1 ∈ wsX6_oldGrid := List.mem_of_getElem? (i := 2) rfl
theorem zn_X6_oldGrid_67 : Cond.fieldLink RX6 67 RX6 (TX6 19).2.1 (TX6 19).2.2.1 ∈ wsX6_oldGrid := List.mem_of_getElem? (i := 3) rfl
theorem zn_X6_oldGrid_103 : Cond.fieldLink RX6 103 RX6 (TX6 42).2.1 (TX6 42).2.2.1 ∈ wsX6_oldGrid := List.mem_of_getElem? (i := 4) rfl
theorem zn_X6_oldGrid_79 : Cond.fieldLink RX6 79 RX6 (TX6 23).2.1 (TX6 23).2.2.1 ∈ wsX6_oldGrid := List.mem_of_getElem? (i := 5) rfl
theorem zn_X6_oldGrid_115 : Cond.fieldLink RX6 115 RX6 (TX6 46).2.1 (TX6 46).2.2.1 ∈ wsX6_oldGrid := List.mem_of_getElem? (i := 6) rfl
theorem zn_X6_oldGrid_82 : Cond.fieldLink RX6 82 RX6 (TX6 24).2.1 (TX6 24).2.2.1 ∈ wsX6_oldGrid := List.mem_of_getElem? (i := 7) rfl
theorem zn_X6_oldGrid_118 : Cond.fieldLink RX6 118 RX6 (TX6 47).2.1 (TX6 47).2.2.1 ∈ wsX6_oldGrid := List.mem_of_getElem? (i := 8) rfl
theorem zn_X6_oldGrid_70 : Cond.fieldLink RX6 70 RX6 (TX6 20).2.1 (TX6 20).2.2.1 ∈ wsX6_oldGrid := List.mem_of_getElem? (i := 9) rfl
theorem zn_X6_oldGrid_106 : Cond.fieldLink RX6 106 RX6 (TX6 43).2.1 (TX6 43).2.2.1 ∈ wsX6_oldGrid := List.mem_of_getElem? (i := 10) rfl
theorem zn_X6_oldGrid_73 : Cond.fieldLink RX6 73 RX6 (TX6 21).2.1 (TX6 21).2.2.1 ∈ wsX6_oldGrid := List.mem_of_getElem? (i := 11) rfl
theorem zn_X6_oldGrid_109 : Cond.fieldLink RX6 109 RX6 (TX6 44).2.1 (TX6 44).2.2.1 ∈ wsX6_oldGrid := List.mem_of_getElem? (i := 12) rfl
theorem zn_X6_oldGrid_76 : Cond.fieldLink RX6 76 RX6 (TX6 22).2.1 (TX6 22).2.2.1 ∈ wsX6_oldGrid := List.mem_of_getElem? (i := 13) rfl
theorem zn_X6_oldGrid_112 : Cond.fieldLink RX6 112 RX6 (TX6 45).2.1 (TX6 45).2.2.1 ∈ wsX6_oldGrid := List.mem_of_getElem? (i := 14) rfl
set_option maxRecDepth 100000 in
set_option maxHeartbeats 4000000 in
theorem sg_X6_oldGrid_0 {C : zC} {G : zG} {Qc : Array Value → State → Outcome → State → Prop} (S : St_X6_oldGrid C G Qc) {a0 : Nat} {m : zM} (ka0 : zK G a0 = some (6, a0))
    (h : Pt_X6_oldGrid_12 C G a0 0 (zsI m 1618 a0 0 (zI m 641 a0 0))) : Pt_X6_oldGrid_0 C G a0 m := by
  obtain ⟨hF, hQ, hR⟩ := id S
  have h0 : zF0 C cX6_oldGrid 2 wsX6_oldGrid RX6 := hF.1
  have hL := hF.2.2.1
  unfold Pt_X6_oldGrid_0
  refine zx_aload_n h0 0 dX6_oldGrid_0 rfl ?_
  refine zx_get hF ka0 (by decide) rfl zi_X6_oldGrid_6 18 (by decide) zn_X6_oldGrid_64 rfl rfl dX6_oldGrid_1 ?_
  refine zx_iconst (v := 0) h0 dX6_oldGrid_4 (by decide) ?_
  refine zx_aload_n h0 0 dX6_oldGrid_5 rfl ?_
  refine zx_get hF ka0 (by decide) rfl zi_X6_oldGrid_6 41 (by decide) zn_X6_oldGrid_267 rfl rfl dX6_oldGrid_6 ?_
  refine zx_iast (j := 0) hF (zL_6_18 hL ka0) (by decide) rfl rfl (by unfold vp_in; decide) (by decide) rfl (z_fit rfl) dX6_oldGrid_9 ?_
  refine zx_iconst (v := 0) h0 dX6_oldGrid_10 (by decide) ?_
  refine zx_istore_n (L' := [(1, .int 0), (0, .ref a0)]) h0 dX6_oldGrid_11 (by decide) rfl ?_
  exact zx_sub [1, 0] rfl h
set_option maxRecDepth 100000 in
set_option maxHeartbeats 4000000 in
theorem sg_X6_oldGrid_12 {C : zC} {G : zG} {Qc : Array Value → State → Outcome → State → Prop} (S : St_X6_oldGrid C G Qc) {a0 : Nat} {x1 : Int32} {m : zM} (ka0 : zK G a0 = some (6, a0))
    (h : (16 ≤ x1 → (Pt_X6_oldGrid_62 C G a0 0 m)) ∧ (¬ 16 ≤ x1 → ((vp_in x1 16) ∧ ((vp_in x1 64) ∧ (Pt_X6_oldGrid_12 C G a0 (x1 + 1) (zsI (zsI (zsI m 1619 a0 x1.toNatClampNeg (zI m 1642 a0 x1.toNatClampNeg)) 1623 a0 x1.toNatClampNeg (zI m 1646 a0 x1.toNatClampNeg)) 1624 a0 x1.toNatClampNeg (zI m 1647 a0 x1.toNatClampNeg))))))) : Pt_X6_oldGrid_12 C G a0 x1 m := by
  obtain ⟨hF, hQ, hR⟩ := id S
  have h0 : zF0 C cX6_oldGrid 2 wsX6_oldGrid RX6 := hF.1
  have hL := hF.2.2.1
  unfold Pt_X6_oldGrid_12
  refine zx_iload_n h0 1 dX6_oldGrid_12 rfl ?_
  refine zx_bipush (v := 16) h0 dX6_oldGrid_13 (by decide) ?_
  refine zx_icmp_ge (tgt := 60) h0 dX6_oldGrid_15 (by decide) (fun q => ?_) (fun q => ?_)
  · replace h := h.1 q
    refine zx_iconst (v := 0) h0 dX6_oldGrid_60 (by decide) ?_
    refine zx_istore_n (L' := [(1, .int 0), (0, .ref a0)]) h0 dX6_oldGrid_61 (by decide) rfl ?_
    exact zx_sub [1, 0] rfl h
  · replace h := h.2 q
    refine zx_aload_n h0 0 dX6_oldGrid_18 rfl ?_
    refine zx_get hF ka0 (by decide) rfl zi_X6_oldGrid_6 19 (by decide) zn_X6_oldGrid_67 rfl rfl dX6_oldGrid_19 ?_
    refine zx_iload_n h0 1 dX6_oldGrid_22 rfl ?_
    refine zx_aload_n h0 0 dX6_oldGrid_23 rfl ?_
    refine zx_get hF ka0 (by decide) rfl zi_X6_oldGrid_6 42 (by decide) zn_X6_oldGrid_103 rfl rfl dX6_oldGrid_24 ?_
    refine zx_iload_n h0 1 dX6_oldGrid_27 rfl ?_
    obtain ⟨ho1, h⟩ := h
    refine zx_iald (j := x1.toNatClampNeg) hF (zL_6_31 hL ka0) (by decide) rfl rfl ho1 rfl dX6_oldGrid_28 ?_
    obtain ⟨ho2, h⟩ := h
    refine zx_iast (j := x1.toNatClampNeg) hF (zL_6_19 hL ka0) (by decide) rfl rfl ho2 rfl rfl (z_fit rfl) dX6_oldGrid_29 ?_
    refine zx_aload_n h0 0 dX6_oldGrid_30 rfl ?_
    refine zx_get hF ka0 (by decide) rfl zi_X6_oldGrid_6 23 (by decide) zn_X6_oldGrid_79 rfl rfl dX6_oldGrid_31 ?_
    refine zx_iload_n h0 1 dX6_oldGrid_34 rfl ?_
    refine zx_aload_n h0 0 dX6_oldGrid_35 rfl ?_
    refine zx_get hF ka0 (by decide) rfl zi_X6_oldGrid_6 46 (by decide) zn_X6_oldGrid_115 rfl rfl dX6_oldGrid_36 ?_
    refine zx_iload_n h0 1 dX6_oldGrid_39 rfl ?_
    refine zx_iald (j := x1.toNatClampNeg) hF (zL_6_35 hL ka0) (by decide) rfl rfl ho1 rfl dX6_oldGrid_40 ?_
    refine zx_topI (zI_n (by decide)) ?_
    refine zx_iast (j := x1.toNatClampNeg) hF (zL_6_23 hL ka0) (by decide) rfl rfl ho2 rfl rfl (z_fit rfl) dX6_oldGrid_41 ?_
    refine zx_aload_n h0 0 dX6_oldGrid_42 rfl ?_
    refine zx_get hF ka0 (by decide) rfl zi_X6_oldGrid_6 24 (by decide) zn_X6_oldGrid_82 rfl rfl dX6_oldGrid_43 ?_
    refine zx_iload_n h0 1 dX6_oldGrid_46 rfl ?_
    refine zx_aload_n h0 0 dX6_oldGrid_47 rfl ?_
    refine zx_get hF ka0 (by decide) rfl zi_X6_oldGrid_6 47 (by decide) zn_X6_oldGrid_118 rfl rfl dX6_oldGrid_48 ?_
    refine zx_iload_n h0 1 dX6_oldGrid_51 rfl ?_
    refine zx_iald (j := x1.toNatClampNeg) hF (zL_6_36 hL ka0) (by decide) rfl rfl ho1 rfl dX6_oldGrid_52 ?_
    refine zx_topI ((zI_n (by decide)).trans (zI_n (by decide))) ?_
    refine zx_iast (j := x1.toNatClampNeg) hF (zL_6_24 hL ka0) (by decide) rfl rfl ho2 rfl rfl (z_fit rfl) dX6_oldGrid_53 ?_
    refine zx_iinc (v := (x1 + 1)) (L' := [(1, .int (x1 + 1)), (0, .ref a0)]) h0 1 dX6_oldGrid_54 rfl rfl (by decide) rfl ?_
    refine zx_goto (tgt := 12) h0 dX6_oldGrid_57 (by decide) ?_
    exact zx_sub [1, 0] rfl h
set_option maxRecDepth 100000 in
set_option maxHeartbeats 4000000 in
theorem sg_X6_oldGrid_62 {C : zC} {G : zG} {Qc : Array Value → State → Outcome → State → Prop} (S : St_X6_oldGrid C G Qc) {a0 : Nat} {x1 : Int32} {m : zM} (ka0 : zK G a0 = some (6, a0))
    (h : (64 ≤ x1 → (zRet C G Qc none m)) ∧ (¬ 64 ≤ x1 → ((vp_in x1 64) ∧ ((vp_in x1 256) ∧ (Pt_X6_oldGrid_62 C G a0 (x1 + 1) (zsI (zsI (zsI m 1620 a0 x1.toNatClampNeg (zI m 1643 a0 x1.toNatClampNeg)) 1621 a0 x1.toNatClampNeg (zI m 1644 a0 x1.toNatClampNeg)) 1622 a0 x1.toNatClampNeg (zI m 1645 a0 x1.toNatClampNeg))))))) : Pt_X6_oldGrid_62 C G a0 x1 m := by
  obtain ⟨hF, hQ, hR⟩ := id S
  have h0 : zF0 C cX6_oldGrid 2 wsX6_oldGrid RX6 := hF.1
  have hL := hF.2.2.1
  unfold Pt_X6_oldGrid_62
  refine zx_iload_n h0 1 dX6_oldGrid_62 rfl ?_
  refine zx_bipush (v := 64) h0 dX6_oldGrid_63 (by decide) ?_
  refine zx_icmp_ge (tgt := 110) h0 dX6_oldGrid_65 (by decide) (fun q => ?_) (fun q => ?_)
  · replace h := h.1 q
    exact zx_vret hF hQ dX6_oldGrid_110 h
  · replace h := h.2 q
    refine zx_aload_n h0 0 dX6_oldGrid_68 rfl ?_
    refine zx_get hF ka0 (by decide) rfl zi_X6_oldGrid_6 20 (by decide) zn_X6_oldGrid_70 rfl rfl dX6_oldGrid_69 ?_
    refine zx_iload_n h0 1 dX6_oldGrid_72 rfl ?_
    refine zx_aload_n h0 0 dX6_oldGrid_73 rfl ?_
    refine zx_get hF ka0 (by decide) rfl zi_X6_oldGrid_6 43 (by decide) zn_X6_oldGrid_106 rfl rfl dX6_oldGrid_74 ?_
    refine zx_iload_n h0 1 dX6_oldGrid_77 rfl ?_
    obtain ⟨ho1, h⟩ := h
    refine zx_iald (j := x1.toNatClampNeg) hF (zL_6_32 hL ka0) (by decide) rfl rfl ho1 rfl dX6_oldGrid_78 ?_
    obtain ⟨ho2, h⟩ := h
    refine zx_iast (j := x1.toNatClampNeg) hF (zL_6_20 hL ka0) (by decide) rfl rfl ho2 rfl rfl (z_fit rfl) dX6_oldGrid_79 ?_
    refine zx_aload_n h0 0 dX6_oldGrid_80 rfl ?_
    refine zx_get hF ka0 (by decide) rfl zi_X6_oldGrid_6 21 (by decide) zn_X6_oldGrid_73 rfl rfl dX6_oldGrid_81 ?_
    refine zx_iload_n h0 1 dX6_oldGrid_84 rfl ?_
    refine zx_aload_n h0 0 dX6_oldGrid_85 rfl ?_
    refine zx_get hF ka0 (by decide) rfl zi_X6_oldGrid_6 44 (by decide) zn_X6_oldGrid_109 rfl rfl dX6_oldGrid_86 ?_
    refine zx_iload_n h0 1 dX6_oldGrid_89 rfl ?_
    refine zx_iald (j := x1.toNatClampNeg) hF (zL_6_33 hL ka0) (by decide) rfl rfl ho1 rfl dX6_oldGrid_90 ?_
    refine zx_topI (zI_n (by decide)) ?_
    refine zx_iast (j := x1.toNatClampNeg) hF (zL_6_21 hL ka0) (by decide) rfl rfl ho2 rfl rfl (z_fit rfl) dX6_oldGrid_91 ?_
    refine zx_aload_n h0 0 dX6_oldGrid_92 rfl ?_
    refine zx_get hF ka0 (by decide) rfl zi_X6_oldGrid_6 22 (by decide) zn_X6_oldGrid_76 rfl rfl dX6_oldGrid_93 ?_
    refine zx_iload_n h0 1 dX6_oldGrid_96 rfl ?_
    refine zx_aload_n h0 0 dX6_oldGrid_97 rfl ?_
    refine zx_get hF ka0 (by decide) rfl zi_X6_oldGrid_6 45 (by decide) zn_X6_oldGrid_112 rfl rfl dX6_oldGrid_98 ?_
    refine zx_iload_n h0 1 dX6_oldGrid_101 rfl ?_
    refine zx_iald (j := x1.toNatClampNeg) hF (zL_6_34 hL ka0) (by decide) rfl rfl ho1 rfl dX6_oldGrid_102 ?_
    refine zx_topI ((zI_n (by decide)).trans (zI_n (by decide))) ?_
    refine zx_iast (j := x1.toNatClampNeg) hF (zL_6_22 hL ka0) (by decide) rfl rfl ho2 rfl rfl (z_fit rfl) dX6_oldGrid_103 ?_
    refine zx_iinc (v := (x1 + 1)) (L' := [(1, .int (x1 + 1)), (0, .ref a0)]) h0 1 dX6_oldGrid_104 rfl rfl (by decide) rfl ?_
    refine zx_goto (tgt := 62) h0 dX6_oldGrid_107 (by decide) ?_
    exact zx_sub [1, 0] rfl h
theorem zn_X6_grid_129 : Cond.fieldLink RX6 129 RX6 (TX6 0).2.1 (TX6 0).2.2.1 ∈ wsX6_grid := List.mem_of_getElem? (i := 1) rfl
theorem zi_X6_grid_6 : ∀ w ∈ u_ws RX6 TX6 50, w ∈ wsX6_grid := fun _ h => List.mem_cons_of_mem _ (List.mem_append_right _ h)
theorem zn_X6_grid_13 : Cond.fieldLink RX6 13 RX6 (TX6 2).2.1 (TX6 2).2.2.1 ∈ wsX6_grid := List.mem_of_getElem? (i := 2) rfl
theorem zn_X6_grid_170 : Cond.fieldLink RX6 170 RX6 (TX6 26).2.1 (TX6 26).2.2.1 ∈ wsX6_grid := List.mem_of_getElem? (i := 3) rfl
theorem zn_X6_grid_17 : Cond.fieldLink RX6 17 RX6 (TX6 3).2.1 (TX6 3).2.2.1 ∈ wsX6_grid := List.mem_of_getElem? (i := 4) rfl
theorem zn_X6_grid_20 : Cond.fieldLink RX6 20 RX6 (TX6 4).2.1 (TX6 4).2.2.1 ∈ wsX6_grid := List.mem_of_getElem? (i := 5) rfl
theorem zn_X6_grid_33 : Cond.fieldLink RX6 33 RX6 (TX6 8).2.1 (TX6 8).2.2.1 ∈ wsX6_grid := List.mem_of_getElem? (i := 6) rfl
theorem zn_X6_grid_167 : Cond.fieldLink RX6 167 RX6 (TX6 25).2.1 (TX6 25).2.2.1 ∈ wsX6_grid := List.mem_of_getElem? (i := 7) rfl
theorem zn_X6_grid_190 : Cond.fieldLink RX6 190 RX6 (TX6 31).2.1 (TX6 31).2.2.1 ∈ wsX6_grid := List.mem_of_getElem? (i := 8) rfl
theorem zn_X6_grid_193 : Cond.fieldLink RX6 193 RX6 (TX6 32).2.1 (TX6 32).2.2.1 ∈ wsX6_grid := List.mem_of_getElem? (i := 9) rfl
theorem zn_X6_grid_209 : Cond.fieldLink RX6 209 RX6 (TX6 34).2.1 (TX6 34).2.2.1 ∈ wsX6_grid := List.mem_of_getElem? (i := 10) rfl
theorem zn_X6_grid_187 : Cond.fieldLink RX6 187 RX6 (TX6 28).2.1 (TX6 28).2.2.1 ∈ wsX6_grid := List.mem_of_getElem? (i := 11) rfl
theorem zn_X6_grid_196 : Cond.fieldLink RX6 196 RX6 (TX6 33).2.1 (TX6 33).2.2.1 ∈ wsX6_grid := List.mem_of_getElem? (i := 12) rfl
theorem zc_X6_grid_X6_next {C : zC} {G : zG} {Qc : Array Value → State → Outcome → State → Prop} (S : St_X6_grid C G Qc) : CallW (zRm C) (zs C) (zar C) RX6 RX6 206 yX6_next cX6_next 3 none wsX6_next rm_X6_next 0 0 0 := cwV 0 S.1.1.2.2.2.2 gX6_grid_X6_next rfl rfl rfl (by decide +kernel) (by rw [S.2.2]; exact ⟨Nat.le_of_ble_eq_true rfl, Nat.le_of_ble_eq_true rfl⟩)
theorem zc_X6_grid_X6_oneLine {C : zC} {G : zG} {Qc : Array Value → State → Outcome → State → Prop} (S : St_X6_grid C G Qc) : CallW (zRm C) (zs C) (zar C) RX6 RX6 252 yX6_oneLine cX6_oneLine 4 (some .boolean) wsX6_oneLine rm_X6_oneLine 0 0 0 := cwV 0 S.1.1.2.2.2.2 gX6_grid_X6_oneLine rfl rfl rfl (by decide +kernel) (by rw [S.2.2]; exact ⟨Nat.le_of_ble_eq_true rfl, Nat.le_of_ble_eq_true rfl⟩)
theorem zc_X6_grid_X6_keepGrid {C : zC} {G : zG} {Qc : Array Value → State → Outcome → State → Prop} (S : St_X6_grid C G Qc) : CallW (zRm C) (zs C) (zar C) RX6 RX6 255 yX6_keepGrid cX6_keepGrid 2 none wsX6_keepGrid rm_X6_keepGrid 0 0 0 := cwV 0 S.1.1.2.2.2.2 gX6_grid_X6_keepGrid rfl rfl rfl (by decide +kernel) (by rw [S.2.2]; exact ⟨Nat.le_of_ble_eq_true rfl, Nat.le_of_ble_eq_true rfl⟩)
theorem zc_X6_grid_X6_setGrid {C : zC} {G : zG} {Qc : Array Value → State → Outcome → State → Prop} (S : St_X6_grid C G Qc) : CallW (zRm C) (zs C) (zar C) RX6 RX6 258 yX6_setGrid cX6_setGrid 3 none wsX6_setGrid rm_X6_setGrid 0 0 0 := cwV 0 S.1.1.2.2.2.2 gX6_grid_X6_setGrid rfl rfl rfl (by decide +kernel) (by rw [S.2.2]; exact ⟨Nat.le_of_ble_eq_true rfl, Nat.le_of_ble_eq_true rfl⟩)
theorem zc_X6_grid_X6_holds {C : zC} {G : zG} {Qc : Array Value → State → Outcome → State → Prop} (S : St_X6_grid C G Qc) : CallW (zRm C) (zs C) (zar C) RX6 RX6 261 yX6_holds cX6_holds 4 (some .boolean) wsX6_holds rm_X6_holds 0 0 0 := cwV 0 S.1.1.2.2.2.2 gX6_grid_X6_holds rfl rfl rfl (by decide +kernel) (by rw [S.2.2]; exact ⟨Nat.le_of_ble_eq_true rfl, Nat.le_of_ble_eq_true rfl⟩)
theorem zc_X6_grid_X6_oldGrid {C : zC} {G : zG} {Qc : Array Value → State → Outcome → State → Prop} (S : St_X6_grid C G Qc) : CallW (zRm C) (zs C) (zar C) RX6 RX6 264 yX6_oldGrid cX6_oldGrid 2 none wsX6_oldGrid rm_X6_oldGrid 0 0 0 := cwV 0 S.1.1.2.2.2.2 gX6_grid_X6_oldGrid rfl rfl rfl (by decide +kernel) (by rw [S.2.2]; exact ⟨Nat.le_of_ble_eq_true rfl, Nat.le_of_ble_eq_true rfl⟩)
set_option maxRecDepth 100000 in
set_option maxHeartbeats 4000000 in
theorem sg_X6_grid_0 {C : zC} {G : zG} {Qc : Array Value → State → Outcome → State → Prop} (S : St_X6_grid C G Qc) {P_X6_next : Nat → zM → Prop} {Q_X6_next : Nat → zM → zM → Prop} (c_X6_next : Con_X6_next (zl C) G P_X6_next Q_X6_next) {a0 : Nat} {m : zM} (ka0 : zK G a0 = some (6, a0))
    (h : ((zI m 1608 a0 0) = 0 → ((P_X6_next a0 (zsI (zsI (zsI (zsI (zsI (zsI (zsI (zsI (zsI m 600 a0 0 0) 626 a0 0 (zI m 1602 a0 0)) 1602 a0 0 0) 1603 a0 0 0) 1604 a0 0 (-1)) 625 a0 0 0) 631 a0 0 (-1)) 632 a0 0 0) 634 a0 0 0)) ∧ (∀ (m2 : zM), Q_X6_next a0 (zsI (zsI (zsI (zsI (zsI (zsI (zsI (zsI (zsI m 600 a0 0 0) 626 a0 0 (zI m 1602 a0 0)) 1602 a0 0 0) 1603 a0 0 0) 1604 a0 0 (-1)) 625 a0 0 0) 631 a0 0 (-1)) 632 a0 0 0) 634 a0 0 0) m2 → (Pt_X6_grid_74 C G a0 1 m2)))) ∧ (¬ (zI m 1608 a0 0) = 0 → (zRet C G Qc (some (.int (-2))) (zsI (zsI (zsI (zsI (zsI m 600 a0 0 0) 626 a0 0 (zI m 1602 a0 0)) 1602 a0 0 0) 1603 a0 0 0) 1604 a0 0 (-1))))) : Pt_X6_grid_0 C G a0 m := by
  obtain ⟨hF, hQ, hR⟩ := id S
  have h0 : zF0 C cX6_grid 2 wsX6_grid RX6 := hF.1
  have hL := hF.2.2.1
  unfold Pt_X6_grid_0
  refine zx_aload_n h0 0 dX6_grid_0 rfl ?_
  refine zx_iconst (v := 0) h0 dX6_grid_1 (by decide) ?_
  refine zp_600 hF ka0 zi_X6_grid_6 zn_X6_grid_129 dX6_grid_2 ?_
  refine zx_aload_n h0 0 dX6_grid_5 rfl ?_
  refine zx_aload_n h0 0 dX6_grid_6 rfl ?_
  refine zx_get hF ka0 (by decide) rfl zi_X6_grid_6 2 (by decide) zn_X6_grid_13 rfl rfl dX6_grid_7 ?_
  refine zx_iconst (v := 0) h0 dX6_grid_10 (by decide) ?_
  refine zx_iald (j := 0) hF (zL_6_2 hL ka0) (by decide) rfl rfl (by unfold vp_in; decide) (by decide) dX6_grid_11 ?_
  refine zx_topI (zI_n (by decide)) ?_
  refine zp_626 hF ka0 zi_X6_grid_6 zn_X6_grid_170 dX6_grid_12 ?_
  refine zx_aload_n h0 0 dX6_grid_15 rfl ?_
  refine zx_get hF ka0 (by decide) rfl zi_X6_grid_6 2 (by decide) zn_X6_grid_13 rfl rfl dX6_grid_16 ?_
  refine zx_iconst (v := 0) h0 dX6_grid_19 (by decide) ?_
  refine zx_iconst (v := 0) h0 dX6_grid_20 (by decide) ?_
  refine zx_iast (j := 0) hF (zL_6_2 hL ka0) (by decide) rfl rfl (by unfold vp_in; decide) (by decide) rfl (z_fit rfl) dX6_grid_21 ?_
  refine zx_aload_n h0 0 dX6_grid_22 rfl ?_
  refine zx_get hF ka0 (by decide) rfl zi_X6_grid_6 3 (by decide) zn_X6_grid_17 rfl rfl dX6_grid_23 ?_
  refine zx_iconst (v := 0) h0 dX6_grid_26 (by decide) ?_
  refine zx_iconst (v := 0) h0 dX6_grid_27 (by decide) ?_
  refine zx_iast (j := 0) hF (zL_6_3 hL ka0) (by decide) rfl rfl (by unfold vp_in; decide) (by decide) rfl (z_fit rfl) dX6_grid_28 ?_
  refine zx_aload_n h0 0 dX6_grid_29 rfl ?_
  refine zx_get hF ka0 (by decide) rfl zi_X6_grid_6 4 (by decide) zn_X6_grid_20 rfl rfl dX6_grid_30 ?_
  refine zx_iconst (v := 0) h0 dX6_grid_33 (by decide) ?_
  refine zx_iconst (v := (-1)) h0 dX6_grid_34 (by decide) ?_
  refine zx_iast (j := 0) hF (zL_6_4 hL ka0) (by decide) rfl rfl (by unfold vp_in; decide) (by decide) rfl (z_fit rfl) dX6_grid_35 ?_
  refine zx_aload_n h0 0 dX6_grid_36 rfl ?_
  refine zx_get hF ka0 (by decide) rfl zi_X6_grid_6 8 (by decide) zn_X6_grid_33 rfl rfl dX6_grid_37 ?_
  refine zx_iconst (v := 0) h0 dX6_grid_40 (by decide) ?_
  refine zx_zald (j := 0) hF (zL_6_8 hL ka0) (by decide) rfl rfl (by unfold vp_in; decide) (by decide) dX6_grid_41 ?_
  refine zx_topI ((zI_n (by decide)).trans ((zI_n (by decide)).trans ((zI_n (by decide)).trans ((zI_n (by decide)).trans (zI_n (by decide)))))) ?_
  refine zx_if_eq (tgt := 48) h0 dX6_grid_42 (by decide) (fun q => ?_) (fun q => ?_)
  · replace h := h.1 q
    refine zx_aload_n h0 0 dX6_grid_48 rfl ?_
    refine zx_iconst (v := 0) h0 dX6_grid_49 (by decide) ?_
    refine zp_625 hF ka0 zi_X6_grid_6 zn_X6_grid_167 dX6_grid_50 ?_
    refine zx_aload_n h0 0 dX6_grid_53 rfl ?_
    refine zx_iconst (v := (-1)) h0 dX6_grid_54 (by decide) ?_
    refine zp_631 hF ka0 zi_X6_grid_6 zn_X6_grid_190 dX6_grid_55 ?_
    refine zx_aload_n h0 0 dX6_grid_58 rfl ?_
    refine zx_iconst (v := 0) h0 dX6_grid_59 (by decide) ?_
    refine zp_632 hF ka0 zi_X6_grid_6 zn_X6_grid_193 dX6_grid_60 ?_
    refine zx_aload_n h0 0 dX6_grid_63 rfl ?_
    refine zx_iconst (v := 0) h0 dX6_grid_64 (by decide) ?_
    refine zp_634 hF ka0 zi_X6_grid_6 zn_X6_grid_209 dX6_grid_65 ?_
    refine zx_iconst (v := 1) h0 dX6_grid_68 (by decide) ?_
    refine zx_istore_n (L' := [(1, .int 1), (0, .ref a0)]) h0 dX6_grid_69 (by decide) rfl ?_
    refine zx_aload_n h0 1 dX6_grid_70 rfl ?_
    obtain ⟨ho1, h⟩ := h
    refine zx_callVv (As := []) (rest := []) hF (c_X6_next a0 (zsI (zsI (zsI (zsI (zsI (zsI (zsI (zsI (zsI m 600 a0 0 0) 626 a0 0 (zI m 1602 a0 0)) 1602 a0 0 0) 1603 a0 0 0) 1604 a0 0 (-1)) 625 a0 0 0) 631 a0 0 (-1)) 632 a0 0 0) 634 a0 0 0) ka0 ho1) (zc_X6_grid_X6_next S) ka0 (by decide) rfl dX6_grid_71 rfl rfl (Nat.le_of_ble_eq_true rfl) ⟨Nat.zero_le _, Nat.zero_le _⟩ (fun m2 hq => ?_)
    replace h := h m2 hq
    exact zx_sub [1, 0] rfl h
  · replace h := h.2 q
    refine zx_bipush (v := (-2)) h0 dX6_grid_45 (by decide) ?_
    exact zx_iret hF hQ dX6_grid_47 h
set_option maxRecDepth 100000 in
set_option maxHeartbeats 4000000 in
theorem sg_X6_grid_74 {C : zC} {G : zG} {Qc : Array Value → State → Outcome → State → Prop} (S : St_X6_grid C G Qc) {P_X6_oneLine : Nat → zM → Prop} {Q_X6_oneLine : Nat → zM → Int32 → zM → Prop} (c_X6_oneLine : Con_X6_oneLine (zl C) G P_X6_oneLine Q_X6_oneLine) {a0 : Nat} {x1 : Int32} {m : zM} (ka0 : zK G a0 = some (6, a0))
    (h : (x1 = 0 → (Pt_X6_grid_93 C G a0 x1 m)) ∧ (¬ x1 = 0 → (((zI m 628 a0 0) = 0 → (Pt_X6_grid_93 C G a0 x1 m)) ∧ (¬ (zI m 628 a0 0) = 0 → ((P_X6_oneLine a0 m) ∧ (∀ (r2 : Int32) (m2 : zM), Q_X6_oneLine a0 m r2 m2 → (Pt_X6_grid_74 C G a0 r2 m2))))))) : Pt_X6_grid_74 C G a0 x1 m := by
  obtain ⟨hF, hQ, hR⟩ := id S
  have h0 : zF0 C cX6_grid 2 wsX6_grid RX6 := hF.1
  have hL := hF.2.2.1
  unfold Pt_X6_grid_74
  refine zx_iload_n h0 1 dX6_grid_74 rfl ?_
  refine zx_if_eq (tgt := 93) h0 dX6_grid_75 (by decide) (fun q => ?_) (fun q => ?_)
  · replace h := h.1 q
    exact zx_sub [0, 1] rfl h
  · replace h := h.2 q
    refine zx_aload_n h0 0 dX6_grid_78 rfl ?_
    refine zx_get hF ka0 (by decide) rfl zi_X6_grid_6 28 (by decide) zn_X6_grid_187 rfl rfl dX6_grid_79 ?_
    refine zx_if_eq (tgt := 93) h0 dX6_grid_82 (by decide) (fun q => ?_) (fun q => ?_)
    · replace h := h.1 q
      exact zx_sub [0, 1] rfl h
    · replace h := h.2 q
      refine zx_aload_n h0 0 dX6_grid_85 rfl ?_
      obtain ⟨ho1, h⟩ := h
      refine zx_callVi (As := []) (rest := []) hF (c_X6_oneLine a0 m ka0 ho1) (zc_X6_grid_X6_oneLine S) ka0 (by decide) rfl dX6_grid_86 rfl rfl (Nat.le_of_ble_eq_true rfl) ⟨Nat.zero_le _, Nat.zero_le _⟩ (fun r2 m2 hq => ?_)
      replace h := h r2 m2 hq
      refine zx_istore_n (L' := [(1, .int r2), (0, .ref a0)]) h0 dX6_grid_89 (by decide) rfl ?_
      refine zx_goto (tgt := 74) h0 dX6_grid_90 (by decide) ?_
      exact zx_sub [1, 0] rfl h
set_option maxRecDepth 100000 in
set_option maxHeartbeats 4000000 in
theorem sg_X6_grid_93 {C : zC} {G : zG} {Qc : Array Value → State → Outcome → State → Prop} (S : St_X6_grid C G Qc) {P_X6_keepGrid : Nat → zM → Prop} {Q_X6_keepGrid : Nat → zM → zM → Prop} (c_X6_keepGrid : Con_X6_keepGrid (zl C) G P_X6_keepGrid Q_X6_keepGrid) {P_X6_setGrid : Nat → zM → Prop} {Q_X6_setGrid : Nat → zM → zM → Prop} (c_X6_setGrid : Con_X6_setGrid (zl C) G P_X6_setGrid Q_X6_setGrid) {P_X6_holds : Nat → zM → Prop} {Q_X6_holds : Nat → zM → Int32 → Prop} (c_X6_holds : Con_X6_holds (zl C) G P_X6_holds Q_X6_holds) {P_X6_oldGrid : Nat → zM → Prop} {Q_X6_oldGrid : Nat → zM → zM → Prop} (c_X6_oldGrid : Con_X6_oldGrid (zl C) G P_X6_oldGrid Q_X6_oldGrid) {a0 : Nat} {x1 : Int32} {m : zM} (ka0 : zK G a0 = some (6, a0))
    (h : (¬ x1 = 0 → (((zI m 632 a0 0) ≤ 0 → ((P_X6_keepGrid a0 m) ∧ (∀ (m2 : zM), Q_X6_keepGrid a0 m m2 → ((P_X6_setGrid a0 m2) ∧ (∀ (m4 : zM), Q_X6_setGrid a0 m2 m4 → ((P_X6_holds a0 m4) ∧ (∀ (r6 : Int32), Q_X6_holds a0 m4 r6 → ((r6 = 0 → ((P_X6_oldGrid a0 m4) ∧ (∀ (m8 : zM), Q_X6_oldGrid a0 m4 m8 → (zRet C G Qc (some (.int (-2))) m8)))) ∧ (¬ r6 = 0 → (zRet C G Qc (some (.int (zI m4 634 a0 0))) m4)))))))))) ∧ (¬ (zI m 632 a0 0) ≤ 0 → (zRet C G Qc (some (.int (-1))) (zsI (zsI m 1603 a0 0 (zI m 632 a0 0)) 1604 a0 0 (zI m 633 a0 0)))))) ∧ (x1 = 0 → (zRet C G Qc (some (.int (-1))) (zsI (zsI m 1603 a0 0 1) 1604 a0 0 (zI m 631 a0 0))))) : Pt_X6_grid_93 C G a0 x1 m := by
  obtain ⟨hF, hQ, hR⟩ := id S
  have h0 : zF0 C cX6_grid 2 wsX6_grid RX6 := hF.1
  have hL := hF.2.2.1
  unfold Pt_X6_grid_93
  refine zx_iload_n h0 1 dX6_grid_93 rfl ?_
  refine zx_if_ne (tgt := 116) h0 dX6_grid_94 (by decide) (fun q => ?_) (fun q => ?_)
  · replace h := h.1 q
    refine zx_aload_n h0 0 dX6_grid_116 rfl ?_
    refine zx_get hF ka0 (by decide) rfl zi_X6_grid_6 32 (by decide) zn_X6_grid_193 rfl rfl dX6_grid_117 ?_
    refine zx_if_le (tgt := 145) h0 dX6_grid_120 (by decide) (fun q => ?_) (fun q => ?_)
    · replace h := h.1 q
      refine zx_aload_n h0 0 dX6_grid_145 rfl ?_
      obtain ⟨ho1, h⟩ := h
      refine zx_callVv (As := []) (rest := []) hF (c_X6_keepGrid a0 m ka0 ho1) (zc_X6_grid_X6_keepGrid S) ka0 (by decide) rfl dX6_grid_146 rfl rfl (Nat.le_of_ble_eq_true rfl) ⟨Nat.zero_le _, Nat.zero_le _⟩ (fun m2 hq => ?_)
      replace h := h m2 hq
      refine zx_aload_n h0 0 dX6_grid_149 rfl ?_
      obtain ⟨ho3, h⟩ := h
      refine zx_callVv (As := []) (rest := []) hF (c_X6_setGrid a0 m2 ka0 ho3) (zc_X6_grid_X6_setGrid S) ka0 (by decide) rfl dX6_grid_150 rfl rfl (Nat.le_of_ble_eq_true rfl) ⟨Nat.zero_le _, Nat.zero_le _⟩ (fun m4 hq => ?_)
      replace h := h m4 hq
      refine zx_aload_n h0 0 dX6_grid_153 rfl ?_
      obtain ⟨ho5, h⟩ := h
      refine zx_callVi (As := []) (rest := []) hF (c_X6_holds a0 m4 ka0 ho5) (zc_X6_grid_X6_holds S) ka0 (by decide) rfl dX6_grid_154 rfl rfl (Nat.le_of_ble_eq_true rfl) ⟨Nat.zero_le _, Nat.zero_le _⟩ (fun r6 m6 hq => ?_)
      obtain ⟨hme, hq⟩ := hq
      subst m6
      replace h := h r6 hq
      refine zx_if_eq (tgt := 165) h0 dX6_grid_157 (by decide) (fun q => ?_) (fun q => ?_)
      · replace h := h.1 q
        refine zx_aload_n h0 0 dX6_grid_165 rfl ?_
        obtain ⟨ho7, h⟩ := h
        refine zx_callVv (As := []) (rest := []) hF (c_X6_oldGrid a0 m4 ka0 ho7) (zc_X6_grid_X6_oldGrid S) ka0 (by decide) rfl dX6_grid_166 rfl rfl (Nat.le_of_ble_eq_true rfl) ⟨Nat.zero_le _, Nat.zero_le _⟩ (fun m8 hq => ?_)
        replace h := h m8 hq
        refine zx_bipush (v := (-2)) h0 dX6_grid_169 (by decide) ?_
        exact zx_iret hF hQ dX6_grid_171 h
      · replace h := h.2 q
        refine zx_aload_n h0 0 dX6_grid_160 rfl ?_
        refine zx_get hF ka0 (by decide) rfl zi_X6_grid_6 34 (by decide) zn_X6_grid_209 rfl rfl dX6_grid_161 ?_
        exact zx_iret hF hQ dX6_grid_164 h
    · replace h := h.2 q
      refine zx_aload_n h0 0 dX6_grid_123 rfl ?_
      refine zx_get hF ka0 (by decide) rfl zi_X6_grid_6 3 (by decide) zn_X6_grid_17 rfl rfl dX6_grid_124 ?_
      refine zx_iconst (v := 0) h0 dX6_grid_127 (by decide) ?_
      refine zx_aload_n h0 0 dX6_grid_128 rfl ?_
      refine zx_get hF ka0 (by decide) rfl zi_X6_grid_6 32 (by decide) zn_X6_grid_193 rfl rfl dX6_grid_129 ?_
      refine zx_iast (j := 0) hF (zL_6_3 hL ka0) (by decide) rfl rfl (by unfold vp_in; decide) (by decide) rfl (z_fit rfl) dX6_grid_132 ?_
      refine zx_aload_n h0 0 dX6_grid_133 rfl ?_
      refine zx_get hF ka0 (by decide) rfl zi_X6_grid_6 4 (by decide) zn_X6_grid_20 rfl rfl dX6_grid_134 ?_
      refine zx_iconst (v := 0) h0 dX6_grid_137 (by decide) ?_
      refine zx_aload_n h0 0 dX6_grid_138 rfl ?_
      refine zx_get hF ka0 (by decide) rfl zi_X6_grid_6 33 (by decide) zn_X6_grid_196 rfl rfl dX6_grid_139 ?_
      refine zx_topI (zI_n (by decide)) ?_
      refine zx_iast (j := 0) hF (zL_6_4 hL ka0) (by decide) rfl rfl (by unfold vp_in; decide) (by decide) rfl (z_fit rfl) dX6_grid_142 ?_
      refine zx_iconst (v := (-1)) h0 dX6_grid_143 (by decide) ?_
      exact zx_iret hF hQ dX6_grid_144 h
  · replace h := h.2 q
    refine zx_aload_n h0 0 dX6_grid_97 rfl ?_
    refine zx_get hF ka0 (by decide) rfl zi_X6_grid_6 3 (by decide) zn_X6_grid_17 rfl rfl dX6_grid_98 ?_
    refine zx_iconst (v := 0) h0 dX6_grid_101 (by decide) ?_
    refine zx_iconst (v := 1) h0 dX6_grid_102 (by decide) ?_
    refine zx_iast (j := 0) hF (zL_6_3 hL ka0) (by decide) rfl rfl (by unfold vp_in; decide) (by decide) rfl (z_fit rfl) dX6_grid_103 ?_
    refine zx_aload_n h0 0 dX6_grid_104 rfl ?_
    refine zx_get hF ka0 (by decide) rfl zi_X6_grid_6 4 (by decide) zn_X6_grid_20 rfl rfl dX6_grid_105 ?_
    refine zx_iconst (v := 0) h0 dX6_grid_108 (by decide) ?_
    refine zx_aload_n h0 0 dX6_grid_109 rfl ?_
    refine zx_get hF ka0 (by decide) rfl zi_X6_grid_6 31 (by decide) zn_X6_grid_190 rfl rfl dX6_grid_110 ?_
    refine zx_topI (zI_n (by decide)) ?_
    refine zx_iast (j := 0) hF (zL_6_4 hL ka0) (by decide) rfl rfl (by unfold vp_in; decide) (by decide) rfl (z_fit rfl) dX6_grid_113 ?_
    refine zx_iconst (v := (-1)) h0 dX6_grid_114 (by decide) ?_
    exact zx_iret hF hQ dX6_grid_115 h
theorem zn_X6_fault_129 : Cond.fieldLink RX6 129 RX6 (TX6 0).2.1 (TX6 0).2.2.1 ∈ wsX6_fault := List.mem_of_getElem? (i := 1) rfl
theorem zi_X6_fault_6 : ∀ w ∈ u_ws RX6 TX6 50, w ∈ wsX6_fault := fun _ h => List.mem_cons_of_mem _ (List.mem_append_right _ h)
theorem zn_X6_fault_20 : Cond.fieldLink RX6 20 RX6 (TX6 4).2.1 (TX6 4).2.2.1 ∈ wsX6_fault := List.mem_of_getElem? (i := 3) rfl
theorem zn_X6_fault_17 : Cond.fieldLink RX6 17 RX6 (TX6 3).2.1 (TX6 3).2.2.1 ∈ wsX6_fault := List.mem_of_getElem? (i := 2) rfl
set_option maxRecDepth 100000 in
set_option maxHeartbeats 4000000 in
theorem sg_X6_fault_0 {C : zC} {G : zG} {Qc : Array Value → State → Outcome → State → Prop} (S : St_X6_fault C G Qc) {a0 : Nat} {x1 : Int32} {m : zM} (ka0 : zK G a0 = some (6, a0))
    (h : (¬ x1 = 0 → ((¬ x1 = 1 → (zRet C G Qc (some (.int (-1))) (zsI m 600 a0 0 0))) ∧ (x1 = 1 → (zRet C G Qc (some (.int (zI m 1604 a0 0))) (zsI m 600 a0 0 0))))) ∧ (x1 = 0 → (zRet C G Qc (some (.int (zI m 1603 a0 0))) (zsI m 600 a0 0 0)))) : Pt_X6_fault_0 C G a0 x1 m := by
  obtain ⟨hF, hQ, hR⟩ := id S
  have h0 : zF0 C cX6_fault 2 wsX6_fault RX6 := hF.1
  have hL := hF.2.2.1
  unfold Pt_X6_fault_0
  refine zx_aload_n h0 0 dX6_fault_0 rfl ?_
  refine zx_iconst (v := 0) h0 dX6_fault_1 (by decide) ?_
  refine zp_600 hF ka0 zi_X6_fault_6 zn_X6_fault_129 dX6_fault_2 ?_
  refine zx_iload_n h0 1 dX6_fault_5 rfl ?_
  refine zx_if_ne (tgt := 18) h0 dX6_fault_6 (by decide) (fun q => ?_) (fun q => ?_)
  · replace h := h.1 q
    refine zx_iload_n h0 1 dX6_fault_18 rfl ?_
    refine zx_iconst (v := 1) h0 dX6_fault_19 (by decide) ?_
    refine zx_icmp_ne (tgt := 32) h0 dX6_fault_20 (by decide) (fun q => ?_) (fun q => ?_)
    · replace h := h.1 q
      refine zx_iconst (v := (-1)) h0 dX6_fault_32 (by decide) ?_
      exact zx_iret hF hQ dX6_fault_33 h
    · replace h := h.2 q
      refine zx_aload_n h0 0 dX6_fault_23 rfl ?_
      refine zx_get hF ka0 (by decide) rfl zi_X6_fault_6 4 (by decide) zn_X6_fault_20 rfl rfl dX6_fault_24 ?_
      refine zx_iconst (v := 0) h0 dX6_fault_27 (by decide) ?_
      refine zx_iald (j := 0) hF (zL_6_4 hL ka0) (by decide) rfl rfl (by unfold vp_in; decide) (by decide) dX6_fault_28 ?_
      refine zx_topI (zI_n (by decide)) ?_
      refine zx_goto (tgt := 33) h0 dX6_fault_29 (by decide) ?_
      exact zx_iret hF hQ dX6_fault_33 h
  · replace h := h.2 q
    refine zx_aload_n h0 0 dX6_fault_9 rfl ?_
    refine zx_get hF ka0 (by decide) rfl zi_X6_fault_6 3 (by decide) zn_X6_fault_17 rfl rfl dX6_fault_10 ?_
    refine zx_iconst (v := 0) h0 dX6_fault_13 (by decide) ?_
    refine zx_iald (j := 0) hF (zL_6_3 hL ka0) (by decide) rfl rfl (by unfold vp_in; decide) (by decide) dX6_fault_14 ?_
    refine zx_topI (zI_n (by decide)) ?_
    refine zx_goto (tgt := 33) h0 dX6_fault_15 (by decide) ?_
    exact zx_iret hF hQ dX6_fault_33 h
theorem zc_X6_canBe_X6_in {C : zC} {G : zG} {Qc : Array Value → State → Outcome → State → Prop} (S : St_X6_canBe C G Qc) : CallB (zRm C) (zs C) (zar C) RX6 145 yX6_in cX6_in 3 (some .boolean) wsX6_in rm_X6_in 0 0 3 ∧ (Cond.static yX6_in).before (zar C) (zs C) = true := cwS 3 S.1.1.2.2.2.2 gX6_canBe_X6_in rfl rfl rfl (by decide +kernel) (by rw [S.2.2]; exact ⟨Nat.le_of_ble_eq_true rfl, Nat.le_of_ble_eq_true rfl⟩)
set_option maxRecDepth 100000 in
set_option maxHeartbeats 4000000 in
theorem sg_X6_canBe_0 {C : zC} {G : zG} {Qc : Array Value → State → Outcome → State → Prop} (S : St_X6_canBe C G Qc) {P_X6_in : Int32 → Int32 → Int32 → zM → Prop} {Q_X6_in : Int32 → Int32 → Int32 → zM → Int32 → Prop} (c_X6_in : Con_X6_in (zl C) G P_X6_in Q_X6_in) {x0 : Int32} {x1 : Int32} {x2 : Int32} {x3 : Int32} {m : zM}
    (h : (P_X6_in x0 0 3 m) ∧ (∀ (r2 : Int32), Q_X6_in x0 0 3 m r2 → ((r2 = 0 → (zRet C G Qc (some (.int 0)) m)) ∧ (¬ r2 = 0 → ((P_X6_in x1 0 60 m) ∧ (∀ (r4 : Int32), Q_X6_in x1 0 60 m r4 → ((r4 = 0 → (zRet C G Qc (some (.int 0)) m)) ∧ (¬ r4 = 0 → ((P_X6_in x2 0 999 m) ∧ (∀ (r6 : Int32), Q_X6_in x2 0 999 m r6 → ((r6 = 0 → (zRet C G Qc (some (.int 0)) m)) ∧ (¬ r6 = 0 → ((P_X6_in x3 0 63 m) ∧ (∀ (r8 : Int32), Q_X6_in x3 0 63 m r8 → ((r8 = 0 → (zRet C G Qc (some (.int 0)) m)) ∧ (¬ r8 = 0 → (zRet C G Qc (some (.int 1)) m))))))))))))))))) : Pt_X6_canBe_0 C G x0 x1 x2 x3 m := by
  obtain ⟨hF, hQ, hR⟩ := id S
  have h0 : zF0 C cX6_canBe 4 wsX6_canBe RX6 := hF.1
  have hL := hF.2.2.1
  unfold Pt_X6_canBe_0
  refine zx_iload_n h0 0 dX6_canBe_0 rfl ?_
  refine zx_iconst (v := 0) h0 dX6_canBe_1 (by decide) ?_
  refine zx_iconst (v := 3) h0 dX6_canBe_2 (by decide) ?_
  obtain ⟨ho1, h⟩ := h
  refine zx_callSi (As := [.int x0, .int 0, .int 3]) (rest := []) hF (c_X6_in x0 0 3 m  ho1) (zc_X6_canBe_X6_in S)  dX6_canBe_3 rfl rfl (Nat.le_of_ble_eq_true rfl) ⟨Nat.zero_le _, Nat.zero_le _⟩ (fun r2 m2 hq => ?_)
  obtain ⟨hme, hq⟩ := hq
  subst m2
  replace h := h r2 hq
  refine zx_if_eq (tgt := 44) h0 dX6_canBe_6 (by decide) (fun q => ?_) (fun q => ?_)
  · replace h := h.1 q
    refine zx_iconst (v := 0) h0 dX6_canBe_44 (by decide) ?_
    exact zx_zret hF hQ rfl dX6_canBe_45 h
  · replace h := h.2 q
    refine zx_iload_n h0 1 dX6_canBe_9 rfl ?_
    refine zx_iconst (v := 0) h0 dX6_canBe_10 (by decide) ?_
    refine zx_bipush (v := 60) h0 dX6_canBe_11 (by decide) ?_
    obtain ⟨ho3, h⟩ := h
    refine zx_callSi (As := [.int x1, .int 0, .int 60]) (rest := []) hF (c_X6_in x1 0 60 m  ho3) (zc_X6_canBe_X6_in S)  dX6_canBe_13 rfl rfl (Nat.le_of_ble_eq_true rfl) ⟨Nat.zero_le _, Nat.zero_le _⟩ (fun r4 m4 hq => ?_)
    obtain ⟨hme, hq⟩ := hq
    subst m4
    replace h := h r4 hq
    refine zx_if_eq (tgt := 44) h0 dX6_canBe_16 (by decide) (fun q => ?_) (fun q => ?_)
    · replace h := h.1 q
      refine zx_iconst (v := 0) h0 dX6_canBe_44 (by decide) ?_
      exact zx_zret hF hQ rfl dX6_canBe_45 h
    · replace h := h.2 q
      refine zx_iload_n h0 2 dX6_canBe_19 rfl ?_
      refine zx_iconst (v := 0) h0 dX6_canBe_20 (by decide) ?_
      refine zx_sipush (v := 999) h0 dX6_canBe_21 (by decide) ?_
      obtain ⟨ho5, h⟩ := h
      refine zx_callSi (As := [.int x2, .int 0, .int 999]) (rest := []) hF (c_X6_in x2 0 999 m  ho5) (zc_X6_canBe_X6_in S)  dX6_canBe_24 rfl rfl (Nat.le_of_ble_eq_true rfl) ⟨Nat.zero_le _, Nat.zero_le _⟩ (fun r6 m6 hq => ?_)
      obtain ⟨hme, hq⟩ := hq
      subst m6
      replace h := h r6 hq
      refine zx_if_eq (tgt := 44) h0 dX6_canBe_27 (by decide) (fun q => ?_) (fun q => ?_)
      · replace h := h.1 q
        refine zx_iconst (v := 0) h0 dX6_canBe_44 (by decide) ?_
        exact zx_zret hF hQ rfl dX6_canBe_45 h
      · replace h := h.2 q
        refine zx_iload_n h0 3 dX6_canBe_30 rfl ?_
        refine zx_iconst (v := 0) h0 dX6_canBe_31 (by decide) ?_
        refine zx_bipush (v := 63) h0 dX6_canBe_32 (by decide) ?_
        obtain ⟨ho7, h⟩ := h
        refine zx_callSi (As := [.int x3, .int 0, .int 63]) (rest := []) hF (c_X6_in x3 0 63 m  ho7) (zc_X6_canBe_X6_in S)  dX6_canBe_34 rfl rfl (Nat.le_of_ble_eq_true rfl) ⟨Nat.zero_le _, Nat.zero_le _⟩ (fun r8 m8 hq => ?_)
        obtain ⟨hme, hq⟩ := hq
        subst m8
        replace h := h r8 hq
        refine zx_if_eq (tgt := 44) h0 dX6_canBe_37 (by decide) (fun q => ?_) (fun q => ?_)
        · replace h := h.1 q
          refine zx_iconst (v := 0) h0 dX6_canBe_44 (by decide) ?_
          exact zx_zret hF hQ rfl dX6_canBe_45 h
        · replace h := h.2 q
          refine zx_iconst (v := 1) h0 dX6_canBe_40 (by decide) ?_
          refine zx_goto (tgt := 45) h0 dX6_canBe_41 (by decide) ?_
          exact zx_zret hF hQ rfl dX6_canBe_45 h
theorem zn_X6_claim_129 : Cond.fieldLink RX6 129 RX6 (TX6 0).2.1 (TX6 0).2.2.1 ∈ wsX6_claim := List.mem_of_getElem? (i := 1) rfl
theorem zi_X6_claim_6 : ∀ w ∈ u_ws RX6 TX6 50, w ∈ wsX6_claim := fun _ h => List.mem_cons_of_mem _ (List.mem_append_right _ h)
theorem zn_X6_claim_27 : Cond.fieldLink RX6 27 RX6 (TX6 6).2.1 (TX6 6).2.2.1 ∈ wsX6_claim := List.mem_of_getElem? (i := 2) rfl
theorem zn_X6_claim_33 : Cond.fieldLink RX6 33 RX6 (TX6 8).2.1 (TX6 8).2.2.1 ∈ wsX6_claim := List.mem_of_getElem? (i := 3) rfl
theorem zn_X6_claim_37 : Cond.fieldLink RX6 37 RX6 (TX6 9).2.1 (TX6 9).2.2.1 ∈ wsX6_claim := List.mem_of_getElem? (i := 4) rfl
theorem zn_X6_claim_40 : Cond.fieldLink RX6 40 RX6 (TX6 10).2.1 (TX6 10).2.2.1 ∈ wsX6_claim := List.mem_of_getElem? (i := 5) rfl
theorem zn_X6_claim_43 : Cond.fieldLink RX6 43 RX6 (TX6 11).2.1 (TX6 11).2.2.1 ∈ wsX6_claim := List.mem_of_getElem? (i := 6) rfl
theorem zn_X6_claim_46 : Cond.fieldLink RX6 46 RX6 (TX6 12).2.1 (TX6 12).2.2.1 ∈ wsX6_claim := List.mem_of_getElem? (i := 7) rfl
theorem zc_X6_claim_X6_in {C : zC} {G : zG} {Qc : Array Value → State → Outcome → State → Prop} (S : St_X6_claim C G Qc) : CallB (zRm C) (zs C) (zar C) RX6 145 yX6_in cX6_in 3 (some .boolean) wsX6_in rm_X6_in 0 0 3 ∧ (Cond.static yX6_in).before (zar C) (zs C) = true := cwS 3 S.1.1.2.2.2.2 gX6_claim_X6_in rfl rfl rfl (by decide +kernel) (by rw [S.2.2]; exact ⟨Nat.le_of_ble_eq_true rfl, Nat.le_of_ble_eq_true rfl⟩)
theorem zc_X6_claim_X6_canBe {C : zC} {G : zG} {Qc : Array Value → State → Outcome → State → Prop} (S : St_X6_claim C G Qc) : CallB (zRm C) (zs C) (zar C) RX6 303 yX6_canBe cX6_canBe 4 (some .boolean) wsX6_canBe rm_X6_canBe 0 0 4 ∧ (Cond.static yX6_canBe).before (zar C) (zs C) = true := cwS 4 S.1.1.2.2.2.2 gX6_claim_X6_canBe rfl rfl rfl (by decide +kernel) (by rw [S.2.2]; exact ⟨Nat.le_of_ble_eq_true rfl, Nat.le_of_ble_eq_true rfl⟩)
theorem zc_X6_claim_X6_holds {C : zC} {G : zG} {Qc : Array Value → State → Outcome → State → Prop} (S : St_X6_claim C G Qc) : CallW (zRm C) (zs C) (zar C) RX6 RX6 261 yX6_holds cX6_holds 4 (some .boolean) wsX6_holds rm_X6_holds 0 0 0 := cwV 0 S.1.1.2.2.2.2 gX6_claim_X6_holds rfl rfl rfl (by decide +kernel) (by rw [S.2.2]; exact ⟨Nat.le_of_ble_eq_true rfl, Nat.le_of_ble_eq_true rfl⟩)
set_option maxRecDepth 100000 in
set_option maxHeartbeats 4000000 in
theorem sg_X6_claim_0 {C : zC} {G : zG} {Qc : Array Value → State → Outcome → State → Prop} (S : St_X6_claim C G Qc) {P_X6_in : Int32 → Int32 → Int32 → zM → Prop} {Q_X6_in : Int32 → Int32 → Int32 → zM → Int32 → Prop} (c_X6_in : Con_X6_in (zl C) G P_X6_in Q_X6_in) {P_X6_canBe : Int32 → Int32 → Int32 → Int32 → zM → Prop} {Q_X6_canBe : Int32 → Int32 → Int32 → Int32 → zM → Int32 → Prop} (c_X6_canBe : Con_X6_canBe (zl C) G P_X6_canBe Q_X6_canBe) {a0 : Nat} {x1 : Int32} {x2 : Int32} {x3 : Int32} {x4 : Int32} {x5 : Int32} {m : zM} (ka0 : zK G a0 = some (6, a0))
    (h : ((zI m 1606 a0 0) = 16 → (zRet C G Qc (some (.int (-1))) (zsI m 600 a0 0 0))) ∧ (¬ (zI m 1606 a0 0) = 16 → ((P_X6_in x1 0 99 (zsI m 600 a0 0 0)) ∧ (∀ (r2 : Int32), Q_X6_in x1 0 99 (zsI m 600 a0 0 0) r2 → ((r2 = 0 → (zRet C G Qc (some (.int (-1))) (zsI m 600 a0 0 0))) ∧ (¬ r2 = 0 → ((P_X6_canBe x2 x3 x4 x5 (zsI m 600 a0 0 0)) ∧ (∀ (r4 : Int32), Q_X6_canBe x2 x3 x4 x5 (zsI m 600 a0 0 0) r4 → ((r4 = 0 → (zRet C G Qc (some (.int (-1))) (zsI m 600 a0 0 0))) ∧ (¬ r4 = 0 → (((zI m 1608 a0 0) = 0 → ((vp_in (10 * (zI m 1606 a0 0)) 640) ∧ ((vp_in ((10 * (zI m 1606 a0 0)) + 1) 640) ∧ ((vp_in ((10 * (zI m 1606 a0 0)) + 2) 640) ∧ ((vp_in ((10 * (zI m 1606 a0 0)) + 3) 640) ∧ ((vp_in ((10 * (zI m 1606 a0 0)) + 4) 640) ∧ (Pt_X6_claim_125 C G a0 (zI m 1606 a0 0) 5 (zsI (zsI (zsI (zsI (zsI (zsI m 600 a0 0 0) 1609 a0 ((10 * (zI m 1606 a0 0)).toNatClampNeg) x1) 1609 a0 (((10 * (zI m 1606 a0 0)) + 1).toNatClampNeg) x2) 1609 a0 (((10 * (zI m 1606 a0 0)) + 2).toNatClampNeg) x3) 1609 a0 (((10 * (zI m 1606 a0 0)) + 3).toNatClampNeg) x4) 1609 a0 (((10 * (zI m 1606 a0 0)) + 4).toNatClampNeg) x5)))))))) ∧ (¬ (zI m 1608 a0 0) = 0 → (zRet C G Qc (some (.int (-1))) (zsI m 600 a0 0 0)))))))))))))) : Pt_X6_claim_0 C G a0 x1 x2 x3 x4 x5 m := by
  obtain ⟨hF, hQ, hR⟩ := id S
  have h0 : zF0 C cX6_claim 8 wsX6_claim RX6 := hF.1
  have hL := hF.2.2.1
  unfold Pt_X6_claim_0
  refine zx_aload_n h0 0 dX6_claim_0 rfl ?_
  refine zx_iconst (v := 0) h0 dX6_claim_1 (by decide) ?_
  refine zp_600 hF ka0 zi_X6_claim_6 zn_X6_claim_129 dX6_claim_2 ?_
  refine zx_aload_n h0 0 dX6_claim_5 rfl ?_
  refine zx_get hF ka0 (by decide) rfl zi_X6_claim_6 6 (by decide) zn_X6_claim_27 rfl rfl dX6_claim_6 ?_
  refine zx_iconst (v := 0) h0 dX6_claim_9 (by decide) ?_
  refine zx_iald (j := 0) hF (zL_6_6 hL ka0) (by decide) rfl rfl (by unfold vp_in; decide) (by decide) dX6_claim_10 ?_
  refine zx_topI (zI_n (by decide)) ?_
  refine zx_bipush (v := 16) h0 dX6_claim_11 (by decide) ?_
  refine zx_icmp_eq (tgt := 47) h0 dX6_claim_13 (by decide) (fun q => ?_) (fun q => ?_)
  · replace h := h.1 q
    refine zx_iconst (v := (-1)) h0 dX6_claim_47 (by decide) ?_
    exact zx_iret hF hQ dX6_claim_48 h
  · replace h := h.2 q
    refine zx_iload_n h0 1 dX6_claim_16 rfl ?_
    refine zx_iconst (v := 0) h0 dX6_claim_17 (by decide) ?_
    refine zx_bipush (v := 99) h0 dX6_claim_18 (by decide) ?_
    obtain ⟨ho1, h⟩ := h
    refine zx_callSi (As := [.int x1, .int 0, .int 99]) (rest := []) hF (c_X6_in x1 0 99 (zsI m 600 a0 0 0)  ho1) (zc_X6_claim_X6_in S)  dX6_claim_20 rfl rfl (Nat.le_of_ble_eq_true rfl) ⟨Nat.zero_le _, Nat.zero_le _⟩ (fun r2 m2 hq => ?_)
    obtain ⟨hme, hq⟩ := hq
    subst m2
    replace h := h r2 hq
    refine zx_if_eq (tgt := 47) h0 dX6_claim_23 (by decide) (fun q => ?_) (fun q => ?_)
    · replace h := h.1 q
      refine zx_iconst (v := (-1)) h0 dX6_claim_47 (by decide) ?_
      exact zx_iret hF hQ dX6_claim_48 h
    · replace h := h.2 q
      refine zx_iload_n h0 2 dX6_claim_26 rfl ?_
      refine zx_iload_n h0 3 dX6_claim_27 rfl ?_
      refine zx_iload h0 4 dX6_claim_28 rfl ?_
      refine zx_iload h0 5 dX6_claim_30 rfl ?_
      obtain ⟨ho3, h⟩ := h
      refine zx_callSi (As := [.int x2, .int x3, .int x4, .int x5]) (rest := []) hF (c_X6_canBe x2 x3 x4 x5 (zsI m 600 a0 0 0)  ho3) (zc_X6_claim_X6_canBe S)  dX6_claim_32 rfl rfl (Nat.le_of_ble_eq_true rfl) ⟨Nat.zero_le _, Nat.zero_le _⟩ (fun r4 m4 hq => ?_)
      obtain ⟨hme, hq⟩ := hq
      subst m4
      replace h := h r4 hq
      refine zx_if_eq (tgt := 47) h0 dX6_claim_35 (by decide) (fun q => ?_) (fun q => ?_)
      · replace h := h.1 q
        refine zx_iconst (v := (-1)) h0 dX6_claim_47 (by decide) ?_
        exact zx_iret hF hQ dX6_claim_48 h
      · replace h := h.2 q
        refine zx_aload_n h0 0 dX6_claim_38 rfl ?_
        refine zx_get hF ka0 (by decide) rfl zi_X6_claim_6 8 (by decide) zn_X6_claim_33 rfl rfl dX6_claim_39 ?_
        refine zx_iconst (v := 0) h0 dX6_claim_42 (by decide) ?_
        refine zx_zald (j := 0) hF (zL_6_8 hL ka0) (by decide) rfl rfl (by unfold vp_in; decide) (by decide) dX6_claim_43 ?_
        refine zx_topI (zI_n (by decide)) ?_
        refine zx_if_eq (tgt := 49) h0 dX6_claim_44 (by decide) (fun q => ?_) (fun q => ?_)
        · replace h := h.1 q
          refine zx_aload_n h0 0 dX6_claim_49 rfl ?_
          refine zx_get hF ka0 (by decide) rfl zi_X6_claim_6 6 (by decide) zn_X6_claim_27 rfl rfl dX6_claim_50 ?_
          refine zx_iconst (v := 0) h0 dX6_claim_53 (by decide) ?_
          refine zx_iald (j := 0) hF (zL_6_6 hL ka0) (by decide) rfl rfl (by unfold vp_in; decide) (by decide) dX6_claim_54 ?_
          refine zx_topI (zI_n (by decide)) ?_
          refine zx_istore (L' := [(6, .int (zI m 1606 a0 0)), (0, .ref a0), (1, .int x1), (2, .int x2), (3, .int x3), (4, .int x4), (5, .int x5)]) h0 dX6_claim_55 (by decide) rfl ?_
          refine zx_aload_n h0 1 dX6_claim_57 rfl ?_
          refine zx_get hF ka0 (by decide) rfl zi_X6_claim_6 9 (by decide) zn_X6_claim_37 rfl rfl dX6_claim_58 ?_
          refine zx_bipush (v := 10) h0 dX6_claim_61 (by decide) ?_
          refine zx_iload h0 0 dX6_claim_63 rfl ?_
          refine zx_imul h0 dX6_claim_65 ?_
          refine zx_iload_n h0 2 dX6_claim_66 rfl ?_
          obtain ⟨ho5, h⟩ := h
          refine zx_iast (j := (10 * (zI m 1606 a0 0)).toNatClampNeg) hF (zL_6_9 hL ka0) (by decide) rfl rfl ho5 rfl rfl (z_fit rfl) dX6_claim_67 ?_
          refine zx_aload_n h0 1 dX6_claim_68 rfl ?_
          refine zx_get hF ka0 (by decide) rfl zi_X6_claim_6 9 (by decide) zn_X6_claim_37 rfl rfl dX6_claim_69 ?_
          refine zx_bipush (v := 10) h0 dX6_claim_72 (by decide) ?_
          refine zx_iload h0 0 dX6_claim_74 rfl ?_
          refine zx_imul h0 dX6_claim_76 ?_
          refine zx_iconst (v := 1) h0 dX6_claim_77 (by decide) ?_
          refine zx_iadd h0 dX6_claim_78 ?_
          refine zx_iload_n h0 3 dX6_claim_79 rfl ?_
          obtain ⟨ho6, h⟩ := h
          refine zx_iast (j := ((10 * (zI m 1606 a0 0)) + 1).toNatClampNeg) hF (zL_6_9 hL ka0) (by decide) rfl rfl ho6 rfl rfl (z_fit rfl) dX6_claim_80 ?_
          refine zx_aload_n h0 1 dX6_claim_81 rfl ?_
          refine zx_get hF ka0 (by decide) rfl zi_X6_claim_6 9 (by decide) zn_X6_claim_37 rfl rfl dX6_claim_82 ?_
          refine zx_bipush (v := 10) h0 dX6_claim_85 (by decide) ?_
          refine zx_iload h0 0 dX6_claim_87 rfl ?_
          refine zx_imul h0 dX6_claim_89 ?_
          refine zx_iconst (v := 2) h0 dX6_claim_90 (by decide) ?_
          refine zx_iadd h0 dX6_claim_91 ?_
          refine zx_iload_n h0 4 dX6_claim_92 rfl ?_
          obtain ⟨ho7, h⟩ := h
          refine zx_iast (j := ((10 * (zI m 1606 a0 0)) + 2).toNatClampNeg) hF (zL_6_9 hL ka0) (by decide) rfl rfl ho7 rfl rfl (z_fit rfl) dX6_claim_93 ?_
          refine zx_aload_n h0 1 dX6_claim_94 rfl ?_
          refine zx_get hF ka0 (by decide) rfl zi_X6_claim_6 9 (by decide) zn_X6_claim_37 rfl rfl dX6_claim_95 ?_
          refine zx_bipush (v := 10) h0 dX6_claim_98 (by decide) ?_
          refine zx_iload h0 0 dX6_claim_100 rfl ?_
          refine zx_imul h0 dX6_claim_102 ?_
          refine zx_iconst (v := 3) h0 dX6_claim_103 (by decide) ?_
          refine zx_iadd h0 dX6_claim_104 ?_
          refine zx_iload h0 5 dX6_claim_105 rfl ?_
          obtain ⟨ho8, h⟩ := h
          refine zx_iast (j := ((10 * (zI m 1606 a0 0)) + 3).toNatClampNeg) hF (zL_6_9 hL ka0) (by decide) rfl rfl ho8 rfl rfl (z_fit rfl) dX6_claim_107 ?_
          refine zx_aload_n h0 1 dX6_claim_108 rfl ?_
          refine zx_get hF ka0 (by decide) rfl zi_X6_claim_6 9 (by decide) zn_X6_claim_37 rfl rfl dX6_claim_109 ?_
          refine zx_bipush (v := 10) h0 dX6_claim_112 (by decide) ?_
          refine zx_iload h0 0 dX6_claim_114 rfl ?_
          refine zx_imul h0 dX6_claim_116 ?_
          refine zx_iconst (v := 4) h0 dX6_claim_117 (by decide) ?_
          refine zx_iadd h0 dX6_claim_118 ?_
          refine zx_iload h0 6 dX6_claim_119 rfl ?_
          obtain ⟨ho9, h⟩ := h
          refine zx_iast (j := ((10 * (zI m 1606 a0 0)) + 4).toNatClampNeg) hF (zL_6_9 hL ka0) (by decide) rfl rfl ho9 rfl rfl (z_fit rfl) dX6_claim_121 ?_
          refine zx_iconst (v := 5) h0 dX6_claim_122 (by decide) ?_
          refine zx_istore (L' := [(7, .int 5), (6, .int (zI m 1606 a0 0)), (0, .ref a0), (1, .int x1), (2, .int x2), (3, .int x3), (4, .int x4), (5, .int x5)]) h0 dX6_claim_123 (by decide) rfl ?_
          exact zx_sub [2, 1, 0] rfl h
        · replace h := h.2 q
          refine zx_iconst (v := (-1)) h0 dX6_claim_47 (by decide) ?_
          exact zx_iret hF hQ dX6_claim_48 h
set_option maxRecDepth 100000 in
set_option maxHeartbeats 4000000 in
theorem sg_X6_claim_125 {C : zC} {G : zG} {Qc : Array Value → State → Outcome → State → Prop} (S : St_X6_claim C G Qc) {P_X6_holds : Nat → zM → Prop} {Q_X6_holds : Nat → zM → Int32 → Prop} (c_X6_holds : Con_X6_holds (zl C) G P_X6_holds Q_X6_holds) {a0 : Nat} {x6 : Int32} {x7 : Int32} {m : zM} (ka0 : zK G a0 = some (6, a0))
    (h : (10 ≤ x7 → ((vp_in x6 64) ∧ ((P_X6_holds a0 (zsI (zsJ (zsJ (zsJ m 1610 a0 x6.toNatClampNeg 0) 1611 a0 x6.toNatClampNeg 0) 1612 a0 x6.toNatClampNeg 0) 1606 a0 0 ((zI m 1606 a0 0) + 1))) ∧ (∀ (r3 : Int32), Q_X6_holds a0 (zsI (zsJ (zsJ (zsJ m 1610 a0 x6.toNatClampNeg 0) 1611 a0 x6.toNatClampNeg 0) 1612 a0 x6.toNatClampNeg 0) 1606 a0 0 ((zI m 1606 a0 0) + 1)) r3 → ((¬ r3 = 0 → (zRet C G Qc (some (.int x6)) (zsI (zsJ (zsJ (zsJ m 1610 a0 x6.toNatClampNeg 0) 1611 a0 x6.toNatClampNeg 0) 1612 a0 x6.toNatClampNeg 0) 1606 a0 0 ((zI m 1606 a0 0) + 1)))) ∧ (r3 = 0 → (zRet C G Qc (some (.int (-1))) (zsI (zsI (zsJ (zsJ (zsJ m 1610 a0 x6.toNatClampNeg 0) 1611 a0 x6.toNatClampNeg 0) 1612 a0 x6.toNatClampNeg 0) 1606 a0 0 ((zI m 1606 a0 0) + 1)) 1606 a0 0 (((zI m 1606 a0 0) + 1) - 1))))))))) ∧ (¬ 10 ≤ x7 → ((vp_in ((10 * x6) + x7) 640) ∧ (Pt_X6_claim_125 C G a0 x6 (x7 + 1) (zsI m 1609 a0 (((10 * x6) + x7).toNatClampNeg) 0))))) : Pt_X6_claim_125 C G a0 x6 x7 m := by
  obtain ⟨hF, hQ, hR⟩ := id S
  have h0 : zF0 C cX6_claim 8 wsX6_claim RX6 := hF.1
  have hL := hF.2.2.1
  unfold Pt_X6_claim_125
  refine zx_iload h0 2 dX6_claim_125 rfl ?_
  refine zx_bipush (v := 10) h0 dX6_claim_127 (by decide) ?_
  refine zx_icmp_ge (tgt := 152) h0 dX6_claim_129 (by decide) (fun q => ?_) (fun q => ?_)
  · replace h := h.1 q
    refine zx_aload_n h0 0 dX6_claim_152 rfl ?_
    refine zx_get hF ka0 (by decide) rfl zi_X6_claim_6 10 (by decide) zn_X6_claim_40 rfl rfl dX6_claim_153 ?_
    refine zx_iload h0 1 dX6_claim_156 rfl ?_
    refine zx_lconst (v := 0) h0 dX6_claim_158 (by decide) ?_
    obtain ⟨ho1, h⟩ := h
    refine zx_last (j := x6.toNatClampNeg) hF (zL_6_10 hL ka0) (by decide) rfl rfl ho1 rfl dX6_claim_159 ?_
    refine zx_aload_n h0 0 dX6_claim_160 rfl ?_
    refine zx_get hF ka0 (by decide) rfl zi_X6_claim_6 11 (by decide) zn_X6_claim_43 rfl rfl dX6_claim_161 ?_
    refine zx_iload h0 1 dX6_claim_164 rfl ?_
    refine zx_lconst (v := 0) h0 dX6_claim_166 (by decide) ?_
    refine zx_last (j := x6.toNatClampNeg) hF (zL_6_11 hL ka0) (by decide) rfl rfl ho1 rfl dX6_claim_167 ?_
    refine zx_aload_n h0 0 dX6_claim_168 rfl ?_
    refine zx_get hF ka0 (by decide) rfl zi_X6_claim_6 12 (by decide) zn_X6_claim_46 rfl rfl dX6_claim_169 ?_
    refine zx_iload h0 1 dX6_claim_172 rfl ?_
    refine zx_lconst (v := 0) h0 dX6_claim_174 (by decide) ?_
    refine zx_last (j := x6.toNatClampNeg) hF (zL_6_12 hL ka0) (by decide) rfl rfl ho1 rfl dX6_claim_175 ?_
    refine zx_aload_n h0 0 dX6_claim_176 rfl ?_
    refine zx_get hF ka0 (by decide) rfl zi_X6_claim_6 6 (by decide) zn_X6_claim_27 rfl rfl dX6_claim_177 ?_
    refine zx_iconst (v := 0) h0 dX6_claim_180 (by decide) ?_
    refine zx_dup2_11 h0 dX6_claim_181 rfl rfl ?_
    refine zx_iald (j := 0) hF (zL_6_6 hL ka0) (by decide) rfl rfl (by unfold vp_in; decide) (by decide) dX6_claim_182 ?_
    refine zx_topI ((zI_J).trans ((zI_J).trans (zI_J))) ?_
    refine zx_iconst (v := 1) h0 dX6_claim_183 (by decide) ?_
    refine zx_iadd h0 dX6_claim_184 ?_
    refine zx_iast (j := 0) hF (zL_6_6 hL ka0) (by decide) rfl rfl (by unfold vp_in; decide) (by decide) rfl (z_fit rfl) dX6_claim_185 ?_
    refine zx_aload_n h0 0 dX6_claim_186 rfl ?_
    obtain ⟨ho2, h⟩ := h
    refine zx_callVi (As := []) (rest := []) hF (c_X6_holds a0 (zsI (zsJ (zsJ (zsJ m 1610 a0 x6.toNatClampNeg 0) 1611 a0 x6.toNatClampNeg 0) 1612 a0 x6.toNatClampNeg 0) 1606 a0 0 ((zI m 1606 a0 0) + 1)) ka0 ho2) (zc_X6_claim_X6_holds S) ka0 (by decide) rfl dX6_claim_187 rfl rfl (Nat.le_of_ble_eq_true rfl) ⟨Nat.zero_le _, Nat.zero_le _⟩ (fun r3 m3 hq => ?_)
    obtain ⟨hme, hq⟩ := hq
    subst m3
    replace h := h r3 hq
    refine zx_if_ne (tgt := 205) h0 dX6_claim_190 (by decide) (fun q => ?_) (fun q => ?_)
    · replace h := h.1 q
      refine zx_iload h0 1 dX6_claim_205 rfl ?_
      exact zx_iret hF hQ dX6_claim_207 h
    · replace h := h.2 q
      refine zx_aload_n h0 0 dX6_claim_193 rfl ?_
      refine zx_get hF ka0 (by decide) rfl zi_X6_claim_6 6 (by decide) zn_X6_claim_27 rfl rfl dX6_claim_194 ?_
      refine zx_iconst (v := 0) h0 dX6_claim_197 (by decide) ?_
      refine zx_dup2_11 h0 dX6_claim_198 rfl rfl ?_
      refine zx_iald (j := 0) hF (zL_6_6 hL ka0) (by decide) rfl rfl (by unfold vp_in; decide) (by decide) dX6_claim_199 ?_
      refine zx_topI (zI_e) ?_
      refine zx_iconst (v := 1) h0 dX6_claim_200 (by decide) ?_
      refine zx_isub h0 dX6_claim_201 ?_
      refine zx_iast (j := 0) hF (zL_6_6 hL ka0) (by decide) rfl rfl (by unfold vp_in; decide) (by decide) rfl (z_fit rfl) dX6_claim_202 ?_
      refine zx_iconst (v := (-1)) h0 dX6_claim_203 (by decide) ?_
      exact zx_iret hF hQ dX6_claim_204 h
  · replace h := h.2 q
    refine zx_aload_n h0 0 dX6_claim_132 rfl ?_
    refine zx_get hF ka0 (by decide) rfl zi_X6_claim_6 9 (by decide) zn_X6_claim_37 rfl rfl dX6_claim_133 ?_
    refine zx_bipush (v := 10) h0 dX6_claim_136 (by decide) ?_
    refine zx_iload h0 1 dX6_claim_138 rfl ?_
    refine zx_imul h0 dX6_claim_140 ?_
    refine zx_iload h0 2 dX6_claim_141 rfl ?_
    refine zx_iadd h0 dX6_claim_143 ?_
    refine zx_iconst (v := 0) h0 dX6_claim_144 (by decide) ?_
    obtain ⟨ho4, h⟩ := h
    refine zx_iast (j := ((10 * x6) + x7).toNatClampNeg) hF (zL_6_9 hL ka0) (by decide) rfl rfl ho4 rfl rfl (z_fit rfl) dX6_claim_145 ?_
    refine zx_iinc (v := (x7 + 1)) (L' := [(7, .int (x7 + 1)), (0, .ref a0), (6, .int x6)]) h0 2 dX6_claim_146 rfl rfl (by decide) rfl ?_
    refine zx_goto (tgt := 125) h0 dX6_claim_149 (by decide) ?_
    exact zx_sub [1, 2, 0] rfl h
theorem zn_X6_paper_129 : Cond.fieldLink RX6 129 RX6 (TX6 0).2.1 (TX6 0).2.2.1 ∈ wsX6_paper := List.mem_of_getElem? (i := 1) rfl
theorem zi_X6_paper_6 : ∀ w ∈ u_ws RX6 TX6 50, w ∈ wsX6_paper := fun _ h => List.mem_cons_of_mem _ (List.mem_append_right _ h)
theorem zn_X6_paper_33 : Cond.fieldLink RX6 33 RX6 (TX6 8).2.1 (TX6 8).2.2.1 ∈ wsX6_paper := List.mem_of_getElem? (i := 2) rfl
theorem zn_X6_paper_37 : Cond.fieldLink RX6 37 RX6 (TX6 9).2.1 (TX6 9).2.2.1 ∈ wsX6_paper := List.mem_of_getElem? (i := 3) rfl
theorem zc_X6_paper_X6_is {C : zC} {G : zG} {Qc : Array Value → State → Outcome → State → Prop} (S : St_X6_paper C G Qc) : CallW (zRm C) (zs C) (zar C) RX6 RX6 307 yX6_is cX6_is 3 (some .boolean) wsX6_is rm_X6_is 0 0 2 := cwV 2 S.1.1.2.2.2.2 gX6_paper_X6_is rfl rfl rfl (by decide +kernel) (by rw [S.2.2]; exact ⟨Nat.le_of_ble_eq_true rfl, Nat.le_of_ble_eq_true rfl⟩)
theorem zc_X6_paper_X6_in {C : zC} {G : zG} {Qc : Array Value → State → Outcome → State → Prop} (S : St_X6_paper C G Qc) : CallB (zRm C) (zs C) (zar C) RX6 145 yX6_in cX6_in 3 (some .boolean) wsX6_in rm_X6_in 0 0 3 ∧ (Cond.static yX6_in).before (zar C) (zs C) = true := cwS 3 S.1.1.2.2.2.2 gX6_paper_X6_in rfl rfl rfl (by decide +kernel) (by rw [S.2.2]; exact ⟨Nat.le_of_ble_eq_true rfl, Nat.le_of_ble_eq_true rfl⟩)
theorem zc_X6_paper_X6_of {C : zC} {G : zG} {Qc : Array Value → State → Outcome → State → Prop} (S : St_X6_paper C G Qc) : CallW (zRm C) (zs C) (zar C) RX6 RX6 153 yX6_of cX6_of 3 (some .int) wsX6_of rm_X6_of 0 0 2 := cwV 2 S.1.1.2.2.2.2 gX6_paper_X6_of rfl rfl rfl (by decide +kernel) (by rw [S.2.2]; exact ⟨Nat.le_of_ble_eq_true rfl, Nat.le_of_ble_eq_true rfl⟩)
set_option maxRecDepth 100000 in
set_option maxHeartbeats 4000000 in
theorem sg_X6_paper_0 {C : zC} {G : zG} {Qc : Array Value → State → Outcome → State → Prop} (S : St_X6_paper C G Qc) {P_X6_is : Nat → Int32 → Int32 → zM → Prop} {Q_X6_is : Nat → Int32 → Int32 → zM → Int32 → Prop} (c_X6_is : Con_X6_is (zl C) G P_X6_is Q_X6_is) {P_X6_in : Int32 → Int32 → Int32 → zM → Prop} {Q_X6_in : Int32 → Int32 → Int32 → zM → Int32 → Prop} (c_X6_in : Con_X6_in (zl C) G P_X6_in Q_X6_in) {P_X6_of : Nat → Int32 → Int32 → zM → Prop} {Q_X6_of : Nat → Int32 → Int32 → zM → Int32 → Prop} (c_X6_of : Con_X6_of (zl C) G P_X6_of Q_X6_of) {a0 : Nat} {x1 : Int32} {x2 : Int32} {m : zM} (ka0 : zK G a0 = some (6, a0))
    (h : (P_X6_is a0 x1 0 (zsI m 600 a0 0 0)) ∧ (∀ (r2 : Int32), Q_X6_is a0 x1 0 (zsI m 600 a0 0 0) r2 → ((r2 = 0 → (zRet C G Qc (some (.int 0)) (zsI m 600 a0 0 0))) ∧ (¬ r2 = 0 → ((P_X6_in x2 0 5 (zsI m 600 a0 0 0)) ∧ (∀ (r4 : Int32), Q_X6_in x2 0 5 (zsI m 600 a0 0 0) r4 → ((r4 = 0 → (zRet C G Qc (some (.int 0)) (zsI m 600 a0 0 0))) ∧ (¬ r4 = 0 → ((P_X6_of a0 x1 4 (zsI m 600 a0 0 0)) ∧ (∀ (r6 : Int32), Q_X6_of a0 x1 4 (zsI m 600 a0 0 0) r6 → ((¬ ((r6 >>> (x2 &&& 31)) &&& 1) = 0 → (zRet C G Qc (some (.int 0)) (zsI m 600 a0 0 0))) ∧ (((r6 >>> (x2 &&& 31)) &&& 1) = 0 → (((zI m 1608 a0 0) = 0 → ((vp_in ((10 * x1) + 4) 640) ∧ (zRet C G Qc (some (.int 1)) (zsI (zsI m 600 a0 0 0) 1609 a0 (((10 * x1) + 4).toNatClampNeg) ((zI m 1609 a0 (((10 * x1) + 4).toNatClampNeg)) ||| (1 <<< (x2 &&& 31))))))) ∧ (¬ (zI m 1608 a0 0) = 0 → (zRet C G Qc (some (.int 0)) (zsI m 600 a0 0 0)))))))))))))))) : Pt_X6_paper_0 C G a0 x1 x2 m := by
  obtain ⟨hF, hQ, hR⟩ := id S
  have h0 : zF0 C cX6_paper 3 wsX6_paper RX6 := hF.1
  have hL := hF.2.2.1
  unfold Pt_X6_paper_0
  refine zx_aload_n h0 0 dX6_paper_0 rfl ?_
  refine zx_iconst (v := 0) h0 dX6_paper_1 (by decide) ?_
  refine zp_600 hF ka0 zi_X6_paper_6 zn_X6_paper_129 dX6_paper_2 ?_
  refine zx_aload_n h0 0 dX6_paper_5 rfl ?_
  refine zx_iload_n h0 1 dX6_paper_6 rfl ?_
  refine zx_iconst (v := 0) h0 dX6_paper_7 (by decide) ?_
  obtain ⟨ho1, h⟩ := h
  refine zx_callVi (As := [.int x1, .int 0]) (rest := []) hF (c_X6_is a0 x1 0 (zsI m 600 a0 0 0) ka0 ho1) (zc_X6_paper_X6_is S) ka0 (by decide) rfl dX6_paper_8 rfl rfl (Nat.le_of_ble_eq_true rfl) ⟨Nat.zero_le _, Nat.zero_le _⟩ (fun r2 m2 hq => ?_)
  obtain ⟨hme, hq⟩ := hq
  subst m2
  replace h := h r2 hq
  refine zx_if_eq (tgt := 45) h0 dX6_paper_11 (by decide) (fun q => ?_) (fun q => ?_)
  · replace h := h.1 q
    refine zx_iconst (v := 0) h0 dX6_paper_45 (by decide) ?_
    exact zx_zret hF hQ rfl dX6_paper_46 h
  · replace h := h.2 q
    refine zx_iload_n h0 2 dX6_paper_14 rfl ?_
    refine zx_iconst (v := 0) h0 dX6_paper_15 (by decide) ?_
    refine zx_iconst (v := 5) h0 dX6_paper_16 (by decide) ?_
    obtain ⟨ho3, h⟩ := h
    refine zx_callSi (As := [.int x2, .int 0, .int 5]) (rest := []) hF (c_X6_in x2 0 5 (zsI m 600 a0 0 0)  ho3) (zc_X6_paper_X6_in S)  dX6_paper_17 rfl rfl (Nat.le_of_ble_eq_true rfl) ⟨Nat.zero_le _, Nat.zero_le _⟩ (fun r4 m4 hq => ?_)
    obtain ⟨hme, hq⟩ := hq
    subst m4
    replace h := h r4 hq
    refine zx_if_eq (tgt := 45) h0 dX6_paper_20 (by decide) (fun q => ?_) (fun q => ?_)
    · replace h := h.1 q
      refine zx_iconst (v := 0) h0 dX6_paper_45 (by decide) ?_
      exact zx_zret hF hQ rfl dX6_paper_46 h
    · replace h := h.2 q
      refine zx_aload_n h0 0 dX6_paper_23 rfl ?_
      refine zx_iload_n h0 1 dX6_paper_24 rfl ?_
      refine zx_iconst (v := 4) h0 dX6_paper_25 (by decide) ?_
      obtain ⟨ho5, h⟩ := h
      refine zx_callVi (As := [.int x1, .int 4]) (rest := []) hF (c_X6_of a0 x1 4 (zsI m 600 a0 0 0) ka0 ho5) (zc_X6_paper_X6_of S) ka0 (by decide) rfl dX6_paper_26 rfl rfl (Nat.le_of_ble_eq_true rfl) ⟨Nat.zero_le _, Nat.zero_le _⟩ (fun r6 m6 hq => ?_)
      obtain ⟨hme, hq⟩ := hq
      subst m6
      replace h := h r6 hq
      refine zx_iload_n h0 2 dX6_paper_29 rfl ?_
      refine zx_ishr h0 dX6_paper_30 ?_
      refine zx_iconst (v := 1) h0 dX6_paper_31 (by decide) ?_
      refine zx_iand h0 dX6_paper_32 ?_
      refine zx_if_ne (tgt := 45) h0 dX6_paper_33 (by decide) (fun q => ?_) (fun q => ?_)
      · replace h := h.1 q
        refine zx_iconst (v := 0) h0 dX6_paper_45 (by decide) ?_
        exact zx_zret hF hQ rfl dX6_paper_46 h
      · replace h := h.2 q
        refine zx_aload_n h0 0 dX6_paper_36 rfl ?_
        refine zx_get hF ka0 (by decide) rfl zi_X6_paper_6 8 (by decide) zn_X6_paper_33 rfl rfl dX6_paper_37 ?_
        refine zx_iconst (v := 0) h0 dX6_paper_40 (by decide) ?_
        refine zx_zald (j := 0) hF (zL_6_8 hL ka0) (by decide) rfl rfl (by unfold vp_in; decide) (by decide) dX6_paper_41 ?_
        refine zx_topI (zI_n (by decide)) ?_
        refine zx_if_eq (tgt := 47) h0 dX6_paper_42 (by decide) (fun q => ?_) (fun q => ?_)
        · replace h := h.1 q
          refine zx_aload_n h0 0 dX6_paper_47 rfl ?_
          refine zx_get hF ka0 (by decide) rfl zi_X6_paper_6 9 (by decide) zn_X6_paper_37 rfl rfl dX6_paper_48 ?_
          refine zx_bipush (v := 10) h0 dX6_paper_51 (by decide) ?_
          refine zx_iload_n h0 1 dX6_paper_53 rfl ?_
          refine zx_imul h0 dX6_paper_54 ?_
          refine zx_iconst (v := 4) h0 dX6_paper_55 (by decide) ?_
          refine zx_iadd h0 dX6_paper_56 ?_
          refine zx_dup2_11 h0 dX6_paper_57 rfl rfl ?_
          obtain ⟨ho7, h⟩ := h
          refine zx_iald (j := ((10 * x1) + 4).toNatClampNeg) hF (zL_6_9 hL ka0) (by decide) rfl rfl ho7 rfl dX6_paper_58 ?_
          refine zx_topI (zI_n (by decide)) ?_
          refine zx_iconst (v := 1) h0 dX6_paper_59 (by decide) ?_
          refine zx_iload_n h0 2 dX6_paper_60 rfl ?_
          refine zx_ishl h0 dX6_paper_61 ?_
          refine zx_ior h0 dX6_paper_62 ?_
          refine zx_iast (j := ((10 * x1) + 4).toNatClampNeg) hF (zL_6_9 hL ka0) (by decide) rfl rfl ho7 rfl rfl (z_fit rfl) dX6_paper_63 ?_
          refine zx_iconst (v := 1) h0 dX6_paper_64 (by decide) ?_
          exact zx_zret hF hQ rfl dX6_paper_65 h
        · replace h := h.2 q
          refine zx_iconst (v := 0) h0 dX6_paper_45 (by decide) ?_
          exact zx_zret hF hQ rfl dX6_paper_46 h
theorem zn_X6_twins_27 : Cond.fieldLink RX6 27 RX6 (TX6 6).2.1 (TX6 6).2.2.1 ∈ wsX6_twins := List.mem_of_getElem? (i := 1) rfl
theorem zi_X6_twins_6 : ∀ w ∈ u_ws RX6 TX6 50, w ∈ wsX6_twins := fun _ h => List.mem_cons_of_mem _ (List.mem_append_right _ h)
theorem zc_X6_twins_X6_of {C : zC} {G : zG} {Qc : Array Value → State → Outcome → State → Prop} (S : St_X6_twins C G Qc) : CallW (zRm C) (zs C) (zar C) RX6 RX6 153 yX6_of cX6_of 3 (some .int) wsX6_of rm_X6_of 0 0 2 := cwV 2 S.1.1.2.2.2.2 gX6_twins_X6_of rfl rfl rfl (by decide +kernel) (by rw [S.2.2]; exact ⟨Nat.le_of_ble_eq_true rfl, Nat.le_of_ble_eq_true rfl⟩)
set_option maxRecDepth 100000 in
set_option maxHeartbeats 4000000 in
theorem sg_X6_twins_0 {C : zC} {G : zG} {Qc : Array Value → State → Outcome → State → Prop} (S : St_X6_twins C G Qc) {a0 : Nat} {x1 : Int32} {x2 : Int32} {m : zM} (ka0 : zK G a0 = some (6, a0))
    (h : Pt_X6_twins_5 C G a0 x1 x2 0 0 m) : Pt_X6_twins_0 C G a0 x1 x2 m := by
  obtain ⟨hF, hQ, hR⟩ := id S
  have h0 : zF0 C cX6_twins 5 wsX6_twins RX6 := hF.1
  have hL := hF.2.2.1
  unfold Pt_X6_twins_0
  refine zx_iconst (v := 0) h0 dX6_twins_0 (by decide) ?_
  refine zx_istore_n (L' := [(3, .int 0), (0, .ref a0), (1, .int x1), (2, .int x2)]) h0 dX6_twins_1 (by decide) rfl ?_
  refine zx_iconst (v := 0) h0 dX6_twins_2 (by decide) ?_
  refine zx_istore (L' := [(4, .int 0), (3, .int 0), (0, .ref a0), (1, .int x1), (2, .int x2)]) h0 dX6_twins_3 (by decide) rfl ?_
  exact zx_sub [2, 3, 4, 1, 0] rfl h
set_option maxRecDepth 100000 in
set_option maxHeartbeats 4000000 in
theorem sg_X6_twins_5 {C : zC} {G : zG} {Qc : Array Value → State → Outcome → State → Prop} (S : St_X6_twins C G Qc) {P_X6_of : Nat → Int32 → Int32 → zM → Prop} {Q_X6_of : Nat → Int32 → Int32 → zM → Int32 → Prop} (c_X6_of : Con_X6_of (zl C) G P_X6_of Q_X6_of) {a0 : Nat} {x1 : Int32} {x2 : Int32} {x3 : Int32} {x4 : Int32} {m : zM} (ka0 : zK G a0 = some (6, a0))
    (h : ((zI m 1606 a0 0) ≤ x4 → (zRet C G Qc (some (.int x3)) m)) ∧ (¬ (zI m 1606 a0 0) ≤ x4 → ((x4 = x1 → (Pt_X6_twins_5 C G a0 x1 x2 (x3 + 0) (x4 + 1) m)) ∧ (¬ x4 = x1 → ((P_X6_of a0 x4 0 m) ∧ (∀ (r2 : Int32), Q_X6_of a0 x4 0 m r2 → ((P_X6_of a0 x1 0 m) ∧ (∀ (r4 : Int32), Q_X6_of a0 x1 0 m r4 → ((¬ r2 = r4 → (Pt_X6_twins_5 C G a0 x1 x2 (x3 + 0) (x4 + 1) m)) ∧ (r2 = r4 → ((¬ x2 = (-1) → ((P_X6_of a0 x4 5 m) ∧ (∀ (r6 : Int32), Q_X6_of a0 x4 5 m r6 → ((¬ r6 = x2 → (Pt_X6_twins_5 C G a0 x1 x2 (x3 + 0) (x4 + 1) m)) ∧ (r6 = x2 → (Pt_X6_twins_5 C G a0 x1 x2 (x3 + 1) (x4 + 1) m)))))) ∧ (x2 = (-1) → ((P_X6_of a0 x4 5 m) ∧ (∀ (r8 : Int32), Q_X6_of a0 x4 5 m r8 → ((r8 = 2 → (Pt_X6_twins_5 C G a0 x1 x2 (x3 + 0) (x4 + 1) m)) ∧ (¬ r8 = 2 → (Pt_X6_twins_5 C G a0 x1 x2 (x3 + 1) (x4 + 1) m))))))))))))))))) : Pt_X6_twins_5 C G a0 x1 x2 x3 x4 m := by
  obtain ⟨hF, hQ, hR⟩ := id S
  have h0 : zF0 C cX6_twins 5 wsX6_twins RX6 := hF.1
  have hL := hF.2.2.1
  unfold Pt_X6_twins_5
  refine zx_iload h0 4 dX6_twins_5 rfl ?_
  refine zx_aload_n h0 0 dX6_twins_7 rfl ?_
  refine zx_get hF ka0 (by decide) rfl zi_X6_twins_6 6 (by decide) zn_X6_twins_27 rfl rfl dX6_twins_8 ?_
  refine zx_iconst (v := 0) h0 dX6_twins_11 (by decide) ?_
  refine zx_iald (j := 0) hF (zL_6_6 hL ka0) (by decide) rfl rfl (by unfold vp_in; decide) (by decide) dX6_twins_12 ?_
  refine zx_icmp_ge (tgt := 82) h0 dX6_twins_13 (by decide) (fun q => ?_) (fun q => ?_)
  · replace h := h.1 q
    refine zx_iload_n h0 3 dX6_twins_82 rfl ?_
    exact zx_iret hF hQ dX6_twins_83 h
  · replace h := h.2 q
    refine zx_iload_n h0 3 dX6_twins_16 rfl ?_
    refine zx_iload h0 4 dX6_twins_17 rfl ?_
    refine zx_iload_n h0 1 dX6_twins_19 rfl ?_
    refine zx_icmp_eq (tgt := 73) h0 dX6_twins_20 (by decide) (fun q => ?_) (fun q => ?_)
    · replace h := h.1 q
      refine zx_iconst (v := 0) h0 dX6_twins_73 (by decide) ?_
      refine zx_iadd h0 dX6_twins_74 ?_
      refine zx_istore_n (L' := [(3, .int (x3 + 0)), (0, .ref a0), (1, .int x1), (2, .int x2), (4, .int x4)]) h0 dX6_twins_75 (by decide) rfl ?_
      refine zx_iinc (v := (x4 + 1)) (L' := [(4, .int (x4 + 1)), (3, .int (x3 + 0)), (0, .ref a0), (1, .int x1), (2, .int x2)]) h0 4 dX6_twins_76 rfl rfl (by decide) rfl ?_
      refine zx_goto (tgt := 5) h0 dX6_twins_79 (by decide) ?_
      exact zx_sub [2, 3, 4, 1, 0] rfl h
    · replace h := h.2 q
      refine zx_aload_n h0 0 dX6_twins_23 rfl ?_
      refine zx_iload h0 4 dX6_twins_24 rfl ?_
      refine zx_iconst (v := 0) h0 dX6_twins_26 (by decide) ?_
      obtain ⟨ho1, h⟩ := h
      refine zx_callVi (As := [.int x4, .int 0]) (rest := [.int x3]) hF (c_X6_of a0 x4 0 m ka0 ho1) (zc_X6_twins_X6_of S) ka0 (by decide) rfl dX6_twins_27 rfl rfl (Nat.le_of_ble_eq_true rfl) ⟨Nat.zero_le _, Nat.zero_le _⟩ (fun r2 m2 hq => ?_)
      obtain ⟨hme, hq⟩ := hq
      subst m2
      replace h := h r2 hq
      refine zx_aload_n h0 0 dX6_twins_30 rfl ?_
      refine zx_iload_n h0 1 dX6_twins_31 rfl ?_
      refine zx_iconst (v := 0) h0 dX6_twins_32 (by decide) ?_
      obtain ⟨ho3, h⟩ := h
      refine zx_callVi (As := [.int x1, .int 0]) (rest := [.int r2, .int x3]) hF (c_X6_of a0 x1 0 m ka0 ho3) (zc_X6_twins_X6_of S) ka0 (by decide) rfl dX6_twins_33 rfl rfl (Nat.le_of_ble_eq_true rfl) ⟨Nat.zero_le _, Nat.zero_le _⟩ (fun r4 m4 hq => ?_)
      obtain ⟨hme, hq⟩ := hq
      subst m4
      replace h := h r4 hq
      refine zx_icmp_ne (tgt := 73) h0 dX6_twins_36 (by decide) (fun q => ?_) (fun q => ?_)
      · replace h := h.1 q
        refine zx_iconst (v := 0) h0 dX6_twins_73 (by decide) ?_
        refine zx_iadd h0 dX6_twins_74 ?_
        refine zx_istore_n (L' := [(3, .int (x3 + 0)), (0, .ref a0), (1, .int x1), (2, .int x2), (4, .int x4)]) h0 dX6_twins_75 (by decide) rfl ?_
        refine zx_iinc (v := (x4 + 1)) (L' := [(4, .int (x4 + 1)), (3, .int (x3 + 0)), (0, .ref a0), (1, .int x1), (2, .int x2)]) h0 4 dX6_twins_76 rfl rfl (by decide) rfl ?_
        refine zx_goto (tgt := 5) h0 dX6_twins_79 (by decide) ?_
        exact zx_sub [2, 3, 4, 1, 0] rfl h
      · replace h := h.2 q
        refine zx_iload_n h0 2 dX6_twins_39 rfl ?_
        refine zx_iconst (v := (-1)) h0 dX6_twins_40 (by decide) ?_
        refine zx_icmp_ne (tgt := 58) h0 dX6_twins_41 (by decide) (fun q => ?_) (fun q => ?_)
        · replace h := h.1 q
          refine zx_aload_n h0 0 dX6_twins_58 rfl ?_
          refine zx_iload h0 4 dX6_twins_59 rfl ?_
          refine zx_iconst (v := 5) h0 dX6_twins_61 (by decide) ?_
          obtain ⟨ho5, h⟩ := h
          refine zx_callVi (As := [.int x4, .int 5]) (rest := [.int x3]) hF (c_X6_of a0 x4 5 m ka0 ho5) (zc_X6_twins_X6_of S) ka0 (by decide) rfl dX6_twins_62 rfl rfl (Nat.le_of_ble_eq_true rfl) ⟨Nat.zero_le _, Nat.zero_le _⟩ (fun r6 m6 hq => ?_)
          obtain ⟨hme, hq⟩ := hq
          subst m6
          replace h := h r6 hq
          refine zx_iload_n h0 2 dX6_twins_65 rfl ?_
          refine zx_icmp_ne (tgt := 73) h0 dX6_twins_66 (by decide) (fun q => ?_) (fun q => ?_)
          · replace h := h.1 q
            refine zx_iconst (v := 0) h0 dX6_twins_73 (by decide) ?_
            refine zx_iadd h0 dX6_twins_74 ?_
            refine zx_istore_n (L' := [(3, .int (x3 + 0)), (0, .ref a0), (1, .int x1), (2, .int x2), (4, .int x4)]) h0 dX6_twins_75 (by decide) rfl ?_
            refine zx_iinc (v := (x4 + 1)) (L' := [(4, .int (x4 + 1)), (3, .int (x3 + 0)), (0, .ref a0), (1, .int x1), (2, .int x2)]) h0 4 dX6_twins_76 rfl rfl (by decide) rfl ?_
            refine zx_goto (tgt := 5) h0 dX6_twins_79 (by decide) ?_
            exact zx_sub [2, 3, 4, 1, 0] rfl h
          · replace h := h.2 q
            refine zx_iconst (v := 1) h0 dX6_twins_69 (by decide) ?_
            refine zx_goto (tgt := 74) h0 dX6_twins_70 (by decide) ?_
            refine zx_iadd h0 dX6_twins_74 ?_
            refine zx_istore_n (L' := [(3, .int (x3 + 1)), (0, .ref a0), (1, .int x1), (2, .int x2), (4, .int x4)]) h0 dX6_twins_75 (by decide) rfl ?_
            refine zx_iinc (v := (x4 + 1)) (L' := [(4, .int (x4 + 1)), (3, .int (x3 + 1)), (0, .ref a0), (1, .int x1), (2, .int x2)]) h0 4 dX6_twins_76 rfl rfl (by decide) rfl ?_
            refine zx_goto (tgt := 5) h0 dX6_twins_79 (by decide) ?_
            exact zx_sub [2, 3, 4, 1, 0] rfl h
        · replace h := h.2 q
          refine zx_aload_n h0 0 dX6_twins_44 rfl ?_
          refine zx_iload h0 4 dX6_twins_45 rfl ?_
          refine zx_iconst (v := 5) h0 dX6_twins_47 (by decide) ?_
          obtain ⟨ho7, h⟩ := h
          refine zx_callVi (As := [.int x4, .int 5]) (rest := [.int x3]) hF (c_X6_of a0 x4 5 m ka0 ho7) (zc_X6_twins_X6_of S) ka0 (by decide) rfl dX6_twins_48 rfl rfl (Nat.le_of_ble_eq_true rfl) ⟨Nat.zero_le _, Nat.zero_le _⟩ (fun r8 m8 hq => ?_)
          obtain ⟨hme, hq⟩ := hq
          subst m8
          replace h := h r8 hq
          refine zx_iconst (v := 2) h0 dX6_twins_51 (by decide) ?_
          refine zx_icmp_eq (tgt := 73) h0 dX6_twins_52 (by decide) (fun q => ?_) (fun q => ?_)
          · replace h := h.1 q
            refine zx_iconst (v := 0) h0 dX6_twins_73 (by decide) ?_
            refine zx_iadd h0 dX6_twins_74 ?_
            refine zx_istore_n (L' := [(3, .int (x3 + 0)), (0, .ref a0), (1, .int x1), (2, .int x2), (4, .int x4)]) h0 dX6_twins_75 (by decide) rfl ?_
            refine zx_iinc (v := (x4 + 1)) (L' := [(4, .int (x4 + 1)), (3, .int (x3 + 0)), (0, .ref a0), (1, .int x1), (2, .int x2)]) h0 4 dX6_twins_76 rfl rfl (by decide) rfl ?_
            refine zx_goto (tgt := 5) h0 dX6_twins_79 (by decide) ?_
            exact zx_sub [2, 3, 4, 1, 0] rfl h
          · replace h := h.2 q
            refine zx_goto (tgt := 69) h0 dX6_twins_55 (by decide) ?_
            refine zx_iconst (v := 1) h0 dX6_twins_69 (by decide) ?_
            refine zx_goto (tgt := 74) h0 dX6_twins_70 (by decide) ?_
            refine zx_iadd h0 dX6_twins_74 ?_
            refine zx_istore_n (L' := [(3, .int (x3 + 1)), (0, .ref a0), (1, .int x1), (2, .int x2), (4, .int x4)]) h0 dX6_twins_75 (by decide) rfl ?_
            refine zx_iinc (v := (x4 + 1)) (L' := [(4, .int (x4 + 1)), (3, .int (x3 + 1)), (0, .ref a0), (1, .int x1), (2, .int x2)]) h0 4 dX6_twins_76 rfl rfl (by decide) rfl ?_
            refine zx_goto (tgt := 5) h0 dX6_twins_79 (by decide) ?_
            exact zx_sub [2, 3, 4, 1, 0] rfl h
theorem zn_X6_judge_129 : Cond.fieldLink RX6 129 RX6 (TX6 0).2.1 (TX6 0).2.2.1 ∈ wsX6_judge := List.mem_of_getElem? (i := 1) rfl
theorem zi_X6_judge_6 : ∀ w ∈ u_ws RX6 TX6 50, w ∈ wsX6_judge := fun _ h => List.mem_cons_of_mem _ (List.mem_append_right _ h)
theorem zn_X6_judge_33 : Cond.fieldLink RX6 33 RX6 (TX6 8).2.1 (TX6 8).2.2.1 ∈ wsX6_judge := List.mem_of_getElem? (i := 2) rfl
theorem zn_X6_judge_37 : Cond.fieldLink RX6 37 RX6 (TX6 9).2.1 (TX6 9).2.2.1 ∈ wsX6_judge := List.mem_of_getElem? (i := 3) rfl
theorem zc_X6_judge_X6_is {C : zC} {G : zG} {Qc : Array Value → State → Outcome → State → Prop} (S : St_X6_judge C G Qc) : CallW (zRm C) (zs C) (zar C) RX6 RX6 307 yX6_is cX6_is 3 (some .boolean) wsX6_is rm_X6_is 0 0 2 := cwV 2 S.1.1.2.2.2.2 gX6_judge_X6_is rfl rfl rfl (by decide +kernel) (by rw [S.2.2]; exact ⟨Nat.le_of_ble_eq_true rfl, Nat.le_of_ble_eq_true rfl⟩)
theorem zc_X6_judge_X6_twins {C : zC} {G : zG} {Qc : Array Value → State → Outcome → State → Prop} (S : St_X6_judge C G Qc) : CallW (zRm C) (zs C) (zar C) RX6 RX6 310 yX6_twins cX6_twins 5 (some .int) wsX6_twins rm_X6_twins 0 0 2 := cwV 2 S.1.1.2.2.2.2 gX6_judge_X6_twins rfl rfl rfl (by decide +kernel) (by rw [S.2.2]; exact ⟨Nat.le_of_ble_eq_true rfl, Nat.le_of_ble_eq_true rfl⟩)
theorem zc_X6_judge_X6_of {C : zC} {G : zG} {Qc : Array Value → State → Outcome → State → Prop} (S : St_X6_judge C G Qc) : CallW (zRm C) (zs C) (zar C) RX6 RX6 153 yX6_of cX6_of 3 (some .int) wsX6_of rm_X6_of 0 0 2 := cwV 2 S.1.1.2.2.2.2 gX6_judge_X6_of rfl rfl rfl (by decide +kernel) (by rw [S.2.2]; exact ⟨Nat.le_of_ble_eq_true rfl, Nat.le_of_ble_eq_true rfl⟩)
theorem zc_X6_judge_X6_pointsNow {C : zC} {G : zG} {Qc : Array Value → State → Outcome → State → Prop} (S : St_X6_judge C G Qc) : CallW (zRm C) (zs C) (zar C) RX6 RX6 287 yX6_pointsNow cX6_pointsNow 3 (some .int) wsX6_pointsNow rm_X6_pointsNow 0 0 2 := cwV 2 S.1.1.2.2.2.2 gX6_judge_X6_pointsNow rfl rfl rfl (by decide +kernel) (by rw [S.2.2]; exact ⟨Nat.le_of_ble_eq_true rfl, Nat.le_of_ble_eq_true rfl⟩)
set_option maxRecDepth 100000 in
set_option maxHeartbeats 4000000 in
theorem sg_X6_judge_0 {C : zC} {G : zG} {Qc : Array Value → State → Outcome → State → Prop} (S : St_X6_judge C G Qc) {P_X6_is : Nat → Int32 → Int32 → zM → Prop} {Q_X6_is : Nat → Int32 → Int32 → zM → Int32 → Prop} (c_X6_is : Con_X6_is (zl C) G P_X6_is Q_X6_is) {P_X6_twins : Nat → Int32 → Int32 → zM → Prop} {Q_X6_twins : Nat → Int32 → Int32 → zM → Int32 → Prop} (c_X6_twins : Con_X6_twins (zl C) G P_X6_twins Q_X6_twins) {P_X6_of : Nat → Int32 → Int32 → zM → Prop} {Q_X6_of : Nat → Int32 → Int32 → zM → Int32 → Prop} (c_X6_of : Con_X6_of (zl C) G P_X6_of Q_X6_of) {P_X6_pointsNow : Nat → Int32 → Int32 → zM → Prop} {Q_X6_pointsNow : Nat → Int32 → Int32 → zM → Int32 → Prop} (c_X6_pointsNow : Con_X6_pointsNow (zl C) G P_X6_pointsNow Q_X6_pointsNow) {a0 : Nat} {x1 : Int32} {m : zM} (ka0 : zK G a0 = some (6, a0))
    (h : (P_X6_is a0 x1 0 (zsI m 600 a0 0 0)) ∧ (∀ (r2 : Int32), Q_X6_is a0 x1 0 (zsI m 600 a0 0 0) r2 → ((r2 = 0 → (zRet C G Qc (some (.int (-1))) (zsI m 600 a0 0 0))) ∧ (¬ r2 = 0 → ((P_X6_twins a0 x1 1 (zsI m 600 a0 0 0)) ∧ (∀ (r4 : Int32), Q_X6_twins a0 x1 1 (zsI m 600 a0 0 0) r4 → ((0 < r4 → (zRet C G Qc (some (.int (-1))) (zsI m 600 a0 0 0))) ∧ (¬ 0 < r4 → (((zI m 1608 a0 0) = 0 → ((P_X6_of a0 x1 4 (zsI m 600 a0 0 0)) ∧ (∀ (r6 : Int32), Q_X6_of a0 x1 4 (zsI m 600 a0 0 0) r6 → ((P_X6_pointsNow a0 x1 r6 (zsI m 600 a0 0 0)) ∧ (∀ (r8 : Int32), Q_X6_pointsNow a0 x1 r6 (zsI m 600 a0 0 0) r8 → ((vp_in ((10 * x1) + 6) 640) ∧ ((vp_in ((10 * x1) + 5) 640) ∧ ((P_X6_of a0 x1 6 (zsI (zsI (zsI m 600 a0 0 0) 1609 a0 (((10 * x1) + 6).toNatClampNeg) r8) 1609 a0 (((10 * x1) + 5).toNatClampNeg) 1)) ∧ (∀ (r12 : Int32), Q_X6_of a0 x1 6 (zsI (zsI (zsI m 600 a0 0 0) 1609 a0 (((10 * x1) + 6).toNatClampNeg) r8) 1609 a0 (((10 * x1) + 5).toNatClampNeg) 1) r12 → (zRet C G Qc (some (.int r12)) (zsI (zsI (zsI m 600 a0 0 0) 1609 a0 (((10 * x1) + 6).toNatClampNeg) r8) 1609 a0 (((10 * x1) + 5).toNatClampNeg) 1))))))))))) ∧ (¬ (zI m 1608 a0 0) = 0 → (zRet C G Qc (some (.int (-1))) (zsI m 600 a0 0 0)))))))))))) : Pt_X6_judge_0 C G a0 x1 m := by
  obtain ⟨hF, hQ, hR⟩ := id S
  have h0 : zF0 C cX6_judge 2 wsX6_judge RX6 := hF.1
  have hL := hF.2.2.1
  unfold Pt_X6_judge_0
  refine zx_aload_n h0 0 dX6_judge_0 rfl ?_
  refine zx_iconst (v := 0) h0 dX6_judge_1 (by decide) ?_
  refine zp_600 hF ka0 zi_X6_judge_6 zn_X6_judge_129 dX6_judge_2 ?_
  refine zx_aload_n h0 0 dX6_judge_5 rfl ?_
  refine zx_iload_n h0 1 dX6_judge_6 rfl ?_
  refine zx_iconst (v := 0) h0 dX6_judge_7 (by decide) ?_
  obtain ⟨ho1, h⟩ := h
  refine zx_callVi (As := [.int x1, .int 0]) (rest := []) hF (c_X6_is a0 x1 0 (zsI m 600 a0 0 0) ka0 ho1) (zc_X6_judge_X6_is S) ka0 (by decide) rfl dX6_judge_8 rfl rfl (Nat.le_of_ble_eq_true rfl) ⟨Nat.zero_le _, Nat.zero_le _⟩ (fun r2 m2 hq => ?_)
  obtain ⟨hme, hq⟩ := hq
  subst m2
  replace h := h r2 hq
  refine zx_if_eq (tgt := 32) h0 dX6_judge_11 (by decide) (fun q => ?_) (fun q => ?_)
  · replace h := h.1 q
    refine zx_iconst (v := (-1)) h0 dX6_judge_32 (by decide) ?_
    exact zx_iret hF hQ dX6_judge_33 h
  · replace h := h.2 q
    refine zx_aload_n h0 0 dX6_judge_14 rfl ?_
    refine zx_iload_n h0 1 dX6_judge_15 rfl ?_
    refine zx_iconst (v := 1) h0 dX6_judge_16 (by decide) ?_
    obtain ⟨ho3, h⟩ := h
    refine zx_callVi (As := [.int x1, .int 1]) (rest := []) hF (c_X6_twins a0 x1 1 (zsI m 600 a0 0 0) ka0 ho3) (zc_X6_judge_X6_twins S) ka0 (by decide) rfl dX6_judge_17 rfl rfl (Nat.le_of_ble_eq_true rfl) ⟨Nat.zero_le _, Nat.zero_le _⟩ (fun r4 m4 hq => ?_)
    obtain ⟨hme, hq⟩ := hq
    subst m4
    replace h := h r4 hq
    refine zx_if_gt (tgt := 32) h0 dX6_judge_20 (by decide) (fun q => ?_) (fun q => ?_)
    · replace h := h.1 q
      refine zx_iconst (v := (-1)) h0 dX6_judge_32 (by decide) ?_
      exact zx_iret hF hQ dX6_judge_33 h
    · replace h := h.2 q
      refine zx_aload_n h0 0 dX6_judge_23 rfl ?_
      refine zx_get hF ka0 (by decide) rfl zi_X6_judge_6 8 (by decide) zn_X6_judge_33 rfl rfl dX6_judge_24 ?_
      refine zx_iconst (v := 0) h0 dX6_judge_27 (by decide) ?_
      refine zx_zald (j := 0) hF (zL_6_8 hL ka0) (by decide) rfl rfl (by unfold vp_in; decide) (by decide) dX6_judge_28 ?_
      refine zx_topI (zI_n (by decide)) ?_
      refine zx_if_eq (tgt := 34) h0 dX6_judge_29 (by decide) (fun q => ?_) (fun q => ?_)
      · replace h := h.1 q
        refine zx_aload_n h0 0 dX6_judge_34 rfl ?_
        refine zx_get hF ka0 (by decide) rfl zi_X6_judge_6 9 (by decide) zn_X6_judge_37 rfl rfl dX6_judge_35 ?_
        refine zx_bipush (v := 10) h0 dX6_judge_38 (by decide) ?_
        refine zx_iload_n h0 1 dX6_judge_40 rfl ?_
        refine zx_imul h0 dX6_judge_41 ?_
        refine zx_bipush (v := 6) h0 dX6_judge_42 (by decide) ?_
        refine zx_iadd h0 dX6_judge_44 ?_
        refine zx_aload_n h0 0 dX6_judge_45 rfl ?_
        refine zx_iload_n h0 1 dX6_judge_46 rfl ?_
        refine zx_aload_n h0 0 dX6_judge_47 rfl ?_
        refine zx_iload_n h0 1 dX6_judge_48 rfl ?_
        refine zx_iconst (v := 4) h0 dX6_judge_49 (by decide) ?_
        obtain ⟨ho5, h⟩ := h
        refine zx_callVi (As := [.int x1, .int 4]) (rest := [.int x1, .ref a0, .int ((10 * x1) + 6), .ref (a0 + 9)]) hF (c_X6_of a0 x1 4 (zsI m 600 a0 0 0) ka0 ho5) (zc_X6_judge_X6_of S) ka0 (by decide) rfl dX6_judge_50 rfl rfl (Nat.le_of_ble_eq_true rfl) ⟨Nat.zero_le _, Nat.zero_le _⟩ (fun r6 m6 hq => ?_)
        obtain ⟨hme, hq⟩ := hq
        subst m6
        replace h := h r6 hq
        obtain ⟨ho7, h⟩ := h
        refine zx_callVi (As := [.int x1, .int r6]) (rest := [.int ((10 * x1) + 6), .ref (a0 + 9)]) hF (c_X6_pointsNow a0 x1 r6 (zsI m 600 a0 0 0) ka0 ho7) (zc_X6_judge_X6_pointsNow S) ka0 (by decide) rfl dX6_judge_53 rfl rfl (Nat.le_of_ble_eq_true rfl) ⟨Nat.zero_le _, Nat.zero_le _⟩ (fun r8 m8 hq => ?_)
        obtain ⟨hme, hq⟩ := hq
        subst m8
        replace h := h r8 hq
        obtain ⟨ho9, h⟩ := h
        refine zx_iast (j := ((10 * x1) + 6).toNatClampNeg) hF (zL_6_9 hL ka0) (by decide) rfl rfl ho9 rfl rfl (z_fit rfl) dX6_judge_56 ?_
        refine zx_aload_n h0 0 dX6_judge_57 rfl ?_
        refine zx_get hF ka0 (by decide) rfl zi_X6_judge_6 9 (by decide) zn_X6_judge_37 rfl rfl dX6_judge_58 ?_
        refine zx_bipush (v := 10) h0 dX6_judge_61 (by decide) ?_
        refine zx_iload_n h0 1 dX6_judge_63 rfl ?_
        refine zx_imul h0 dX6_judge_64 ?_
        refine zx_iconst (v := 5) h0 dX6_judge_65 (by decide) ?_
        refine zx_iadd h0 dX6_judge_66 ?_
        refine zx_iconst (v := 1) h0 dX6_judge_67 (by decide) ?_
        obtain ⟨ho10, h⟩ := h
        refine zx_iast (j := ((10 * x1) + 5).toNatClampNeg) hF (zL_6_9 hL ka0) (by decide) rfl rfl ho10 rfl rfl (z_fit rfl) dX6_judge_68 ?_
        refine zx_aload_n h0 0 dX6_judge_69 rfl ?_
        refine zx_iload_n h0 1 dX6_judge_70 rfl ?_
        refine zx_bipush (v := 6) h0 dX6_judge_71 (by decide) ?_
        obtain ⟨ho11, h⟩ := h
        refine zx_callVi (As := [.int x1, .int 6]) (rest := []) hF (c_X6_of a0 x1 6 (zsI (zsI (zsI m 600 a0 0 0) 1609 a0 (((10 * x1) + 6).toNatClampNeg) r8) 1609 a0 (((10 * x1) + 5).toNatClampNeg) 1) ka0 ho11) (zc_X6_judge_X6_of S) ka0 (by decide) rfl dX6_judge_73 rfl rfl (Nat.le_of_ble_eq_true rfl) ⟨Nat.zero_le _, Nat.zero_le _⟩ (fun r12 m12 hq => ?_)
        obtain ⟨hme, hq⟩ := hq
        subst m12
        replace h := h r12 hq
        exact zx_iret hF hQ dX6_judge_76 h
      · replace h := h.2 q
        refine zx_iconst (v := (-1)) h0 dX6_judge_32 (by decide) ?_
        exact zx_iret hF hQ dX6_judge_33 h
theorem zn_X6_appeal_129 : Cond.fieldLink RX6 129 RX6 (TX6 0).2.1 (TX6 0).2.2.1 ∈ wsX6_appeal := List.mem_of_getElem? (i := 1) rfl
theorem zi_X6_appeal_6 : ∀ w ∈ u_ws RX6 TX6 50, w ∈ wsX6_appeal := fun _ h => List.mem_cons_of_mem _ (List.mem_append_right _ h)
theorem zn_X6_appeal_k286 : Cond.constant RX6 286 1000000 ∈ wsX6_appeal := List.mem_of_getElem? (i := 2) rfl
theorem zn_X6_appeal_33 : Cond.fieldLink RX6 33 RX6 (TX6 8).2.1 (TX6 8).2.2.1 ∈ wsX6_appeal := List.mem_of_getElem? (i := 3) rfl
theorem zn_X6_appeal_37 : Cond.fieldLink RX6 37 RX6 (TX6 9).2.1 (TX6 9).2.2.1 ∈ wsX6_appeal := List.mem_of_getElem? (i := 4) rfl
theorem zc_X6_appeal_X6_is {C : zC} {G : zG} {Qc : Array Value → State → Outcome → State → Prop} (S : St_X6_appeal C G Qc) : CallW (zRm C) (zs C) (zar C) RX6 RX6 307 yX6_is cX6_is 3 (some .boolean) wsX6_is rm_X6_is 0 0 2 := cwV 2 S.1.1.2.2.2.2 gX6_appeal_X6_is rfl rfl rfl (by decide +kernel) (by rw [S.2.2]; exact ⟨Nat.le_of_ble_eq_true rfl, Nat.le_of_ble_eq_true rfl⟩)
theorem zc_X6_appeal_X6_in {C : zC} {G : zG} {Qc : Array Value → State → Outcome → State → Prop} (S : St_X6_appeal C G Qc) : CallB (zRm C) (zs C) (zar C) RX6 145 yX6_in cX6_in 3 (some .boolean) wsX6_in rm_X6_in 0 0 3 ∧ (Cond.static yX6_in).before (zar C) (zs C) = true := cwS 3 S.1.1.2.2.2.2 gX6_appeal_X6_in rfl rfl rfl (by decide +kernel) (by rw [S.2.2]; exact ⟨Nat.le_of_ble_eq_true rfl, Nat.le_of_ble_eq_true rfl⟩)
theorem zc_X6_appeal_X6_of {C : zC} {G : zG} {Qc : Array Value → State → Outcome → State → Prop} (S : St_X6_appeal C G Qc) : CallW (zRm C) (zs C) (zar C) RX6 RX6 153 yX6_of cX6_of 3 (some .int) wsX6_of rm_X6_of 0 0 2 := cwV 2 S.1.1.2.2.2.2 gX6_appeal_X6_of rfl rfl rfl (by decide +kernel) (by rw [S.2.2]; exact ⟨Nat.le_of_ble_eq_true rfl, Nat.le_of_ble_eq_true rfl⟩)
theorem zc_X6_appeal_X6_holds {C : zC} {G : zG} {Qc : Array Value → State → Outcome → State → Prop} (S : St_X6_appeal C G Qc) : CallW (zRm C) (zs C) (zar C) RX6 RX6 261 yX6_holds cX6_holds 4 (some .boolean) wsX6_holds rm_X6_holds 0 0 0 := cwV 0 S.1.1.2.2.2.2 gX6_appeal_X6_holds rfl rfl rfl (by decide +kernel) (by rw [S.2.2]; exact ⟨Nat.le_of_ble_eq_true rfl, Nat.le_of_ble_eq_true rfl⟩)
set_option maxRecDepth 100000 in
set_option maxHeartbeats 4000000 in
theorem sg_X6_appeal_0 {C : zC} {G : zG} {Qc : Array Value → State → Outcome → State → Prop} (S : St_X6_appeal C G Qc) {P_X6_is : Nat → Int32 → Int32 → zM → Prop} {Q_X6_is : Nat → Int32 → Int32 → zM → Int32 → Prop} (c_X6_is : Con_X6_is (zl C) G P_X6_is Q_X6_is) {P_X6_in : Int32 → Int32 → Int32 → zM → Prop} {Q_X6_in : Int32 → Int32 → Int32 → zM → Int32 → Prop} (c_X6_in : Con_X6_in (zl C) G P_X6_in Q_X6_in) {P_X6_of : Nat → Int32 → Int32 → zM → Prop} {Q_X6_of : Nat → Int32 → Int32 → zM → Int32 → Prop} (c_X6_of : Con_X6_of (zl C) G P_X6_of Q_X6_of) {P_X6_holds : Nat → zM → Prop} {Q_X6_holds : Nat → zM → Int32 → Prop} (c_X6_holds : Con_X6_holds (zl C) G P_X6_holds Q_X6_holds) {a0 : Nat} {x1 : Int32} {x2 : Int32} {m : zM} (ka0 : zK G a0 = some (6, a0))
    (h : (P_X6_is a0 x1 1 (zsI m 600 a0 0 0)) ∧ (∀ (r2 : Int32), Q_X6_is a0 x1 1 (zsI m 600 a0 0 0) r2 → ((r2 = 0 → (zRet C G Qc (some (.int 0)) (zsI m 600 a0 0 0))) ∧ (¬ r2 = 0 → ((P_X6_in x2 0 1000000 (zsI m 600 a0 0 0)) ∧ (∀ (r4 : Int32), Q_X6_in x2 0 1000000 (zsI m 600 a0 0 0) r4 → ((r4 = 0 → (zRet C G Qc (some (.int 0)) (zsI m 600 a0 0 0))) ∧ (¬ r4 = 0 → (((zI m 1608 a0 0) = 0 → ((P_X6_of a0 x1 6 (zsI m 600 a0 0 0)) ∧ (∀ (r6 : Int32), Q_X6_of a0 x1 6 (zsI m 600 a0 0 0) r6 → ((vp_in ((10 * x1) + 6) 640) ∧ ((P_X6_holds a0 (zsI (zsI m 600 a0 0 0) 1609 a0 (((10 * x1) + 6).toNatClampNeg) x2)) ∧ (∀ (r9 : Int32), Q_X6_holds a0 (zsI (zsI m 600 a0 0 0) 1609 a0 (((10 * x1) + 6).toNatClampNeg) x2) r9 → ((¬ r9 = 0 → (zRet C G Qc (some (.int 1)) (zsI (zsI m 600 a0 0 0) 1609 a0 (((10 * x1) + 6).toNatClampNeg) x2))) ∧ (r9 = 0 → (zRet C G Qc (some (.int 0)) (zsI (zsI (zsI m 600 a0 0 0) 1609 a0 (((10 * x1) + 6).toNatClampNeg) x2) 1609 a0 (((10 * x1) + 6).toNatClampNeg) r6)))))))))) ∧ (¬ (zI m 1608 a0 0) = 0 → (zRet C G Qc (some (.int 0)) (zsI m 600 a0 0 0)))))))))))) : Pt_X6_appeal_0 C G a0 x1 x2 m := by
  obtain ⟨hF, hQ, hR⟩ := id S
  have h0 : zF0 C cX6_appeal 4 wsX6_appeal RX6 := hF.1
  have hL := hF.2.2.1
  unfold Pt_X6_appeal_0
  refine zx_aload_n h0 0 dX6_appeal_0 rfl ?_
  refine zx_iconst (v := 0) h0 dX6_appeal_1 (by decide) ?_
  refine zp_600 hF ka0 zi_X6_appeal_6 zn_X6_appeal_129 dX6_appeal_2 ?_
  refine zx_aload_n h0 0 dX6_appeal_5 rfl ?_
  refine zx_iload_n h0 1 dX6_appeal_6 rfl ?_
  refine zx_iconst (v := 1) h0 dX6_appeal_7 (by decide) ?_
  obtain ⟨ho1, h⟩ := h
  refine zx_callVi (As := [.int x1, .int 1]) (rest := []) hF (c_X6_is a0 x1 1 (zsI m 600 a0 0 0) ka0 ho1) (zc_X6_appeal_X6_is S) ka0 (by decide) rfl dX6_appeal_8 rfl rfl (Nat.le_of_ble_eq_true rfl) ⟨Nat.zero_le _, Nat.zero_le _⟩ (fun r2 m2 hq => ?_)
  obtain ⟨hme, hq⟩ := hq
  subst m2
  replace h := h r2 hq
  refine zx_if_eq (tgt := 34) h0 dX6_appeal_11 (by decide) (fun q => ?_) (fun q => ?_)
  · replace h := h.1 q
    refine zx_iconst (v := 0) h0 dX6_appeal_34 (by decide) ?_
    exact zx_zret hF hQ rfl dX6_appeal_35 h
  · replace h := h.2 q
    refine zx_iload_n h0 2 dX6_appeal_14 rfl ?_
    refine zx_iconst (v := 0) h0 dX6_appeal_15 (by decide) ?_
    refine zx_ldcw (v := 1000000) h0 zn_X6_appeal_k286 dX6_appeal_16 ?_
    obtain ⟨ho3, h⟩ := h
    refine zx_callSi (As := [.int x2, .int 0, .int 1000000]) (rest := []) hF (c_X6_in x2 0 1000000 (zsI m 600 a0 0 0)  ho3) (zc_X6_appeal_X6_in S)  dX6_appeal_19 rfl rfl (Nat.le_of_ble_eq_true rfl) ⟨Nat.zero_le _, Nat.zero_le _⟩ (fun r4 m4 hq => ?_)
    obtain ⟨hme, hq⟩ := hq
    subst m4
    replace h := h r4 hq
    refine zx_if_eq (tgt := 34) h0 dX6_appeal_22 (by decide) (fun q => ?_) (fun q => ?_)
    · replace h := h.1 q
      refine zx_iconst (v := 0) h0 dX6_appeal_34 (by decide) ?_
      exact zx_zret hF hQ rfl dX6_appeal_35 h
    · replace h := h.2 q
      refine zx_aload_n h0 0 dX6_appeal_25 rfl ?_
      refine zx_get hF ka0 (by decide) rfl zi_X6_appeal_6 8 (by decide) zn_X6_appeal_33 rfl rfl dX6_appeal_26 ?_
      refine zx_iconst (v := 0) h0 dX6_appeal_29 (by decide) ?_
      refine zx_zald (j := 0) hF (zL_6_8 hL ka0) (by decide) rfl rfl (by unfold vp_in; decide) (by decide) dX6_appeal_30 ?_
      refine zx_topI (zI_n (by decide)) ?_
      refine zx_if_eq (tgt := 36) h0 dX6_appeal_31 (by decide) (fun q => ?_) (fun q => ?_)
      · replace h := h.1 q
        refine zx_aload_n h0 0 dX6_appeal_36 rfl ?_
        refine zx_iload_n h0 1 dX6_appeal_37 rfl ?_
        refine zx_bipush (v := 6) h0 dX6_appeal_38 (by decide) ?_
        obtain ⟨ho5, h⟩ := h
        refine zx_callVi (As := [.int x1, .int 6]) (rest := []) hF (c_X6_of a0 x1 6 (zsI m 600 a0 0 0) ka0 ho5) (zc_X6_appeal_X6_of S) ka0 (by decide) rfl dX6_appeal_40 rfl rfl (Nat.le_of_ble_eq_true rfl) ⟨Nat.zero_le _, Nat.zero_le _⟩ (fun r6 m6 hq => ?_)
        obtain ⟨hme, hq⟩ := hq
        subst m6
        replace h := h r6 hq
        refine zx_istore_n (L' := [(3, .int r6), (0, .ref a0), (1, .int x1), (2, .int x2)]) h0 dX6_appeal_43 (by decide) rfl ?_
        refine zx_aload_n h0 1 dX6_appeal_44 rfl ?_
        refine zx_get hF ka0 (by decide) rfl zi_X6_appeal_6 9 (by decide) zn_X6_appeal_37 rfl rfl dX6_appeal_45 ?_
        refine zx_bipush (v := 10) h0 dX6_appeal_48 (by decide) ?_
        refine zx_iload_n h0 2 dX6_appeal_50 rfl ?_
        refine zx_imul h0 dX6_appeal_51 ?_
        refine zx_bipush (v := 6) h0 dX6_appeal_52 (by decide) ?_
        refine zx_iadd h0 dX6_appeal_54 ?_
        refine zx_iload_n h0 3 dX6_appeal_55 rfl ?_
        obtain ⟨ho7, h⟩ := h
        refine zx_iast (j := ((10 * x1) + 6).toNatClampNeg) hF (zL_6_9 hL ka0) (by decide) rfl rfl ho7 rfl rfl (z_fit rfl) dX6_appeal_56 ?_
        refine zx_aload_n h0 1 dX6_appeal_57 rfl ?_
        obtain ⟨ho8, h⟩ := h
        refine zx_callVi (As := []) (rest := []) hF (c_X6_holds a0 (zsI (zsI m 600 a0 0 0) 1609 a0 (((10 * x1) + 6).toNatClampNeg) x2) ka0 ho8) (zc_X6_appeal_X6_holds S) ka0 (by decide) rfl dX6_appeal_58 rfl rfl (Nat.le_of_ble_eq_true rfl) ⟨Nat.zero_le _, Nat.zero_le _⟩ (fun r9 m9 hq => ?_)
        obtain ⟨hme, hq⟩ := hq
        subst m9
        replace h := h r9 hq
        refine zx_if_ne (tgt := 79) h0 dX6_appeal_61 (by decide) (fun q => ?_) (fun q => ?_)
        · replace h := h.1 q
          refine zx_iconst (v := 1) h0 dX6_appeal_79 (by decide) ?_
          exact zx_zret hF hQ rfl dX6_appeal_80 h
        · replace h := h.2 q
          refine zx_aload_n h0 1 dX6_appeal_64 rfl ?_
          refine zx_get hF ka0 (by decide) rfl zi_X6_appeal_6 9 (by decide) zn_X6_appeal_37 rfl rfl dX6_appeal_65 ?_
          refine zx_bipush (v := 10) h0 dX6_appeal_68 (by decide) ?_
          refine zx_iload_n h0 2 dX6_appeal_70 rfl ?_
          refine zx_imul h0 dX6_appeal_71 ?_
          refine zx_bipush (v := 6) h0 dX6_appeal_72 (by decide) ?_
          refine zx_iadd h0 dX6_appeal_74 ?_
          refine zx_iload_n h0 0 dX6_appeal_75 rfl ?_
          refine zx_iast (j := ((10 * x1) + 6).toNatClampNeg) hF (zL_6_9 hL ka0) (by decide) rfl rfl ho7 rfl rfl (z_fit rfl) dX6_appeal_76 ?_
          refine zx_iconst (v := 0) h0 dX6_appeal_77 (by decide) ?_
          exact zx_zret hF hQ rfl dX6_appeal_78 h
      · replace h := h.2 q
        refine zx_iconst (v := 0) h0 dX6_appeal_34 (by decide) ?_
        exact zx_zret hF hQ rfl dX6_appeal_35 h
theorem zn_X6_out_129 : Cond.fieldLink RX6 129 RX6 (TX6 0).2.1 (TX6 0).2.2.1 ∈ wsX6_out := List.mem_of_getElem? (i := 1) rfl
theorem zi_X6_out_6 : ∀ w ∈ u_ws RX6 TX6 50, w ∈ wsX6_out := fun _ h => List.mem_cons_of_mem _ (List.mem_append_right _ h)
theorem zn_X6_out_33 : Cond.fieldLink RX6 33 RX6 (TX6 8).2.1 (TX6 8).2.2.1 ∈ wsX6_out := List.mem_of_getElem? (i := 2) rfl
theorem zn_X6_out_40 : Cond.fieldLink RX6 40 RX6 (TX6 10).2.1 (TX6 10).2.2.1 ∈ wsX6_out := List.mem_of_getElem? (i := 3) rfl
theorem zn_X6_out_37 : Cond.fieldLink RX6 37 RX6 (TX6 9).2.1 (TX6 9).2.2.1 ∈ wsX6_out := List.mem_of_getElem? (i := 4) rfl
theorem zc_X6_out_X6_isClaim {C : zC} {G : zG} {Qc : Array Value → State → Outcome → State → Prop} (S : St_X6_out C G Qc) : CallW (zRm C) (zs C) (zar C) RX6 RX6 149 yX6_isClaim cX6_isClaim 2 (some .boolean) wsX6_isClaim rm_X6_isClaim 0 0 1 := cwV 1 S.1.1.2.2.2.2 gX6_out_X6_isClaim rfl rfl rfl (by decide +kernel) (by rw [S.2.2]; exact ⟨Nat.le_of_ble_eq_true rfl, Nat.le_of_ble_eq_true rfl⟩)
theorem zc_X6_out_X6_is {C : zC} {G : zG} {Qc : Array Value → State → Outcome → State → Prop} (S : St_X6_out C G Qc) : CallW (zRm C) (zs C) (zar C) RX6 RX6 307 yX6_is cX6_is 3 (some .boolean) wsX6_is rm_X6_is 0 0 2 := cwV 2 S.1.1.2.2.2.2 gX6_out_X6_is rfl rfl rfl (by decide +kernel) (by rw [S.2.2]; exact ⟨Nat.le_of_ble_eq_true rfl, Nat.le_of_ble_eq_true rfl⟩)
theorem zc_X6_out_X6_of {C : zC} {G : zG} {Qc : Array Value → State → Outcome → State → Prop} (S : St_X6_out C G Qc) : CallW (zRm C) (zs C) (zar C) RX6 RX6 153 yX6_of cX6_of 3 (some .int) wsX6_of rm_X6_of 0 0 2 := cwV 2 S.1.1.2.2.2.2 gX6_out_X6_of rfl rfl rfl (by decide +kernel) (by rw [S.2.2]; exact ⟨Nat.le_of_ble_eq_true rfl, Nat.le_of_ble_eq_true rfl⟩)
theorem zc_X6_out_X6_holds {C : zC} {G : zG} {Qc : Array Value → State → Outcome → State → Prop} (S : St_X6_out C G Qc) : CallW (zRm C) (zs C) (zar C) RX6 RX6 261 yX6_holds cX6_holds 4 (some .boolean) wsX6_holds rm_X6_holds 0 0 0 := cwV 0 S.1.1.2.2.2.2 gX6_out_X6_holds rfl rfl rfl (by decide +kernel) (by rw [S.2.2]; exact ⟨Nat.le_of_ble_eq_true rfl, Nat.le_of_ble_eq_true rfl⟩)
set_option maxRecDepth 100000 in
set_option maxHeartbeats 4000000 in
theorem sg_X6_out_0 {C : zC} {G : zG} {Qc : Array Value → State → Outcome → State → Prop} (S : St_X6_out C G Qc) {P_X6_isClaim : Nat → Int32 → zM → Prop} {Q_X6_isClaim : Nat → Int32 → zM → Int32 → Prop} (c_X6_isClaim : Con_X6_isClaim (zl C) G P_X6_isClaim Q_X6_isClaim) {P_X6_is : Nat → Int32 → Int32 → zM → Prop} {Q_X6_is : Nat → Int32 → Int32 → zM → Int32 → Prop} (c_X6_is : Con_X6_is (zl C) G P_X6_is Q_X6_is) {P_X6_of : Nat → Int32 → Int32 → zM → Prop} {Q_X6_of : Nat → Int32 → Int32 → zM → Int32 → Prop} (c_X6_of : Con_X6_of (zl C) G P_X6_of Q_X6_of) {a0 : Nat} {x1 : Int32} {x2 : Int32} {m : zM} (ka0 : zK G a0 = some (6, a0))
    (h : (P_X6_isClaim a0 x1 (zsI m 600 a0 0 0)) ∧ (∀ (r2 : Int32), Q_X6_isClaim a0 x1 (zsI m 600 a0 0 0) r2 → ((r2 = 0 → (zRet C G Qc (some (.int 0)) (zsI m 600 a0 0 0))) ∧ (¬ r2 = 0 → ((¬ (zI m 1608 a0 0) = 0 → (zRet C G Qc (some (.int 0)) (zsI m 600 a0 0 0))) ∧ ((zI m 1608 a0 0) = 0 → ((P_X6_is a0 x1 2 (zsI m 600 a0 0 0)) ∧ (∀ (r4 : Int32), Q_X6_is a0 x1 2 (zsI m 600 a0 0 0) r4 → ((x2 = r4 → (zRet C G Qc (some (.int 0)) (zsI m 600 a0 0 0))) ∧ (¬ x2 = r4 → ((vp_in x1 64) ∧ (((zJ m 1610 a0 x1.toNatClampNeg) ≤ 0 → ((P_X6_of a0 x1 5 (zsI m 600 a0 0 0)) ∧ (∀ (r7 : Int32), Q_X6_of a0 x1 5 (zsI m 600 a0 0 0) r7 → ((x2 = 0 → (Pt_X6_out_71 C G a0 x1 r7 0 ((10 * x1) + 5) (zsI m 600 a0 0 0))) ∧ (¬ x2 = 0 → (Pt_X6_out_71 C G a0 x1 r7 2 ((10 * x1) + 5) (zsI m 600 a0 0 0))))))) ∧ (¬ (zJ m 1610 a0 x1.toNatClampNeg) ≤ 0 → (zRet C G Qc (some (.int 0)) (zsI m 600 a0 0 0))))))))))))))) : Pt_X6_out_0 C G a0 x1 x2 m := by
  obtain ⟨hF, hQ, hR⟩ := id S
  have h0 : zF0 C cX6_out 4 wsX6_out RX6 := hF.1
  have hL := hF.2.2.1
  unfold Pt_X6_out_0
  refine zx_aload_n h0 0 dX6_out_0 rfl ?_
  refine zx_iconst (v := 0) h0 dX6_out_1 (by decide) ?_
  refine zp_600 hF ka0 zi_X6_out_6 zn_X6_out_129 dX6_out_2 ?_
  refine zx_aload_n h0 0 dX6_out_5 rfl ?_
  refine zx_iload_n h0 1 dX6_out_6 rfl ?_
  obtain ⟨ho1, h⟩ := h
  refine zx_callVi (As := [.int x1]) (rest := []) hF (c_X6_isClaim a0 x1 (zsI m 600 a0 0 0) ka0 ho1) (zc_X6_out_X6_isClaim S) ka0 (by decide) rfl dX6_out_7 rfl rfl (Nat.le_of_ble_eq_true rfl) ⟨Nat.zero_le _, Nat.zero_le _⟩ (fun r2 m2 hq => ?_)
  obtain ⟨hme, hq⟩ := hq
  subst m2
  replace h := h r2 hq
  refine zx_if_eq (tgt := 43) h0 dX6_out_10 (by decide) (fun q => ?_) (fun q => ?_)
  · replace h := h.1 q
    refine zx_iconst (v := 0) h0 dX6_out_43 (by decide) ?_
    exact zx_zret hF hQ rfl dX6_out_44 h
  · replace h := h.2 q
    refine zx_aload_n h0 0 dX6_out_13 rfl ?_
    refine zx_get hF ka0 (by decide) rfl zi_X6_out_6 8 (by decide) zn_X6_out_33 rfl rfl dX6_out_14 ?_
    refine zx_iconst (v := 0) h0 dX6_out_17 (by decide) ?_
    refine zx_zald (j := 0) hF (zL_6_8 hL ka0) (by decide) rfl rfl (by unfold vp_in; decide) (by decide) dX6_out_18 ?_
    refine zx_topI (zI_n (by decide)) ?_
    refine zx_if_ne (tgt := 43) h0 dX6_out_19 (by decide) (fun q => ?_) (fun q => ?_)
    · replace h := h.1 q
      refine zx_iconst (v := 0) h0 dX6_out_43 (by decide) ?_
      exact zx_zret hF hQ rfl dX6_out_44 h
    · replace h := h.2 q
      refine zx_iload_n h0 2 dX6_out_22 rfl ?_
      refine zx_aload_n h0 0 dX6_out_23 rfl ?_
      refine zx_iload_n h0 1 dX6_out_24 rfl ?_
      refine zx_iconst (v := 2) h0 dX6_out_25 (by decide) ?_
      obtain ⟨ho3, h⟩ := h
      refine zx_callVi (As := [.int x1, .int 2]) (rest := [.int x2]) hF (c_X6_is a0 x1 2 (zsI m 600 a0 0 0) ka0 ho3) (zc_X6_out_X6_is S) ka0 (by decide) rfl dX6_out_26 rfl rfl (Nat.le_of_ble_eq_true rfl) ⟨Nat.zero_le _, Nat.zero_le _⟩ (fun r4 m4 hq => ?_)
      obtain ⟨hme, hq⟩ := hq
      subst m4
      replace h := h r4 hq
      refine zx_icmp_eq (tgt := 43) h0 dX6_out_29 (by decide) (fun q => ?_) (fun q => ?_)
      · replace h := h.1 q
        refine zx_iconst (v := 0) h0 dX6_out_43 (by decide) ?_
        exact zx_zret hF hQ rfl dX6_out_44 h
      · replace h := h.2 q
        refine zx_aload_n h0 0 dX6_out_32 rfl ?_
        refine zx_get hF ka0 (by decide) rfl zi_X6_out_6 10 (by decide) zn_X6_out_40 rfl rfl dX6_out_33 ?_
        refine zx_iload_n h0 1 dX6_out_36 rfl ?_
        obtain ⟨ho5, h⟩ := h
        refine zx_lald (j := x1.toNatClampNeg) hF (zL_6_10 hL ka0) (by decide) rfl rfl ho5 rfl dX6_out_37 ?_
        refine zx_topJ (zJ_I) ?_
        refine zx_lconst (v := 0) h0 dX6_out_38 (by decide) ?_
        refine zx_lcmp_le (tgt := 45) h0 dX6_out_39 dX6_out_40 (by decide) (fun q => ?_) (fun q => ?_)
        · replace h := h.1 q
          refine zx_aload_n h0 0 dX6_out_45 rfl ?_
          refine zx_iload_n h0 1 dX6_out_46 rfl ?_
          refine zx_iconst (v := 5) h0 dX6_out_47 (by decide) ?_
          obtain ⟨ho6, h⟩ := h
          refine zx_callVi (As := [.int x1, .int 5]) (rest := []) hF (c_X6_of a0 x1 5 (zsI m 600 a0 0 0) ka0 ho6) (zc_X6_out_X6_of S) ka0 (by decide) rfl dX6_out_48 rfl rfl (Nat.le_of_ble_eq_true rfl) ⟨Nat.zero_le _, Nat.zero_le _⟩ (fun r7 m7 hq => ?_)
          obtain ⟨hme, hq⟩ := hq
          subst m7
          replace h := h r7 hq
          refine zx_istore_n (L' := [(3, .int r7), (0, .ref a0), (1, .int x1), (2, .int x2)]) h0 dX6_out_51 (by decide) rfl ?_
          refine zx_aload_n h0 1 dX6_out_52 rfl ?_
          refine zx_get hF ka0 (by decide) rfl zi_X6_out_6 9 (by decide) zn_X6_out_37 rfl rfl dX6_out_53 ?_
          refine zx_bipush (v := 10) h0 dX6_out_56 (by decide) ?_
          refine zx_iload_n h0 2 dX6_out_58 rfl ?_
          refine zx_imul h0 dX6_out_59 ?_
          refine zx_iconst (v := 5) h0 dX6_out_60 (by decide) ?_
          refine zx_iadd h0 dX6_out_61 ?_
          refine zx_iload_n h0 3 dX6_out_62 rfl ?_
          refine zx_if_eq (tgt := 70) h0 dX6_out_63 (by decide) (fun q => ?_) (fun q => ?_)
          · replace h := h.1 q
            refine zx_iconst (v := 0) h0 dX6_out_70 (by decide) ?_
            exact zx_sub [1, 2, 0] rfl h
          · replace h := h.2 q
            refine zx_iconst (v := 2) h0 dX6_out_66 (by decide) ?_
            refine zx_goto (tgt := 71) h0 dX6_out_67 (by decide) ?_
            exact zx_sub [1, 2, 0] rfl h
        · replace h := h.2 q
          refine zx_iconst (v := 0) h0 dX6_out_43 (by decide) ?_
          exact zx_zret hF hQ rfl dX6_out_44 h
set_option maxRecDepth 100000 in
set_option maxHeartbeats 4000000 in
theorem sg_X6_out_71 {C : zC} {G : zG} {Qc : Array Value → State → Outcome → State → Prop} (S : St_X6_out C G Qc) {P_X6_holds : Nat → zM → Prop} {Q_X6_holds : Nat → zM → Int32 → Prop} (c_X6_holds : Con_X6_holds (zl C) G P_X6_holds Q_X6_holds) {a0 : Nat} {x1 : Int32} {x3 : Int32} {s0 : Int32} {s1 : Int32} {m : zM} (ka0 : zK G a0 = some (6, a0))
    (h : (vp_in s1 640) ∧ ((P_X6_holds a0 (zsI m 1609 a0 s1.toNatClampNeg s0)) ∧ (∀ (r3 : Int32), Q_X6_holds a0 (zsI m 1609 a0 s1.toNatClampNeg s0) r3 → ((¬ r3 = 0 → (zRet C G Qc (some (.int 1)) (zsI m 1609 a0 s1.toNatClampNeg s0))) ∧ (r3 = 0 → ((vp_in ((10 * x1) + 5) 640) ∧ (zRet C G Qc (some (.int 0)) (zsI (zsI m 1609 a0 s1.toNatClampNeg s0) 1609 a0 (((10 * x1) + 5).toNatClampNeg) x3)))))))) : Pt_X6_out_71 C G a0 x1 x3 s0 s1 m := by
  obtain ⟨hF, hQ, hR⟩ := id S
  have h0 : zF0 C cX6_out 4 wsX6_out RX6 := hF.1
  have hL := hF.2.2.1
  unfold Pt_X6_out_71
  obtain ⟨ho1, h⟩ := h
  refine zx_iast (j := s1.toNatClampNeg) hF (zL_6_9 hL ka0) (by decide) rfl rfl ho1 rfl rfl (z_fit rfl) dX6_out_71 ?_
  refine zx_aload_n h0 0 dX6_out_72 rfl ?_
  obtain ⟨ho2, h⟩ := h
  refine zx_callVi (As := []) (rest := []) hF (c_X6_holds a0 (zsI m 1609 a0 s1.toNatClampNeg s0) ka0 ho2) (zc_X6_out_X6_holds S) ka0 (by decide) rfl dX6_out_73 rfl rfl (Nat.le_of_ble_eq_true rfl) ⟨Nat.zero_le _, Nat.zero_le _⟩ (fun r3 m3 hq => ?_)
  obtain ⟨hme, hq⟩ := hq
  subst m3
  replace h := h r3 hq
  refine zx_if_ne (tgt := 93) h0 dX6_out_76 (by decide) (fun q => ?_) (fun q => ?_)
  · replace h := h.1 q
    refine zx_iconst (v := 1) h0 dX6_out_93 (by decide) ?_
    exact zx_zret hF hQ rfl dX6_out_94 h
  · replace h := h.2 q
    refine zx_aload_n h0 0 dX6_out_79 rfl ?_
    refine zx_get hF ka0 (by decide) rfl zi_X6_out_6 9 (by decide) zn_X6_out_37 rfl rfl dX6_out_80 ?_
    refine zx_bipush (v := 10) h0 dX6_out_83 (by decide) ?_
    refine zx_iload_n h0 1 dX6_out_85 rfl ?_
    refine zx_imul h0 dX6_out_86 ?_
    refine zx_iconst (v := 5) h0 dX6_out_87 (by decide) ?_
    refine zx_iadd h0 dX6_out_88 ?_
    refine zx_iload_n h0 2 dX6_out_89 rfl ?_
    obtain ⟨ho4, h⟩ := h
    refine zx_iast (j := ((10 * x1) + 5).toNatClampNeg) hF (zL_6_9 hL ka0) (by decide) rfl rfl ho4 rfl rfl (z_fit rfl) dX6_out_90 ?_
    refine zx_iconst (v := 0) h0 dX6_out_91 (by decide) ?_
    exact zx_zret hF hQ rfl dX6_out_92 h
theorem zn_X6_points_129 : Cond.fieldLink RX6 129 RX6 (TX6 0).2.1 (TX6 0).2.2.1 ∈ wsX6_points := List.mem_of_getElem? (i := 1) rfl
theorem zi_X6_points_6 : ∀ w ∈ u_ws RX6 TX6 50, w ∈ wsX6_points := fun _ h => List.mem_cons_of_mem _ (List.mem_append_right _ h)
theorem zc_X6_points_X6_canBe {C : zC} {G : zG} {Qc : Array Value → State → Outcome → State → Prop} (S : St_X6_points C G Qc) : CallB (zRm C) (zs C) (zar C) RX6 303 yX6_canBe cX6_canBe 4 (some .boolean) wsX6_canBe rm_X6_canBe 0 0 4 ∧ (Cond.static yX6_canBe).before (zar C) (zs C) = true := cwS 4 S.1.1.2.2.2.2 gX6_points_X6_canBe rfl rfl rfl (by decide +kernel) (by rw [S.2.2]; exact ⟨Nat.le_of_ble_eq_true rfl, Nat.le_of_ble_eq_true rfl⟩)
theorem zc_X6_points_X6_pointsOf {C : zC} {G : zG} {Qc : Array Value → State → Outcome → State → Prop} (S : St_X6_points C G Qc) : CallW (zRm C) (zs C) (zar C) RX6 RX6 282 yX6_pointsOf cX6_pointsOf 9 (some .int) wsX6_pointsOf rm_X6_pointsOf 0 0 4 := cwV 4 S.1.1.2.2.2.2 gX6_points_X6_pointsOf rfl rfl rfl (by decide +kernel) (by rw [S.2.2]; exact ⟨Nat.le_of_ble_eq_true rfl, Nat.le_of_ble_eq_true rfl⟩)
set_option maxRecDepth 100000 in
set_option maxHeartbeats 4000000 in
theorem sg_X6_points_0 {C : zC} {G : zG} {Qc : Array Value → State → Outcome → State → Prop} (S : St_X6_points C G Qc) {P_X6_canBe : Int32 → Int32 → Int32 → Int32 → zM → Prop} {Q_X6_canBe : Int32 → Int32 → Int32 → Int32 → zM → Int32 → Prop} (c_X6_canBe : Con_X6_canBe (zl C) G P_X6_canBe Q_X6_canBe) {P_X6_pointsOf : Nat → Int32 → Int32 → Int32 → Int32 → zM → Prop} {Q_X6_pointsOf : Nat → Int32 → Int32 → Int32 → Int32 → zM → Int32 → Prop} (c_X6_pointsOf : Con_X6_pointsOf (zl C) G P_X6_pointsOf Q_X6_pointsOf) {a0 : Nat} {x1 : Int32} {x2 : Int32} {x3 : Int32} {x4 : Int32} {m : zM} (ka0 : zK G a0 = some (6, a0))
    (h : (P_X6_canBe x1 x2 x3 x4 (zsI m 600 a0 0 0)) ∧ (∀ (r2 : Int32), Q_X6_canBe x1 x2 x3 x4 (zsI m 600 a0 0 0) r2 → ((r2 = 0 → (zRet C G Qc (some (.int (-1))) (zsI m 600 a0 0 0))) ∧ (¬ r2 = 0 → ((P_X6_pointsOf a0 x1 x2 x3 x4 (zsI m 600 a0 0 0)) ∧ (∀ (r4 : Int32), Q_X6_pointsOf a0 x1 x2 x3 x4 (zsI m 600 a0 0 0) r4 → (zRet C G Qc (some (.int r4)) (zsI m 600 a0 0 0)))))))) : Pt_X6_points_0 C G a0 x1 x2 x3 x4 m := by
  obtain ⟨hF, hQ, hR⟩ := id S
  have h0 : zF0 C cX6_points 5 wsX6_points RX6 := hF.1
  have hL := hF.2.2.1
  unfold Pt_X6_points_0
  refine zx_aload_n h0 0 dX6_points_0 rfl ?_
  refine zx_iconst (v := 0) h0 dX6_points_1 (by decide) ?_
  refine zp_600 hF ka0 zi_X6_points_6 zn_X6_points_129 dX6_points_2 ?_
  refine zx_iload_n h0 1 dX6_points_5 rfl ?_
  refine zx_iload_n h0 2 dX6_points_6 rfl ?_
  refine zx_iload_n h0 3 dX6_points_7 rfl ?_
  refine zx_iload h0 4 dX6_points_8 rfl ?_
  obtain ⟨ho1, h⟩ := h
  refine zx_callSi (As := [.int x1, .int x2, .int x3, .int x4]) (rest := []) hF (c_X6_canBe x1 x2 x3 x4 (zsI m 600 a0 0 0)  ho1) (zc_X6_points_X6_canBe S)  dX6_points_10 rfl rfl (Nat.le_of_ble_eq_true rfl) ⟨Nat.zero_le _, Nat.zero_le _⟩ (fun r2 m2 hq => ?_)
  obtain ⟨hme, hq⟩ := hq
  subst m2
  replace h := h r2 hq
  refine zx_if_eq (tgt := 28) h0 dX6_points_13 (by decide) (fun q => ?_) (fun q => ?_)
  · replace h := h.1 q
    refine zx_iconst (v := (-1)) h0 dX6_points_28 (by decide) ?_
    exact zx_iret hF hQ dX6_points_29 h
  · replace h := h.2 q
    refine zx_aload_n h0 0 dX6_points_16 rfl ?_
    refine zx_iload_n h0 1 dX6_points_17 rfl ?_
    refine zx_iload_n h0 2 dX6_points_18 rfl ?_
    refine zx_iload_n h0 3 dX6_points_19 rfl ?_
    refine zx_iload h0 4 dX6_points_20 rfl ?_
    obtain ⟨ho3, h⟩ := h
    refine zx_callVi (As := [.int x1, .int x2, .int x3, .int x4]) (rest := []) hF (c_X6_pointsOf a0 x1 x2 x3 x4 (zsI m 600 a0 0 0) ka0 ho3) (zc_X6_points_X6_pointsOf S) ka0 (by decide) rfl dX6_points_22 rfl rfl (Nat.le_of_ble_eq_true rfl) ⟨Nat.zero_le _, Nat.zero_le _⟩ (fun r4 m4 hq => ?_)
    obtain ⟨hme, hq⟩ := hq
    subst m4
    replace h := h r4 hq
    refine zx_goto (tgt := 29) h0 dX6_points_25 (by decide) ?_
    exact zx_iret hF hQ dX6_points_29 h
