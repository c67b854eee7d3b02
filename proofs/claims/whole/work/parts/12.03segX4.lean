
set_option maxRecDepth 100000 in
set_option maxHeartbeats 4000000 in
theorem sg_X4_kindOf_0 {C : zC} {G : zG} {Qc : Array Value → State → Outcome → State → Prop} (S : St_X4_kindOf C G Qc) {x0 : Int32} {m : zM}
    (h : (x0 < 97 → ((x0 < 48 → (Pt_X4_kindOf_28 C G x0 m)) ∧ (¬ x0 < 48 → ((57 < x0 → (Pt_X4_kindOf_28 C G x0 m)) ∧ (¬ 57 < x0 → (zRet C G Qc (some (.int 2)) m)))))) ∧ (¬ x0 < 97 → ((122 < x0 → ((x0 < 48 → (Pt_X4_kindOf_28 C G x0 m)) ∧ (¬ x0 < 48 → ((57 < x0 → (Pt_X4_kindOf_28 C G x0 m)) ∧ (¬ 57 < x0 → (zRet C G Qc (some (.int 2)) m)))))) ∧ (¬ 122 < x0 → (zRet C G Qc (some (.int 1)) m))))) : Pt_X4_kindOf_0 C G x0 m := by
  obtain ⟨hF, hQ, hR⟩ := id S
  have h0 : zF0 C cX4_kindOf 1 wsX4_kindOf RX4 := hF.1
  have hL := hF.2.2.1
  unfold Pt_X4_kindOf_0
  refine zx_iload_n h0 0 dX4_kindOf_0 rfl ?_
  refine zx_bipush (v := 97) h0 dX4_kindOf_1 (by decide) ?_
  refine zx_icmp_lt (tgt := 14) h0 dX4_kindOf_3 (by decide) (fun q => ?_) (fun q => ?_)
  · replace h := h.1 q
    refine zx_iload_n h0 0 dX4_kindOf_14 rfl ?_
    refine zx_bipush (v := 48) h0 dX4_kindOf_15 (by decide) ?_
    refine zx_icmp_lt (tgt := 28) h0 dX4_kindOf_17 (by decide) (fun q => ?_) (fun q => ?_)
    · replace h := h.1 q
      exact zx_sub [0] rfl h
    · replace h := h.2 q
      refine zx_iload_n h0 0 dX4_kindOf_20 rfl ?_
      refine zx_bipush (v := 57) h0 dX4_kindOf_21 (by decide) ?_
      refine zx_icmp_gt (tgt := 28) h0 dX4_kindOf_23 (by decide) (fun q => ?_) (fun q => ?_)
      · replace h := h.1 q
        exact zx_sub [0] rfl h
      · replace h := h.2 q
        refine zx_iconst (v := 2) h0 dX4_kindOf_26 (by decide) ?_
        exact zx_iret hF hQ dX4_kindOf_27 h
  · replace h := h.2 q
    refine zx_iload_n h0 0 dX4_kindOf_6 rfl ?_
    refine zx_bipush (v := 122) h0 dX4_kindOf_7 (by decide) ?_
    refine zx_icmp_gt (tgt := 14) h0 dX4_kindOf_9 (by decide) (fun q => ?_) (fun q => ?_)
    · replace h := h.1 q
      refine zx_iload_n h0 0 dX4_kindOf_14 rfl ?_
      refine zx_bipush (v := 48) h0 dX4_kindOf_15 (by decide) ?_
      refine zx_icmp_lt (tgt := 28) h0 dX4_kindOf_17 (by decide) (fun q => ?_) (fun q => ?_)
      · replace h := h.1 q
        exact zx_sub [0] rfl h
      · replace h := h.2 q
        refine zx_iload_n h0 0 dX4_kindOf_20 rfl ?_
        refine zx_bipush (v := 57) h0 dX4_kindOf_21 (by decide) ?_
        refine zx_icmp_gt (tgt := 28) h0 dX4_kindOf_23 (by decide) (fun q => ?_) (fun q => ?_)
        · replace h := h.1 q
          exact zx_sub [0] rfl h
        · replace h := h.2 q
          refine zx_iconst (v := 2) h0 dX4_kindOf_26 (by decide) ?_
          exact zx_iret hF hQ dX4_kindOf_27 h
    · replace h := h.2 q
      refine zx_iconst (v := 1) h0 dX4_kindOf_12 (by decide) ?_
      exact zx_iret hF hQ dX4_kindOf_13 h
set_option maxRecDepth 100000 in
set_option maxHeartbeats 4000000 in
theorem sg_X4_kindOf_28 {C : zC} {G : zG} {Qc : Array Value → State → Outcome → State → Prop} (S : St_X4_kindOf C G Qc) {x0 : Int32} {m : zM}
    (h : (x0 < 58 → (zRet C G Qc (some (.int 3)) m)) ∧ (¬ x0 < 58 → ((62 < x0 → (zRet C G Qc (some (.int 3)) m)) ∧ (¬ 62 < x0 → (zRet C G Qc (some (.int x0)) m))))) : Pt_X4_kindOf_28 C G x0 m := by
  obtain ⟨hF, hQ, hR⟩ := id S
  have h0 : zF0 C cX4_kindOf 1 wsX4_kindOf RX4 := hF.1
  have hL := hF.2.2.1
  unfold Pt_X4_kindOf_28
  refine zx_iload_n h0 0 dX4_kindOf_28 rfl ?_
  refine zx_bipush (v := 58) h0 dX4_kindOf_29 (by decide) ?_
  refine zx_icmp_lt (tgt := 44) h0 dX4_kindOf_31 (by decide) (fun q => ?_) (fun q => ?_)
  · replace h := h.1 q
    refine zx_iconst (v := 3) h0 dX4_kindOf_44 (by decide) ?_
    exact zx_iret hF hQ dX4_kindOf_45 h
  · replace h := h.2 q
    refine zx_iload_n h0 0 dX4_kindOf_34 rfl ?_
    refine zx_bipush (v := 62) h0 dX4_kindOf_35 (by decide) ?_
    refine zx_icmp_gt (tgt := 44) h0 dX4_kindOf_37 (by decide) (fun q => ?_) (fun q => ?_)
    · replace h := h.1 q
      refine zx_iconst (v := 3) h0 dX4_kindOf_44 (by decide) ?_
      exact zx_iret hF hQ dX4_kindOf_45 h
    · replace h := h.2 q
      refine zx_iload_n h0 0 dX4_kindOf_40 rfl ?_
      refine zx_goto (tgt := 45) h0 dX4_kindOf_41 (by decide) ?_
      exact zx_iret hF hQ dX4_kindOf_45 h
theorem zn_X4_advance_107 : Cond.fieldLink RX4 107 RX4 (TX4 4).2.1 (TX4 4).2.2.1 ∈ wsX4_advance := List.mem_of_getElem? (i := 1) rfl
theorem zi_X4_advance_4 : ∀ w ∈ u_ws RX4 TX4 8, w ∈ wsX4_advance := fun _ h => List.mem_cons_of_mem _ (List.mem_append_right _ h)
theorem zn_X4_advance_48 : Cond.fieldLink RX4 48 RX4 (TX4 3).2.1 (TX4 3).2.2.1 ∈ wsX4_advance := List.mem_of_getElem? (i := 2) rfl
theorem zn_X4_advance_19 : Cond.fieldLink RX4 19 RX4 (TX4 1).2.1 (TX4 1).2.2.1 ∈ wsX4_advance := List.mem_of_getElem? (i := 3) rfl
theorem zn_X4_advance_15 : Cond.fieldLink RX4 15 RX4 (TX4 0).2.1 (TX4 0).2.2.1 ∈ wsX4_advance := List.mem_of_getElem? (i := 4) rfl
theorem zn_X4_advance_34 : Cond.fieldLink RX4 34 RX4 (TX4 5).2.1 (TX4 5).2.2.1 ∈ wsX4_advance := List.mem_of_getElem? (i := 5) rfl
theorem zc_X4_advance_X4_kindOf {C : zC} {G : zG} {Qc : Array Value → State → Outcome → State → Prop} (S : St_X4_advance C G Qc) : CallB (zRm C) (zs C) (zar C) RX4 118 yX4_kindOf cX4_kindOf 1 (some .int) wsX4_kindOf rm_X4_kindOf 0 0 1 ∧ (Cond.static yX4_kindOf).before (zar C) (zs C) = true := cwS 1 S.1.1.2.2.2.2 gX4_advance_X4_kindOf rfl rfl rfl (by decide +kernel) (by rw [S.2.2]; exact ⟨Nat.le_of_ble_eq_true rfl, Nat.le_of_ble_eq_true rfl⟩)
set_option maxRecDepth 100000 in
set_option maxHeartbeats 4000000 in
theorem sg_X4_advance_0 {C : zC} {G : zG} {Qc : Array Value → State → Outcome → State → Prop} (S : St_X4_advance C G Qc) {a0 : Nat} {m : zM} (ka0 : zK G a0 = some (4, a0))
    (h : Pt_X4_advance_8 C G a0 (zsI m 403 a0 0 (zI m 404 a0 0))) : Pt_X4_advance_0 C G a0 m := by
  obtain ⟨hF, hQ, hR⟩ := id S
  have h0 : zF0 C cX4_advance 2 wsX4_advance RX4 := hF.1
  have hL := hF.2.2.1
  unfold Pt_X4_advance_0
  refine zx_aload_n h0 0 dX4_advance_0 rfl ?_
  refine zx_aload_n h0 0 dX4_advance_1 rfl ?_
  refine zx_get hF ka0 (by decide) rfl zi_X4_advance_4 4 (by decide) zn_X4_advance_107 rfl rfl dX4_advance_2 ?_
  refine zp_403 hF ka0 zi_X4_advance_4 zn_X4_advance_48 dX4_advance_5 ?_
  exact zx_sub [0] rfl h
set_option maxRecDepth 100000 in
set_option maxHeartbeats 4000000 in
theorem sg_X4_advance_8 {C : zC} {G : zG} {Qc : Array Value → State → Outcome → State → Prop} (S : St_X4_advance C G Qc) {a0 : Nat} {m : zM} (ka0 : zK G a0 = some (4, a0))
    (h : ((zI m 401 a0 0) ≤ (zI m 403 a0 0) → (Pt_X4_advance_60 C G a0 m)) ∧ (¬ (zI m 401 a0 0) ≤ (zI m 403 a0 0) → ((vp_in (zI m 403 a0 0) 400) ∧ (((zI m 1001 (zR m 400 a0) ((zI m 403 a0 0).toNatClampNeg)) = 32 → (Pt_X4_advance_8 C G a0 (zsI m 403 a0 0 ((zI m 403 a0 0) + 1)))) ∧ (¬ (zI m 1001 (zR m 400 a0) ((zI m 403 a0 0).toNatClampNeg)) = 32 → ((¬ (zI m 1001 (zR m 400 a0) ((zI m 403 a0 0).toNatClampNeg)) = 10 → (Pt_X4_advance_60 C G a0 m)) ∧ ((zI m 1001 (zR m 400 a0) ((zI m 403 a0 0).toNatClampNeg)) = 10 → (Pt_X4_advance_8 C G a0 (zsI m 403 a0 0 ((zI m 403 a0 0) + 1)))))))))) : Pt_X4_advance_8 C G a0 m := by
  obtain ⟨hF, hQ, hR⟩ := id S
  have h0 : zF0 C cX4_advance 2 wsX4_advance RX4 := hF.1
  have hL := hF.2.2.1
  unfold Pt_X4_advance_8
  refine zx_aload_n h0 0 dX4_advance_8 rfl ?_
  refine zx_get hF ka0 (by decide) rfl zi_X4_advance_4 3 (by decide) zn_X4_advance_48 rfl rfl dX4_advance_9 ?_
  refine zx_aload_n h0 0 dX4_advance_12 rfl ?_
  refine zx_get hF ka0 (by decide) rfl zi_X4_advance_4 1 (by decide) zn_X4_advance_19 rfl rfl dX4_advance_13 ?_
  refine zx_icmp_ge (tgt := 60) h0 dX4_advance_16 (by decide) (fun q => ?_) (fun q => ?_)
  · replace h := h.1 q
    exact zx_sub [0] rfl h
  · replace h := h.2 q
    refine zx_aload_n h0 0 dX4_advance_19 rfl ?_
    refine zx_wt (fun hw1 => ?_)
    refine zx_get hF ka0 (by decide) rfl zi_X4_advance_4 0 (by decide) zn_X4_advance_15 rfl rfl dX4_advance_20 ?_
    refine zx_aload_n h0 0 dX4_advance_23 rfl ?_
    refine zx_get hF ka0 (by decide) rfl zi_X4_advance_4 3 (by decide) zn_X4_advance_48 rfl rfl dX4_advance_24 ?_
    obtain ⟨ho2, h⟩ := h
    refine zx_bald (j := (zI m 403 a0 0).toNatClampNeg) hF (zL_0_1 hL (hw1.2.2.1 _ ka0).1) (by decide) rfl rfl ho2 rfl dX4_advance_27 ?_
    refine zx_bipush (v := 32) h0 dX4_advance_28 (by decide) ?_
    refine zx_icmp_eq (tgt := 47) h0 dX4_advance_30 (by decide) (fun q => ?_) (fun q => ?_)
    · replace h := h.1 q
      refine zx_aload_n h0 0 dX4_advance_47 rfl ?_
      refine zx_dup h0 dX4_advance_48 rfl ?_
      refine zx_get hF ka0 (by decide) rfl zi_X4_advance_4 3 (by decide) zn_X4_advance_48 rfl rfl dX4_advance_49 ?_
      refine zx_iconst (v := 1) h0 dX4_advance_52 (by decide) ?_
      refine zx_iadd h0 dX4_advance_53 ?_
      refine zp_403 hF ka0 zi_X4_advance_4 zn_X4_advance_48 dX4_advance_54 ?_
      refine zx_goto (tgt := 8) h0 dX4_advance_57 (by decide) ?_
      exact zx_sub [0] rfl h
    · replace h := h.2 q
      refine zx_aload_n h0 0 dX4_advance_33 rfl ?_
      refine zx_wt (fun hw3 => ?_)
      refine zx_get hF ka0 (by decide) rfl zi_X4_advance_4 0 (by decide) zn_X4_advance_15 rfl rfl dX4_advance_34 ?_
      refine zx_aload_n h0 0 dX4_advance_37 rfl ?_
      refine zx_get hF ka0 (by decide) rfl zi_X4_advance_4 3 (by decide) zn_X4_advance_48 rfl rfl dX4_advance_38 ?_
      refine zx_bald (j := (zI m 403 a0 0).toNatClampNeg) hF (zL_0_1 hL (hw3.2.2.1 _ ka0).1) (by decide) rfl rfl ho2 rfl dX4_advance_41 ?_
      refine zx_bipush (v := 10) h0 dX4_advance_42 (by decide) ?_
      refine zx_icmp_ne (tgt := 60) h0 dX4_advance_44 (by decide) (fun q => ?_) (fun q => ?_)
      · replace h := h.1 q
        exact zx_sub [0] rfl h
      · replace h := h.2 q
        refine zx_aload_n h0 0 dX4_advance_47 rfl ?_
        refine zx_dup h0 dX4_advance_48 rfl ?_
        refine zx_get hF ka0 (by decide) rfl zi_X4_advance_4 3 (by decide) zn_X4_advance_48 rfl rfl dX4_advance_49 ?_
        refine zx_iconst (v := 1) h0 dX4_advance_52 (by decide) ?_
        refine zx_iadd h0 dX4_advance_53 ?_
        refine zp_403 hF ka0 zi_X4_advance_4 zn_X4_advance_48 dX4_advance_54 ?_
        refine zx_goto (tgt := 8) h0 dX4_advance_57 (by decide) ?_
        exact zx_sub [0] rfl h
set_option maxRecDepth 100000 in
set_option maxHeartbeats 4000000 in
theorem sg_X4_advance_60 {C : zC} {G : zG} {Qc : Array Value → State → Outcome → State → Prop} (S : St_X4_advance C G Qc) {P_X4_kindOf : Int32 → zM → Prop} {Q_X4_kindOf : Int32 → zM → Int32 → Prop} (c_X4_kindOf : Con_X4_kindOf (zl C) G P_X4_kindOf Q_X4_kindOf) {a0 : Nat} {m : zM} (ka0 : zK G a0 = some (4, a0))
    (h : ((zI m 403 a0 0) < (zI m 401 a0 0) → ((vp_in (zI m 403 a0 0) 400) ∧ ((P_X4_kindOf (zI m 1001 (zR (zsI m 404 a0 0 (zI m 403 a0 0)) 400 a0) ((zI m 403 a0 0).toNatClampNeg)) (zsI m 404 a0 0 (zI m 403 a0 0))) ∧ (∀ (r4 : Int32), Q_X4_kindOf (zI m 1001 (zR (zsI m 404 a0 0 (zI m 403 a0 0)) 400 a0) ((zI m 403 a0 0).toNatClampNeg)) (zsI m 404 a0 0 (zI m 403 a0 0)) r4 → ((r4 = 1 → (Pt_X4_advance_133 C G a0 1 (zsI (zsI (zsI m 404 a0 0 (zI m 403 a0 0)) 405 a0 0 r4) 404 a0 0 ((zI m 403 a0 0) + 1)))) ∧ (¬ r4 = 1 → ((¬ r4 = 2 → (Pt_X4_advance_133 C G a0 0 (zsI (zsI (zsI m 404 a0 0 (zI m 403 a0 0)) 405 a0 0 r4) 404 a0 0 ((zI m 403 a0 0) + 1)))) ∧ (r4 = 2 → (Pt_X4_advance_133 C G a0 1 (zsI (zsI (zsI m 404 a0 0 (zI m 403 a0 0)) 405 a0 0 r4) 404 a0 0 ((zI m 403 a0 0) + 1))))))))))) ∧ (¬ (zI m 403 a0 0) < (zI m 401 a0 0) → (zRet C G Qc none (zsI (zsI m 404 a0 0 (zI m 403 a0 0)) 405 a0 0 0)))) : Pt_X4_advance_60 C G a0 m := by
  obtain ⟨hF, hQ, hR⟩ := id S
  have h0 : zF0 C cX4_advance 2 wsX4_advance RX4 := hF.1
  have hL := hF.2.2.1
  unfold Pt_X4_advance_60
  refine zx_aload_n h0 0 dX4_advance_60 rfl ?_
  refine zx_aload_n h0 0 dX4_advance_61 rfl ?_
  refine zx_get hF ka0 (by decide) rfl zi_X4_advance_4 3 (by decide) zn_X4_advance_48 rfl rfl dX4_advance_62 ?_
  refine zp_404 hF ka0 zi_X4_advance_4 zn_X4_advance_107 dX4_advance_65 ?_
  refine zx_aload_n h0 0 dX4_advance_68 rfl ?_
  refine zx_get hF ka0 (by decide) rfl zi_X4_advance_4 3 (by decide) zn_X4_advance_48 rfl rfl dX4_advance_69 ?_
  refine zx_topI (zI_n (by decide)) ?_
  refine zx_aload_n h0 0 dX4_advance_72 rfl ?_
  refine zx_get hF ka0 (by decide) rfl zi_X4_advance_4 1 (by decide) zn_X4_advance_19 rfl rfl dX4_advance_73 ?_
  refine zx_topI (zI_n (by decide)) ?_
  refine zx_icmp_lt (tgt := 85) h0 dX4_advance_76 (by decide) (fun q => ?_) (fun q => ?_)
  · replace h := h.1 q
    refine zx_aload_n h0 0 dX4_advance_85 rfl ?_
    refine zx_aload_n h0 0 dX4_advance_86 rfl ?_
    refine zx_wt (fun hw1 => ?_)
    refine zx_get hF ka0 (by decide) rfl zi_X4_advance_4 0 (by decide) zn_X4_advance_15 rfl rfl dX4_advance_87 ?_
    refine zx_aload_n h0 0 dX4_advance_90 rfl ?_
    refine zx_get hF ka0 (by decide) rfl zi_X4_advance_4 3 (by decide) zn_X4_advance_48 rfl rfl dX4_advance_91 ?_
    refine zx_topI (zI_n (by decide)) ?_
    obtain ⟨ho2, h⟩ := h
    refine zx_bald (j := (zI m 403 a0 0).toNatClampNeg) hF (zL_0_1 hL (hw1.2.2.1 _ ka0).1) (by decide) rfl rfl ho2 rfl dX4_advance_94 ?_
    refine zx_topI (zI_n (by decide)) ?_
    obtain ⟨ho3, h⟩ := h
    refine zx_callSi (As := [.int (zI m 1001 (zR (zsI m 404 a0 0 (zI m 403 a0 0)) 400 a0) ((zI m 403 a0 0).toNatClampNeg))]) (rest := [.ref a0]) hF (c_X4_kindOf (zI m 1001 (zR (zsI m 404 a0 0 (zI m 403 a0 0)) 400 a0) ((zI m 403 a0 0).toNatClampNeg)) (zsI m 404 a0 0 (zI m 403 a0 0))  ho3) (zc_X4_advance_X4_kindOf S)  dX4_advance_95 rfl rfl (Nat.le_of_ble_eq_true rfl) ⟨Nat.zero_le _, Nat.zero_le _⟩ (fun r4 m4 hq => ?_)
    obtain ⟨hme, hq⟩ := hq
    subst m4
    replace h := h r4 hq
    refine zp_405 hF ka0 zi_X4_advance_4 zn_X4_advance_34 dX4_advance_98 ?_
    refine zx_aload_n h0 0 dX4_advance_101 rfl ?_
    refine zx_dup h0 dX4_advance_102 rfl ?_
    refine zx_get hF ka0 (by decide) rfl zi_X4_advance_4 4 (by decide) zn_X4_advance_107 rfl rfl dX4_advance_103 ?_
    refine zx_topI ((zI_n (by decide)).trans (zI_e)) ?_
    refine zx_iconst (v := 1) h0 dX4_advance_106 (by decide) ?_
    refine zx_iadd h0 dX4_advance_107 ?_
    refine zp_404 hF ka0 zi_X4_advance_4 zn_X4_advance_107 dX4_advance_108 ?_
    refine zx_aload_n h0 0 dX4_advance_111 rfl ?_
    refine zx_get hF ka0 (by decide) rfl zi_X4_advance_4 5 (by decide) zn_X4_advance_34 rfl rfl dX4_advance_112 ?_
    refine zx_topI ((zI_n (by decide)).trans (zI_e)) ?_
    refine zx_iconst (v := 1) h0 dX4_advance_115 (by decide) ?_
    refine zx_icmp_eq (tgt := 127) h0 dX4_advance_116 (by decide) (fun q => ?_) (fun q => ?_)
    · replace h := h.1 q
      refine zx_iconst (v := 1) h0 dX4_advance_127 (by decide) ?_
      refine zx_goto (tgt := 132) h0 dX4_advance_128 (by decide) ?_
      refine zx_istore_n (L' := [(1, .int 1), (0, .ref a0)]) h0 dX4_advance_132 (by decide) rfl ?_
      exact zx_sub [1, 0] rfl h
    · replace h := h.2 q
      refine zx_aload_n h0 0 dX4_advance_119 rfl ?_
      refine zx_get hF ka0 (by decide) rfl zi_X4_advance_4 5 (by decide) zn_X4_advance_34 rfl rfl dX4_advance_120 ?_
      refine zx_topI ((zI_n (by decide)).trans (zI_e)) ?_
      refine zx_iconst (v := 2) h0 dX4_advance_123 (by decide) ?_
      refine zx_icmp_ne (tgt := 131) h0 dX4_advance_124 (by decide) (fun q => ?_) (fun q => ?_)
      · replace h := h.1 q
        refine zx_iconst (v := 0) h0 dX4_advance_131 (by decide) ?_
        refine zx_istore_n (L' := [(1, .int 0), (0, .ref a0)]) h0 dX4_advance_132 (by decide) rfl ?_
        exact zx_sub [1, 0] rfl h
      · replace h := h.2 q
        refine zx_iconst (v := 1) h0 dX4_advance_127 (by decide) ?_
        refine zx_goto (tgt := 132) h0 dX4_advance_128 (by decide) ?_
        refine zx_istore_n (L' := [(1, .int 1), (0, .ref a0)]) h0 dX4_advance_132 (by decide) rfl ?_
        exact zx_sub [1, 0] rfl h
  · replace h := h.2 q
    refine zx_aload_n h0 0 dX4_advance_79 rfl ?_
    refine zx_iconst (v := 0) h0 dX4_advance_80 (by decide) ?_
    refine zp_405 hF ka0 zi_X4_advance_4 zn_X4_advance_34 dX4_advance_81 ?_
    exact zx_vret hF hQ dX4_advance_84 h
set_option maxRecDepth 100000 in
set_option maxHeartbeats 4000000 in
theorem sg_X4_advance_133 {C : zC} {G : zG} {Qc : Array Value → State → Outcome → State → Prop} (S : St_X4_advance C G Qc) {P_X4_kindOf : Int32 → zM → Prop} {Q_X4_kindOf : Int32 → zM → Int32 → Prop} (c_X4_kindOf : Con_X4_kindOf (zl C) G P_X4_kindOf Q_X4_kindOf) {a0 : Nat} {x1 : Int32} {m : zM} (ka0 : zK G a0 = some (4, a0))
    (h : (x1 = 0 → (Pt_X4_advance_180 C G a0 m)) ∧ (¬ x1 = 0 → (((zI m 401 a0 0) ≤ (zI m 404 a0 0) → (Pt_X4_advance_180 C G a0 m)) ∧ (¬ (zI m 401 a0 0) ≤ (zI m 404 a0 0) → ((vp_in (zI m 404 a0 0) 400) ∧ ((P_X4_kindOf (zI m 1001 (zR m 400 a0) ((zI m 404 a0 0).toNatClampNeg)) m) ∧ (∀ (r4 : Int32), Q_X4_kindOf (zI m 1001 (zR m 400 a0) ((zI m 404 a0 0).toNatClampNeg)) m r4 → ((¬ r4 = (zI m 405 a0 0) → (Pt_X4_advance_180 C G a0 m)) ∧ (r4 = (zI m 405 a0 0) → (Pt_X4_advance_133 C G a0 x1 (zsI m 404 a0 0 ((zI m 404 a0 0) + 1)))))))))))) : Pt_X4_advance_133 C G a0 x1 m := by
  obtain ⟨hF, hQ, hR⟩ := id S
  have h0 : zF0 C cX4_advance 2 wsX4_advance RX4 := hF.1
  have hL := hF.2.2.1
  unfold Pt_X4_advance_133
  refine zx_iload_n h0 1 dX4_advance_133 rfl ?_
  refine zx_if_eq (tgt := 180) h0 dX4_advance_134 (by decide) (fun q => ?_) (fun q => ?_)
  · replace h := h.1 q
    exact zx_sub [0] rfl h
  · replace h := h.2 q
    refine zx_aload_n h0 0 dX4_advance_137 rfl ?_
    refine zx_get hF ka0 (by decide) rfl zi_X4_advance_4 4 (by decide) zn_X4_advance_107 rfl rfl dX4_advance_138 ?_
    refine zx_aload_n h0 0 dX4_advance_141 rfl ?_
    refine zx_get hF ka0 (by decide) rfl zi_X4_advance_4 1 (by decide) zn_X4_advance_19 rfl rfl dX4_advance_142 ?_
    refine zx_icmp_ge (tgt := 180) h0 dX4_advance_145 (by decide) (fun q => ?_) (fun q => ?_)
    · replace h := h.1 q
      exact zx_sub [0] rfl h
    · replace h := h.2 q
      refine zx_aload_n h0 0 dX4_advance_148 rfl ?_
      refine zx_wt (fun hw1 => ?_)
      refine zx_get hF ka0 (by decide) rfl zi_X4_advance_4 0 (by decide) zn_X4_advance_15 rfl rfl dX4_advance_149 ?_
      refine zx_aload_n h0 0 dX4_advance_152 rfl ?_
      refine zx_get hF ka0 (by decide) rfl zi_X4_advance_4 4 (by decide) zn_X4_advance_107 rfl rfl dX4_advance_153 ?_
      obtain ⟨ho2, h⟩ := h
      refine zx_bald (j := (zI m 404 a0 0).toNatClampNeg) hF (zL_0_1 hL (hw1.2.2.1 _ ka0).1) (by decide) rfl rfl ho2 rfl dX4_advance_156 ?_
      obtain ⟨ho3, h⟩ := h
      refine zx_callSi (As := [.int (zI m 1001 (zR m 400 a0) ((zI m 404 a0 0).toNatClampNeg))]) (rest := []) hF (c_X4_kindOf (zI m 1001 (zR m 400 a0) ((zI m 404 a0 0).toNatClampNeg)) m  ho3) (zc_X4_advance_X4_kindOf S)  dX4_advance_157 rfl rfl (Nat.le_of_ble_eq_true rfl) ⟨Nat.zero_le _, Nat.zero_le _⟩ (fun r4 m4 hq => ?_)
      obtain ⟨hme, hq⟩ := hq
      subst m4
      replace h := h r4 hq
      refine zx_aload_n h0 0 dX4_advance_160 rfl ?_
      refine zx_get hF ka0 (by decide) rfl zi_X4_advance_4 5 (by decide) zn_X4_advance_34 rfl rfl dX4_advance_161 ?_
      refine zx_icmp_ne (tgt := 180) h0 dX4_advance_164 (by decide) (fun q => ?_) (fun q => ?_)
      · replace h := h.1 q
        exact zx_sub [0] rfl h
      · replace h := h.2 q
        refine zx_aload_n h0 0 dX4_advance_167 rfl ?_
        refine zx_dup h0 dX4_advance_168 rfl ?_
        refine zx_get hF ka0 (by decide) rfl zi_X4_advance_4 4 (by decide) zn_X4_advance_107 rfl rfl dX4_advance_169 ?_
        refine zx_iconst (v := 1) h0 dX4_advance_172 (by decide) ?_
        refine zx_iadd h0 dX4_advance_173 ?_
        refine zp_404 hF ka0 zi_X4_advance_4 zn_X4_advance_107 dX4_advance_174 ?_
        refine zx_goto (tgt := 133) h0 dX4_advance_177 (by decide) ?_
        exact zx_sub [0, 1] rfl h
set_option maxRecDepth 100000 in
set_option maxHeartbeats 4000000 in
theorem sg_X4_advance_180 {C : zC} {G : zG} {Qc : Array Value → State → Outcome → State → Prop} (S : St_X4_advance C G Qc) {a0 : Nat} {m : zM} (ka0 : zK G a0 = some (4, a0))
    (h : (¬ (zI m 405 a0 0) = 2 → (zRet C G Qc none m)) ∧ ((zI m 405 a0 0) = 2 → ((((zI m 404 a0 0) - (zI m 403 a0 0)) ≤ 4 → (zRet C G Qc none m)) ∧ (¬ ((zI m 404 a0 0) - (zI m 403 a0 0)) ≤ 4 → (zRet C G Qc none (zsI m 405 a0 0 3)))))) : Pt_X4_advance_180 C G a0 m := by
  obtain ⟨hF, hQ, hR⟩ := id S
  have h0 : zF0 C cX4_advance 2 wsX4_advance RX4 := hF.1
  have hL := hF.2.2.1
  unfold Pt_X4_advance_180
  refine zx_aload_n h0 0 dX4_advance_180 rfl ?_
  refine zx_get hF ka0 (by decide) rfl zi_X4_advance_4 5 (by decide) zn_X4_advance_34 rfl rfl dX4_advance_181 ?_
  refine zx_iconst (v := 2) h0 dX4_advance_184 (by decide) ?_
  refine zx_icmp_ne (tgt := 206) h0 dX4_advance_185 (by decide) (fun q => ?_) (fun q => ?_)
  · replace h := h.1 q
    exact zx_vret hF hQ dX4_advance_206 h
  · replace h := h.2 q
    refine zx_aload_n h0 0 dX4_advance_188 rfl ?_
    refine zx_get hF ka0 (by decide) rfl zi_X4_advance_4 4 (by decide) zn_X4_advance_107 rfl rfl dX4_advance_189 ?_
    refine zx_aload_n h0 0 dX4_advance_192 rfl ?_
    refine zx_get hF ka0 (by decide) rfl zi_X4_advance_4 3 (by decide) zn_X4_advance_48 rfl rfl dX4_advance_193 ?_
    refine zx_isub h0 dX4_advance_196 ?_
    refine zx_iconst (v := 4) h0 dX4_advance_197 (by decide) ?_
    refine zx_icmp_le (tgt := 206) h0 dX4_advance_198 (by decide) (fun q => ?_) (fun q => ?_)
    · replace h := h.1 q
      exact zx_vret hF hQ dX4_advance_206 h
    · replace h := h.2 q
      refine zx_aload_n h0 0 dX4_advance_201 rfl ?_
      refine zx_iconst (v := 3) h0 dX4_advance_202 (by decide) ?_
      refine zp_405 hF ka0 zi_X4_advance_4 zn_X4_advance_34 dX4_advance_203 ?_
      exact zx_vret hF hQ dX4_advance_206 h
theorem zn_X4_note_45 : Cond.fieldLink RX4 45 RX4 (TX4 6).2.1 (TX4 6).2.2.1 ∈ wsX4_note := List.mem_of_getElem? (i := 1) rfl
theorem zi_X4_note_4 : ∀ w ∈ u_ws RX4 TX4 8, w ∈ wsX4_note := fun _ h => List.mem_cons_of_mem _ (List.mem_append_right _ h)
theorem zn_X4_note_48 : Cond.fieldLink RX4 48 RX4 (TX4 3).2.1 (TX4 3).2.2.1 ∈ wsX4_note := List.mem_of_getElem? (i := 2) rfl
theorem zn_X4_note_9 : Cond.fieldLink RX4 9 RX4 (TX4 7).2.1 (TX4 7).2.2.1 ∈ wsX4_note := List.mem_of_getElem? (i := 3) rfl
set_option maxRecDepth 100000 in
set_option maxHeartbeats 4000000 in
theorem sg_X4_note_0 {C : zC} {G : zG} {Qc : Array Value → State → Outcome → State → Prop} (S : St_X4_note C G Qc) {a0 : Nat} {x1 : Int32} {m : zM} (ka0 : zK G a0 = some (4, a0))
    (h : (¬ (zI m 406 a0 0) = 0 → (zRet C G Qc none m)) ∧ ((zI m 406 a0 0) = 0 → (zRet C G Qc none (zsI (zsI m 406 a0 0 x1) 407 a0 0 (zI m 403 a0 0))))) : Pt_X4_note_0 C G a0 x1 m := by
  obtain ⟨hF, hQ, hR⟩ := id S
  have h0 : zF0 C cX4_note 2 wsX4_note RX4 := hF.1
  have hL := hF.2.2.1
  unfold Pt_X4_note_0
  refine zx_aload_n h0 0 dX4_note_0 rfl ?_
  refine zx_get hF ka0 (by decide) rfl zi_X4_note_4 6 (by decide) zn_X4_note_45 rfl rfl dX4_note_1 ?_
  refine zx_if_ne (tgt := 20) h0 dX4_note_4 (by decide) (fun q => ?_) (fun q => ?_)
  · replace h := h.1 q
    exact zx_vret hF hQ dX4_note_20 h
  · replace h := h.2 q
    refine zx_aload_n h0 0 dX4_note_7 rfl ?_
    refine zx_iload_n h0 1 dX4_note_8 rfl ?_
    refine zp_406 hF ka0 zi_X4_note_4 zn_X4_note_45 dX4_note_9 ?_
    refine zx_aload_n h0 0 dX4_note_12 rfl ?_
    refine zx_aload_n h0 0 dX4_note_13 rfl ?_
    refine zx_get hF ka0 (by decide) rfl zi_X4_note_4 3 (by decide) zn_X4_note_48 rfl rfl dX4_note_14 ?_
    refine zx_topI (zI_n (by decide)) ?_
    refine zp_407 hF ka0 zi_X4_note_4 zn_X4_note_9 dX4_note_17 ?_
    exact zx_vret hF hQ dX4_note_20 h
theorem zn_X4_isWord_34 : Cond.fieldLink RX4 34 RX4 (TX4 5).2.1 (TX4 5).2.2.1 ∈ wsX4_isWord := List.mem_of_getElem? (i := 1) rfl
theorem zi_X4_isWord_4 : ∀ w ∈ u_ws RX4 TX4 8, w ∈ wsX4_isWord := fun _ h => List.mem_cons_of_mem _ (List.mem_append_right _ h)
theorem zn_X4_isWord_107 : Cond.fieldLink RX4 107 RX4 (TX4 4).2.1 (TX4 4).2.2.1 ∈ wsX4_isWord := List.mem_of_getElem? (i := 2) rfl
theorem zn_X4_isWord_48 : Cond.fieldLink RX4 48 RX4 (TX4 3).2.1 (TX4 3).2.2.1 ∈ wsX4_isWord := List.mem_of_getElem? (i := 3) rfl
theorem zn_X4_isWord_15 : Cond.fieldLink RX4 15 RX4 (TX4 0).2.1 (TX4 0).2.2.1 ∈ wsX4_isWord := List.mem_of_getElem? (i := 4) rfl
theorem zc_X4_isWord_J0_length_8abf5 {C : zC} {G : zG} {Qc : Array Value → State → Outcome → State → Prop} (S : St_X4_isWord C G Qc) : CallW (zRm C) (zs C) (zar C) RX4 RJ0 110 yJ0_length_8abf5 cJ0_length_8abf5 1 (some .int) wsJ0_length_8abf5 rm_J0_length_8abf5 0 0 0 := cwV 0 S.1.1.2.2.2.2 gX4_isWord_J0_length_8abf5 rfl rfl rfl (by decide +kernel) (by rw [S.2.2]; exact ⟨Nat.le_of_ble_eq_true rfl, Nat.le_of_ble_eq_true rfl⟩)
theorem zc_X4_isWord_J0_charAt_5068e {C : zC} {G : zG} {Qc : Array Value → State → Outcome → State → Prop} (S : St_X4_isWord C G Qc) : CallW (zRm C) (zs C) (zar C) RX4 RJ0 114 yJ0_charAt_5068e cJ0_charAt_5068e 2 (some .char) wsJ0_charAt_5068e rm_J0_charAt_5068e 0 0 1 := cwV 1 S.1.1.2.2.2.2 gX4_isWord_J0_charAt_5068e rfl rfl rfl (by decide +kernel) (by rw [S.2.2]; exact ⟨Nat.le_of_ble_eq_true rfl, Nat.le_of_ble_eq_true rfl⟩)
set_option maxRecDepth 100000 in
set_option maxHeartbeats 4000000 in
theorem sg_X4_isWord_0 {C : zC} {G : zG} {Qc : Array Value → State → Outcome → State → Prop} (S : St_X4_isWord C G Qc) (c_len : Con_len (zl C) G) (c_chr : Con_chr (zl C) G) {a0 : Nat} {t1 : Nat} {m : zM} (ka0 : zK G a0 = some (4, a0)) (kt1 : t1 < 13)
    (h : (¬ (zI m 405 a0 0) = 1 → (zRet C G Qc (some (.int 0)) m)) ∧ ((zI m 405 a0 0) = 1 → ((((zI m 404 a0 0) - (zI m 403 a0 0)) = (nI (zlens.getD t1 0)) → (Pt_X4_isWord_28 C G a0 t1 0 m)) ∧ (¬ ((zI m 404 a0 0) - (zI m 403 a0 0)) = (nI (zlens.getD t1 0)) → (zRet C G Qc (some (.int 0)) m))))) : Pt_X4_isWord_0 C G a0 t1 m := by
  obtain ⟨hF, hQ, hR⟩ := id S
  have h0 : zF0 C cX4_isWord 3 wsX4_isWord RX4 := hF.1
  have hL := hF.2.2.1
  unfold Pt_X4_isWord_0
  refine zx_aload_n h0 0 dX4_isWord_0 rfl ?_
  refine zx_get hF ka0 (by decide) rfl zi_X4_isWord_4 5 (by decide) zn_X4_isWord_34 rfl rfl dX4_isWord_1 ?_
  refine zx_iconst (v := 1) h0 dX4_isWord_4 (by decide) ?_
  refine zx_icmp_ne (tgt := 24) h0 dX4_isWord_5 (by decide) (fun q => ?_) (fun q => ?_)
  · replace h := h.1 q
    refine zx_iconst (v := 0) h0 dX4_isWord_24 (by decide) ?_
    exact zx_zret hF hQ rfl dX4_isWord_25 h
  · replace h := h.2 q
    refine zx_aload_n h0 0 dX4_isWord_8 rfl ?_
    refine zx_get hF ka0 (by decide) rfl zi_X4_isWord_4 4 (by decide) zn_X4_isWord_107 rfl rfl dX4_isWord_9 ?_
    refine zx_aload_n h0 0 dX4_isWord_12 rfl ?_
    refine zx_get hF ka0 (by decide) rfl zi_X4_isWord_4 3 (by decide) zn_X4_isWord_48 rfl rfl dX4_isWord_13 ?_
    refine zx_isub h0 dX4_isWord_16 ?_
    refine zx_aload_n h0 1 dX4_isWord_17 rfl ?_
    refine zx_strlen (rest := [.int ((zI m 404 a0 0) - (zI m 403 a0 0))]) hF c_len (zc_X4_isWord_J0_length_8abf5 S) kt1 dX4_isWord_18 (Nat.le_of_ble_eq_true rfl) ⟨Nat.zero_le _, Nat.zero_le _⟩ ?_
    refine zx_icmp_eq (tgt := 26) h0 dX4_isWord_21 (by decide) (fun q => ?_) (fun q => ?_)
    · replace h := h.1 q
      refine zx_iconst (v := 0) h0 dX4_isWord_26 (by decide) ?_
      refine zx_istore_n (L' := [(2, .int 0), (0, .ref a0), (1, .ref (zaK G t1))]) h0 dX4_isWord_27 (by decide) rfl ?_
      exact zx_sub [1, 2, 0] rfl h
    · replace h := h.2 q
      refine zx_iconst (v := 0) h0 dX4_isWord_24 (by decide) ?_
      exact zx_zret hF hQ rfl dX4_isWord_25 h
set_option maxRecDepth 100000 in
set_option maxHeartbeats 4000000 in
theorem sg_X4_isWord_28 {C : zC} {G : zG} {Qc : Array Value → State → Outcome → State → Prop} (S : St_X4_isWord C G Qc) (c_len : Con_len (zl C) G) (c_chr : Con_chr (zl C) G) {a0 : Nat} {t1 : Nat} {x2 : Int32} {m : zM} (ka0 : zK G a0 = some (4, a0)) (kt1 : t1 < 13)
    (h : ((nI (zlens.getD t1 0)) ≤ x2 → (zRet C G Qc (some (.int 1)) m)) ∧ (¬ (nI (zlens.getD t1 0)) ≤ x2 → ((vp_in ((zI m 403 a0 0) + x2) 400) ∧ ((∃ j : Nat, j < zlens.getD t1 0 ∧ x2 = nI j) ∧ (((zI m 1001 (zR m 400 a0) (((zI m 403 a0 0) + x2).toNatClampNeg)) = (zchr t1 x2.toNatClampNeg) → (Pt_X4_isWord_28 C G a0 t1 (x2 + 1) m)) ∧ (¬ (zI m 1001 (zR m 400 a0) (((zI m 403 a0 0) + x2).toNatClampNeg)) = (zchr t1 x2.toNatClampNeg) → (zRet C G Qc (some (.int 0)) m))))))) : Pt_X4_isWord_28 C G a0 t1 x2 m := by
  obtain ⟨hF, hQ, hR⟩ := id S
  have h0 : zF0 C cX4_isWord 3 wsX4_isWord RX4 := hF.1
  have hL := hF.2.2.1
  unfold Pt_X4_isWord_28
  refine zx_iload_n h0 2 dX4_isWord_28 rfl ?_
  refine zx_aload_n h0 1 dX4_isWord_29 rfl ?_
  refine zx_strlen (rest := [.int x2]) hF c_len (zc_X4_isWord_J0_length_8abf5 S) kt1 dX4_isWord_30 (Nat.le_of_ble_eq_true rfl) ⟨Nat.zero_le _, Nat.zero_le _⟩ ?_
  refine zx_icmp_ge (tgt := 63) h0 dX4_isWord_33 (by decide) (fun q => ?_) (fun q => ?_)
  · replace h := h.1 q
    refine zx_iconst (v := 1) h0 dX4_isWord_63 (by decide) ?_
    exact zx_zret hF hQ rfl dX4_isWord_64 h
  · replace h := h.2 q
    refine zx_aload_n h0 0 dX4_isWord_36 rfl ?_
    refine zx_wt (fun hw1 => ?_)
    refine zx_get hF ka0 (by decide) rfl zi_X4_isWord_4 0 (by decide) zn_X4_isWord_15 rfl rfl dX4_isWord_37 ?_
    refine zx_aload_n h0 0 dX4_isWord_40 rfl ?_
    refine zx_get hF ka0 (by decide) rfl zi_X4_isWord_4 3 (by decide) zn_X4_isWord_48 rfl rfl dX4_isWord_41 ?_
    refine zx_iload_n h0 2 dX4_isWord_44 rfl ?_
    refine zx_iadd h0 dX4_isWord_45 ?_
    obtain ⟨ho2, h⟩ := h
    refine zx_bald (j := ((zI m 403 a0 0) + x2).toNatClampNeg) hF (zL_0_1 hL (hw1.2.2.1 _ ka0).1) (by decide) rfl rfl ho2 rfl dX4_isWord_46 ?_
    refine zx_aload_n h0 1 dX4_isWord_47 rfl ?_
    refine zx_iload_n h0 2 dX4_isWord_48 rfl ?_
    obtain ⟨ho3, h⟩ := h
    refine zx_strchar (rest := [.int (zI m 1001 (zR m 400 a0) (((zI m 403 a0 0) + x2).toNatClampNeg))]) hF c_chr (zc_X4_isWord_J0_charAt_5068e S) kt1 ho3 dX4_isWord_49 (Nat.le_of_ble_eq_true rfl) ⟨Nat.zero_le _, Nat.zero_le _⟩ ?_
    refine zx_icmp_eq (tgt := 57) h0 dX4_isWord_52 (by decide) (fun q => ?_) (fun q => ?_)
    · replace h := h.1 q
      refine zx_iinc (v := (x2 + 1)) (L' := [(2, .int (x2 + 1)), (0, .ref a0), (1, .ref (zaK G t1))]) h0 2 dX4_isWord_57 rfl rfl (by decide) rfl ?_
      refine zx_goto (tgt := 28) h0 dX4_isWord_60 (by decide) ?_
      exact zx_sub [1, 2, 0] rfl h
    · replace h := h.2 q
      refine zx_iconst (v := 0) h0 dX4_isWord_55 (by decide) ?_
      exact zx_zret hF hQ rfl dX4_isWord_56 h
theorem zc_X4_takeWord_X4_isWord {C : zC} {G : zG} {Qc : Array Value → State → Outcome → State → Prop} (S : St_X4_takeWord C G Qc) : CallW (zRm C) (zs C) (zar C) RX4 RX4 86 yX4_isWord cX4_isWord 3 (some .boolean) wsX4_isWord rm_X4_isWord 0 0 1 := cwV 1 S.1.1.2.2.2.2 gX4_takeWord_X4_isWord rfl rfl rfl (by decide +kernel) (by rw [S.2.2]; exact ⟨Nat.le_of_ble_eq_true rfl, Nat.le_of_ble_eq_true rfl⟩)
theorem zc_X4_takeWord_X4_advance {C : zC} {G : zG} {Qc : Array Value → State → Outcome → State → Prop} (S : St_X4_takeWord C G Qc) : CallW (zRm C) (zs C) (zar C) RX4 RX4 31 yX4_advance cX4_advance 2 none wsX4_advance rm_X4_advance 0 0 0 := cwV 0 S.1.1.2.2.2.2 gX4_takeWord_X4_advance rfl rfl rfl (by decide +kernel) (by rw [S.2.2]; exact ⟨Nat.le_of_ble_eq_true rfl, Nat.le_of_ble_eq_true rfl⟩)
set_option maxRecDepth 100000 in
set_option maxHeartbeats 4000000 in
theorem sg_X4_takeWord_0 {C : zC} {G : zG} {Qc : Array Value → State → Outcome → State → Prop} (S : St_X4_takeWord C G Qc) {P_X4_isWord : Nat → Nat → zM → Prop} {Q_X4_isWord : Nat → Nat → zM → Int32 → Prop} (c_X4_isWord : Con_X4_isWord (zl C) G P_X4_isWord Q_X4_isWord) {P_X4_advance : Nat → zM → Prop} {Q_X4_advance : Nat → zM → zM → Prop} (c_X4_advance : Con_X4_advance (zl C) G P_X4_advance Q_X4_advance) {a0 : Nat} {t1 : Nat} {m : zM} (ka0 : zK G a0 = some (4, a0)) (kt1 : t1 < 13)
    (h : (P_X4_isWord a0 t1 m) ∧ (∀ (r2 : Int32), Q_X4_isWord a0 t1 m r2 → ((¬ r2 = 0 → ((P_X4_advance a0 m) ∧ (∀ (m4 : zM), Q_X4_advance a0 m m4 → (zRet C G Qc (some (.int 1)) m4)))) ∧ (r2 = 0 → (zRet C G Qc (some (.int 0)) m))))) : Pt_X4_takeWord_0 C G a0 t1 m := by
  obtain ⟨hF, hQ, hR⟩ := id S
  have h0 : zF0 C cX4_takeWord 2 wsX4_takeWord RX4 := hF.1
  have hL := hF.2.2.1
  unfold Pt_X4_takeWord_0
  refine zx_aload_n h0 0 dX4_takeWord_0 rfl ?_
  refine zx_aload_n h0 1 dX4_takeWord_1 rfl ?_
  obtain ⟨ho1, h⟩ := h
  refine zx_callVi (As := [.ref (zaK G t1)]) (rest := []) hF (c_X4_isWord a0 t1 m ka0 kt1 ho1) (zc_X4_takeWord_X4_isWord S) ka0 (by decide) rfl dX4_takeWord_2 rfl rfl (Nat.le_of_ble_eq_true rfl) ⟨Nat.zero_le _, Nat.zero_le _⟩ (fun r2 m2 hq => ?_)
  obtain ⟨hme, hq⟩ := hq
  subst m2
  replace h := h r2 hq
  refine zx_if_ne (tgt := 10) h0 dX4_takeWord_5 (by decide) (fun q => ?_) (fun q => ?_)
  · replace h := h.1 q
    refine zx_aload_n h0 0 dX4_takeWord_10 rfl ?_
    obtain ⟨ho3, h⟩ := h
    refine zx_callVv (As := []) (rest := []) hF (c_X4_advance a0 m ka0 ho3) (zc_X4_takeWord_X4_advance S) ka0 (by decide) rfl dX4_takeWord_11 rfl rfl (Nat.le_of_ble_eq_true rfl) ⟨Nat.zero_le _, Nat.zero_le _⟩ (fun m4 hq => ?_)
    replace h := h m4 hq
    refine zx_iconst (v := 1) h0 dX4_takeWord_14 (by decide) ?_
    exact zx_zret hF hQ rfl dX4_takeWord_15 h
  · replace h := h.2 q
    refine zx_iconst (v := 0) h0 dX4_takeWord_8 (by decide) ?_
    exact zx_zret hF hQ rfl dX4_takeWord_9 h
theorem zc_X4_subjectAtHand_X4_isWord {C : zC} {G : zG} {Qc : Array Value → State → Outcome → State → Prop} (S : St_X4_subjectAtHand C G Qc) : CallW (zRm C) (zs C) (zar C) RX4 RX4 86 yX4_isWord cX4_isWord 3 (some .boolean) wsX4_isWord rm_X4_isWord 0 0 1 := cwV 1 S.1.1.2.2.2.2 gX4_subjectAtHand_X4_isWord rfl rfl rfl (by decide +kernel) (by rw [S.2.2]; exact ⟨Nat.le_of_ble_eq_true rfl, Nat.le_of_ble_eq_true rfl⟩)
set_option maxRecDepth 100000 in
set_option maxHeartbeats 4000000 in
theorem sg_X4_subjectAtHand_0 {C : zC} {G : zG} {Qc : Array Value → State → Outcome → State → Prop} (S : St_X4_subjectAtHand C G Qc) {P_X4_isWord : Nat → Nat → zM → Prop} {Q_X4_isWord : Nat → Nat → zM → Int32 → Prop} (c_X4_isWord : Con_X4_isWord (zl C) G P_X4_isWord Q_X4_isWord) {a0 : Nat} {m : zM} (ka0 : zK G a0 = some (4, a0))
    (h : (P_X4_isWord a0 3 m) ∧ (∀ (r2 : Int32), Q_X4_isWord a0 3 m r2 → ((r2 = 0 → ((P_X4_isWord a0 4 m) ∧ (∀ (r4 : Int32), Q_X4_isWord a0 4 m r4 → ((r4 = 0 → ((P_X4_isWord a0 5 m) ∧ (∀ (r6 : Int32), Q_X4_isWord a0 5 m r6 → ((r6 = 0 → ((P_X4_isWord a0 6 m) ∧ (∀ (r8 : Int32), Q_X4_isWord a0 6 m r8 → ((r8 = 0 → ((P_X4_isWord a0 7 m) ∧ (∀ (r10 : Int32), Q_X4_isWord a0 7 m r10 → ((r10 = 0 → ((P_X4_isWord a0 8 m) ∧ (∀ (r12 : Int32), Q_X4_isWord a0 8 m r12 → ((r12 = 0 → (zRet C G Qc (some (.int (-1))) m)) ∧ (¬ r12 = 0 → (zRet C G Qc (some (.int 5)) m)))))) ∧ (¬ r10 = 0 → (zRet C G Qc (some (.int 4)) m)))))) ∧ (¬ r8 = 0 → (zRet C G Qc (some (.int 3)) m)))))) ∧ (¬ r6 = 0 → (zRet C G Qc (some (.int 2)) m)))))) ∧ (¬ r4 = 0 → (zRet C G Qc (some (.int 1)) m)))))) ∧ (¬ r2 = 0 → (zRet C G Qc (some (.int 0)) m))))) : Pt_X4_subjectAtHand_0 C G a0 m := by
  obtain ⟨hF, hQ, hR⟩ := id S
  have h0 : zF0 C cX4_subjectAtHand 1 wsX4_subjectAtHand RX4 := hF.1
  have hL := hF.2.2.1
  unfold Pt_X4_subjectAtHand_0
  refine zx_aload_n h0 0 dX4_subjectAtHand_0 rfl ?_
  refine zx_ldcS hF 3 (by decide) rfl dX4_subjectAtHand_1 ?_
  obtain ⟨ho1, h⟩ := h
  refine zx_callVi (As := [.ref (zaK G 3)]) (rest := []) hF (c_X4_isWord a0 3 m ka0 (by decide) ho1) (zc_X4_subjectAtHand_X4_isWord S) ka0 (by decide) rfl dX4_subjectAtHand_3 rfl rfl (Nat.le_of_ble_eq_true rfl) ⟨Nat.zero_le _, Nat.zero_le _⟩ (fun r2 m2 hq => ?_)
  obtain ⟨hme, hq⟩ := hq
  subst m2
  replace h := h r2 hq
  refine zx_if_eq (tgt := 11) h0 dX4_subjectAtHand_6 (by decide) (fun q => ?_) (fun q => ?_)
  · replace h := h.1 q
    refine zx_aload_n h0 0 dX4_subjectAtHand_11 rfl ?_
    refine zx_ldcS hF 4 (by decide) rfl dX4_subjectAtHand_12 ?_
    obtain ⟨ho3, h⟩ := h
    refine zx_callVi (As := [.ref (zaK G 4)]) (rest := []) hF (c_X4_isWord a0 4 m ka0 (by decide) ho3) (zc_X4_subjectAtHand_X4_isWord S) ka0 (by decide) rfl dX4_subjectAtHand_14 rfl rfl (Nat.le_of_ble_eq_true rfl) ⟨Nat.zero_le _, Nat.zero_le _⟩ (fun r4 m4 hq => ?_)
    obtain ⟨hme, hq⟩ := hq
    subst m4
    replace h := h r4 hq
    refine zx_if_eq (tgt := 22) h0 dX4_subjectAtHand_17 (by decide) (fun q => ?_) (fun q => ?_)
    · replace h := h.1 q
      refine zx_aload_n h0 0 dX4_subjectAtHand_22 rfl ?_
      refine zx_ldcS hF 5 (by decide) rfl dX4_subjectAtHand_23 ?_
      obtain ⟨ho5, h⟩ := h
      refine zx_callVi (As := [.ref (zaK G 5)]) (rest := []) hF (c_X4_isWord a0 5 m ka0 (by decide) ho5) (zc_X4_subjectAtHand_X4_isWord S) ka0 (by decide) rfl dX4_subjectAtHand_25 rfl rfl (Nat.le_of_ble_eq_true rfl) ⟨Nat.zero_le _, Nat.zero_le _⟩ (fun r6 m6 hq => ?_)
      obtain ⟨hme, hq⟩ := hq
      subst m6
      replace h := h r6 hq
      refine zx_if_eq (tgt := 33) h0 dX4_subjectAtHand_28 (by decide) (fun q => ?_) (fun q => ?_)
      · replace h := h.1 q
        refine zx_aload_n h0 0 dX4_subjectAtHand_33 rfl ?_
        refine zx_ldcS hF 6 (by decide) rfl dX4_subjectAtHand_34 ?_
        obtain ⟨ho7, h⟩ := h
        refine zx_callVi (As := [.ref (zaK G 6)]) (rest := []) hF (c_X4_isWord a0 6 m ka0 (by decide) ho7) (zc_X4_subjectAtHand_X4_isWord S) ka0 (by decide) rfl dX4_subjectAtHand_36 rfl rfl (Nat.le_of_ble_eq_true rfl) ⟨Nat.zero_le _, Nat.zero_le _⟩ (fun r8 m8 hq => ?_)
        obtain ⟨hme, hq⟩ := hq
        subst m8
        replace h := h r8 hq
        refine zx_if_eq (tgt := 44) h0 dX4_subjectAtHand_39 (by decide) (fun q => ?_) (fun q => ?_)
        · replace h := h.1 q
          refine zx_aload_n h0 0 dX4_subjectAtHand_44 rfl ?_
          refine zx_ldcS hF 7 (by decide) rfl dX4_subjectAtHand_45 ?_
          obtain ⟨ho9, h⟩ := h
          refine zx_callVi (As := [.ref (zaK G 7)]) (rest := []) hF (c_X4_isWord a0 7 m ka0 (by decide) ho9) (zc_X4_subjectAtHand_X4_isWord S) ka0 (by decide) rfl dX4_subjectAtHand_47 rfl rfl (Nat.le_of_ble_eq_true rfl) ⟨Nat.zero_le _, Nat.zero_le _⟩ (fun r10 m10 hq => ?_)
          obtain ⟨hme, hq⟩ := hq
          subst m10
          replace h := h r10 hq
          refine zx_if_eq (tgt := 55) h0 dX4_subjectAtHand_50 (by decide) (fun q => ?_) (fun q => ?_)
          · replace h := h.1 q
            refine zx_aload_n h0 0 dX4_subjectAtHand_55 rfl ?_
            refine zx_ldcS hF 8 (by decide) rfl dX4_subjectAtHand_56 ?_
            obtain ⟨ho11, h⟩ := h
            refine zx_callVi (As := [.ref (zaK G 8)]) (rest := []) hF (c_X4_isWord a0 8 m ka0 (by decide) ho11) (zc_X4_subjectAtHand_X4_isWord S) ka0 (by decide) rfl dX4_subjectAtHand_58 rfl rfl (Nat.le_of_ble_eq_true rfl) ⟨Nat.zero_le _, Nat.zero_le _⟩ (fun r12 m12 hq => ?_)
            obtain ⟨hme, hq⟩ := hq
            subst m12
            replace h := h r12 hq
            refine zx_if_eq (tgt := 68) h0 dX4_subjectAtHand_61 (by decide) (fun q => ?_) (fun q => ?_)
            · replace h := h.1 q
              refine zx_iconst (v := (-1)) h0 dX4_subjectAtHand_68 (by decide) ?_
              exact zx_iret hF hQ dX4_subjectAtHand_69 h
            · replace h := h.2 q
              refine zx_iconst (v := 5) h0 dX4_subjectAtHand_64 (by decide) ?_
              refine zx_goto (tgt := 69) h0 dX4_subjectAtHand_65 (by decide) ?_
              exact zx_iret hF hQ dX4_subjectAtHand_69 h
          · replace h := h.2 q
            refine zx_iconst (v := 4) h0 dX4_subjectAtHand_53 (by decide) ?_
            exact zx_iret hF hQ dX4_subjectAtHand_54 h
        · replace h := h.2 q
          refine zx_iconst (v := 3) h0 dX4_subjectAtHand_42 (by decide) ?_
          exact zx_iret hF hQ dX4_subjectAtHand_43 h
      · replace h := h.2 q
        refine zx_iconst (v := 2) h0 dX4_subjectAtHand_31 (by decide) ?_
        exact zx_iret hF hQ dX4_subjectAtHand_32 h
    · replace h := h.2 q
      refine zx_iconst (v := 1) h0 dX4_subjectAtHand_20 (by decide) ?_
      exact zx_iret hF hQ dX4_subjectAtHand_21 h
  · replace h := h.2 q
    refine zx_iconst (v := 0) h0 dX4_subjectAtHand_9 (by decide) ?_
    exact zx_iret hF hQ dX4_subjectAtHand_10 h
theorem zn_X4_numberAtHand_48 : Cond.fieldLink RX4 48 RX4 (TX4 3).2.1 (TX4 3).2.2.1 ∈ wsX4_numberAtHand := List.mem_of_getElem? (i := 1) rfl
theorem zi_X4_numberAtHand_4 : ∀ w ∈ u_ws RX4 TX4 8, w ∈ wsX4_numberAtHand := fun _ h => List.mem_cons_of_mem _ (List.mem_append_right _ h)
theorem zn_X4_numberAtHand_107 : Cond.fieldLink RX4 107 RX4 (TX4 4).2.1 (TX4 4).2.2.1 ∈ wsX4_numberAtHand := List.mem_of_getElem? (i := 2) rfl
theorem zn_X4_numberAtHand_15 : Cond.fieldLink RX4 15 RX4 (TX4 0).2.1 (TX4 0).2.2.1 ∈ wsX4_numberAtHand := List.mem_of_getElem? (i := 3) rfl
set_option maxRecDepth 100000 in
set_option maxHeartbeats 4000000 in
theorem sg_X4_numberAtHand_0 {C : zC} {G : zG} {Qc : Array Value → State → Outcome → State → Prop} (S : St_X4_numberAtHand C G Qc) {a0 : Nat} {m : zM} (ka0 : zK G a0 = some (4, a0))
    (h : Pt_X4_numberAtHand_7 C G a0 0 (zI m 403 a0 0) m) : Pt_X4_numberAtHand_0 C G a0 m := by
  obtain ⟨hF, hQ, hR⟩ := id S
  have h0 : zF0 C cX4_numberAtHand 3 wsX4_numberAtHand RX4 := hF.1
  have hL := hF.2.2.1
  unfold Pt_X4_numberAtHand_0
  refine zx_iconst (v := 0) h0 dX4_numberAtHand_0 (by decide) ?_
  refine zx_istore_n (L' := [(1, .int 0), (0, .ref a0)]) h0 dX4_numberAtHand_1 (by decide) rfl ?_
  refine zx_aload_n h0 1 dX4_numberAtHand_2 rfl ?_
  refine zx_get hF ka0 (by decide) rfl zi_X4_numberAtHand_4 3 (by decide) zn_X4_numberAtHand_48 rfl rfl dX4_numberAtHand_3 ?_
  refine zx_istore_n (L' := [(2, .int (zI m 403 a0 0)), (1, .int 0), (0, .ref a0)]) h0 dX4_numberAtHand_6 (by decide) rfl ?_
  exact zx_sub [2, 1, 0] rfl h
set_option maxRecDepth 100000 in
set_option maxHeartbeats 4000000 in
theorem sg_X4_numberAtHand_7 {C : zC} {G : zG} {Qc : Array Value → State → Outcome → State → Prop} (S : St_X4_numberAtHand C G Qc) {a0 : Nat} {x1 : Int32} {x2 : Int32} {m : zM} (ka0 : zK G a0 = some (4, a0))
    (h : ((zI m 404 a0 0) ≤ x2 → (zRet C G Qc (some (.int x1)) m)) ∧ (¬ (zI m 404 a0 0) ≤ x2 → ((vp_in x2 400) ∧ (Pt_X4_numberAtHand_7 C G a0 (((x1 * 10) + (zI m 1001 (zR m 400 a0) x2.toNatClampNeg)) - 48) (x2 + 1) m)))) : Pt_X4_numberAtHand_7 C G a0 x1 x2 m := by
  obtain ⟨hF, hQ, hR⟩ := id S
  have h0 : zF0 C cX4_numberAtHand 3 wsX4_numberAtHand RX4 := hF.1
  have hL := hF.2.2.1
  unfold Pt_X4_numberAtHand_7
  refine zx_iload_n h0 2 dX4_numberAtHand_7 rfl ?_
  refine zx_aload_n h0 0 dX4_numberAtHand_8 rfl ?_
  refine zx_get hF ka0 (by decide) rfl zi_X4_numberAtHand_4 4 (by decide) zn_X4_numberAtHand_107 rfl rfl dX4_numberAtHand_9 ?_
  refine zx_icmp_ge (tgt := 36) h0 dX4_numberAtHand_12 (by decide) (fun q => ?_) (fun q => ?_)
  · replace h := h.1 q
    refine zx_iload_n h0 1 dX4_numberAtHand_36 rfl ?_
    exact zx_iret hF hQ dX4_numberAtHand_37 h
  · replace h := h.2 q
    refine zx_iload_n h0 1 dX4_numberAtHand_15 rfl ?_
    refine zx_bipush (v := 10) h0 dX4_numberAtHand_16 (by decide) ?_
    refine zx_imul h0 dX4_numberAtHand_18 ?_
    refine zx_aload_n h0 0 dX4_numberAtHand_19 rfl ?_
    refine zx_wt (fun hw1 => ?_)
    refine zx_get hF ka0 (by decide) rfl zi_X4_numberAtHand_4 0 (by decide) zn_X4_numberAtHand_15 rfl rfl dX4_numberAtHand_20 ?_
    refine zx_iload_n h0 2 dX4_numberAtHand_23 rfl ?_
    obtain ⟨ho2, h⟩ := h
    refine zx_bald (j := x2.toNatClampNeg) hF (zL_0_1 hL (hw1.2.2.1 _ ka0).1) (by decide) rfl rfl ho2 rfl dX4_numberAtHand_24 ?_
    refine zx_iadd h0 dX4_numberAtHand_25 ?_
    refine zx_bipush (v := 48) h0 dX4_numberAtHand_26 (by decide) ?_
    refine zx_isub h0 dX4_numberAtHand_28 ?_
    refine zx_istore_n (L' := [(1, .int (((x1 * 10) + (zI m 1001 (zR m 400 a0) x2.toNatClampNeg)) - 48)), (0, .ref a0), (2, .int x2)]) h0 dX4_numberAtHand_29 (by decide) rfl ?_
    refine zx_iinc (v := (x2 + 1)) (L' := [(2, .int (x2 + 1)), (1, .int (((x1 * 10) + (zI m 1001 (zR m 400 a0) x2.toNatClampNeg)) - 48)), (0, .ref a0)]) h0 2 dX4_numberAtHand_30 rfl rfl (by decide) rfl ?_
    refine zx_goto (tgt := 7) h0 dX4_numberAtHand_33 (by decide) ?_
    exact zx_sub [2, 1, 0] rfl h
theorem zn_X4_readTest_34 : Cond.fieldLink RX4 34 RX4 (TX4 5).2.1 (TX4 5).2.2.1 ∈ wsX4_readTest := List.mem_of_getElem? (i := 1) rfl
theorem zi_X4_readTest_4 : ∀ w ∈ u_ws RX4 TX4 8, w ∈ wsX4_readTest := fun _ h => List.mem_cons_of_mem _ (List.mem_append_left _ (List.mem_append_right _ h))
theorem zn_X4_readTest_22 : Cond.fieldLink RX4 22 RX4 (TX4 2).2.1 (TX4 2).2.2.1 ∈ wsX4_readTest := List.mem_of_getElem? (i := 2) rfl
theorem zc_X4_readTest_X4_takeWord {C : zC} {G : zG} {Qc : Array Value → State → Outcome → State → Prop} (S : St_X4_readTest C G Qc) : CallW (zRm C) (zs C) (zar C) RX4 RX4 53 yX4_takeWord cX4_takeWord 2 (some .boolean) wsX4_takeWord rm_X4_takeWord 0 0 1 := cwV 1 S.1.1.2.2.2.2 gX4_readTest_X4_takeWord rfl rfl rfl (by decide +kernel) (by rw [S.2.2]; exact ⟨Nat.le_of_ble_eq_true rfl, Nat.le_of_ble_eq_true rfl⟩)
theorem zc_X4_readTest_X4_subjectAtHand {C : zC} {G : zG} {Qc : Array Value → State → Outcome → State → Prop} (S : St_X4_readTest C G Qc) : CallW (zRm C) (zs C) (zar C) RX4 RX4 67 yX4_subjectAtHand cX4_subjectAtHand 1 (some .int) wsX4_subjectAtHand rm_X4_subjectAtHand 0 0 0 := cwV 0 S.1.1.2.2.2.2 gX4_readTest_X4_subjectAtHand rfl rfl rfl (by decide +kernel) (by rw [S.2.2]; exact ⟨Nat.le_of_ble_eq_true rfl, Nat.le_of_ble_eq_true rfl⟩)
theorem zc_X4_readTest_X4_advance {C : zC} {G : zG} {Qc : Array Value → State → Outcome → State → Prop} (S : St_X4_readTest C G Qc) : CallW (zRm C) (zs C) (zar C) RX4 RX4 31 yX4_advance cX4_advance 2 none wsX4_advance rm_X4_advance 0 0 0 := cwV 0 S.1.1.2.2.2.2 gX4_readTest_X4_advance rfl rfl rfl (by decide +kernel) (by rw [S.2.2]; exact ⟨Nat.le_of_ble_eq_true rfl, Nat.le_of_ble_eq_true rfl⟩)
theorem zc_X4_readTest_X4_numberAtHand {C : zC} {G : zG} {Qc : Array Value → State → Outcome → State → Prop} (S : St_X4_readTest C G Qc) : CallW (zRm C) (zs C) (zar C) RX4 RX4 71 yX4_numberAtHand cX4_numberAtHand 3 (some .int) wsX4_numberAtHand rm_X4_numberAtHand 0 0 0 := cwV 0 S.1.1.2.2.2.2 gX4_readTest_X4_numberAtHand rfl rfl rfl (by decide +kernel) (by rw [S.2.2]; exact ⟨Nat.le_of_ble_eq_true rfl, Nat.le_of_ble_eq_true rfl⟩)
theorem zc_X4_readTest_X4_note {C : zC} {G : zG} {Qc : Array Value → State → Outcome → State → Prop} (S : St_X4_readTest C G Qc) : CallW (zRm C) (zs C) (zar C) RX4 RX4 37 yX4_note cX4_note 2 none wsX4_note rm_X4_note 0 0 1 := cwV 1 S.1.1.2.2.2.2 gX4_readTest_X4_note rfl rfl rfl (by decide +kernel) (by rw [S.2.2]; exact ⟨Nat.le_of_ble_eq_true rfl, Nat.le_of_ble_eq_true rfl⟩)
theorem zc_X4_readTest_X2_addTest {C : zC} {G : zG} {Qc : Array Value → State → Outcome → State → Prop} (S : St_X4_readTest C G Qc) : CallW (zRm C) (zs C) (zar C) RX4 RX2 74 yX2_addTest cX2_addTest 6 none wsX2_addTest rm_X2_addTest 0 0 4 := cwV 4 S.1.1.2.2.2.2 gX4_readTest_X2_addTest rfl rfl rfl (by decide +kernel) (by rw [S.2.2]; exact ⟨Nat.le_of_ble_eq_true rfl, Nat.le_of_ble_eq_true rfl⟩)
set_option maxRecDepth 100000 in
set_option maxHeartbeats 4000000 in
theorem sg_X4_readTest_0 {C : zC} {G : zG} {Qc : Array Value → State → Outcome → State → Prop} (S : St_X4_readTest C G Qc) {P_X4_takeWord : Nat → Nat → zM → Prop} {Q_X4_takeWord : Nat → Nat → zM → Int32 → zM → Prop} (c_X4_takeWord : Con_X4_takeWord (zl C) G P_X4_takeWord Q_X4_takeWord) {P_X4_subjectAtHand : Nat → zM → Prop} {Q_X4_subjectAtHand : Nat → zM → Int32 → Prop} (c_X4_subjectAtHand : Con_X4_subjectAtHand (zl C) G P_X4_subjectAtHand Q_X4_subjectAtHand) {P_X4_advance : Nat → zM → Prop} {Q_X4_advance : Nat → zM → zM → Prop} (c_X4_advance : Con_X4_advance (zl C) G P_X4_advance Q_X4_advance) {a0 : Nat} {m : zM} (ka0 : zK G a0 = some (4, a0))
    (h : (P_X4_takeWord a0 2 m) ∧ (∀ (r2 : Int32) (m2 : zM), Q_X4_takeWord a0 2 m r2 m2 → ((P_X4_subjectAtHand a0 m2) ∧ (∀ (r4 : Int32), Q_X4_subjectAtHand a0 m2 r4 → ((¬ r4 = (-1) → ((P_X4_advance a0 m2) ∧ (∀ (m6 : zM), Q_X4_advance a0 m2 m6 → ((r4 = 5 → (Pt_X4_readTest_68 C G a0 r2 r4 0 m6)) ∧ (¬ r4 = 5 → (((zI m6 405 a0 0) = 60 → ((P_X4_advance a0 m6) ∧ (∀ (m8 : zM), Q_X4_advance a0 m6 m8 → (Pt_X4_readTest_68 C G a0 r2 r4 (zI m6 405 a0 0) m8)))) ∧ (¬ (zI m6 405 a0 0) = 60 → (((zI m6 405 a0 0) = 62 → ((P_X4_advance a0 m6) ∧ (∀ (m10 : zM), Q_X4_advance a0 m6 m10 → (Pt_X4_readTest_68 C G a0 r2 r4 (zI m6 405 a0 0) m10)))) ∧ (¬ (zI m6 405 a0 0) = 62 → (((zI m6 405 a0 0) = 61 → ((P_X4_advance a0 m6) ∧ (∀ (m12 : zM), Q_X4_advance a0 m6 m12 → (Pt_X4_readTest_68 C G a0 r2 r4 (zI m6 405 a0 0) m12)))) ∧ (¬ (zI m6 405 a0 0) = 61 → (zRet C G Qc (some (.int 0)) m6)))))))))))) ∧ (r4 = (-1) → (zRet C G Qc (some (.int 0)) m2))))))) : Pt_X4_readTest_0 C G a0 m := by
  obtain ⟨hF, hQ, hR⟩ := id S
  have h0 : zF0 C cX4_readTest 5 wsX4_readTest RX4 := hF.1
  have hL := hF.2.2.1
  unfold Pt_X4_readTest_0
  refine zx_aload_n h0 0 dX4_readTest_0 rfl ?_
  refine zx_ldcS hF 2 (by decide) rfl dX4_readTest_1 ?_
  obtain ⟨ho1, h⟩ := h
  refine zx_callVi (As := [.ref (zaK G 2)]) (rest := []) hF (c_X4_takeWord a0 2 m ka0 (by decide) ho1) (zc_X4_readTest_X4_takeWord S) ka0 (by decide) rfl dX4_readTest_3 rfl rfl (Nat.le_of_ble_eq_true rfl) ⟨Nat.zero_le _, Nat.zero_le _⟩ (fun r2 m2 hq => ?_)
  replace h := h r2 m2 hq
  refine zx_istore_n (L' := [(1, .int r2), (0, .ref a0)]) h0 dX4_readTest_6 (by decide) rfl ?_
  refine zx_aload_n h0 1 dX4_readTest_7 rfl ?_
  obtain ⟨ho3, h⟩ := h
  refine zx_callVi (As := []) (rest := []) hF (c_X4_subjectAtHand a0 m2 ka0 ho3) (zc_X4_readTest_X4_subjectAtHand S) ka0 (by decide) rfl dX4_readTest_8 rfl rfl (Nat.le_of_ble_eq_true rfl) ⟨Nat.zero_le _, Nat.zero_le _⟩ (fun r4 m4 hq => ?_)
  obtain ⟨hme, hq⟩ := hq
  subst m4
  replace h := h r4 hq
  refine zx_istore_n (L' := [(2, .int r4), (1, .int r2), (0, .ref a0)]) h0 dX4_readTest_11 (by decide) rfl ?_
  refine zx_iload_n h0 0 dX4_readTest_12 rfl ?_
  refine zx_iconst (v := (-1)) h0 dX4_readTest_13 (by decide) ?_
  refine zx_icmp_ne (tgt := 19) h0 dX4_readTest_14 (by decide) (fun q => ?_) (fun q => ?_)
  · replace h := h.1 q
    refine zx_aload_n h0 2 dX4_readTest_19 rfl ?_
    obtain ⟨ho5, h⟩ := h
    refine zx_callVv (As := []) (rest := []) hF (c_X4_advance a0 m2 ka0 ho5) (zc_X4_readTest_X4_advance S) ka0 (by decide) rfl dX4_readTest_20 rfl rfl (Nat.le_of_ble_eq_true rfl) ⟨Nat.zero_le _, Nat.zero_le _⟩ (fun m6 hq => ?_)
    replace h := h m6 hq
    refine zx_iconst (v := 0) h0 dX4_readTest_23 (by decide) ?_
    refine zx_istore_n (L' := [(3, .int 0), (2, .int r4), (1, .int r2), (0, .ref a0)]) h0 dX4_readTest_24 (by decide) rfl ?_
    refine zx_iload_n h0 1 dX4_readTest_25 rfl ?_
    refine zx_iconst (v := 5) h0 dX4_readTest_26 (by decide) ?_
    refine zx_icmp_eq (tgt := 68) h0 dX4_readTest_27 (by decide) (fun q => ?_) (fun q => ?_)
    · replace h := h.1 q
      exact zx_sub [3, 2, 1, 0] rfl h
    · replace h := h.2 q
      refine zx_aload_n h0 3 dX4_readTest_30 rfl ?_
      refine zx_get hF ka0 (by decide) rfl zi_X4_readTest_4 5 (by decide) zn_X4_readTest_34 rfl rfl dX4_readTest_31 ?_
      refine zx_bipush (v := 60) h0 dX4_readTest_34 (by decide) ?_
      refine zx_icmp_eq (tgt := 59) h0 dX4_readTest_36 (by decide) (fun q => ?_) (fun q => ?_)
      · replace h := h.1 q
        refine zx_aload_n h0 3 dX4_readTest_59 rfl ?_
        refine zx_get hF ka0 (by decide) rfl zi_X4_readTest_4 5 (by decide) zn_X4_readTest_34 rfl rfl dX4_readTest_60 ?_
        refine zx_istore_n (L' := [(3, .int (zI m6 405 a0 0)), (2, .int r4), (1, .int r2), (0, .ref a0)]) h0 dX4_readTest_63 (by decide) rfl ?_
        refine zx_aload_n h0 3 dX4_readTest_64 rfl ?_
        obtain ⟨ho7, h⟩ := h
        refine zx_callVv (As := []) (rest := []) hF (c_X4_advance a0 m6 ka0 ho7) (zc_X4_readTest_X4_advance S) ka0 (by decide) rfl dX4_readTest_65 rfl rfl (Nat.le_of_ble_eq_true rfl) ⟨Nat.zero_le _, Nat.zero_le _⟩ (fun m8 hq => ?_)
        replace h := h m8 hq
        exact zx_sub [3, 2, 1, 0] rfl h
      · replace h := h.2 q
        refine zx_aload_n h0 3 dX4_readTest_39 rfl ?_
        refine zx_get hF ka0 (by decide) rfl zi_X4_readTest_4 5 (by decide) zn_X4_readTest_34 rfl rfl dX4_readTest_40 ?_
        refine zx_bipush (v := 62) h0 dX4_readTest_43 (by decide) ?_
        refine zx_icmp_eq (tgt := 59) h0 dX4_readTest_45 (by decide) (fun q => ?_) (fun q => ?_)
        · replace h := h.1 q
          refine zx_aload_n h0 3 dX4_readTest_59 rfl ?_
          refine zx_get hF ka0 (by decide) rfl zi_X4_readTest_4 5 (by decide) zn_X4_readTest_34 rfl rfl dX4_readTest_60 ?_
          refine zx_istore_n (L' := [(3, .int (zI m6 405 a0 0)), (2, .int r4), (1, .int r2), (0, .ref a0)]) h0 dX4_readTest_63 (by decide) rfl ?_
          refine zx_aload_n h0 3 dX4_readTest_64 rfl ?_
          obtain ⟨ho9, h⟩ := h
          refine zx_callVv (As := []) (rest := []) hF (c_X4_advance a0 m6 ka0 ho9) (zc_X4_readTest_X4_advance S) ka0 (by decide) rfl dX4_readTest_65 rfl rfl (Nat.le_of_ble_eq_true rfl) ⟨Nat.zero_le _, Nat.zero_le _⟩ (fun m10 hq => ?_)
          replace h := h m10 hq
          exact zx_sub [3, 2, 1, 0] rfl h
        · replace h := h.2 q
          refine zx_aload_n h0 3 dX4_readTest_48 rfl ?_
          refine zx_get hF ka0 (by decide) rfl zi_X4_readTest_4 5 (by decide) zn_X4_readTest_34 rfl rfl dX4_readTest_49 ?_
          refine zx_bipush (v := 61) h0 dX4_readTest_52 (by decide) ?_
          refine zx_icmp_eq (tgt := 59) h0 dX4_readTest_54 (by decide) (fun q => ?_) (fun q => ?_)
          · replace h := h.1 q
            refine zx_aload_n h0 3 dX4_readTest_59 rfl ?_
            refine zx_get hF ka0 (by decide) rfl zi_X4_readTest_4 5 (by decide) zn_X4_readTest_34 rfl rfl dX4_readTest_60 ?_
            refine zx_istore_n (L' := [(3, .int (zI m6 405 a0 0)), (2, .int r4), (1, .int r2), (0, .ref a0)]) h0 dX4_readTest_63 (by decide) rfl ?_
            refine zx_aload_n h0 3 dX4_readTest_64 rfl ?_
            obtain ⟨ho11, h⟩ := h
            refine zx_callVv (As := []) (rest := []) hF (c_X4_advance a0 m6 ka0 ho11) (zc_X4_readTest_X4_advance S) ka0 (by decide) rfl dX4_readTest_65 rfl rfl (Nat.le_of_ble_eq_true rfl) ⟨Nat.zero_le _, Nat.zero_le _⟩ (fun m12 hq => ?_)
            replace h := h m12 hq
            exact zx_sub [3, 2, 1, 0] rfl h
          · replace h := h.2 q
            refine zx_iconst (v := 0) h0 dX4_readTest_57 (by decide) ?_
            exact zx_zret hF hQ rfl dX4_readTest_58 h
  · replace h := h.2 q
    refine zx_iconst (v := 0) h0 dX4_readTest_17 (by decide) ?_
    exact zx_zret hF hQ rfl dX4_readTest_18 h
set_option maxRecDepth 100000 in
set_option maxHeartbeats 4000000 in
theorem sg_X4_readTest_68 {C : zC} {G : zG} {Qc : Array Value → State → Outcome → State → Prop} (S : St_X4_readTest C G Qc) {P_X4_numberAtHand : Nat → zM → Prop} {Q_X4_numberAtHand : Nat → zM → Int32 → Prop} (c_X4_numberAtHand : Con_X4_numberAtHand (zl C) G P_X4_numberAtHand Q_X4_numberAtHand) {P_X4_note : Nat → Int32 → zM → Prop} {Q_X4_note : Nat → Int32 → zM → zM → Prop} (c_X4_note : Con_X4_note (zl C) G P_X4_note Q_X4_note) {a0 : Nat} {x1 : Int32} {x2 : Int32} {x3 : Int32} {m : zM} (ka0 : zK G a0 = some (4, a0))
    (h : ((zI m 405 a0 0) = 2 → ((P_X4_numberAtHand a0 m) ∧ (∀ (r2 : Int32), Q_X4_numberAtHand a0 m r2 → ((¬ x2 = 5 → (Pt_X4_readTest_101 C G a0 x1 x2 x3 r2 m)) ∧ (x2 = 5 → ((r2 < 6 → (Pt_X4_readTest_101 C G a0 x1 x2 x3 r2 m)) ∧ (¬ r2 < 6 → ((P_X4_note a0 2 m) ∧ (∀ (m4 : zM), Q_X4_note a0 2 m m4 → (Pt_X4_readTest_101 C G a0 x1 x2 x3 r2 m4)))))))))) ∧ (¬ (zI m 405 a0 0) = 2 → (zRet C G Qc (some (.int 0)) m))) : Pt_X4_readTest_68 C G a0 x1 x2 x3 m := by
  obtain ⟨hF, hQ, hR⟩ := id S
  have h0 : zF0 C cX4_readTest 5 wsX4_readTest RX4 := hF.1
  have hL := hF.2.2.1
  unfold Pt_X4_readTest_68
  refine zx_aload_n h0 0 dX4_readTest_68 rfl ?_
  refine zx_get hF ka0 (by decide) rfl zi_X4_readTest_4 5 (by decide) zn_X4_readTest_34 rfl rfl dX4_readTest_69 ?_
  refine zx_iconst (v := 2) h0 dX4_readTest_72 (by decide) ?_
  refine zx_icmp_eq (tgt := 78) h0 dX4_readTest_73 (by decide) (fun q => ?_) (fun q => ?_)
  · replace h := h.1 q
    refine zx_aload_n h0 0 dX4_readTest_78 rfl ?_
    obtain ⟨ho1, h⟩ := h
    refine zx_callVi (As := []) (rest := []) hF (c_X4_numberAtHand a0 m ka0 ho1) (zc_X4_readTest_X4_numberAtHand S) ka0 (by decide) rfl dX4_readTest_79 rfl rfl (Nat.le_of_ble_eq_true rfl) ⟨Nat.zero_le _, Nat.zero_le _⟩ (fun r2 m2 hq => ?_)
    obtain ⟨hme, hq⟩ := hq
    subst m2
    replace h := h r2 hq
    refine zx_istore (L' := [(4, .int r2), (0, .ref a0), (1, .int x1), (2, .int x2), (3, .int x3)]) h0 dX4_readTest_82 (by decide) rfl ?_
    refine zx_iload_n h0 3 dX4_readTest_84 rfl ?_
    refine zx_iconst (v := 5) h0 dX4_readTest_85 (by decide) ?_
    refine zx_icmp_ne (tgt := 101) h0 dX4_readTest_86 (by decide) (fun q => ?_) (fun q => ?_)
    · replace h := h.1 q
      exact zx_sub [1, 2, 3, 4, 0] rfl h
    · replace h := h.2 q
      refine zx_iload h0 0 dX4_readTest_89 rfl ?_
      refine zx_bipush (v := 6) h0 dX4_readTest_91 (by decide) ?_
      refine zx_icmp_lt (tgt := 101) h0 dX4_readTest_93 (by decide) (fun q => ?_) (fun q => ?_)
      · replace h := h.1 q
        exact zx_sub [1, 2, 3, 4, 0] rfl h
      · replace h := h.2 q
        refine zx_aload_n h0 1 dX4_readTest_96 rfl ?_
        refine zx_iconst (v := 2) h0 dX4_readTest_97 (by decide) ?_
        obtain ⟨ho3, h⟩ := h
        refine zx_callVv (As := [.int 2]) (rest := []) hF (c_X4_note a0 2 m ka0 ho3) (zc_X4_readTest_X4_note S) ka0 (by decide) rfl dX4_readTest_98 rfl rfl (Nat.le_of_ble_eq_true rfl) ⟨Nat.zero_le _, Nat.zero_le _⟩ (fun m4 hq => ?_)
        replace h := h m4 hq
        exact zx_sub [1, 2, 3, 4, 0] rfl h
  · replace h := h.2 q
    refine zx_iconst (v := 0) h0 dX4_readTest_76 (by decide) ?_
    exact zx_zret hF hQ rfl dX4_readTest_77 h
set_option maxRecDepth 100000 in
set_option maxHeartbeats 4000000 in
theorem sg_X4_readTest_101 {C : zC} {G : zG} {Qc : Array Value → State → Outcome → State → Prop} (S : St_X4_readTest C G Qc) {P_X2_addTest : Nat → Int32 → Int32 → Int32 → Int32 → zM → Prop} {Q_X2_addTest : Nat → Int32 → Int32 → Int32 → Int32 → zM → zM → Prop} (c_X2_addTest : Con_X2_addTest (zl C) G P_X2_addTest Q_X2_addTest) {P_X4_advance : Nat → zM → Prop} {Q_X4_advance : Nat → zM → zM → Prop} (c_X4_advance : Con_X4_advance (zl C) G P_X4_advance Q_X4_advance) {a0 : Nat} {x1 : Int32} {x2 : Int32} {x3 : Int32} {x4 : Int32} {m : zM} (ka0 : zK G a0 = some (4, a0))
    (h : (P_X2_addTest (zR m 402 a0) x2 x3 x4 x1 m) ∧ (∀ (m3 : zM), Q_X2_addTest (zR m 402 a0) x2 x3 x4 x1 m m3 → ((P_X4_advance a0 m3) ∧ (∀ (m5 : zM), Q_X4_advance a0 m3 m5 → (zRet C G Qc (some (.int 1)) m5))))) : Pt_X4_readTest_101 C G a0 x1 x2 x3 x4 m := by
  obtain ⟨hF, hQ, hR⟩ := id S
  have h0 : zF0 C cX4_readTest 5 wsX4_readTest RX4 := hF.1
  have hL := hF.2.2.1
  unfold Pt_X4_readTest_101
  refine zx_aload_n h0 0 dX4_readTest_101 rfl ?_
  refine zx_wt (fun hw1 => ?_)
  refine zx_get hF ka0 (by decide) rfl zi_X4_readTest_4 2 (by decide) zn_X4_readTest_22 rfl rfl dX4_readTest_102 ?_
  refine zx_iload_n h0 2 dX4_readTest_105 rfl ?_
  refine zx_iload_n h0 3 dX4_readTest_106 rfl ?_
  refine zx_iload h0 4 dX4_readTest_107 rfl ?_
  refine zx_iload_n h0 1 dX4_readTest_109 rfl ?_
  obtain ⟨ho2, h⟩ := h
  refine zx_callVv (As := [.int x2, .int x3, .int x4, .int x1]) (rest := []) hF (c_X2_addTest (zR m 402 a0) x2 x3 x4 x1 m (hw1.2.2.1 _ ka0).2 ho2) (zc_X4_readTest_X2_addTest S) (hw1.2.2.1 _ ka0).2 (by decide) rfl dX4_readTest_110 rfl rfl (Nat.le_of_ble_eq_true rfl) ⟨Nat.zero_le _, Nat.zero_le _⟩ (fun m3 hq => ?_)
  replace h := h m3 hq
  refine zx_aload_n h0 0 dX4_readTest_113 rfl ?_
  obtain ⟨ho4, h⟩ := h
  refine zx_callVv (As := []) (rest := []) hF (c_X4_advance a0 m3 ka0 ho4) (zc_X4_readTest_X4_advance S) ka0 (by decide) rfl dX4_readTest_114 rfl rfl (Nat.le_of_ble_eq_true rfl) ⟨Nat.zero_le _, Nat.zero_le _⟩ (fun m5 hq => ?_)
  replace h := h m5 hq
  refine zx_iconst (v := 1) h0 dX4_readTest_117 (by decide) ?_
  exact zx_zret hF hQ rfl dX4_readTest_118 h
theorem zc_X4_actAtHand_X4_isWord {C : zC} {G : zG} {Qc : Array Value → State → Outcome → State → Prop} (S : St_X4_actAtHand C G Qc) : CallW (zRm C) (zs C) (zar C) RX4 RX4 86 yX4_isWord cX4_isWord 3 (some .boolean) wsX4_isWord rm_X4_isWord 0 0 1 := cwV 1 S.1.1.2.2.2.2 gX4_actAtHand_X4_isWord rfl rfl rfl (by decide +kernel) (by rw [S.2.2]; exact ⟨Nat.le_of_ble_eq_true rfl, Nat.le_of_ble_eq_true rfl⟩)
set_option maxRecDepth 100000 in
set_option maxHeartbeats 4000000 in
theorem sg_X4_actAtHand_0 {C : zC} {G : zG} {Qc : Array Value → State → Outcome → State → Prop} (S : St_X4_actAtHand C G Qc) {P_X4_isWord : Nat → Nat → zM → Prop} {Q_X4_isWord : Nat → Nat → zM → Int32 → Prop} (c_X4_isWord : Con_X4_isWord (zl C) G P_X4_isWord Q_X4_isWord) {a0 : Nat} {m : zM} (ka0 : zK G a0 = some (4, a0))
    (h : (P_X4_isWord a0 9 m) ∧ (∀ (r2 : Int32), Q_X4_isWord a0 9 m r2 → ((r2 = 0 → ((P_X4_isWord a0 10 m) ∧ (∀ (r4 : Int32), Q_X4_isWord a0 10 m r4 → ((r4 = 0 → ((P_X4_isWord a0 11 m) ∧ (∀ (r6 : Int32), Q_X4_isWord a0 11 m r6 → ((r6 = 0 → ((P_X4_isWord a0 12 m) ∧ (∀ (r8 : Int32), Q_X4_isWord a0 12 m r8 → ((r8 = 0 → (zRet C G Qc (some (.int (-1))) m)) ∧ (¬ r8 = 0 → (zRet C G Qc (some (.int 3)) m)))))) ∧ (¬ r6 = 0 → (zRet C G Qc (some (.int 2)) m)))))) ∧ (¬ r4 = 0 → (zRet C G Qc (some (.int 1)) m)))))) ∧ (¬ r2 = 0 → (zRet C G Qc (some (.int 0)) m))))) : Pt_X4_actAtHand_0 C G a0 m := by
  obtain ⟨hF, hQ, hR⟩ := id S
  have h0 : zF0 C cX4_actAtHand 1 wsX4_actAtHand RX4 := hF.1
  have hL := hF.2.2.1
  unfold Pt_X4_actAtHand_0
  refine zx_aload_n h0 0 dX4_actAtHand_0 rfl ?_
  refine zx_ldcS hF 9 (by decide) rfl dX4_actAtHand_1 ?_
  obtain ⟨ho1, h⟩ := h
  refine zx_callVi (As := [.ref (zaK G 9)]) (rest := []) hF (c_X4_isWord a0 9 m ka0 (by decide) ho1) (zc_X4_actAtHand_X4_isWord S) ka0 (by decide) rfl dX4_actAtHand_3 rfl rfl (Nat.le_of_ble_eq_true rfl) ⟨Nat.zero_le _, Nat.zero_le _⟩ (fun r2 m2 hq => ?_)
  obtain ⟨hme, hq⟩ := hq
  subst m2
  replace h := h r2 hq
  refine zx_if_eq (tgt := 11) h0 dX4_actAtHand_6 (by decide) (fun q => ?_) (fun q => ?_)
  · replace h := h.1 q
    refine zx_aload_n h0 0 dX4_actAtHand_11 rfl ?_
    refine zx_ldcS hF 10 (by decide) rfl dX4_actAtHand_12 ?_
    obtain ⟨ho3, h⟩ := h
    refine zx_callVi (As := [.ref (zaK G 10)]) (rest := []) hF (c_X4_isWord a0 10 m ka0 (by decide) ho3) (zc_X4_actAtHand_X4_isWord S) ka0 (by decide) rfl dX4_actAtHand_14 rfl rfl (Nat.le_of_ble_eq_true rfl) ⟨Nat.zero_le _, Nat.zero_le _⟩ (fun r4 m4 hq => ?_)
    obtain ⟨hme, hq⟩ := hq
    subst m4
    replace h := h r4 hq
    refine zx_if_eq (tgt := 22) h0 dX4_actAtHand_17 (by decide) (fun q => ?_) (fun q => ?_)
    · replace h := h.1 q
      refine zx_aload_n h0 0 dX4_actAtHand_22 rfl ?_
      refine zx_ldcS hF 11 (by decide) rfl dX4_actAtHand_23 ?_
      obtain ⟨ho5, h⟩ := h
      refine zx_callVi (As := [.ref (zaK G 11)]) (rest := []) hF (c_X4_isWord a0 11 m ka0 (by decide) ho5) (zc_X4_actAtHand_X4_isWord S) ka0 (by decide) rfl dX4_actAtHand_25 rfl rfl (Nat.le_of_ble_eq_true rfl) ⟨Nat.zero_le _, Nat.zero_le _⟩ (fun r6 m6 hq => ?_)
      obtain ⟨hme, hq⟩ := hq
      subst m6
      replace h := h r6 hq
      refine zx_if_eq (tgt := 33) h0 dX4_actAtHand_28 (by decide) (fun q => ?_) (fun q => ?_)
      · replace h := h.1 q
        refine zx_aload_n h0 0 dX4_actAtHand_33 rfl ?_
        refine zx_ldcS hF 12 (by decide) rfl dX4_actAtHand_34 ?_
        obtain ⟨ho7, h⟩ := h
        refine zx_callVi (As := [.ref (zaK G 12)]) (rest := []) hF (c_X4_isWord a0 12 m ka0 (by decide) ho7) (zc_X4_actAtHand_X4_isWord S) ka0 (by decide) rfl dX4_actAtHand_36 rfl rfl (Nat.le_of_ble_eq_true rfl) ⟨Nat.zero_le _, Nat.zero_le _⟩ (fun r8 m8 hq => ?_)
        obtain ⟨hme, hq⟩ := hq
        subst m8
        replace h := h r8 hq
        refine zx_if_eq (tgt := 46) h0 dX4_actAtHand_39 (by decide) (fun q => ?_) (fun q => ?_)
        · replace h := h.1 q
          refine zx_iconst (v := (-1)) h0 dX4_actAtHand_46 (by decide) ?_
          exact zx_iret hF hQ dX4_actAtHand_47 h
        · replace h := h.2 q
          refine zx_iconst (v := 3) h0 dX4_actAtHand_42 (by decide) ?_
          refine zx_goto (tgt := 47) h0 dX4_actAtHand_43 (by decide) ?_
          exact zx_iret hF hQ dX4_actAtHand_47 h
      · replace h := h.2 q
        refine zx_iconst (v := 2) h0 dX4_actAtHand_31 (by decide) ?_
        exact zx_iret hF hQ dX4_actAtHand_32 h
    · replace h := h.2 q
      refine zx_iconst (v := 1) h0 dX4_actAtHand_20 (by decide) ?_
      exact zx_iret hF hQ dX4_actAtHand_21 h
  · replace h := h.2 q
    refine zx_iconst (v := 0) h0 dX4_actAtHand_9 (by decide) ?_
    exact zx_iret hF hQ dX4_actAtHand_10 h
theorem zn_X4_readAct_34 : Cond.fieldLink RX4 34 RX4 (TX4 5).2.1 (TX4 5).2.2.1 ∈ wsX4_readAct := List.mem_of_getElem? (i := 1) rfl
theorem zi_X4_readAct_4 : ∀ w ∈ u_ws RX4 TX4 8, w ∈ wsX4_readAct := fun _ h => List.mem_cons_of_mem _ (List.mem_append_left _ (List.mem_append_right _ h))
theorem zn_X4_readAct_22 : Cond.fieldLink RX4 22 RX4 (TX4 2).2.1 (TX4 2).2.2.1 ∈ wsX4_readAct := List.mem_of_getElem? (i := 2) rfl
theorem zc_X4_readAct_X4_actAtHand {C : zC} {G : zG} {Qc : Array Value → State → Outcome → State → Prop} (S : St_X4_readAct C G Qc) : CallW (zRm C) (zs C) (zar C) RX4 RX4 78 yX4_actAtHand cX4_actAtHand 1 (some .int) wsX4_actAtHand rm_X4_actAtHand 0 0 0 := cwV 0 S.1.1.2.2.2.2 gX4_readAct_X4_actAtHand rfl rfl rfl (by decide +kernel) (by rw [S.2.2]; exact ⟨Nat.le_of_ble_eq_true rfl, Nat.le_of_ble_eq_true rfl⟩)
theorem zc_X4_readAct_X4_advance {C : zC} {G : zG} {Qc : Array Value → State → Outcome → State → Prop} (S : St_X4_readAct C G Qc) : CallW (zRm C) (zs C) (zar C) RX4 RX4 31 yX4_advance cX4_advance 2 none wsX4_advance rm_X4_advance 0 0 0 := cwV 0 S.1.1.2.2.2.2 gX4_readAct_X4_advance rfl rfl rfl (by decide +kernel) (by rw [S.2.2]; exact ⟨Nat.le_of_ble_eq_true rfl, Nat.le_of_ble_eq_true rfl⟩)
theorem zc_X4_readAct_X4_numberAtHand {C : zC} {G : zG} {Qc : Array Value → State → Outcome → State → Prop} (S : St_X4_readAct C G Qc) : CallW (zRm C) (zs C) (zar C) RX4 RX4 71 yX4_numberAtHand cX4_numberAtHand 3 (some .int) wsX4_numberAtHand rm_X4_numberAtHand 0 0 0 := cwV 0 S.1.1.2.2.2.2 gX4_readAct_X4_numberAtHand rfl rfl rfl (by decide +kernel) (by rw [S.2.2]; exact ⟨Nat.le_of_ble_eq_true rfl, Nat.le_of_ble_eq_true rfl⟩)
theorem zc_X4_readAct_X2_endLine {C : zC} {G : zG} {Qc : Array Value → State → Outcome → State → Prop} (S : St_X4_readAct C G Qc) : CallW (zRm C) (zs C) (zar C) RX4 RX2 81 yX2_endLine cX2_endLine 3 none wsX2_endLine rm_X2_endLine 0 0 2 := cwV 2 S.1.1.2.2.2.2 gX4_readAct_X2_endLine rfl rfl rfl (by decide +kernel) (by rw [S.2.2]; exact ⟨Nat.le_of_ble_eq_true rfl, Nat.le_of_ble_eq_true rfl⟩)
set_option maxRecDepth 100000 in
set_option maxHeartbeats 4000000 in
theorem sg_X4_readAct_0 {C : zC} {G : zG} {Qc : Array Value → State → Outcome → State → Prop} (S : St_X4_readAct C G Qc) {P_X4_actAtHand : Nat → zM → Prop} {Q_X4_actAtHand : Nat → zM → Int32 → Prop} (c_X4_actAtHand : Con_X4_actAtHand (zl C) G P_X4_actAtHand Q_X4_actAtHand) {P_X4_advance : Nat → zM → Prop} {Q_X4_advance : Nat → zM → zM → Prop} (c_X4_advance : Con_X4_advance (zl C) G P_X4_advance Q_X4_advance) {P_X4_numberAtHand : Nat → zM → Prop} {Q_X4_numberAtHand : Nat → zM → Int32 → Prop} (c_X4_numberAtHand : Con_X4_numberAtHand (zl C) G P_X4_numberAtHand Q_X4_numberAtHand) {a0 : Nat} {m : zM} (ka0 : zK G a0 = some (4, a0))
    (h : (P_X4_actAtHand a0 m) ∧ (∀ (r2 : Int32), Q_X4_actAtHand a0 m r2 → ((¬ r2 = (-1) → ((P_X4_advance a0 m) ∧ (∀ (m4 : zM), Q_X4_advance a0 m m4 → ((r2 = 3 → (Pt_X4_readAct_42 C G a0 r2 0 m4)) ∧ (¬ r2 = 3 → (((zI m4 405 a0 0) = 2 → ((P_X4_numberAtHand a0 m4) ∧ (∀ (r6 : Int32), Q_X4_numberAtHand a0 m4 r6 → ((P_X4_advance a0 m4) ∧ (∀ (m8 : zM), Q_X4_advance a0 m4 m8 → (Pt_X4_readAct_42 C G a0 r2 r6 m8)))))) ∧ (¬ (zI m4 405 a0 0) = 2 → (zRet C G Qc (some (.int 0)) m4)))))))) ∧ (r2 = (-1) → (zRet C G Qc (some (.int 0)) m))))) : Pt_X4_readAct_0 C G a0 m := by
  obtain ⟨hF, hQ, hR⟩ := id S
  have h0 : zF0 C cX4_readAct 3 wsX4_readAct RX4 := hF.1
  have hL := hF.2.2.1
  unfold Pt_X4_readAct_0
  refine zx_aload_n h0 0 dX4_readAct_0 rfl ?_
  obtain ⟨ho1, h⟩ := h
  refine zx_callVi (As := []) (rest := []) hF (c_X4_actAtHand a0 m ka0 ho1) (zc_X4_readAct_X4_actAtHand S) ka0 (by decide) rfl dX4_readAct_1 rfl rfl (Nat.le_of_ble_eq_true rfl) ⟨Nat.zero_le _, Nat.zero_le _⟩ (fun r2 m2 hq => ?_)
  obtain ⟨hme, hq⟩ := hq
  subst m2
  replace h := h r2 hq
  refine zx_istore_n (L' := [(1, .int r2), (0, .ref a0)]) h0 dX4_readAct_4 (by decide) rfl ?_
  refine zx_iload_n h0 0 dX4_readAct_5 rfl ?_
  refine zx_iconst (v := (-1)) h0 dX4_readAct_6 (by decide) ?_
  refine zx_icmp_ne (tgt := 12) h0 dX4_readAct_7 (by decide) (fun q => ?_) (fun q => ?_)
  · replace h := h.1 q
    refine zx_aload_n h0 1 dX4_readAct_12 rfl ?_
    obtain ⟨ho3, h⟩ := h
    refine zx_callVv (As := []) (rest := []) hF (c_X4_advance a0 m ka0 ho3) (zc_X4_readAct_X4_advance S) ka0 (by decide) rfl dX4_readAct_13 rfl rfl (Nat.le_of_ble_eq_true rfl) ⟨Nat.zero_le _, Nat.zero_le _⟩ (fun m4 hq => ?_)
    replace h := h m4 hq
    refine zx_iconst (v := 0) h0 dX4_readAct_16 (by decide) ?_
    refine zx_istore_n (L' := [(2, .int 0), (1, .int r2), (0, .ref a0)]) h0 dX4_readAct_17 (by decide) rfl ?_
    refine zx_iload_n h0 1 dX4_readAct_18 rfl ?_
    refine zx_iconst (v := 3) h0 dX4_readAct_19 (by decide) ?_
    refine zx_icmp_eq (tgt := 42) h0 dX4_readAct_20 (by decide) (fun q => ?_) (fun q => ?_)
    · replace h := h.1 q
      exact zx_sub [2, 1, 0] rfl h
    · replace h := h.2 q
      refine zx_aload_n h0 2 dX4_readAct_23 rfl ?_
      refine zx_get hF ka0 (by decide) rfl zi_X4_readAct_4 5 (by decide) zn_X4_readAct_34 rfl rfl dX4_readAct_24 ?_
      refine zx_iconst (v := 2) h0 dX4_readAct_27 (by decide) ?_
      refine zx_icmp_eq (tgt := 33) h0 dX4_readAct_28 (by decide) (fun q => ?_) (fun q => ?_)
      · replace h := h.1 q
        refine zx_aload_n h0 2 dX4_readAct_33 rfl ?_
        obtain ⟨ho5, h⟩ := h
        refine zx_callVi (As := []) (rest := []) hF (c_X4_numberAtHand a0 m4 ka0 ho5) (zc_X4_readAct_X4_numberAtHand S) ka0 (by decide) rfl dX4_readAct_34 rfl rfl (Nat.le_of_ble_eq_true rfl) ⟨Nat.zero_le _, Nat.zero_le _⟩ (fun r6 m6 hq => ?_)
        obtain ⟨hme, hq⟩ := hq
        subst m6
        replace h := h r6 hq
        refine zx_istore_n (L' := [(2, .int r6), (1, .int r2), (0, .ref a0)]) h0 dX4_readAct_37 (by decide) rfl ?_
        refine zx_aload_n h0 2 dX4_readAct_38 rfl ?_
        obtain ⟨ho7, h⟩ := h
        refine zx_callVv (As := []) (rest := []) hF (c_X4_advance a0 m4 ka0 ho7) (zc_X4_readAct_X4_advance S) ka0 (by decide) rfl dX4_readAct_39 rfl rfl (Nat.le_of_ble_eq_true rfl) ⟨Nat.zero_le _, Nat.zero_le _⟩ (fun m8 hq => ?_)
        replace h := h m8 hq
        exact zx_sub [2, 1, 0] rfl h
      · replace h := h.2 q
        refine zx_iconst (v := 0) h0 dX4_readAct_31 (by decide) ?_
        exact zx_zret hF hQ rfl dX4_readAct_32 h
  · replace h := h.2 q
    refine zx_iconst (v := 0) h0 dX4_readAct_10 (by decide) ?_
    exact zx_zret hF hQ rfl dX4_readAct_11 h
set_option maxRecDepth 100000 in
set_option maxHeartbeats 4000000 in
theorem sg_X4_readAct_42 {C : zC} {G : zG} {Qc : Array Value → State → Outcome → State → Prop} (S : St_X4_readAct C G Qc) {P_X4_advance : Nat → zM → Prop} {Q_X4_advance : Nat → zM → zM → Prop} (c_X4_advance : Con_X4_advance (zl C) G P_X4_advance Q_X4_advance) {P_X2_endLine : Nat → Int32 → Int32 → zM → Prop} {Q_X2_endLine : Nat → Int32 → Int32 → zM → zM → Prop} (c_X2_endLine : Con_X2_endLine (zl C) G P_X2_endLine Q_X2_endLine) {a0 : Nat} {x1 : Int32} {x2 : Int32} {m : zM} (ka0 : zK G a0 = some (4, a0))
    (h : ((zI m 405 a0 0) = 59 → ((P_X4_advance a0 m) ∧ (∀ (m2 : zM), Q_X4_advance a0 m m2 → ((P_X2_endLine (zR m2 402 a0) x1 x2 m2) ∧ (∀ (m5 : zM), Q_X2_endLine (zR m2 402 a0) x1 x2 m2 m5 → (zRet C G Qc (some (.int 1)) m5)))))) ∧ (¬ (zI m 405 a0 0) = 59 → (zRet C G Qc (some (.int 0)) m))) : Pt_X4_readAct_42 C G a0 x1 x2 m := by
  obtain ⟨hF, hQ, hR⟩ := id S
  have h0 : zF0 C cX4_readAct 3 wsX4_readAct RX4 := hF.1
  have hL := hF.2.2.1
  unfold Pt_X4_readAct_42
  refine zx_aload_n h0 0 dX4_readAct_42 rfl ?_
  refine zx_get hF ka0 (by decide) rfl zi_X4_readAct_4 5 (by decide) zn_X4_readAct_34 rfl rfl dX4_readAct_43 ?_
  refine zx_bipush (v := 59) h0 dX4_readAct_46 (by decide) ?_
  refine zx_icmp_eq (tgt := 53) h0 dX4_readAct_48 (by decide) (fun q => ?_) (fun q => ?_)
  · replace h := h.1 q
    refine zx_aload_n h0 0 dX4_readAct_53 rfl ?_
    obtain ⟨ho1, h⟩ := h
    refine zx_callVv (As := []) (rest := []) hF (c_X4_advance a0 m ka0 ho1) (zc_X4_readAct_X4_advance S) ka0 (by decide) rfl dX4_readAct_54 rfl rfl (Nat.le_of_ble_eq_true rfl) ⟨Nat.zero_le _, Nat.zero_le _⟩ (fun m2 hq => ?_)
    replace h := h m2 hq
    refine zx_aload_n h0 0 dX4_readAct_57 rfl ?_
    refine zx_wt (fun hw3 => ?_)
    refine zx_get hF ka0 (by decide) rfl zi_X4_readAct_4 2 (by decide) zn_X4_readAct_22 rfl rfl dX4_readAct_58 ?_
    refine zx_iload_n h0 1 dX4_readAct_61 rfl ?_
    refine zx_iload_n h0 2 dX4_readAct_62 rfl ?_
    obtain ⟨ho4, h⟩ := h
    refine zx_callVv (As := [.int x1, .int x2]) (rest := []) hF (c_X2_endLine (zR m2 402 a0) x1 x2 m2 (hw3.2.2.1 _ ka0).2 ho4) (zc_X4_readAct_X2_endLine S) (hw3.2.2.1 _ ka0).2 (by decide) rfl dX4_readAct_63 rfl rfl (Nat.le_of_ble_eq_true rfl) ⟨Nat.zero_le _, Nat.zero_le _⟩ (fun m5 hq => ?_)
    replace h := h m5 hq
    refine zx_iconst (v := 1) h0 dX4_readAct_66 (by decide) ?_
    exact zx_zret hF hQ rfl dX4_readAct_67 h
  · replace h := h.2 q
    refine zx_iconst (v := 0) h0 dX4_readAct_51 (by decide) ?_
    exact zx_zret hF hQ rfl dX4_readAct_52 h
theorem zn_X4_readLine_19 : Cond.fieldLink RX4 19 RX4 (TX4 1).2.1 (TX4 1).2.2.1 ∈ wsX4_readLine := List.mem_of_getElem? (i := 1) rfl
theorem zi_X4_readLine_4 : ∀ w ∈ u_ws RX4 TX4 8, w ∈ wsX4_readLine := fun _ h => List.mem_cons_of_mem _ (List.mem_append_left _ (List.mem_append_right _ h))
theorem zn_X4_readLine_34 : Cond.fieldLink RX4 34 RX4 (TX4 5).2.1 (TX4 5).2.2.1 ∈ wsX4_readLine := List.mem_of_getElem? (i := 2) rfl
theorem zc_X4_readLine_X4_takeWord {C : zC} {G : zG} {Qc : Array Value → State → Outcome → State → Prop} (S : St_X4_readLine C G Qc) : CallW (zRm C) (zs C) (zar C) RX4 RX4 53 yX4_takeWord cX4_takeWord 2 (some .boolean) wsX4_takeWord rm_X4_takeWord 0 0 1 := cwV 1 S.1.1.2.2.2.2 gX4_readLine_X4_takeWord rfl rfl rfl (by decide +kernel) (by rw [S.2.2]; exact ⟨Nat.le_of_ble_eq_true rfl, Nat.le_of_ble_eq_true rfl⟩)
theorem zc_X4_readLine_X4_readAct {C : zC} {G : zG} {Qc : Array Value → State → Outcome → State → Prop} (S : St_X4_readLine C G Qc) : CallW (zRm C) (zs C) (zar C) RX4 RX4 62 yX4_readAct cX4_readAct 3 (some .boolean) wsX4_readAct rm_X4_readAct 0 0 0 := cwV 0 S.1.1.2.2.2.2 gX4_readLine_X4_readAct rfl rfl rfl (by decide +kernel) (by rw [S.2.2]; exact ⟨Nat.le_of_ble_eq_true rfl, Nat.le_of_ble_eq_true rfl⟩)
theorem zc_X4_readLine_X4_note {C : zC} {G : zG} {Qc : Array Value → State → Outcome → State → Prop} (S : St_X4_readLine C G Qc) : CallW (zRm C) (zs C) (zar C) RX4 RX4 37 yX4_note cX4_note 2 none wsX4_note rm_X4_note 0 0 1 := cwV 1 S.1.1.2.2.2.2 gX4_readLine_X4_note rfl rfl rfl (by decide +kernel) (by rw [S.2.2]; exact ⟨Nat.le_of_ble_eq_true rfl, Nat.le_of_ble_eq_true rfl⟩)
theorem zc_X4_readLine_X4_readTest {C : zC} {G : zG} {Qc : Array Value → State → Outcome → State → Prop} (S : St_X4_readLine C G Qc) : CallW (zRm C) (zs C) (zar C) RX4 RX4 57 yX4_readTest cX4_readTest 5 (some .boolean) wsX4_readTest rm_X4_readTest 0 0 0 := cwV 0 S.1.1.2.2.2.2 gX4_readLine_X4_readTest rfl rfl rfl (by decide +kernel) (by rw [S.2.2]; exact ⟨Nat.le_of_ble_eq_true rfl, Nat.le_of_ble_eq_true rfl⟩)
theorem zc_X4_readLine_X4_advance {C : zC} {G : zG} {Qc : Array Value → State → Outcome → State → Prop} (S : St_X4_readLine C G Qc) : CallW (zRm C) (zs C) (zar C) RX4 RX4 31 yX4_advance cX4_advance 2 none wsX4_advance rm_X4_advance 0 0 0 := cwV 0 S.1.1.2.2.2.2 gX4_readLine_X4_advance rfl rfl rfl (by decide +kernel) (by rw [S.2.2]; exact ⟨Nat.le_of_ble_eq_true rfl, Nat.le_of_ble_eq_true rfl⟩)
set_option maxRecDepth 100000 in
set_option maxHeartbeats 4000000 in
theorem sg_X4_readLine_0 {C : zC} {G : zG} {Qc : Array Value → State → Outcome → State → Prop} (S : St_X4_readLine C G Qc) {P_X4_takeWord : Nat → Nat → zM → Prop} {Q_X4_takeWord : Nat → Nat → zM → Int32 → zM → Prop} (c_X4_takeWord : Con_X4_takeWord (zl C) G P_X4_takeWord Q_X4_takeWord) {P_X4_readAct : Nat → zM → Prop} {Q_X4_readAct : Nat → zM → Int32 → zM → Prop} (c_X4_readAct : Con_X4_readAct (zl C) G P_X4_readAct Q_X4_readAct) {a0 : Nat} {m : zM} (ka0 : zK G a0 = some (4, a0))
    (h : (P_X4_takeWord a0 0 m) ∧ (∀ (r2 : Int32) (m2 : zM), Q_X4_takeWord a0 0 m r2 m2 → ((r2 = 0 → ((P_X4_readAct a0 m2) ∧ (∀ (r4 : Int32) (m4 : zM), Q_X4_readAct a0 m2 r4 m4 → ((r4 = 0 ∨ r4 = 1) ∧ (zRet C G Qc (some (.int r4)) m4))))) ∧ (¬ r2 = 0 → (Pt_X4_readLine_11 C G a0 0 m2))))) : Pt_X4_readLine_0 C G a0 m := by
  obtain ⟨hF, hQ, hR⟩ := id S
  have h0 : zF0 C cX4_readLine 2 wsX4_readLine RX4 := hF.1
  have hL := hF.2.2.1
  unfold Pt_X4_readLine_0
  refine zx_aload_n h0 0 dX4_readLine_0 rfl ?_
  refine zx_ldcS hF 0 (by decide) rfl dX4_readLine_1 ?_
  obtain ⟨ho1, h⟩ := h
  refine zx_callVi (As := [.ref (zaK G 0)]) (rest := []) hF (c_X4_takeWord a0 0 m ka0 (by decide) ho1) (zc_X4_readLine_X4_takeWord S) ka0 (by decide) rfl dX4_readLine_3 rfl rfl (Nat.le_of_ble_eq_true rfl) ⟨Nat.zero_le _, Nat.zero_le _⟩ (fun r2 m2 hq => ?_)
  replace h := h r2 m2 hq
  refine zx_if_eq (tgt := 65) h0 dX4_readLine_6 (by decide) (fun q => ?_) (fun q => ?_)
  · replace h := h.1 q
    refine zx_aload_n h0 0 dX4_readLine_65 rfl ?_
    obtain ⟨ho3, h⟩ := h
    refine zx_callVi (As := []) (rest := []) hF (c_X4_readAct a0 m2 ka0 ho3) (zc_X4_readLine_X4_readAct S) ka0 (by decide) rfl dX4_readLine_66 rfl rfl (Nat.le_of_ble_eq_true rfl) ⟨Nat.zero_le _, Nat.zero_le _⟩ (fun r4 m4 hq => ?_)
    replace h := h r4 m4 hq
    obtain ⟨ho5, h⟩ := h
    exact zx_zret hF hQ (z_nb ho5) dX4_readLine_69 h
  · replace h := h.2 q
    refine zx_iconst (v := 0) h0 dX4_readLine_9 (by decide) ?_
    refine zx_istore_n (L' := [(1, .int 0), (0, .ref a0)]) h0 dX4_readLine_10 (by decide) rfl ?_
    exact zx_sub [1, 0] rfl h
set_option maxRecDepth 100000 in
set_option maxHeartbeats 4000000 in
theorem sg_X4_readLine_11 {C : zC} {G : zG} {Qc : Array Value → State → Outcome → State → Prop} (S : St_X4_readLine C G Qc) {P_X4_note : Nat → Int32 → zM → Prop} {Q_X4_note : Nat → Int32 → zM → zM → Prop} (c_X4_note : Con_X4_note (zl C) G P_X4_note Q_X4_note) {a0 : Nat} {x1 : Int32} {m : zM} (ka0 : zK G a0 = some (4, a0))
    (h : (x1 < 4 → (Pt_X4_readLine_21 C G a0 x1 m)) ∧ (¬ x1 < 4 → ((P_X4_note a0 3 m) ∧ (∀ (m2 : zM), Q_X4_note a0 3 m m2 → (Pt_X4_readLine_21 C G a0 x1 m2))))) : Pt_X4_readLine_11 C G a0 x1 m := by
  obtain ⟨hF, hQ, hR⟩ := id S
  have h0 : zF0 C cX4_readLine 2 wsX4_readLine RX4 := hF.1
  have hL := hF.2.2.1
  unfold Pt_X4_readLine_11
  refine zx_iload_n h0 1 dX4_readLine_11 rfl ?_
  refine zx_iconst (v := 4) h0 dX4_readLine_12 (by decide) ?_
  refine zx_icmp_lt (tgt := 21) h0 dX4_readLine_13 (by decide) (fun q => ?_) (fun q => ?_)
  · replace h := h.1 q
    exact zx_sub [0, 1] rfl h
  · replace h := h.2 q
    refine zx_aload_n h0 0 dX4_readLine_16 rfl ?_
    refine zx_iconst (v := 3) h0 dX4_readLine_17 (by decide) ?_
    obtain ⟨ho1, h⟩ := h
    refine zx_callVv (As := [.int 3]) (rest := []) hF (c_X4_note a0 3 m ka0 ho1) (zc_X4_readLine_X4_note S) ka0 (by decide) rfl dX4_readLine_18 rfl rfl (Nat.le_of_ble_eq_true rfl) ⟨Nat.zero_le _, Nat.zero_le _⟩ (fun m2 hq => ?_)
    replace h := h m2 hq
    exact zx_sub [0, 1] rfl h
set_option maxRecDepth 100000 in
set_option maxHeartbeats 4000000 in
theorem sg_X4_readLine_21 {C : zC} {G : zG} {Qc : Array Value → State → Outcome → State → Prop} (S : St_X4_readLine C G Qc) {P_X4_readTest : Nat → zM → Prop} {Q_X4_readTest : Nat → zM → Int32 → zM → Prop} (c_X4_readTest : Con_X4_readTest (zl C) G P_X4_readTest Q_X4_readTest) {P_X4_takeWord : Nat → Nat → zM → Prop} {Q_X4_takeWord : Nat → Nat → zM → Int32 → zM → Prop} (c_X4_takeWord : Con_X4_takeWord (zl C) G P_X4_takeWord Q_X4_takeWord) {a0 : Nat} {x1 : Int32} {m : zM} (ka0 : zK G a0 = some (4, a0))
    (h : (P_X4_readTest a0 m) ∧ (∀ (r2 : Int32) (m2 : zM), Q_X4_readTest a0 m r2 m2 → ((¬ r2 = 0 → (((zI m2 401 a0 0) ≤ (x1 + 1) → (Pt_X4_readLine_50 C G a0 m2)) ∧ (¬ (zI m2 401 a0 0) ≤ (x1 + 1) → ((P_X4_takeWord a0 1 m2) ∧ (∀ (r4 : Int32) (m4 : zM), Q_X4_takeWord a0 1 m2 r4 m4 → ((¬ r4 = 0 → (Pt_X4_readLine_11 C G a0 (x1 + 1) m4)) ∧ (r4 = 0 → (Pt_X4_readLine_50 C G a0 m4)))))))) ∧ (r2 = 0 → (zRet C G Qc (some (.int 0)) m2))))) : Pt_X4_readLine_21 C G a0 x1 m := by
  obtain ⟨hF, hQ, hR⟩ := id S
  have h0 : zF0 C cX4_readLine 2 wsX4_readLine RX4 := hF.1
  have hL := hF.2.2.1
  unfold Pt_X4_readLine_21
  refine zx_aload_n h0 0 dX4_readLine_21 rfl ?_
  obtain ⟨ho1, h⟩ := h
  refine zx_callVi (As := []) (rest := []) hF (c_X4_readTest a0 m ka0 ho1) (zc_X4_readLine_X4_readTest S) ka0 (by decide) rfl dX4_readLine_22 rfl rfl (Nat.le_of_ble_eq_true rfl) ⟨Nat.zero_le _, Nat.zero_le _⟩ (fun r2 m2 hq => ?_)
  replace h := h r2 m2 hq
  refine zx_if_ne (tgt := 30) h0 dX4_readLine_25 (by decide) (fun q => ?_) (fun q => ?_)
  · replace h := h.1 q
    refine zx_iinc (v := (x1 + 1)) (L' := [(1, .int (x1 + 1)), (0, .ref a0)]) h0 1 dX4_readLine_30 rfl rfl (by decide) rfl ?_
    refine zx_iload_n h0 0 dX4_readLine_33 rfl ?_
    refine zx_aload_n h0 1 dX4_readLine_34 rfl ?_
    refine zx_get hF ka0 (by decide) rfl zi_X4_readLine_4 1 (by decide) zn_X4_readLine_19 rfl rfl dX4_readLine_35 ?_
    refine zx_icmp_ge (tgt := 50) h0 dX4_readLine_38 (by decide) (fun q => ?_) (fun q => ?_)
    · replace h := h.1 q
      exact zx_sub [1] rfl h
    · replace h := h.2 q
      refine zx_aload_n h0 1 dX4_readLine_41 rfl ?_
      refine zx_ldcS hF 1 (by decide) rfl dX4_readLine_42 ?_
      obtain ⟨ho3, h⟩ := h
      refine zx_callVi (As := [.ref (zaK G 1)]) (rest := []) hF (c_X4_takeWord a0 1 m2 ka0 (by decide) ho3) (zc_X4_readLine_X4_takeWord S) ka0 (by decide) rfl dX4_readLine_44 rfl rfl (Nat.le_of_ble_eq_true rfl) ⟨Nat.zero_le _, Nat.zero_le _⟩ (fun r4 m4 hq => ?_)
      replace h := h r4 m4 hq
      refine zx_if_ne (tgt := 11) h0 dX4_readLine_47 (by decide) (fun q => ?_) (fun q => ?_)
      · replace h := h.1 q
        exact zx_sub [1, 0] rfl h
      · replace h := h.2 q
        exact zx_sub [1] rfl h
  · replace h := h.2 q
    refine zx_iconst (v := 0) h0 dX4_readLine_28 (by decide) ?_
    exact zx_zret hF hQ rfl dX4_readLine_29 h
set_option maxRecDepth 100000 in
set_option maxHeartbeats 4000000 in
theorem sg_X4_readLine_50 {C : zC} {G : zG} {Qc : Array Value → State → Outcome → State → Prop} (S : St_X4_readLine C G Qc) {P_X4_advance : Nat → zM → Prop} {Q_X4_advance : Nat → zM → zM → Prop} (c_X4_advance : Con_X4_advance (zl C) G P_X4_advance Q_X4_advance) {P_X4_readAct : Nat → zM → Prop} {Q_X4_readAct : Nat → zM → Int32 → zM → Prop} (c_X4_readAct : Con_X4_readAct (zl C) G P_X4_readAct Q_X4_readAct) {a0 : Nat} {m : zM} (ka0 : zK G a0 = some (4, a0))
    (h : ((zI m 405 a0 0) = 58 → ((P_X4_advance a0 m) ∧ (∀ (m2 : zM), Q_X4_advance a0 m m2 → ((P_X4_readAct a0 m2) ∧ (∀ (r4 : Int32) (m4 : zM), Q_X4_readAct a0 m2 r4 m4 → ((r4 = 0 ∨ r4 = 1) ∧ (zRet C G Qc (some (.int r4)) m4))))))) ∧ (¬ (zI m 405 a0 0) = 58 → (zRet C G Qc (some (.int 0)) m))) : Pt_X4_readLine_50 C G a0 m := by
  obtain ⟨hF, hQ, hR⟩ := id S
  have h0 : zF0 C cX4_readLine 2 wsX4_readLine RX4 := hF.1
  have hL := hF.2.2.1
  unfold Pt_X4_readLine_50
  refine zx_aload_n h0 0 dX4_readLine_50 rfl ?_
  refine zx_get hF ka0 (by decide) rfl zi_X4_readLine_4 5 (by decide) zn_X4_readLine_34 rfl rfl dX4_readLine_51 ?_
  refine zx_bipush (v := 58) h0 dX4_readLine_54 (by decide) ?_
  refine zx_icmp_eq (tgt := 61) h0 dX4_readLine_56 (by decide) (fun q => ?_) (fun q => ?_)
  · replace h := h.1 q
    refine zx_aload_n h0 0 dX4_readLine_61 rfl ?_
    obtain ⟨ho1, h⟩ := h
    refine zx_callVv (As := []) (rest := []) hF (c_X4_advance a0 m ka0 ho1) (zc_X4_readLine_X4_advance S) ka0 (by decide) rfl dX4_readLine_62 rfl rfl (Nat.le_of_ble_eq_true rfl) ⟨Nat.zero_le _, Nat.zero_le _⟩ (fun m2 hq => ?_)
    replace h := h m2 hq
    refine zx_aload_n h0 0 dX4_readLine_65 rfl ?_
    obtain ⟨ho3, h⟩ := h
    refine zx_callVi (As := []) (rest := []) hF (c_X4_readAct a0 m2 ka0 ho3) (zc_X4_readLine_X4_readAct S) ka0 (by decide) rfl dX4_readLine_66 rfl rfl (Nat.le_of_ble_eq_true rfl) ⟨Nat.zero_le _, Nat.zero_le _⟩ (fun r4 m4 hq => ?_)
    replace h := h r4 m4 hq
    obtain ⟨ho5, h⟩ := h
    exact zx_zret hF hQ (z_nb ho5) dX4_readLine_69 h
  · replace h := h.2 q
    refine zx_iconst (v := 0) h0 dX4_readLine_59 (by decide) ?_
    exact zx_zret hF hQ rfl dX4_readLine_60 h
theorem zn_X4_read_22 : Cond.fieldLink RX4 22 RX4 (TX4 2).2.1 (TX4 2).2.2.1 ∈ wsX4_read := List.mem_of_getElem? (i := 1) rfl
theorem zi_X4_read_4 : ∀ w ∈ u_ws RX4 TX4 8, w ∈ wsX4_read := fun _ h => List.mem_cons_of_mem _ (List.mem_append_left _ (List.mem_append_right _ h))
theorem zn_X4_read_19 : Cond.fieldLink RX4 19 RX4 (TX4 1).2.1 (TX4 1).2.2.1 ∈ wsX4_read := List.mem_of_getElem? (i := 2) rfl
theorem zn_X4_read_34 : Cond.fieldLink RX4 34 RX4 (TX4 5).2.1 (TX4 5).2.2.1 ∈ wsX4_read := List.mem_of_getElem? (i := 3) rfl
theorem zn_X4_read_45 : Cond.fieldLink RX4 45 RX4 (TX4 6).2.1 (TX4 6).2.2.1 ∈ wsX4_read := List.mem_of_getElem? (i := 4) rfl
theorem zn_X4_read_48 : Cond.fieldLink RX4 48 RX4 (TX4 3).2.1 (TX4 3).2.2.1 ∈ wsX4_read := List.mem_of_getElem? (i := 5) rfl
theorem zn_X4_read_9 : Cond.fieldLink RX4 9 RX4 (TX4 7).2.1 (TX4 7).2.2.1 ∈ wsX4_read := List.mem_of_getElem? (i := 6) rfl
theorem zc_X4_read_X2_empty {C : zC} {G : zG} {Qc : Array Value → State → Outcome → State → Prop} (S : St_X4_read C G Qc) : CallW (zRm C) (zs C) (zar C) RX4 RX2 26 yX2_empty cX2_empty 1 none wsX2_empty rm_X2_empty 0 0 0 := cwV 0 S.1.1.2.2.2.2 gX4_read_X2_empty rfl rfl rfl (by decide +kernel) (by rw [S.2.2]; exact ⟨Nat.le_of_ble_eq_true rfl, Nat.le_of_ble_eq_true rfl⟩)
theorem zc_X4_read_X4_advance {C : zC} {G : zG} {Qc : Array Value → State → Outcome → State → Prop} (S : St_X4_read C G Qc) : CallW (zRm C) (zs C) (zar C) RX4 RX4 31 yX4_advance cX4_advance 2 none wsX4_advance rm_X4_advance 0 0 0 := cwV 0 S.1.1.2.2.2.2 gX4_read_X4_advance rfl rfl rfl (by decide +kernel) (by rw [S.2.2]; exact ⟨Nat.le_of_ble_eq_true rfl, Nat.le_of_ble_eq_true rfl⟩)
theorem zc_X4_read_X4_note {C : zC} {G : zG} {Qc : Array Value → State → Outcome → State → Prop} (S : St_X4_read C G Qc) : CallW (zRm C) (zs C) (zar C) RX4 RX4 37 yX4_note cX4_note 2 none wsX4_note rm_X4_note 0 0 1 := cwV 1 S.1.1.2.2.2.2 gX4_read_X4_note rfl rfl rfl (by decide +kernel) (by rw [S.2.2]; exact ⟨Nat.le_of_ble_eq_true rfl, Nat.le_of_ble_eq_true rfl⟩)
theorem zc_X4_read_X4_readLine {C : zC} {G : zG} {Qc : Array Value → State → Outcome → State → Prop} (S : St_X4_read C G Qc) : CallW (zRm C) (zs C) (zar C) RX4 RX4 41 yX4_readLine cX4_readLine 2 (some .boolean) wsX4_readLine rm_X4_readLine 0 0 0 := cwV 0 S.1.1.2.2.2.2 gX4_read_X4_readLine rfl rfl rfl (by decide +kernel) (by rw [S.2.2]; exact ⟨Nat.le_of_ble_eq_true rfl, Nat.le_of_ble_eq_true rfl⟩)
set_option maxRecDepth 100000 in
set_option maxHeartbeats 4000000 in
theorem sg_X4_read_0 {C : zC} {G : zG} {Qc : Array Value → State → Outcome → State → Prop} (S : St_X4_read C G Qc) {P_X2_empty : Nat → zM → Prop} {Q_X2_empty : Nat → zM → zM → Prop} (c_X2_empty : Con_X2_empty (zl C) G P_X2_empty Q_X2_empty) {P_X4_advance : Nat → zM → Prop} {Q_X4_advance : Nat → zM → zM → Prop} (c_X4_advance : Con_X4_advance (zl C) G P_X4_advance Q_X4_advance) {a0 : Nat} {m : zM} (ka0 : zK G a0 = some (4, a0))
    (h : (P_X2_empty (zR m 402 a0) m) ∧ (∀ (m3 : zM), Q_X2_empty (zR m 402 a0) m m3 → ((P_X4_advance a0 m3) ∧ (∀ (m5 : zM), Q_X4_advance a0 m3 m5 → (Pt_X4_read_13 C G a0 0 m5))))) : Pt_X4_read_0 C G a0 m := by
  obtain ⟨hF, hQ, hR⟩ := id S
  have h0 : zF0 C cX4_read 2 wsX4_read RX4 := hF.1
  have hL := hF.2.2.1
  unfold Pt_X4_read_0
  refine zx_aload_n h0 0 dX4_read_0 rfl ?_
  refine zx_wt (fun hw1 => ?_)
  refine zx_get hF ka0 (by decide) rfl zi_X4_read_4 2 (by decide) zn_X4_read_22 rfl rfl dX4_read_1 ?_
  obtain ⟨ho2, h⟩ := h
  refine zx_callVv (As := []) (rest := []) hF (c_X2_empty (zR m 402 a0) m (hw1.2.2.1 _ ka0).2 ho2) (zc_X4_read_X2_empty S) (hw1.2.2.1 _ ka0).2 (by decide) rfl dX4_read_4 rfl rfl (Nat.le_of_ble_eq_true rfl) ⟨Nat.zero_le _, Nat.zero_le _⟩ (fun m3 hq => ?_)
  replace h := h m3 hq
  refine zx_aload_n h0 0 dX4_read_7 rfl ?_
  obtain ⟨ho4, h⟩ := h
  refine zx_callVv (As := []) (rest := []) hF (c_X4_advance a0 m3 ka0 ho4) (zc_X4_read_X4_advance S) ka0 (by decide) rfl dX4_read_8 rfl rfl (Nat.le_of_ble_eq_true rfl) ⟨Nat.zero_le _, Nat.zero_le _⟩ (fun m5 hq => ?_)
  replace h := h m5 hq
  refine zx_iconst (v := 0) h0 dX4_read_11 (by decide) ?_
  refine zx_istore_n (L' := [(1, .int 0), (0, .ref a0)]) h0 dX4_read_12 (by decide) rfl ?_
  exact zx_sub [1, 0] rfl h
set_option maxRecDepth 100000 in
set_option maxHeartbeats 4000000 in
theorem sg_X4_read_13 {C : zC} {G : zG} {Qc : Array Value → State → Outcome → State → Prop} (S : St_X4_read C G Qc) {P_X4_note : Nat → Int32 → zM → Prop} {Q_X4_note : Nat → Int32 → zM → zM → Prop} (c_X4_note : Con_X4_note (zl C) G P_X4_note Q_X4_note) {a0 : Nat} {x1 : Int32} {m : zM} (ka0 : zK G a0 = some (4, a0))
    (h : ((zI m 401 a0 0) ≤ x1 → (zRet C G Qc none m)) ∧ (¬ (zI m 401 a0 0) ≤ x1 → (((zI m 405 a0 0) = 0 → (zRet C G Qc none m)) ∧ (¬ (zI m 405 a0 0) = 0 → ((x1 < 16 → (Pt_X4_read_39 C G a0 x1 m)) ∧ (¬ x1 < 16 → ((P_X4_note a0 3 m) ∧ (∀ (m2 : zM), Q_X4_note a0 3 m m2 → (Pt_X4_read_39 C G a0 x1 m2))))))))) : Pt_X4_read_13 C G a0 x1 m := by
  obtain ⟨hF, hQ, hR⟩ := id S
  have h0 : zF0 C cX4_read 2 wsX4_read RX4 := hF.1
  have hL := hF.2.2.1
  unfold Pt_X4_read_13
  refine zx_iload_n h0 1 dX4_read_13 rfl ?_
  refine zx_aload_n h0 0 dX4_read_14 rfl ?_
  refine zx_get hF ka0 (by decide) rfl zi_X4_read_4 1 (by decide) zn_X4_read_19 rfl rfl dX4_read_15 ?_
  refine zx_icmp_ge (tgt := 66) h0 dX4_read_18 (by decide) (fun q => ?_) (fun q => ?_)
  · replace h := h.1 q
    exact zx_vret hF hQ dX4_read_66 h
  · replace h := h.2 q
    refine zx_aload_n h0 0 dX4_read_21 rfl ?_
    refine zx_get hF ka0 (by decide) rfl zi_X4_read_4 5 (by decide) zn_X4_read_34 rfl rfl dX4_read_22 ?_
    refine zx_if_eq (tgt := 66) h0 dX4_read_25 (by decide) (fun q => ?_) (fun q => ?_)
    · replace h := h.1 q
      exact zx_vret hF hQ dX4_read_66 h
    · replace h := h.2 q
      refine zx_iload_n h0 1 dX4_read_28 rfl ?_
      refine zx_bipush (v := 16) h0 dX4_read_29 (by decide) ?_
      refine zx_icmp_lt (tgt := 39) h0 dX4_read_31 (by decide) (fun q => ?_) (fun q => ?_)
      · replace h := h.1 q
        exact zx_sub [0, 1] rfl h
      · replace h := h.2 q
        refine zx_aload_n h0 0 dX4_read_34 rfl ?_
        refine zx_iconst (v := 3) h0 dX4_read_35 (by decide) ?_
        obtain ⟨ho1, h⟩ := h
        refine zx_callVv (As := [.int 3]) (rest := []) hF (c_X4_note a0 3 m ka0 ho1) (zc_X4_read_X4_note S) ka0 (by decide) rfl dX4_read_36 rfl rfl (Nat.le_of_ble_eq_true rfl) ⟨Nat.zero_le _, Nat.zero_le _⟩ (fun m2 hq => ?_)
        replace h := h m2 hq
        exact zx_sub [0, 1] rfl h
set_option maxRecDepth 100000 in
set_option maxHeartbeats 4000000 in
theorem sg_X4_read_39 {C : zC} {G : zG} {Qc : Array Value → State → Outcome → State → Prop} (S : St_X4_read C G Qc) {P_X4_readLine : Nat → zM → Prop} {Q_X4_readLine : Nat → zM → Int32 → zM → Prop} (c_X4_readLine : Con_X4_readLine (zl C) G P_X4_readLine Q_X4_readLine) {a0 : Nat} {x1 : Int32} {m : zM} (ka0 : zK G a0 = some (4, a0))
    (h : (P_X4_readLine a0 m) ∧ (∀ (r2 : Int32) (m2 : zM), Q_X4_readLine a0 m r2 m2 → ((¬ r2 = 0 → (Pt_X4_read_13 C G a0 (x1 + 1) m2)) ∧ (r2 = 0 → (zRet C G Qc none (zsI (zsI m2 406 a0 0 1) 407 a0 0 (zI m2 403 a0 0))))))) : Pt_X4_read_39 C G a0 x1 m := by
  obtain ⟨hF, hQ, hR⟩ := id S
  have h0 : zF0 C cX4_read 2 wsX4_read RX4 := hF.1
  have hL := hF.2.2.1
  unfold Pt_X4_read_39
  refine zx_aload_n h0 0 dX4_read_39 rfl ?_
  obtain ⟨ho1, h⟩ := h
  refine zx_callVi (As := []) (rest := []) hF (c_X4_readLine a0 m ka0 ho1) (zc_X4_read_X4_readLine S) ka0 (by decide) rfl dX4_read_40 rfl rfl (Nat.le_of_ble_eq_true rfl) ⟨Nat.zero_le _, Nat.zero_le _⟩ (fun r2 m2 hq => ?_)
  replace h := h r2 m2 hq
  refine zx_if_ne (tgt := 60) h0 dX4_read_43 (by decide) (fun q => ?_) (fun q => ?_)
  · replace h := h.1 q
    refine zx_iinc (v := (x1 + 1)) (L' := [(1, .int (x1 + 1)), (0, .ref a0)]) h0 1 dX4_read_60 rfl rfl (by decide) rfl ?_
    refine zx_goto (tgt := 13) h0 dX4_read_63 (by decide) ?_
    exact zx_sub [1, 0] rfl h
  · replace h := h.2 q
    refine zx_aload_n h0 0 dX4_read_46 rfl ?_
    refine zx_iconst (v := 1) h0 dX4_read_47 (by decide) ?_
    refine zp_406 hF ka0 zi_X4_read_4 zn_X4_read_45 dX4_read_48 ?_
    refine zx_aload_n h0 0 dX4_read_51 rfl ?_
    refine zx_aload_n h0 0 dX4_read_52 rfl ?_
    refine zx_get hF ka0 (by decide) rfl zi_X4_read_4 3 (by decide) zn_X4_read_48 rfl rfl dX4_read_53 ?_
    refine zx_topI (zI_n (by decide)) ?_
    refine zp_407 hF ka0 zi_X4_read_4 zn_X4_read_9 dX4_read_56 ?_
    exact zx_vret hF hQ dX4_read_59 h
