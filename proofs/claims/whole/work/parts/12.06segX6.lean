
set_option maxRecDepth 100000 in
set_option maxHeartbeats 4000000 in
theorem sg_X6_in_0 {C : zC} {G : zG} {Qc : Array Value → State → Outcome → State → Prop} (S : St_X6_in C G Qc) {x0 : Int32} {x1 : Int32} {x2 : Int32} {m : zM}
    (h : (x0 < x1 → (zRet C G Qc (some (.int 0)) m)) ∧ (¬ x0 < x1 → ((x2 < x0 → (zRet C G Qc (some (.int 0)) m)) ∧ (¬ x2 < x0 → (zRet C G Qc (some (.int 1)) m))))) : Pt_X6_in_0 C G x0 x1 x2 m := by
  obtain ⟨hF, hQ, hR⟩ := id S
  have h0 : zF0 C cX6_in 3 wsX6_in RX6 := hF.1
  have hL := hF.2.2.1
  unfold Pt_X6_in_0
  refine zx_iload_n h0 0 dX6_in_0 rfl ?_
  refine zx_iload_n h0 1 dX6_in_1 rfl ?_
  refine zx_icmp_lt (tgt := 14) h0 dX6_in_2 (by decide) (fun q => ?_) (fun q => ?_)
  · replace h := h.1 q
    refine zx_iconst (v := 0) h0 dX6_in_14 (by decide) ?_
    exact zx_zret hF hQ rfl dX6_in_15 h
  · replace h := h.2 q
    refine zx_iload_n h0 0 dX6_in_5 rfl ?_
    refine zx_iload_n h0 2 dX6_in_6 rfl ?_
    refine zx_icmp_gt (tgt := 14) h0 dX6_in_7 (by decide) (fun q => ?_) (fun q => ?_)
    · replace h := h.1 q
      refine zx_iconst (v := 0) h0 dX6_in_14 (by decide) ?_
      exact zx_zret hF hQ rfl dX6_in_15 h
    · replace h := h.2 q
      refine zx_iconst (v := 1) h0 dX6_in_10 (by decide) ?_
      refine zx_goto (tgt := 15) h0 dX6_in_11 (by decide) ?_
      exact zx_zret hF hQ rfl dX6_in_15 h

set_option maxRecDepth 100000 in
set_option maxHeartbeats 4000000 in
theorem sg_X6_move_0 {C : zC} {G : zG} {Qc : Array Value → State → Outcome → State → Prop} (S : St_X6_move C G Qc) {a0 : Nat} {c0 : Nat} {o0 : Nat} {x1 : Int32} {x2 : Int32} {x3 : Int32} {m : zM} (ka0 : zK G a0 = some (c0, o0)) (kc0 : ¬ c0 < 1000) (ky0 : zty c0 = 1) (kf0 : ∀ v, zfitv c0 v)
    (h : Pt_X6_move_3 C G a0 x1 x2 x3 0 o0 c0 m) : Pt_X6_move_0 C G a0 c0 o0 x1 x2 x3 m := by
  obtain ⟨hF, hQ, hR⟩ := id S
  have h0 : zF0 C cX6_move 5 wsX6_move RX6 := hF.1
  have hL := hF.2.2.1
  unfold Pt_X6_move_0
  refine zx_iconst (v := 0) h0 dX6_move_0 (by decide) ?_
  refine zx_istore (L' := [(4, .int 0), (0, .ref a0), (1, .int x1), (2, .int x2), (3, .int x3)]) h0 dX6_move_1 (by decide) rfl ?_
  exact zx_sub [1, 2, 3, 4, 0] rfl h
set_option maxRecDepth 100000 in
set_option maxHeartbeats 4000000 in
theorem sg_X6_move_3 {C : zC} {G : zG} {Qc : Array Value → State → Outcome → State → Prop} (S : St_X6_move C G Qc) {a0 : Nat} {x1 : Int32} {x2 : Int32} {x3 : Int32} {x4 : Int32} {o0 : Nat} {c0 : Nat} {m : zM} (ka0 : zK G a0 = some (c0, o0)) (kc0 : ¬ c0 < 1000) (ky0 : zty c0 = 1) (kf0 : ∀ v, zfitv c0 v)
    (h : (x1 ≤ x4 → (zRet C G Qc none m)) ∧ (¬ x1 ≤ x4 → ((vp_in ((x1 * x2) + x4) (zal c0)) ∧ ((vp_in ((x1 * x3) + x4) (zal c0)) ∧ (Pt_X6_move_3 C G a0 x1 x2 x3 (x4 + 1) o0 c0 (zsI m c0 o0 (((x1 * x3) + x4).toNatClampNeg) (zI m c0 o0 (((x1 * x2) + x4).toNatClampNeg)))))))) : Pt_X6_move_3 C G a0 x1 x2 x3 x4 o0 c0 m := by
  obtain ⟨hF, hQ, hR⟩ := id S
  have h0 : zF0 C cX6_move 5 wsX6_move RX6 := hF.1
  have hL := hF.2.2.1
  unfold Pt_X6_move_3
  refine zx_iload h0 4 dX6_move_3 rfl ?_
  refine zx_iload_n h0 1 dX6_move_5 rfl ?_
  refine zx_icmp_ge (tgt := 31) h0 dX6_move_6 (by decide) (fun q => ?_) (fun q => ?_)
  · replace h := h.1 q
    exact zx_vret hF hQ dX6_move_31 h
  · replace h := h.2 q
    refine zx_aload_n h0 0 dX6_move_9 rfl ?_
    refine zx_iload_n h0 1 dX6_move_10 rfl ?_
    refine zx_iload_n h0 3 dX6_move_11 rfl ?_
    refine zx_imul h0 dX6_move_12 ?_
    refine zx_iload h0 4 dX6_move_13 rfl ?_
    refine zx_iadd h0 dX6_move_15 ?_
    refine zx_aload_n h0 0 dX6_move_16 rfl ?_
    refine zx_iload_n h0 1 dX6_move_17 rfl ?_
    refine zx_iload_n h0 2 dX6_move_18 rfl ?_
    refine zx_imul h0 dX6_move_19 ?_
    refine zx_iload h0 4 dX6_move_20 rfl ?_
    refine zx_iadd h0 dX6_move_22 ?_
    obtain ⟨ho1, h⟩ := h
    refine zx_iald (j := ((x1 * x2) + x4).toNatClampNeg) hF ka0 kc0 ky0 rfl ho1 rfl dX6_move_23 ?_
    obtain ⟨ho2, h⟩ := h
    refine zx_iast (j := ((x1 * x3) + x4).toNatClampNeg) hF ka0 kc0 ky0 rfl ho2 rfl rfl (kf0 _) dX6_move_24 ?_
    refine zx_iinc (v := (x4 + 1)) (L' := [(4, .int (x4 + 1)), (0, .ref a0), (1, .int x1), (2, .int x2), (3, .int x3)]) h0 4 dX6_move_25 rfl rfl (by decide) rfl ?_
    refine zx_goto (tgt := 3) h0 dX6_move_28 (by decide) ?_
    exact zx_sub [1, 2, 3, 4, 0] rfl h

set_option maxRecDepth 100000 in
set_option maxHeartbeats 4000000 in
theorem sg_X6_moveLong_0 {C : zC} {G : zG} {Qc : Array Value → State → Outcome → State → Prop} (S : St_X6_moveLong C G Qc) {a0 : Nat} {c0 : Nat} {o0 : Nat} {x1 : Int32} {x2 : Int32} {x3 : Int32} {m : zM} (ka0 : zK G a0 = some (c0, o0)) (kc0 : ¬ c0 < 1000) (ky0 : zty c0 = 2) (kf0 : ∀ v, zfitv c0 v)
    (h : Pt_X6_moveLong_3 C G a0 x1 x2 x3 0 o0 c0 m) : Pt_X6_moveLong_0 C G a0 c0 o0 x1 x2 x3 m := by
  obtain ⟨hF, hQ, hR⟩ := id S
  have h0 : zF0 C cX6_moveLong 5 wsX6_moveLong RX6 := hF.1
  have hL := hF.2.2.1
  unfold Pt_X6_moveLong_0
  refine zx_iconst (v := 0) h0 dX6_moveLong_0 (by decide) ?_
  refine zx_istore (L' := [(4, .int 0), (0, .ref a0), (1, .int x1), (2, .int x2), (3, .int x3)]) h0 dX6_moveLong_1 (by decide) rfl ?_
  exact zx_sub [1, 2, 3, 4, 0] rfl h
set_option maxRecDepth 100000 in
set_option maxHeartbeats 4000000 in
theorem sg_X6_moveLong_3 {C : zC} {G : zG} {Qc : Array Value → State → Outcome → State → Prop} (S : St_X6_moveLong C G Qc) {a0 : Nat} {x1 : Int32} {x2 : Int32} {x3 : Int32} {x4 : Int32} {o0 : Nat} {c0 : Nat} {m : zM} (ka0 : zK G a0 = some (c0, o0)) (kc0 : ¬ c0 < 1000) (ky0 : zty c0 = 2) (kf0 : ∀ v, zfitv c0 v)
    (h : (x1 ≤ x4 → (zRet C G Qc none m)) ∧ (¬ x1 ≤ x4 → ((vp_in ((x1 * x2) + x4) (zal c0)) ∧ ((vp_in ((x1 * x3) + x4) (zal c0)) ∧ (Pt_X6_moveLong_3 C G a0 x1 x2 x3 (x4 + 1) o0 c0 (zsJ m c0 o0 (((x1 * x3) + x4).toNatClampNeg) (zJ m c0 o0 (((x1 * x2) + x4).toNatClampNeg)))))))) : Pt_X6_moveLong_3 C G a0 x1 x2 x3 x4 o0 c0 m := by
  obtain ⟨hF, hQ, hR⟩ := id S
  have h0 : zF0 C cX6_moveLong 5 wsX6_moveLong RX6 := hF.1
  have hL := hF.2.2.1
  unfold Pt_X6_moveLong_3
  refine zx_iload h0 4 dX6_moveLong_3 rfl ?_
  refine zx_iload_n h0 1 dX6_moveLong_5 rfl ?_
  refine zx_icmp_ge (tgt := 31) h0 dX6_moveLong_6 (by decide) (fun q => ?_) (fun q => ?_)
  · replace h := h.1 q
    exact zx_vret hF hQ dX6_moveLong_31 h
  · replace h := h.2 q
    refine zx_aload_n h0 0 dX6_moveLong_9 rfl ?_
    refine zx_iload_n h0 1 dX6_moveLong_10 rfl ?_
    refine zx_iload_n h0 3 dX6_moveLong_11 rfl ?_
    refine zx_imul h0 dX6_moveLong_12 ?_
    refine zx_iload h0 4 dX6_moveLong_13 rfl ?_
    refine zx_iadd h0 dX6_moveLong_15 ?_
    refine zx_aload_n h0 0 dX6_moveLong_16 rfl ?_
    refine zx_iload_n h0 1 dX6_moveLong_17 rfl ?_
    refine zx_iload_n h0 2 dX6_moveLong_18 rfl ?_
    refine zx_imul h0 dX6_moveLong_19 ?_
    refine zx_iload h0 4 dX6_moveLong_20 rfl ?_
    refine zx_iadd h0 dX6_moveLong_22 ?_
    obtain ⟨ho1, h⟩ := h
    refine zx_lald (j := ((x1 * x2) + x4).toNatClampNeg) hF ka0 kc0 ky0 rfl ho1 rfl dX6_moveLong_23 ?_
    obtain ⟨ho2, h⟩ := h
    refine zx_last (j := ((x1 * x3) + x4).toNatClampNeg) hF ka0 kc0 ky0 rfl ho2 rfl dX6_moveLong_24 ?_
    refine zx_iinc (v := (x4 + 1)) (L' := [(4, .int (x4 + 1)), (0, .ref a0), (1, .int x1), (2, .int x2), (3, .int x3)]) h0 4 dX6_moveLong_25 rfl rfl (by decide) rfl ?_
    refine zx_goto (tgt := 3) h0 dX6_moveLong_28 (by decide) ?_
    exact zx_sub [1, 2, 3, 4, 0] rfl h
theorem zn_X6_copyGrid_64 : Cond.fieldLink RX6 64 RX6 (TX6 18).2.1 (TX6 18).2.2.1 ∈ wsX6_copyGrid := List.mem_of_getElem? (i := 1) rfl
theorem zi_X6_copyGrid_6 : ∀ w ∈ u_ws RX6 TX6 50, w ∈ wsX6_copyGrid := fun _ h => List.mem_cons_of_mem _ (List.mem_append_right _ h)
theorem zn_X6_copyGrid_67 : Cond.fieldLink RX6 67 RX6 (TX6 19).2.1 (TX6 19).2.2.1 ∈ wsX6_copyGrid := List.mem_of_getElem? (i := 2) rfl
theorem zn_X6_copyGrid_70 : Cond.fieldLink RX6 70 RX6 (TX6 20).2.1 (TX6 20).2.2.1 ∈ wsX6_copyGrid := List.mem_of_getElem? (i := 3) rfl
theorem zn_X6_copyGrid_73 : Cond.fieldLink RX6 73 RX6 (TX6 21).2.1 (TX6 21).2.2.1 ∈ wsX6_copyGrid := List.mem_of_getElem? (i := 4) rfl
theorem zn_X6_copyGrid_76 : Cond.fieldLink RX6 76 RX6 (TX6 22).2.1 (TX6 22).2.2.1 ∈ wsX6_copyGrid := List.mem_of_getElem? (i := 5) rfl
theorem zn_X6_copyGrid_79 : Cond.fieldLink RX6 79 RX6 (TX6 23).2.1 (TX6 23).2.2.1 ∈ wsX6_copyGrid := List.mem_of_getElem? (i := 6) rfl
theorem zn_X6_copyGrid_82 : Cond.fieldLink RX6 82 RX6 (TX6 24).2.1 (TX6 24).2.2.1 ∈ wsX6_copyGrid := List.mem_of_getElem? (i := 7) rfl
theorem zc_X6_copyGrid_X6_move {C : zC} {G : zG} {Qc : Array Value → State → Outcome → State → Prop} (S : St_X6_copyGrid C G Qc) : CallB (zRm C) (zs C) (zar C) RX6 133 yX6_move cX6_move 5 none wsX6_move rm_X6_move 0 0 4 ∧ (Cond.static yX6_move).before (zar C) (zs C) = true := cwS 4 S.1.1.2.2.2.2 gX6_copyGrid_X6_move rfl rfl rfl (by decide +kernel) (by rw [S.2.2]; exact ⟨Nat.le_of_ble_eq_true rfl, Nat.le_of_ble_eq_true rfl⟩)
set_option maxRecDepth 100000 in
set_option maxHeartbeats 4000000 in
theorem sg_X6_copyGrid_0 {C : zC} {G : zG} {Qc : Array Value → State → Outcome → State → Prop} (S : St_X6_copyGrid C G Qc) {P_X6_move : Nat → Nat → Nat → Int32 → Int32 → Int32 → zM → Prop} {Q_X6_move : Nat → Nat → Nat → Int32 → Int32 → Int32 → zM → zM → Prop} (c_X6_move : Con_X6_move (zl C) G P_X6_move Q_X6_move) {a0 : Nat} {x1 : Int32} {x2 : Int32} {m : zM} (ka0 : zK G a0 = some (6, a0))
    (h : (vp_in x1 4) ∧ ((vp_in x2 4) ∧ ((P_X6_move (a0 + 19) 1619 a0 16 x1 x2 (zsI m 1618 a0 x2.toNatClampNeg (zI m 1618 a0 x1.toNatClampNeg))) ∧ (∀ (m4 : zM), Q_X6_move (a0 + 19) 1619 a0 16 x1 x2 (zsI m 1618 a0 x2.toNatClampNeg (zI m 1618 a0 x1.toNatClampNeg)) m4 → ((P_X6_move (a0 + 20) 1620 a0 64 x1 x2 m4) ∧ (∀ (m6 : zM), Q_X6_move (a0 + 20) 1620 a0 64 x1 x2 m4 m6 → ((P_X6_move (a0 + 21) 1621 a0 64 x1 x2 m6) ∧ (∀ (m8 : zM), Q_X6_move (a0 + 21) 1621 a0 64 x1 x2 m6 m8 → ((P_X6_move (a0 + 22) 1622 a0 64 x1 x2 m8) ∧ (∀ (m10 : zM), Q_X6_move (a0 + 22) 1622 a0 64 x1 x2 m8 m10 → ((P_X6_move (a0 + 23) 1623 a0 16 x1 x2 m10) ∧ (∀ (m12 : zM), Q_X6_move (a0 + 23) 1623 a0 16 x1 x2 m10 m12 → ((P_X6_move (a0 + 24) 1624 a0 16 x1 x2 m12) ∧ (∀ (m14 : zM), Q_X6_move (a0 + 24) 1624 a0 16 x1 x2 m12 m14 → (zRet C G Qc none m14))))))))))))))) : Pt_X6_copyGrid_0 C G a0 x1 x2 m := by
  obtain ⟨hF, hQ, hR⟩ := id S
  have h0 : zF0 C cX6_copyGrid 3 wsX6_copyGrid RX6 := hF.1
  have hL := hF.2.2.1
  unfold Pt_X6_copyGrid_0
  refine zx_aload_n h0 0 dX6_copyGrid_0 rfl ?_
  refine zx_get hF ka0 (by decide) rfl zi_X6_copyGrid_6 18 (by decide) zn_X6_copyGrid_64 rfl rfl dX6_copyGrid_1 ?_
  refine zx_iload_n h0 2 dX6_copyGrid_4 rfl ?_
  refine zx_aload_n h0 0 dX6_copyGrid_5 rfl ?_
  refine zx_get hF ka0 (by decide) rfl zi_X6_copyGrid_6 18 (by decide) zn_X6_copyGrid_64 rfl rfl dX6_copyGrid_6 ?_
  refine zx_iload_n h0 1 dX6_copyGrid_9 rfl ?_
  obtain ⟨ho1, h⟩ := h
  refine zx_iald (j := x1.toNatClampNeg) hF (zL_6_18 hL ka0) (by decide) rfl rfl ho1 rfl dX6_copyGrid_10 ?_
  obtain ⟨ho2, h⟩ := h
  refine zx_iast (j := x2.toNatClampNeg) hF (zL_6_18 hL ka0) (by decide) rfl rfl ho2 rfl rfl (z_fit rfl) dX6_copyGrid_11 ?_
  refine zx_aload_n h0 0 dX6_copyGrid_12 rfl ?_
  refine zx_get hF ka0 (by decide) rfl zi_X6_copyGrid_6 19 (by decide) zn_X6_copyGrid_67 rfl rfl dX6_copyGrid_13 ?_
  refine zx_bipush (v := 16) h0 dX6_copyGrid_16 (by decide) ?_
  refine zx_iload_n h0 1 dX6_copyGrid_18 rfl ?_
  refine zx_iload_n h0 2 dX6_copyGrid_19 rfl ?_
  obtain ⟨ho3, h⟩ := h
  refine zx_callSv (As := [.ref (a0 + 19), .int 16, .int x1, .int x2]) (rest := []) hF (c_X6_move (a0 + 19) 1619 a0 16 x1 x2 (zsI m 1618 a0 x2.toNatClampNeg (zI m 1618 a0 x1.toNatClampNeg)) (zL_6_19 hL ka0) (by decide) rfl (fun _ => z_fit rfl) ho3) (zc_X6_copyGrid_X6_move S)  dX6_copyGrid_20 rfl rfl (Nat.le_of_ble_eq_true rfl) ⟨Nat.zero_le _, Nat.zero_le _⟩ (fun m4 hq => ?_)
  replace h := h m4 hq
  refine zx_aload_n h0 0 dX6_copyGrid_23 rfl ?_
  refine zx_get hF ka0 (by decide) rfl zi_X6_copyGrid_6 20 (by decide) zn_X6_copyGrid_70 rfl rfl dX6_copyGrid_24 ?_
  refine zx_bipush (v := 64) h0 dX6_copyGrid_27 (by decide) ?_
  refine zx_iload_n h0 1 dX6_copyGrid_29 rfl ?_
  refine zx_iload_n h0 2 dX6_copyGrid_30 rfl ?_
  obtain ⟨ho5, h⟩ := h
  refine zx_callSv (As := [.ref (a0 + 20), .int 64, .int x1, .int x2]) (rest := []) hF (c_X6_move (a0 + 20) 1620 a0 64 x1 x2 m4 (zL_6_20 hL ka0) (by decide) rfl (fun _ => z_fit rfl) ho5) (zc_X6_copyGrid_X6_move S)  dX6_copyGrid_31 rfl rfl (Nat.le_of_ble_eq_true rfl) ⟨Nat.zero_le _, Nat.zero_le _⟩ (fun m6 hq => ?_)
  replace h := h m6 hq
  refine zx_aload_n h0 0 dX6_copyGrid_34 rfl ?_
  refine zx_get hF ka0 (by decide) rfl zi_X6_copyGrid_6 21 (by decide) zn_X6_copyGrid_73 rfl rfl dX6_copyGrid_35 ?_
  refine zx_bipush (v := 64) h0 dX6_copyGrid_38 (by decide) ?_
  refine zx_iload_n h0 1 dX6_copyGrid_40 rfl ?_
  refine zx_iload_n h0 2 dX6_copyGrid_41 rfl ?_
  obtain ⟨ho7, h⟩ := h
  refine zx_callSv (As := [.ref (a0 + 21), .int 64, .int x1, .int x2]) (rest := []) hF (c_X6_move (a0 + 21) 1621 a0 64 x1 x2 m6 (zL_6_21 hL ka0) (by decide) rfl (fun _ => z_fit rfl) ho7) (zc_X6_copyGrid_X6_move S)  dX6_copyGrid_42 rfl rfl (Nat.le_of_ble_eq_true rfl) ⟨Nat.zero_le _, Nat.zero_le _⟩ (fun m8 hq => ?_)
  replace h := h m8 hq
  refine zx_aload_n h0 0 dX6_copyGrid_45 rfl ?_
  refine zx_get hF ka0 (by decide) rfl zi_X6_copyGrid_6 22 (by decide) zn_X6_copyGrid_76 rfl rfl dX6_copyGrid_46 ?_
  refine zx_bipush (v := 64) h0 dX6_copyGrid_49 (by decide) ?_
  refine zx_iload_n h0 1 dX6_copyGrid_51 rfl ?_
  refine zx_iload_n h0 2 dX6_copyGrid_52 rfl ?_
  obtain ⟨ho9, h⟩ := h
  refine zx_callSv (As := [.ref (a0 + 22), .int 64, .int x1, .int x2]) (rest := []) hF (c_X6_move (a0 + 22) 1622 a0 64 x1 x2 m8 (zL_6_22 hL ka0) (by decide) rfl (fun _ => z_fit rfl) ho9) (zc_X6_copyGrid_X6_move S)  dX6_copyGrid_53 rfl rfl (Nat.le_of_ble_eq_true rfl) ⟨Nat.zero_le _, Nat.zero_le _⟩ (fun m10 hq => ?_)
  replace h := h m10 hq
  refine zx_aload_n h0 0 dX6_copyGrid_56 rfl ?_
  refine zx_get hF ka0 (by decide) rfl zi_X6_copyGrid_6 23 (by decide) zn_X6_copyGrid_79 rfl rfl dX6_copyGrid_57 ?_
  refine zx_bipush (v := 16) h0 dX6_copyGrid_60 (by decide) ?_
  refine zx_iload_n h0 1 dX6_copyGrid_62 rfl ?_
  refine zx_iload_n h0 2 dX6_copyGrid_63 rfl ?_
  obtain ⟨ho11, h⟩ := h
  refine zx_callSv (As := [.ref (a0 + 23), .int 16, .int x1, .int x2]) (rest := []) hF (c_X6_move (a0 + 23) 1623 a0 16 x1 x2 m10 (zL_6_23 hL ka0) (by decide) rfl (fun _ => z_fit rfl) ho11) (zc_X6_copyGrid_X6_move S)  dX6_copyGrid_64 rfl rfl (Nat.le_of_ble_eq_true rfl) ⟨Nat.zero_le _, Nat.zero_le _⟩ (fun m12 hq => ?_)
  replace h := h m12 hq
  refine zx_aload_n h0 0 dX6_copyGrid_67 rfl ?_
  refine zx_get hF ka0 (by decide) rfl zi_X6_copyGrid_6 24 (by decide) zn_X6_copyGrid_82 rfl rfl dX6_copyGrid_68 ?_
  refine zx_bipush (v := 16) h0 dX6_copyGrid_71 (by decide) ?_
  refine zx_iload_n h0 1 dX6_copyGrid_73 rfl ?_
  refine zx_iload_n h0 2 dX6_copyGrid_74 rfl ?_
  obtain ⟨ho13, h⟩ := h
  refine zx_callSv (As := [.ref (a0 + 24), .int 16, .int x1, .int x2]) (rest := []) hF (c_X6_move (a0 + 24) 1624 a0 16 x1 x2 m12 (zL_6_24 hL ka0) (by decide) rfl (fun _ => z_fit rfl) ho13) (zc_X6_copyGrid_X6_move S)  dX6_copyGrid_75 rfl rfl (Nat.le_of_ble_eq_true rfl) ⟨Nat.zero_le _, Nat.zero_le _⟩ (fun m14 hq => ?_)
  replace h := h m14 hq
  exact zx_vret hF hQ dX6_copyGrid_78 h
theorem zn_X6_copy_13 : Cond.fieldLink RX6 13 RX6 (TX6 2).2.1 (TX6 2).2.2.1 ∈ wsX6_copy := List.mem_of_getElem? (i := 2) rfl
theorem zi_X6_copy_6 : ∀ w ∈ u_ws RX6 TX6 50, w ∈ wsX6_copy := fun _ h => List.mem_cons_of_mem _ (List.mem_append_right _ h)
theorem zn_X6_copy_17 : Cond.fieldLink RX6 17 RX6 (TX6 3).2.1 (TX6 3).2.2.1 ∈ wsX6_copy := List.mem_of_getElem? (i := 3) rfl
theorem zn_X6_copy_20 : Cond.fieldLink RX6 20 RX6 (TX6 4).2.1 (TX6 4).2.2.1 ∈ wsX6_copy := List.mem_of_getElem? (i := 4) rfl
theorem zn_X6_copy_23 : Cond.fieldLink RX6 23 RX6 (TX6 5).2.1 (TX6 5).2.2.1 ∈ wsX6_copy := List.mem_of_getElem? (i := 5) rfl
theorem zn_X6_copy_27 : Cond.fieldLink RX6 27 RX6 (TX6 6).2.1 (TX6 6).2.2.1 ∈ wsX6_copy := List.mem_of_getElem? (i := 6) rfl
theorem zn_X6_copy_30 : Cond.fieldLink RX6 30 RX6 (TX6 7).2.1 (TX6 7).2.2.1 ∈ wsX6_copy := List.mem_of_getElem? (i := 7) rfl
theorem zn_X6_copy_33 : Cond.fieldLink RX6 33 RX6 (TX6 8).2.1 (TX6 8).2.2.1 ∈ wsX6_copy := List.mem_of_getElem? (i := 8) rfl
theorem zn_X6_copy_37 : Cond.fieldLink RX6 37 RX6 (TX6 9).2.1 (TX6 9).2.2.1 ∈ wsX6_copy := List.mem_of_getElem? (i := 9) rfl
theorem zn_X6_copy_40 : Cond.fieldLink RX6 40 RX6 (TX6 10).2.1 (TX6 10).2.2.1 ∈ wsX6_copy := List.mem_of_getElem? (i := 10) rfl
theorem zn_X6_copy_43 : Cond.fieldLink RX6 43 RX6 (TX6 11).2.1 (TX6 11).2.2.1 ∈ wsX6_copy := List.mem_of_getElem? (i := 11) rfl
theorem zn_X6_copy_46 : Cond.fieldLink RX6 46 RX6 (TX6 12).2.1 (TX6 12).2.2.1 ∈ wsX6_copy := List.mem_of_getElem? (i := 12) rfl
theorem zn_X6_copy_49 : Cond.fieldLink RX6 49 RX6 (TX6 13).2.1 (TX6 13).2.2.1 ∈ wsX6_copy := List.mem_of_getElem? (i := 13) rfl
theorem zn_X6_copy_52 : Cond.fieldLink RX6 52 RX6 (TX6 14).2.1 (TX6 14).2.2.1 ∈ wsX6_copy := List.mem_of_getElem? (i := 14) rfl
theorem zn_X6_copy_55 : Cond.fieldLink RX6 55 RX6 (TX6 15).2.1 (TX6 15).2.2.1 ∈ wsX6_copy := List.mem_of_getElem? (i := 15) rfl
theorem zn_X6_copy_58 : Cond.fieldLink RX6 58 RX6 (TX6 16).2.1 (TX6 16).2.2.1 ∈ wsX6_copy := List.mem_of_getElem? (i := 16) rfl
theorem zn_X6_copy_61 : Cond.fieldLink RX6 61 RX6 (TX6 17).2.1 (TX6 17).2.2.1 ∈ wsX6_copy := List.mem_of_getElem? (i := 17) rfl
theorem zn_X6_copy_64 : Cond.fieldLink RX6 64 RX6 (TX6 18).2.1 (TX6 18).2.2.1 ∈ wsX6_copy := List.mem_of_getElem? (i := 18) rfl
theorem zn_X6_copy_7 : Cond.fieldLink RX6 7 RX6 (TX6 1).2.1 (TX6 1).2.2.1 ∈ wsX6_copy := List.mem_of_getElem? (i := 1) rfl
theorem zc_X6_copy_X6_move {C : zC} {G : zG} {Qc : Array Value → State → Outcome → State → Prop} (S : St_X6_copy C G Qc) : CallB (zRm C) (zs C) (zar C) RX6 133 yX6_move cX6_move 5 none wsX6_move rm_X6_move 0 0 4 ∧ (Cond.static yX6_move).before (zar C) (zs C) = true := cwS 4 S.1.1.2.2.2.2 gX6_copy_X6_move rfl rfl rfl (by decide +kernel) (by rw [S.2.2]; exact ⟨Nat.le_of_ble_eq_true rfl, Nat.le_of_ble_eq_true rfl⟩)
theorem zc_X6_copy_X6_moveLong {C : zC} {G : zG} {Qc : Array Value → State → Outcome → State → Prop} (S : St_X6_copy C G Qc) : CallB (zRm C) (zs C) (zar C) RX6 137 yX6_moveLong cX6_moveLong 5 none wsX6_moveLong rm_X6_moveLong 0 0 4 ∧ (Cond.static yX6_moveLong).before (zar C) (zs C) = true := cwS 4 S.1.1.2.2.2.2 gX6_copy_X6_moveLong rfl rfl rfl (by decide +kernel) (by rw [S.2.2]; exact ⟨Nat.le_of_ble_eq_true rfl, Nat.le_of_ble_eq_true rfl⟩)
theorem zc_X6_copy_X6_copyGrid {C : zC} {G : zG} {Qc : Array Value → State → Outcome → State → Prop} (S : St_X6_copy C G Qc) : CallW (zRm C) (zs C) (zar C) RX6 RX6 141 yX6_copyGrid cX6_copyGrid 3 none wsX6_copyGrid rm_X6_copyGrid 0 0 2 := cwV 2 S.1.1.2.2.2.2 gX6_copy_X6_copyGrid rfl rfl rfl (by decide +kernel) (by rw [S.2.2]; exact ⟨Nat.le_of_ble_eq_true rfl, Nat.le_of_ble_eq_true rfl⟩)
set_option maxRecDepth 100000 in
set_option maxHeartbeats 4000000 in
theorem sg_X6_copy_0 {C : zC} {G : zG} {Qc : Array Value → State → Outcome → State → Prop} (S : St_X6_copy C G Qc) {a0 : Nat} {x1 : Int32} {x2 : Int32} {m : zM} (ka0 : zK G a0 = some (6, a0))
    (h : Pt_X6_copy_2 C G a0 x1 x2 0 m) : Pt_X6_copy_0 C G a0 x1 x2 m := by
  obtain ⟨hF, hQ, hR⟩ := id S
  have h0 : zF0 C cX6_copy 4 wsX6_copy RX6 := hF.1
  have hL := hF.2.2.1
  unfold Pt_X6_copy_0
  refine zx_iconst (v := 0) h0 dX6_copy_0 (by decide) ?_
  refine zx_istore_n (L' := [(3, .int 0), (0, .ref a0), (1, .int x1), (2, .int x2)]) h0 dX6_copy_1 (by decide) rfl ?_
  exact zx_sub [1, 2, 3, 0] rfl h
set_option maxRecDepth 100000 in
set_option maxHeartbeats 4000000 in
theorem sg_X6_copy_2 {C : zC} {G : zG} {Qc : Array Value → State → Outcome → State → Prop} (S : St_X6_copy C G Qc) {P_X6_move : Nat → Nat → Nat → Int32 → Int32 → Int32 → zM → Prop} {Q_X6_move : Nat → Nat → Nat → Int32 → Int32 → Int32 → zM → zM → Prop} (c_X6_move : Con_X6_move (zl C) G P_X6_move Q_X6_move) {P_X6_moveLong : Nat → Nat → Nat → Int32 → Int32 → Int32 → zM → Prop} {Q_X6_moveLong : Nat → Nat → Nat → Int32 → Int32 → Int32 → zM → zM → Prop} (c_X6_moveLong : Con_X6_moveLong (zl C) G P_X6_moveLong Q_X6_moveLong) {P_X6_copyGrid : Nat → Int32 → Int32 → zM → Prop} {Q_X6_copyGrid : Nat → Int32 → Int32 → zM → zM → Prop} (c_X6_copyGrid : Con_X6_copyGrid (zl C) G P_X6_copyGrid Q_X6_copyGrid) {a0 : Nat} {x1 : Int32} {x2 : Int32} {x3 : Int32} {m : zM} (ka0 : zK G a0 = some (6, a0))
    (h : (400 ≤ x3 → ((P_X6_move (a0 + 2) 1602 a0 1 x1 x2 m) ∧ (∀ (m2 : zM), Q_X6_move (a0 + 2) 1602 a0 1 x1 x2 m m2 → ((P_X6_move (a0 + 3) 1603 a0 1 x1 x2 m2) ∧ (∀ (m4 : zM), Q_X6_move (a0 + 3) 1603 a0 1 x1 x2 m2 m4 → ((P_X6_move (a0 + 4) 1604 a0 1 x1 x2 m4) ∧ (∀ (m6 : zM), Q_X6_move (a0 + 4) 1604 a0 1 x1 x2 m4 m6 → ((P_X6_moveLong (a0 + 5) 1605 a0 1 x1 x2 m6) ∧ (∀ (m8 : zM), Q_X6_moveLong (a0 + 5) 1605 a0 1 x1 x2 m6 m8 → ((P_X6_move (a0 + 6) 1606 a0 1 x1 x2 m8) ∧ (∀ (m10 : zM), Q_X6_move (a0 + 6) 1606 a0 1 x1 x2 m8 m10 → ((P_X6_move (a0 + 7) 1607 a0 1 x1 x2 m10) ∧ (∀ (m12 : zM), Q_X6_move (a0 + 7) 1607 a0 1 x1 x2 m10 m12 → ((vp_in x1 4) ∧ ((vp_in x2 4) ∧ (((zI m12 1608 a0 x1.toNatClampNeg) = 0 ∨ (zI m12 1608 a0 x1.toNatClampNeg) = 1) ∧ ((P_X6_move (a0 + 9) 1609 a0 160 x1 x2 (zsI m12 1608 a0 x2.toNatClampNeg (zI m12 1608 a0 x1.toNatClampNeg))) ∧ (∀ (m17 : zM), Q_X6_move (a0 + 9) 1609 a0 160 x1 x2 (zsI m12 1608 a0 x2.toNatClampNeg (zI m12 1608 a0 x1.toNatClampNeg)) m17 → ((P_X6_moveLong (a0 + 10) 1610 a0 16 x1 x2 m17) ∧ (∀ (m19 : zM), Q_X6_moveLong (a0 + 10) 1610 a0 16 x1 x2 m17 m19 → ((P_X6_moveLong (a0 + 11) 1611 a0 16 x1 x2 m19) ∧ (∀ (m21 : zM), Q_X6_moveLong (a0 + 11) 1611 a0 16 x1 x2 m19 m21 → ((P_X6_moveLong (a0 + 12) 1612 a0 16 x1 x2 m21) ∧ (∀ (m23 : zM), Q_X6_moveLong (a0 + 12) 1612 a0 16 x1 x2 m21 m23 → ((P_X6_move (a0 + 13) 1613 a0 64 x1 x2 m23) ∧ (∀ (m25 : zM), Q_X6_move (a0 + 13) 1613 a0 64 x1 x2 m23 m25 → ((P_X6_moveLong (a0 + 14) 1614 a0 64 x1 x2 m25) ∧ (∀ (m27 : zM), Q_X6_moveLong (a0 + 14) 1614 a0 64 x1 x2 m25 m27 → ((P_X6_moveLong (a0 + 15) 1615 a0 64 x1 x2 m27) ∧ (∀ (m29 : zM), Q_X6_moveLong (a0 + 15) 1615 a0 64 x1 x2 m27 m29 → ((P_X6_move (a0 + 16) 1616 a0 64 x1 x2 m29) ∧ (∀ (m31 : zM), Q_X6_move (a0 + 16) 1616 a0 64 x1 x2 m29 m31 → ((P_X6_moveLong (a0 + 17) 1617 a0 64 x1 x2 m31) ∧ (∀ (m33 : zM), Q_X6_moveLong (a0 + 17) 1617 a0 64 x1 x2 m31 m33 → ((P_X6_move (a0 + 18) 1618 a0 1 x1 x2 m33) ∧ (∀ (m35 : zM), Q_X6_move (a0 + 18) 1618 a0 1 x1 x2 m33 m35 → ((P_X6_copyGrid a0 x1 x2 m35) ∧ (∀ (m37 : zM), Q_X6_copyGrid a0 x1 x2 m35 m37 → (zRet C G Qc none m37))))))))))))))))))))))))))))))))))))))) ∧ (¬ 400 ≤ x3 → ((vp_in ((400 * x1) + x3) 1600) ∧ ((vp_in ((400 * x2) + x3) 1600) ∧ (Pt_X6_copy_2 C G a0 x1 x2 (x3 + 1) (zsI m 1601 a0 (((400 * x2) + x3).toNatClampNeg) (z8 (zI m 1601 a0 (((400 * x1) + x3).toNatClampNeg))))))))) : Pt_X6_copy_2 C G a0 x1 x2 x3 m := by
  obtain ⟨hF, hQ, hR⟩ := id S
  have h0 : zF0 C cX6_copy 4 wsX6_copy RX6 := hF.1
  have hL := hF.2.2.1
  unfold Pt_X6_copy_2
  refine zx_iload_n h0 3 dX6_copy_2 rfl ?_
  refine zx_sipush (v := 400) h0 dX6_copy_3 (by decide) ?_
  refine zx_icmp_ge (tgt := 39) h0 dX6_copy_6 (by decide) (fun q => ?_) (fun q => ?_)
  · replace h := h.1 q
    refine zx_aload_n h0 0 dX6_copy_39 rfl ?_
    refine zx_get hF ka0 (by decide) rfl zi_X6_copy_6 2 (by decide) zn_X6_copy_13 rfl rfl dX6_copy_40 ?_
    refine zx_iconst (v := 1) h0 dX6_copy_43 (by decide) ?_
    refine zx_iload_n h0 1 dX6_copy_44 rfl ?_
    refine zx_iload_n h0 2 dX6_copy_45 rfl ?_
    obtain ⟨ho1, h⟩ := h
    refine zx_callSv (As := [.ref (a0 + 2), .int 1, .int x1, .int x2]) (rest := []) hF (c_X6_move (a0 + 2) 1602 a0 1 x1 x2 m (zL_6_2 hL ka0) (by decide) rfl (fun _ => z_fit rfl) ho1) (zc_X6_copy_X6_move S)  dX6_copy_46 rfl rfl (Nat.le_of_ble_eq_true rfl) ⟨Nat.zero_le _, Nat.zero_le _⟩ (fun m2 hq => ?_)
    replace h := h m2 hq
    refine zx_aload_n h0 0 dX6_copy_49 rfl ?_
    refine zx_get hF ka0 (by decide) rfl zi_X6_copy_6 3 (by decide) zn_X6_copy_17 rfl rfl dX6_copy_50 ?_
    refine zx_iconst (v := 1) h0 dX6_copy_53 (by decide) ?_
    refine zx_iload_n h0 1 dX6_copy_54 rfl ?_
    refine zx_iload_n h0 2 dX6_copy_55 rfl ?_
    obtain ⟨ho3, h⟩ := h
    refine zx_callSv (As := [.ref (a0 + 3), .int 1, .int x1, .int x2]) (rest := []) hF (c_X6_move (a0 + 3) 1603 a0 1 x1 x2 m2 (zL_6_3 hL ka0) (by decide) rfl (fun _ => z_fit rfl) ho3) (zc_X6_copy_X6_move S)  dX6_copy_56 rfl rfl (Nat.le_of_ble_eq_true rfl) ⟨Nat.zero_le _, Nat.zero_le _⟩ (fun m4 hq => ?_)
    replace h := h m4 hq
    refine zx_aload_n h0 0 dX6_copy_59 rfl ?_
    refine zx_get hF ka0 (by decide) rfl zi_X6_copy_6 4 (by decide) zn_X6_copy_20 rfl rfl dX6_copy_60 ?_
    refine zx_iconst (v := 1) h0 dX6_copy_63 (by decide) ?_
    refine zx_iload_n h0 1 dX6_copy_64 rfl ?_
    refine zx_iload_n h0 2 dX6_copy_65 rfl ?_
    obtain ⟨ho5, h⟩ := h
    refine zx_callSv (As := [.ref (a0 + 4), .int 1, .int x1, .int x2]) (rest := []) hF (c_X6_move (a0 + 4) 1604 a0 1 x1 x2 m4 (zL_6_4 hL ka0) (by decide) rfl (fun _ => z_fit rfl) ho5) (zc_X6_copy_X6_move S)  dX6_copy_66 rfl rfl (Nat.le_of_ble_eq_true rfl) ⟨Nat.zero_le _, Nat.zero_le _⟩ (fun m6 hq => ?_)
    replace h := h m6 hq
    refine zx_aload_n h0 0 dX6_copy_69 rfl ?_
    refine zx_get hF ka0 (by decide) rfl zi_X6_copy_6 5 (by decide) zn_X6_copy_23 rfl rfl dX6_copy_70 ?_
    refine zx_iconst (v := 1) h0 dX6_copy_73 (by decide) ?_
    refine zx_iload_n h0 1 dX6_copy_74 rfl ?_
    refine zx_iload_n h0 2 dX6_copy_75 rfl ?_
    obtain ⟨ho7, h⟩ := h
    refine zx_callSv (As := [.ref (a0 + 5), .int 1, .int x1, .int x2]) (rest := []) hF (c_X6_moveLong (a0 + 5) 1605 a0 1 x1 x2 m6 (zL_6_5 hL ka0) (by decide) rfl (fun _ => z_fit rfl) ho7) (zc_X6_copy_X6_moveLong S)  dX6_copy_76 rfl rfl (Nat.le_of_ble_eq_true rfl) ⟨Nat.zero_le _, Nat.zero_le _⟩ (fun m8 hq => ?_)
    replace h := h m8 hq
    refine zx_aload_n h0 0 dX6_copy_79 rfl ?_
    refine zx_get hF ka0 (by decide) rfl zi_X6_copy_6 6 (by decide) zn_X6_copy_27 rfl rfl dX6_copy_80 ?_
    refine zx_iconst (v := 1) h0 dX6_copy_83 (by decide) ?_
    refine zx_iload_n h0 1 dX6_copy_84 rfl ?_
    refine zx_iload_n h0 2 dX6_copy_85 rfl ?_
    obtain ⟨ho9, h⟩ := h
    refine zx_callSv (As := [.ref (a0 + 6), .int 1, .int x1, .int x2]) (rest := []) hF (c_X6_move (a0 + 6) 1606 a0 1 x1 x2 m8 (zL_6_6 hL ka0) (by decide) rfl (fun _ => z_fit rfl) ho9) (zc_X6_copy_X6_move S)  dX6_copy_86 rfl rfl (Nat.le_of_ble_eq_true rfl) ⟨Nat.zero_le _, Nat.zero_le _⟩ (fun m10 hq => ?_)
    replace h := h m10 hq
    refine zx_aload_n h0 0 dX6_copy_89 rfl ?_
    refine zx_get hF ka0 (by decide) rfl zi_X6_copy_6 7 (by decide) zn_X6_copy_30 rfl rfl dX6_copy_90 ?_
    refine zx_iconst (v := 1) h0 dX6_copy_93 (by decide) ?_
    refine zx_iload_n h0 1 dX6_copy_94 rfl ?_
    refine zx_iload_n h0 2 dX6_copy_95 rfl ?_
    obtain ⟨ho11, h⟩ := h
    refine zx_callSv (As := [.ref (a0 + 7), .int 1, .int x1, .int x2]) (rest := []) hF (c_X6_move (a0 + 7) 1607 a0 1 x1 x2 m10 (zL_6_7 hL ka0) (by decide) rfl (fun _ => z_fit rfl) ho11) (zc_X6_copy_X6_move S)  dX6_copy_96 rfl rfl (Nat.le_of_ble_eq_true rfl) ⟨Nat.zero_le _, Nat.zero_le _⟩ (fun m12 hq => ?_)
    replace h := h m12 hq
    refine zx_aload_n h0 0 dX6_copy_99 rfl ?_
    refine zx_get hF ka0 (by decide) rfl zi_X6_copy_6 8 (by decide) zn_X6_copy_33 rfl rfl dX6_copy_100 ?_
    refine zx_iload_n h0 2 dX6_copy_103 rfl ?_
    refine zx_aload_n h0 0 dX6_copy_104 rfl ?_
    refine zx_get hF ka0 (by decide) rfl zi_X6_copy_6 8 (by decide) zn_X6_copy_33 rfl rfl dX6_copy_105 ?_
    refine zx_iload_n h0 1 dX6_copy_108 rfl ?_
    obtain ⟨ho13, h⟩ := h
    refine zx_zald (j := x1.toNatClampNeg) hF (zL_6_8 hL ka0) (by decide) rfl rfl ho13 rfl dX6_copy_109 ?_
    obtain ⟨ho14, h⟩ := h
    obtain ⟨ho15, h⟩ := h
    refine zx_zast (j := x2.toNatClampNeg) (xv := (zI m12 1608 a0 x1.toNatClampNeg)) hF (zL_6_8 hL ka0) (by decide) rfl rfl ho14 rfl (z_nz ho15) (z_fitz (by decide) ho15) dX6_copy_110 ?_
    refine zx_aload_n h0 0 dX6_copy_111 rfl ?_
    refine zx_get hF ka0 (by decide) rfl zi_X6_copy_6 9 (by decide) zn_X6_copy_37 rfl rfl dX6_copy_112 ?_
    refine zx_sipush (v := 160) h0 dX6_copy_115 (by decide) ?_
    refine zx_iload_n h0 1 dX6_copy_118 rfl ?_
    refine zx_iload_n h0 2 dX6_copy_119 rfl ?_
    obtain ⟨ho16, h⟩ := h
    refine zx_callSv (As := [.ref (a0 + 9), .int 160, .int x1, .int x2]) (rest := []) hF (c_X6_move (a0 + 9) 1609 a0 160 x1 x2 (zsI m12 1608 a0 x2.toNatClampNeg (zI m12 1608 a0 x1.toNatClampNeg)) (zL_6_9 hL ka0) (by decide) rfl (fun _ => z_fit rfl) ho16) (zc_X6_copy_X6_move S)  dX6_copy_120 rfl rfl (Nat.le_of_ble_eq_true rfl) ⟨Nat.zero_le _, Nat.zero_le _⟩ (fun m17 hq => ?_)
    replace h := h m17 hq
    refine zx_aload_n h0 0 dX6_copy_123 rfl ?_
    refine zx_get hF ka0 (by decide) rfl zi_X6_copy_6 10 (by decide) zn_X6_copy_40 rfl rfl dX6_copy_124 ?_
    refine zx_bipush (v := 16) h0 dX6_copy_127 (by decide) ?_
    refine zx_iload_n h0 1 dX6_copy_129 rfl ?_
    refine zx_iload_n h0 2 dX6_copy_130 rfl ?_
    obtain ⟨ho18, h⟩ := h
    refine zx_callSv (As := [.ref (a0 + 10), .int 16, .int x1, .int x2]) (rest := []) hF (c_X6_moveLong (a0 + 10) 1610 a0 16 x1 x2 m17 (zL_6_10 hL ka0) (by decide) rfl (fun _ => z_fit rfl) ho18) (zc_X6_copy_X6_moveLong S)  dX6_copy_131 rfl rfl (Nat.le_of_ble_eq_true rfl) ⟨Nat.zero_le _, Nat.zero_le _⟩ (fun m19 hq => ?_)
    replace h := h m19 hq
    refine zx_aload_n h0 0 dX6_copy_134 rfl ?_
    refine zx_get hF ka0 (by decide) rfl zi_X6_copy_6 11 (by decide) zn_X6_copy_43 rfl rfl dX6_copy_135 ?_
    refine zx_bipush (v := 16) h0 dX6_copy_138 (by decide) ?_
    refine zx_iload_n h0 1 dX6_copy_140 rfl ?_
    refine zx_iload_n h0 2 dX6_copy_141 rfl ?_
    obtain ⟨ho20, h⟩ := h
    refine zx_callSv (As := [.ref (a0 + 11), .int 16, .int x1, .int x2]) (rest := []) hF (c_X6_moveLong (a0 + 11) 1611 a0 16 x1 x2 m19 (zL_6_11 hL ka0) (by decide) rfl (fun _ => z_fit rfl) ho20) (zc_X6_copy_X6_moveLong S)  dX6_copy_142 rfl rfl (Nat.le_of_ble_eq_true rfl) ⟨Nat.zero_le _, Nat.zero_le _⟩ (fun m21 hq => ?_)
    replace h := h m21 hq
    refine zx_aload_n h0 0 dX6_copy_145 rfl ?_
    refine zx_get hF ka0 (by decide) rfl zi_X6_copy_6 12 (by decide) zn_X6_copy_46 rfl rfl dX6_copy_146 ?_
    refine zx_bipush (v := 16) h0 dX6_copy_149 (by decide) ?_
    refine zx_iload_n h0 1 dX6_copy_151 rfl ?_
    refine zx_iload_n h0 2 dX6_copy_152 rfl ?_
    obtain ⟨ho22, h⟩ := h
    refine zx_callSv (As := [.ref (a0 + 12), .int 16, .int x1, .int x2]) (rest := []) hF (c_X6_moveLong (a0 + 12) 1612 a0 16 x1 x2 m21 (zL_6_12 hL ka0) (by decide) rfl (fun _ => z_fit rfl) ho22) (zc_X6_copy_X6_moveLong S)  dX6_copy_153 rfl rfl (Nat.le_of_ble_eq_true rfl) ⟨Nat.zero_le _, Nat.zero_le _⟩ (fun m23 hq => ?_)
    replace h := h m23 hq
    refine zx_aload_n h0 0 dX6_copy_156 rfl ?_
    refine zx_get hF ka0 (by decide) rfl zi_X6_copy_6 13 (by decide) zn_X6_copy_49 rfl rfl dX6_copy_157 ?_
    refine zx_bipush (v := 64) h0 dX6_copy_160 (by decide) ?_
    refine zx_iload_n h0 1 dX6_copy_162 rfl ?_
    refine zx_iload_n h0 2 dX6_copy_163 rfl ?_
    obtain ⟨ho24, h⟩ := h
    refine zx_callSv (As := [.ref (a0 + 13), .int 64, .int x1, .int x2]) (rest := []) hF (c_X6_move (a0 + 13) 1613 a0 64 x1 x2 m23 (zL_6_13 hL ka0) (by decide) rfl (fun _ => z_fit rfl) ho24) (zc_X6_copy_X6_move S)  dX6_copy_164 rfl rfl (Nat.le_of_ble_eq_true rfl) ⟨Nat.zero_le _, Nat.zero_le _⟩ (fun m25 hq => ?_)
    replace h := h m25 hq
    refine zx_aload_n h0 0 dX6_copy_167 rfl ?_
    refine zx_get hF ka0 (by decide) rfl zi_X6_copy_6 14 (by decide) zn_X6_copy_52 rfl rfl dX6_copy_168 ?_
    refine zx_bipush (v := 64) h0 dX6_copy_171 (by decide) ?_
    refine zx_iload_n h0 1 dX6_copy_173 rfl ?_
    refine zx_iload_n h0 2 dX6_copy_174 rfl ?_
    obtain ⟨ho26, h⟩ := h
    refine zx_callSv (As := [.ref (a0 + 14), .int 64, .int x1, .int x2]) (rest := []) hF (c_X6_moveLong (a0 + 14) 1614 a0 64 x1 x2 m25 (zL_6_14 hL ka0) (by decide) rfl (fun _ => z_fit rfl) ho26) (zc_X6_copy_X6_moveLong S)  dX6_copy_175 rfl rfl (Nat.le_of_ble_eq_true rfl) ⟨Nat.zero_le _, Nat.zero_le _⟩ (fun m27 hq => ?_)
    replace h := h m27 hq
    refine zx_aload_n h0 0 dX6_copy_178 rfl ?_
    refine zx_get hF ka0 (by decide) rfl zi_X6_copy_6 15 (by decide) zn_X6_copy_55 rfl rfl dX6_copy_179 ?_
    refine zx_bipush (v := 64) h0 dX6_copy_182 (by decide) ?_
    refine zx_iload_n h0 1 dX6_copy_184 rfl ?_
    refine zx_iload_n h0 2 dX6_copy_185 rfl ?_
    obtain ⟨ho28, h⟩ := h
    refine zx_callSv (As := [.ref (a0 + 15), .int 64, .int x1, .int x2]) (rest := []) hF (c_X6_moveLong (a0 + 15) 1615 a0 64 x1 x2 m27 (zL_6_15 hL ka0) (by decide) rfl (fun _ => z_fit rfl) ho28) (zc_X6_copy_X6_moveLong S)  dX6_copy_186 rfl rfl (Nat.le_of_ble_eq_true rfl) ⟨Nat.zero_le _, Nat.zero_le _⟩ (fun m29 hq => ?_)
    replace h := h m29 hq
    refine zx_aload_n h0 0 dX6_copy_189 rfl ?_
    refine zx_get hF ka0 (by decide) rfl zi_X6_copy_6 16 (by decide) zn_X6_copy_58 rfl rfl dX6_copy_190 ?_
    refine zx_bipush (v := 64) h0 dX6_copy_193 (by decide) ?_
    refine zx_iload_n h0 1 dX6_copy_195 rfl ?_
    refine zx_iload_n h0 2 dX6_copy_196 rfl ?_
    obtain ⟨ho30, h⟩ := h
    refine zx_callSv (As := [.ref (a0 + 16), .int 64, .int x1, .int x2]) (rest := []) hF (c_X6_move (a0 + 16) 1616 a0 64 x1 x2 m29 (zL_6_16 hL ka0) (by decide) rfl (fun _ => z_fit rfl) ho30) (zc_X6_copy_X6_move S)  dX6_copy_197 rfl rfl (Nat.le_of_ble_eq_true rfl) ⟨Nat.zero_le _, Nat.zero_le _⟩ (fun m31 hq => ?_)
    replace h := h m31 hq
    refine zx_aload_n h0 0 dX6_copy_200 rfl ?_
    refine zx_get hF ka0 (by decide) rfl zi_X6_copy_6 17 (by decide) zn_X6_copy_61 rfl rfl dX6_copy_201 ?_
    refine zx_bipush (v := 64) h0 dX6_copy_204 (by decide) ?_
    refine zx_iload_n h0 1 dX6_copy_206 rfl ?_
    refine zx_iload_n h0 2 dX6_copy_207 rfl ?_
    obtain ⟨ho32, h⟩ := h
    refine zx_callSv (As := [.ref (a0 + 17), .int 64, .int x1, .int x2]) (rest := []) hF (c_X6_moveLong (a0 + 17) 1617 a0 64 x1 x2 m31 (zL_6_17 hL ka0) (by decide) rfl (fun _ => z_fit rfl) ho32) (zc_X6_copy_X6_moveLong S)  dX6_copy_208 rfl rfl (Nat.le_of_ble_eq_true rfl) ⟨Nat.zero_le _, Nat.zero_le _⟩ (fun m33 hq => ?_)
    replace h := h m33 hq
    refine zx_aload_n h0 0 dX6_copy_211 rfl ?_
    refine zx_get hF ka0 (by decide) rfl zi_X6_copy_6 18 (by decide) zn_X6_copy_64 rfl rfl dX6_copy_212 ?_
    refine zx_iconst (v := 1) h0 dX6_copy_215 (by decide) ?_
    refine zx_iload_n h0 1 dX6_copy_216 rfl ?_
    refine zx_iload_n h0 2 dX6_copy_217 rfl ?_
    obtain ⟨ho34, h⟩ := h
    refine zx_callSv (As := [.ref (a0 + 18), .int 1, .int x1, .int x2]) (rest := []) hF (c_X6_move (a0 + 18) 1618 a0 1 x1 x2 m33 (zL_6_18 hL ka0) (by decide) rfl (fun _ => z_fit rfl) ho34) (zc_X6_copy_X6_move S)  dX6_copy_218 rfl rfl (Nat.le_of_ble_eq_true rfl) ⟨Nat.zero_le _, Nat.zero_le _⟩ (fun m35 hq => ?_)
    replace h := h m35 hq
    refine zx_aload_n h0 0 dX6_copy_221 rfl ?_
    refine zx_iload_n h0 1 dX6_copy_222 rfl ?_
    refine zx_iload_n h0 2 dX6_copy_223 rfl ?_
    obtain ⟨ho36, h⟩ := h
    refine zx_callVv (As := [.int x1, .int x2]) (rest := []) hF (c_X6_copyGrid a0 x1 x2 m35 ka0 ho36) (zc_X6_copy_X6_copyGrid S) ka0 (by decide) rfl dX6_copy_224 rfl rfl (Nat.le_of_ble_eq_true rfl) ⟨Nat.zero_le _, Nat.zero_le _⟩ (fun m37 hq => ?_)
    replace h := h m37 hq
    exact zx_vret hF hQ dX6_copy_227 h
  · replace h := h.2 q
    refine zx_aload_n h0 0 dX6_copy_9 rfl ?_
    refine zx_get hF ka0 (by decide) rfl zi_X6_copy_6 1 (by decide) zn_X6_copy_7 rfl rfl dX6_copy_10 ?_
    refine zx_sipush (v := 400) h0 dX6_copy_13 (by decide) ?_
    refine zx_iload_n h0 2 dX6_copy_16 rfl ?_
    refine zx_imul h0 dX6_copy_17 ?_
    refine zx_iload_n h0 3 dX6_copy_18 rfl ?_
    refine zx_iadd h0 dX6_copy_19 ?_
    refine zx_aload_n h0 0 dX6_copy_20 rfl ?_
    refine zx_get hF ka0 (by decide) rfl zi_X6_copy_6 1 (by decide) zn_X6_copy_7 rfl rfl dX6_copy_21 ?_
    refine zx_sipush (v := 400) h0 dX6_copy_24 (by decide) ?_
    refine zx_iload_n h0 1 dX6_copy_27 rfl ?_
    refine zx_imul h0 dX6_copy_28 ?_
    refine zx_iload_n h0 3 dX6_copy_29 rfl ?_
    refine zx_iadd h0 dX6_copy_30 ?_
    obtain ⟨ho38, h⟩ := h
    refine zx_bald (j := ((400 * x1) + x3).toNatClampNeg) hF (zL_6_1 hL ka0) (by decide) rfl rfl ho38 rfl dX6_copy_31 ?_
    obtain ⟨ho39, h⟩ := h
    refine zx_bast (j := ((400 * x2) + x3).toNatClampNeg) (xv := (z8 (zI m 1601 a0 (((400 * x1) + x3).toNatClampNeg)))) hF (zL_6_1 hL ka0) (by decide) rfl rfl ho39 rfl rfl z_fit1601 dX6_copy_32 ?_
    refine zx_iinc (v := (x3 + 1)) (L' := [(3, .int (x3 + 1)), (0, .ref a0), (1, .int x1), (2, .int x2)]) h0 3 dX6_copy_33 rfl rfl (by decide) rfl ?_
    refine zx_goto (tgt := 2) h0 dX6_copy_36 (by decide) ?_
    exact zx_sub [1, 2, 3, 0] rfl h
theorem zn_X6_isClaim_27 : Cond.fieldLink RX6 27 RX6 (TX6 6).2.1 (TX6 6).2.2.1 ∈ wsX6_isClaim := List.mem_of_getElem? (i := 1) rfl
theorem zi_X6_isClaim_6 : ∀ w ∈ u_ws RX6 TX6 50, w ∈ wsX6_isClaim := fun _ h => List.mem_cons_of_mem _ (List.mem_append_right _ h)
theorem zc_X6_isClaim_X6_in {C : zC} {G : zG} {Qc : Array Value → State → Outcome → State → Prop} (S : St_X6_isClaim C G Qc) : CallB (zRm C) (zs C) (zar C) RX6 145 yX6_in cX6_in 3 (some .boolean) wsX6_in rm_X6_in 0 0 3 ∧ (Cond.static yX6_in).before (zar C) (zs C) = true := cwS 3 S.1.1.2.2.2.2 gX6_isClaim_X6_in rfl rfl rfl (by decide +kernel) (by rw [S.2.2]; exact ⟨Nat.le_of_ble_eq_true rfl, Nat.le_of_ble_eq_true rfl⟩)
set_option maxRecDepth 100000 in
set_option maxHeartbeats 4000000 in
theorem sg_X6_isClaim_0 {C : zC} {G : zG} {Qc : Array Value → State → Outcome → State → Prop} (S : St_X6_isClaim C G Qc) {P_X6_in : Int32 → Int32 → Int32 → zM → Prop} {Q_X6_in : Int32 → Int32 → Int32 → zM → Int32 → Prop} (c_X6_in : Con_X6_in (zl C) G P_X6_in Q_X6_in) {a0 : Nat} {x1 : Int32} {m : zM} (ka0 : zK G a0 = some (6, a0))
    (h : (P_X6_in x1 0 ((zI m 1606 a0 0) - 1) m) ∧ (∀ (r2 : Int32), Q_X6_in x1 0 ((zI m 1606 a0 0) - 1) m r2 → ((r2 = 0 ∨ r2 = 1) ∧ (zRet C G Qc (some (.int r2)) m)))) : Pt_X6_isClaim_0 C G a0 x1 m := by
  obtain ⟨hF, hQ, hR⟩ := id S
  have h0 : zF0 C cX6_isClaim 2 wsX6_isClaim RX6 := hF.1
  have hL := hF.2.2.1
  unfold Pt_X6_isClaim_0
  refine zx_iload_n h0 1 dX6_isClaim_0 rfl ?_
  refine zx_iconst (v := 0) h0 dX6_isClaim_1 (by decide) ?_
  refine zx_aload_n h0 0 dX6_isClaim_2 rfl ?_
  refine zx_get hF ka0 (by decide) rfl zi_X6_isClaim_6 6 (by decide) zn_X6_isClaim_27 rfl rfl dX6_isClaim_3 ?_
  refine zx_iconst (v := 0) h0 dX6_isClaim_6 (by decide) ?_
  refine zx_iald (j := 0) hF (zL_6_6 hL ka0) (by decide) rfl rfl (by unfold vp_in; decide) (by decide) dX6_isClaim_7 ?_
  refine zx_iconst (v := 1) h0 dX6_isClaim_8 (by decide) ?_
  refine zx_isub h0 dX6_isClaim_9 ?_
  obtain ⟨ho1, h⟩ := h
  refine zx_callSi (As := [.int x1, .int 0, .int ((zI m 1606 a0 0) - 1)]) (rest := []) hF (c_X6_in x1 0 ((zI m 1606 a0 0) - 1) m  ho1) (zc_X6_isClaim_X6_in S)  dX6_isClaim_10 rfl rfl (Nat.le_of_ble_eq_true rfl) ⟨Nat.zero_le _, Nat.zero_le _⟩ (fun r2 m2 hq => ?_)
  obtain ⟨hme, hq⟩ := hq
  subst m2
  replace h := h r2 hq
  obtain ⟨ho3, h⟩ := h
  exact zx_zret hF hQ (z_nb ho3) dX6_isClaim_13 h
theorem zn_X6_of_37 : Cond.fieldLink RX6 37 RX6 (TX6 9).2.1 (TX6 9).2.2.1 ∈ wsX6_of := List.mem_of_getElem? (i := 1) rfl
theorem zi_X6_of_6 : ∀ w ∈ u_ws RX6 TX6 50, w ∈ wsX6_of := fun _ h => List.mem_cons_of_mem _ (List.mem_append_right _ h)
set_option maxRecDepth 100000 in
set_option maxHeartbeats 4000000 in
theorem sg_X6_of_0 {C : zC} {G : zG} {Qc : Array Value → State → Outcome → State → Prop} (S : St_X6_of C G Qc) {a0 : Nat} {x1 : Int32} {x2 : Int32} {m : zM} (ka0 : zK G a0 = some (6, a0))
    (h : (vp_in ((10 * x1) + x2) 640) ∧ (zRet C G Qc (some (.int (zI m 1609 a0 (((10 * x1) + x2).toNatClampNeg)))) m)) : Pt_X6_of_0 C G a0 x1 x2 m := by
  obtain ⟨hF, hQ, hR⟩ := id S
  have h0 : zF0 C cX6_of 3 wsX6_of RX6 := hF.1
  have hL := hF.2.2.1
  unfold Pt_X6_of_0
  refine zx_aload_n h0 0 dX6_of_0 rfl ?_
  refine zx_get hF ka0 (by decide) rfl zi_X6_of_6 9 (by decide) zn_X6_of_37 rfl rfl dX6_of_1 ?_
  refine zx_bipush (v := 10) h0 dX6_of_4 (by decide) ?_
  refine zx_iload_n h0 1 dX6_of_6 rfl ?_
  refine zx_imul h0 dX6_of_7 ?_
  refine zx_iload_n h0 2 dX6_of_8 rfl ?_
  refine zx_iadd h0 dX6_of_9 ?_
  obtain ⟨ho1, h⟩ := h
  refine zx_iald (j := ((10 * x1) + x2).toNatClampNeg) hF (zL_6_9 hL ka0) (by decide) rfl rfl ho1 rfl dX6_of_10 ?_
  exact zx_iret hF hQ dX6_of_11 h
theorem zc_X6_is_X6_isClaim {C : zC} {G : zG} {Qc : Array Value → State → Outcome → State → Prop} (S : St_X6_is C G Qc) : CallW (zRm C) (zs C) (zar C) RX6 RX6 149 yX6_isClaim cX6_isClaim 2 (some .boolean) wsX6_isClaim rm_X6_isClaim 0 0 1 := cwV 1 S.1.1.2.2.2.2 gX6_is_X6_isClaim rfl rfl rfl (by decide +kernel) (by rw [S.2.2]; exact ⟨Nat.le_of_ble_eq_true rfl, Nat.le_of_ble_eq_true rfl⟩)
theorem zc_X6_is_X6_of {C : zC} {G : zG} {Qc : Array Value → State → Outcome → State → Prop} (S : St_X6_is C G Qc) : CallW (zRm C) (zs C) (zar C) RX6 RX6 153 yX6_of cX6_of 3 (some .int) wsX6_of rm_X6_of 0 0 2 := cwV 2 S.1.1.2.2.2.2 gX6_is_X6_of rfl rfl rfl (by decide +kernel) (by rw [S.2.2]; exact ⟨Nat.le_of_ble_eq_true rfl, Nat.le_of_ble_eq_true rfl⟩)
set_option maxRecDepth 100000 in
set_option maxHeartbeats 4000000 in
theorem sg_X6_is_0 {C : zC} {G : zG} {Qc : Array Value → State → Outcome → State → Prop} (S : St_X6_is C G Qc) {P_X6_isClaim : Nat → Int32 → zM → Prop} {Q_X6_isClaim : Nat → Int32 → zM → Int32 → Prop} (c_X6_isClaim : Con_X6_isClaim (zl C) G P_X6_isClaim Q_X6_isClaim) {P_X6_of : Nat → Int32 → Int32 → zM → Prop} {Q_X6_of : Nat → Int32 → Int32 → zM → Int32 → Prop} (c_X6_of : Con_X6_of (zl C) G P_X6_of Q_X6_of) {a0 : Nat} {x1 : Int32} {x2 : Int32} {m : zM} (ka0 : zK G a0 = some (6, a0))
    (h : (P_X6_isClaim a0 x1 m) ∧ (∀ (r2 : Int32), Q_X6_isClaim a0 x1 m r2 → ((r2 = 0 → (zRet C G Qc (some (.int 0)) m)) ∧ (¬ r2 = 0 → ((P_X6_of a0 x1 5 m) ∧ (∀ (r4 : Int32), Q_X6_of a0 x1 5 m r4 → ((¬ r4 = x2 → (zRet C G Qc (some (.int 0)) m)) ∧ (r4 = x2 → (zRet C G Qc (some (.int 1)) m))))))))) : Pt_X6_is_0 C G a0 x1 x2 m := by
  obtain ⟨hF, hQ, hR⟩ := id S
  have h0 : zF0 C cX6_is 3 wsX6_is RX6 := hF.1
  have hL := hF.2.2.1
  unfold Pt_X6_is_0
  refine zx_aload_n h0 0 dX6_is_0 rfl ?_
  refine zx_iload_n h0 1 dX6_is_1 rfl ?_
  obtain ⟨ho1, h⟩ := h
  refine zx_callVi (As := [.int x1]) (rest := []) hF (c_X6_isClaim a0 x1 m ka0 ho1) (zc_X6_is_X6_isClaim S) ka0 (by decide) rfl dX6_is_2 rfl rfl (Nat.le_of_ble_eq_true rfl) ⟨Nat.zero_le _, Nat.zero_le _⟩ (fun r2 m2 hq => ?_)
  obtain ⟨hme, hq⟩ := hq
  subst m2
  replace h := h r2 hq
  refine zx_if_eq (tgt := 22) h0 dX6_is_5 (by decide) (fun q => ?_) (fun q => ?_)
  · replace h := h.1 q
    refine zx_iconst (v := 0) h0 dX6_is_22 (by decide) ?_
    exact zx_zret hF hQ rfl dX6_is_23 h
  · replace h := h.2 q
    refine zx_aload_n h0 0 dX6_is_8 rfl ?_
    refine zx_iload_n h0 1 dX6_is_9 rfl ?_
    refine zx_iconst (v := 5) h0 dX6_is_10 (by decide) ?_
    obtain ⟨ho3, h⟩ := h
    refine zx_callVi (As := [.int x1, .int 5]) (rest := []) hF (c_X6_of a0 x1 5 m ka0 ho3) (zc_X6_is_X6_of S) ka0 (by decide) rfl dX6_is_11 rfl rfl (Nat.le_of_ble_eq_true rfl) ⟨Nat.zero_le _, Nat.zero_le _⟩ (fun r4 m4 hq => ?_)
    obtain ⟨hme, hq⟩ := hq
    subst m4
    replace h := h r4 hq
    refine zx_iload_n h0 2 dX6_is_14 rfl ?_
    refine zx_icmp_ne (tgt := 22) h0 dX6_is_15 (by decide) (fun q => ?_) (fun q => ?_)
    · replace h := h.1 q
      refine zx_iconst (v := 0) h0 dX6_is_22 (by decide) ?_
      exact zx_zret hF hQ rfl dX6_is_23 h
    · replace h := h.2 q
      refine zx_iconst (v := 1) h0 dX6_is_18 (by decide) ?_
      refine zx_goto (tgt := 23) h0 dX6_is_19 (by decide) ?_
      exact zx_zret hF hQ rfl dX6_is_23 h
theorem zn_X6_paidAll_27 : Cond.fieldLink RX6 27 RX6 (TX6 6).2.1 (TX6 6).2.2.1 ∈ wsX6_paidAll := List.mem_of_getElem? (i := 1) rfl
theorem zi_X6_paidAll_6 : ∀ w ∈ u_ws RX6 TX6 50, w ∈ wsX6_paidAll := fun _ h => List.mem_cons_of_mem _ (List.mem_append_right _ h)
theorem zn_X6_paidAll_40 : Cond.fieldLink RX6 40 RX6 (TX6 10).2.1 (TX6 10).2.2.1 ∈ wsX6_paidAll := List.mem_of_getElem? (i := 2) rfl
set_option maxRecDepth 100000 in
set_option maxHeartbeats 4000000 in
theorem sg_X6_paidAll_0 {C : zC} {G : zG} {Qc : Array Value → State → Outcome → State → Prop} (S : St_X6_paidAll C G Qc) {a0 : Nat} {m : zM} (ka0 : zK G a0 = some (6, a0))
    (h : Pt_X6_paidAll_4 C G a0 0 0 m) : Pt_X6_paidAll_0 C G a0 m := by
  obtain ⟨hF, hQ, hR⟩ := id S
  have h0 : zF0 C cX6_paidAll 4 wsX6_paidAll RX6 := hF.1
  have hL := hF.2.2.1
  unfold Pt_X6_paidAll_0
  refine zx_lconst (v := 0) h0 dX6_paidAll_0 (by decide) ?_
  refine zx_lstore_n (L' := [(1, .long 0), (0, .ref a0)]) h0 dX6_paidAll_1 (by decide) rfl ?_
  refine zx_iconst (v := 0) h0 dX6_paidAll_2 (by decide) ?_
  refine zx_istore_n (L' := [(3, .int 0), (1, .long 0), (0, .ref a0)]) h0 dX6_paidAll_3 (by decide) rfl ?_
  exact zx_sub [2, 1, 0] rfl h
set_option maxRecDepth 100000 in
set_option maxHeartbeats 4000000 in
theorem sg_X6_paidAll_4 {C : zC} {G : zG} {Qc : Array Value → State → Outcome → State → Prop} (S : St_X6_paidAll C G Qc) {a0 : Nat} {l1 : Int64} {x3 : Int32} {m : zM} (ka0 : zK G a0 = some (6, a0))
    (h : ((zI m 1606 a0 0) ≤ x3 → (zRet C G Qc (some (.long l1)) m)) ∧ (¬ (zI m 1606 a0 0) ≤ x3 → ((vp_in x3 64) ∧ (Pt_X6_paidAll_4 C G a0 (l1 + (zJ m 1610 a0 x3.toNatClampNeg)) (x3 + 1) m)))) : Pt_X6_paidAll_4 C G a0 l1 x3 m := by
  obtain ⟨hF, hQ, hR⟩ := id S
  have h0 : zF0 C cX6_paidAll 4 wsX6_paidAll RX6 := hF.1
  have hL := hF.2.2.1
  unfold Pt_X6_paidAll_4
  refine zx_iload_n h0 2 dX6_paidAll_4 rfl ?_
  refine zx_aload_n h0 0 dX6_paidAll_5 rfl ?_
  refine zx_get hF ka0 (by decide) rfl zi_X6_paidAll_6 6 (by decide) zn_X6_paidAll_27 rfl rfl dX6_paidAll_6 ?_
  refine zx_iconst (v := 0) h0 dX6_paidAll_9 (by decide) ?_
  refine zx_iald (j := 0) hF (zL_6_6 hL ka0) (by decide) rfl rfl (by unfold vp_in; decide) (by decide) dX6_paidAll_10 ?_
  refine zx_icmp_ge (tgt := 29) h0 dX6_paidAll_11 (by decide) (fun q => ?_) (fun q => ?_)
  · replace h := h.1 q
    refine zx_lload_n h0 1 dX6_paidAll_29 rfl ?_
    exact zx_lret hF hQ dX6_paidAll_30 h
  · replace h := h.2 q
    refine zx_lload_n h0 1 dX6_paidAll_14 rfl ?_
    refine zx_aload_n h0 0 dX6_paidAll_15 rfl ?_
    refine zx_get hF ka0 (by decide) rfl zi_X6_paidAll_6 10 (by decide) zn_X6_paidAll_40 rfl rfl dX6_paidAll_16 ?_
    refine zx_iload_n h0 2 dX6_paidAll_19 rfl ?_
    obtain ⟨ho1, h⟩ := h
    refine zx_lald (j := x3.toNatClampNeg) hF (zL_6_10 hL ka0) (by decide) rfl rfl ho1 rfl dX6_paidAll_20 ?_
    refine zx_ladd h0 dX6_paidAll_21 ?_
    refine zx_lstore_n (L' := [(1, .long (l1 + (zJ m 1610 a0 x3.toNatClampNeg))), (0, .ref a0), (3, .int x3)]) h0 dX6_paidAll_22 (by decide) rfl ?_
    refine zx_iinc (v := (x3 + 1)) (L' := [(3, .int (x3 + 1)), (1, .long (l1 + (zJ m 1610 a0 x3.toNatClampNeg))), (0, .ref a0)]) h0 2 dX6_paidAll_23 rfl rfl (by decide) rfl ?_
    refine zx_goto (tgt := 4) h0 dX6_paidAll_26 (by decide) ?_
    exact zx_sub [2, 1, 0] rfl h
theorem zn_X6_fund_129 : Cond.fieldLink RX6 129 RX6 (TX6 0).2.1 (TX6 0).2.2.1 ∈ wsX6_fund := List.mem_of_getElem? (i := 1) rfl
theorem zi_X6_fund_6 : ∀ w ∈ u_ws RX6 TX6 50, w ∈ wsX6_fund := fun _ h => List.mem_cons_of_mem _ (List.mem_append_right _ h)
theorem zn_X6_fund_k157 : Cond.constantLong RX6 157 1000000000000 ∈ wsX6_fund := List.mem_of_getElem? (i := 2) rfl
theorem zn_X6_fund_33 : Cond.fieldLink RX6 33 RX6 (TX6 8).2.1 (TX6 8).2.2.1 ∈ wsX6_fund := List.mem_of_getElem? (i := 3) rfl
theorem zn_X6_fund_23 : Cond.fieldLink RX6 23 RX6 (TX6 5).2.1 (TX6 5).2.2.1 ∈ wsX6_fund := List.mem_of_getElem? (i := 4) rfl
theorem zc_X6_fund_X6_paidAll {C : zC} {G : zG} {Qc : Array Value → State → Outcome → State → Prop} (S : St_X6_fund C G Qc) : CallW (zRm C) (zs C) (zar C) RX6 RX6 159 yX6_paidAll cX6_paidAll 4 (some .long) wsX6_paidAll rm_X6_paidAll 0 0 0 := cwV 0 S.1.1.2.2.2.2 gX6_fund_X6_paidAll rfl rfl rfl (by decide +kernel) (by rw [S.2.2]; exact ⟨Nat.le_of_ble_eq_true rfl, Nat.le_of_ble_eq_true rfl⟩)
set_option maxRecDepth 100000 in
set_option maxHeartbeats 4000000 in
theorem sg_X6_fund_0 {C : zC} {G : zG} {Qc : Array Value → State → Outcome → State → Prop} (S : St_X6_fund C G Qc) {P_X6_paidAll : Nat → zM → Prop} {Q_X6_paidAll : Nat → zM → Int64 → Prop} (c_X6_paidAll : Con_X6_paidAll (zl C) G P_X6_paidAll Q_X6_paidAll) {a0 : Nat} {l1 : Int64} {m : zM} (ka0 : zK G a0 = some (6, a0))
    (h : (l1 < 1 → (zRet C G Qc (some (.int 0)) (zsI m 600 a0 0 0))) ∧ (¬ l1 < 1 → ((1000000000000 < l1 → (zRet C G Qc (some (.int 0)) (zsI m 600 a0 0 0))) ∧ (¬ 1000000000000 < l1 → ((¬ (zI m 1608 a0 0) = 0 → (zRet C G Qc (some (.int 0)) (zsI m 600 a0 0 0))) ∧ ((zI m 1608 a0 0) = 0 → ((P_X6_paidAll a0 (zsI m 600 a0 0 0)) ∧ (∀ (r2 : Int64), Q_X6_paidAll a0 (zsI m 600 a0 0 0) r2 → ((r2 ≤ 0 → (zRet C G Qc (some (.int 1)) (zsJ (zsI m 600 a0 0 0) 1605 a0 0 l1))) ∧ (¬ r2 ≤ 0 → (zRet C G Qc (some (.int 0)) (zsI m 600 a0 0 0)))))))))))) : Pt_X6_fund_0 C G a0 l1 m := by
  obtain ⟨hF, hQ, hR⟩ := id S
  have h0 : zF0 C cX6_fund 3 wsX6_fund RX6 := hF.1
  have hL := hF.2.2.1
  unfold Pt_X6_fund_0
  refine zx_aload_n h0 0 dX6_fund_0 rfl ?_
  refine zx_iconst (v := 0) h0 dX6_fund_1 (by decide) ?_
  refine zp_600 hF ka0 zi_X6_fund_6 zn_X6_fund_129 dX6_fund_2 ?_
  refine zx_lload_n h0 1 dX6_fund_5 rfl ?_
  refine zx_lconst (v := 1) h0 dX6_fund_6 (by decide) ?_
  refine zx_lcmp_lt (tgt := 37) h0 dX6_fund_7 dX6_fund_8 (by decide) (fun q => ?_) (fun q => ?_)
  · replace h := h.1 q
    refine zx_iconst (v := 0) h0 dX6_fund_37 (by decide) ?_
    exact zx_zret hF hQ rfl dX6_fund_38 h
  · replace h := h.2 q
    refine zx_lload_n h0 1 dX6_fund_11 rfl ?_
    refine zx_ldc2 (v := 1000000000000) h0 zn_X6_fund_k157 dX6_fund_12 ?_
    refine zx_lcmp_gt (tgt := 37) h0 dX6_fund_15 dX6_fund_16 (by decide) (fun q => ?_) (fun q => ?_)
    · replace h := h.1 q
      refine zx_iconst (v := 0) h0 dX6_fund_37 (by decide) ?_
      exact zx_zret hF hQ rfl dX6_fund_38 h
    · replace h := h.2 q
      refine zx_aload_n h0 0 dX6_fund_19 rfl ?_
      refine zx_get hF ka0 (by decide) rfl zi_X6_fund_6 8 (by decide) zn_X6_fund_33 rfl rfl dX6_fund_20 ?_
      refine zx_iconst (v := 0) h0 dX6_fund_23 (by decide) ?_
      refine zx_zald (j := 0) hF (zL_6_8 hL ka0) (by decide) rfl rfl (by unfold vp_in; decide) (by decide) dX6_fund_24 ?_
      refine zx_topI (zI_n (by decide)) ?_
      refine zx_if_ne (tgt := 37) h0 dX6_fund_25 (by decide) (fun q => ?_) (fun q => ?_)
      · replace h := h.1 q
        refine zx_iconst (v := 0) h0 dX6_fund_37 (by decide) ?_
        exact zx_zret hF hQ rfl dX6_fund_38 h
      · replace h := h.2 q
        refine zx_aload_n h0 0 dX6_fund_28 rfl ?_
        obtain ⟨ho1, h⟩ := h
        refine zx_callVl (As := []) (rest := []) hF (c_X6_paidAll a0 (zsI m 600 a0 0 0) ka0 ho1) (zc_X6_fund_X6_paidAll S) ka0 (by decide) rfl dX6_fund_29 rfl rfl (Nat.le_of_ble_eq_true rfl) ⟨Nat.zero_le _, Nat.zero_le _⟩ (fun r2 m2 hq => ?_)
        obtain ⟨hme, hq⟩ := hq
        subst m2
        replace h := h r2 hq
        refine zx_lconst (v := 0) h0 dX6_fund_32 (by decide) ?_
        refine zx_lcmp_le (tgt := 39) h0 dX6_fund_33 dX6_fund_34 (by decide) (fun q => ?_) (fun q => ?_)
        · replace h := h.1 q
          refine zx_aload_n h0 0 dX6_fund_39 rfl ?_
          refine zx_get hF ka0 (by decide) rfl zi_X6_fund_6 5 (by decide) zn_X6_fund_23 rfl rfl dX6_fund_40 ?_
          refine zx_iconst (v := 0) h0 dX6_fund_43 (by decide) ?_
          refine zx_lload_n h0 1 dX6_fund_44 rfl ?_
          refine zx_last (j := 0) hF (zL_6_5 hL ka0) (by decide) rfl rfl (by unfold vp_in; decide) (by decide) dX6_fund_45 ?_
          refine zx_iconst (v := 1) h0 dX6_fund_46 (by decide) ?_
          exact zx_zret hF hQ rfl dX6_fund_47 h
        · replace h := h.2 q
          refine zx_iconst (v := 0) h0 dX6_fund_37 (by decide) ?_
          exact zx_zret hF hQ rfl dX6_fund_38 h
theorem zn_X6_four_7 : Cond.fieldLink RX6 7 RX6 (TX6 1).2.1 (TX6 1).2.2.1 ∈ wsX6_four := List.mem_of_getElem? (i := 1) rfl
theorem zi_X6_four_6 : ∀ w ∈ u_ws RX6 TX6 50, w ∈ wsX6_four := fun _ h => List.mem_cons_of_mem _ (List.mem_append_right _ h)
theorem zn_X6_four_13 : Cond.fieldLink RX6 13 RX6 (TX6 2).2.1 (TX6 2).2.2.1 ∈ wsX6_four := List.mem_of_getElem? (i := 2) rfl
set_option maxRecDepth 100000 in
set_option maxHeartbeats 4000000 in
theorem sg_X6_four_0 {C : zC} {G : zG} {Qc : Array Value → State → Outcome → State → Prop} (S : St_X6_four C G Qc) {a0 : Nat} {x1 : Int32} {m : zM} (ka0 : zK G a0 = some (6, a0))
    (h : Pt_X6_four_3 C G a0 x1 24 m) : Pt_X6_four_0 C G a0 x1 m := by
  obtain ⟨hF, hQ, hR⟩ := id S
  have h0 : zF0 C cX6_four 3 wsX6_four RX6 := hF.1
  have hL := hF.2.2.1
  unfold Pt_X6_four_0
  refine zx_bipush (v := 24) h0 dX6_four_0 (by decide) ?_
  refine zx_istore_n (L' := [(2, .int 24), (0, .ref a0), (1, .int x1)]) h0 dX6_four_2 (by decide) rfl ?_
  exact zx_sub [1, 2, 0] rfl h
set_option maxRecDepth 100000 in
set_option maxHeartbeats 4000000 in
theorem sg_X6_four_3 {C : zC} {G : zG} {Qc : Array Value → State → Outcome → State → Prop} (S : St_X6_four C G Qc) {a0 : Nat} {x1 : Int32} {x2 : Int32} {m : zM} (ka0 : zK G a0 = some (6, a0))
    (h : (x2 < 0 → (zRet C G Qc none m)) ∧ (¬ x2 < 0 → ((vp_in (zI m 1602 a0 0) 1600) ∧ (Pt_X6_four_3 C G a0 x1 (x2 + (-8)) (zsI (zsI m 1601 a0 ((zI m 1602 a0 0).toNatClampNeg) (z8 (z8 (x1 >>> (x2 &&& 31))))) 1602 a0 0 ((zI m 1602 a0 0) + 1)))))) : Pt_X6_four_3 C G a0 x1 x2 m := by
  obtain ⟨hF, hQ, hR⟩ := id S
  have h0 : zF0 C cX6_four 3 wsX6_four RX6 := hF.1
  have hL := hF.2.2.1
  unfold Pt_X6_four_3
  refine zx_iload_n h0 2 dX6_four_3 rfl ?_
  refine zx_if_lt (tgt := 38) h0 dX6_four_4 (by decide) (fun q => ?_) (fun q => ?_)
  · replace h := h.1 q
    exact zx_vret hF hQ dX6_four_38 h
  · replace h := h.2 q
    refine zx_aload_n h0 0 dX6_four_7 rfl ?_
    refine zx_get hF ka0 (by decide) rfl zi_X6_four_6 1 (by decide) zn_X6_four_7 rfl rfl dX6_four_8 ?_
    refine zx_aload_n h0 0 dX6_four_11 rfl ?_
    refine zx_get hF ka0 (by decide) rfl zi_X6_four_6 2 (by decide) zn_X6_four_13 rfl rfl dX6_four_12 ?_
    refine zx_iconst (v := 0) h0 dX6_four_15 (by decide) ?_
    refine zx_iald (j := 0) hF (zL_6_2 hL ka0) (by decide) rfl rfl (by unfold vp_in; decide) (by decide) dX6_four_16 ?_
    refine zx_iload_n h0 1 dX6_four_17 rfl ?_
    refine zx_iload_n h0 2 dX6_four_18 rfl ?_
    refine zx_ishr h0 dX6_four_19 ?_
    refine zx_i2b (v := (z8 (x1 >>> (x2 &&& 31)))) h0 dX6_four_20 rfl ?_
    obtain ⟨ho1, h⟩ := h
    refine zx_bast (j := (zI m 1602 a0 0).toNatClampNeg) (xv := (z8 (z8 (x1 >>> (x2 &&& 31))))) hF (zL_6_1 hL ka0) (by decide) rfl rfl ho1 rfl rfl z_fit1601 dX6_four_21 ?_
    refine zx_aload_n h0 0 dX6_four_22 rfl ?_
    refine zx_get hF ka0 (by decide) rfl zi_X6_four_6 2 (by decide) zn_X6_four_13 rfl rfl dX6_four_23 ?_
    refine zx_iconst (v := 0) h0 dX6_four_26 (by decide) ?_
    refine zx_dup2_11 h0 dX6_four_27 rfl rfl ?_
    refine zx_iald (j := 0) hF (zL_6_2 hL ka0) (by decide) rfl rfl (by unfold vp_in; decide) (by decide) dX6_four_28 ?_
    refine zx_topI (zI_n (by decide)) ?_
    refine zx_iconst (v := 1) h0 dX6_four_29 (by decide) ?_
    refine zx_iadd h0 dX6_four_30 ?_
    refine zx_iast (j := 0) hF (zL_6_2 hL ka0) (by decide) rfl rfl (by unfold vp_in; decide) (by decide) rfl (z_fit rfl) dX6_four_31 ?_
    refine zx_iinc (v := (x2 + (-8))) (L' := [(2, .int (x2 + (-8))), (0, .ref a0), (1, .int x1)]) h0 2 dX6_four_32 rfl rfl (by decide) rfl ?_
    refine zx_goto (tgt := 3) h0 dX6_four_35 (by decide) ?_
    exact zx_sub [1, 2, 0] rfl h
theorem zn_X6_feed_129 : Cond.fieldLink RX6 129 RX6 (TX6 0).2.1 (TX6 0).2.2.1 ∈ wsX6_feed := List.mem_of_getElem? (i := 1) rfl
theorem zi_X6_feed_6 : ∀ w ∈ u_ws RX6 TX6 50, w ∈ wsX6_feed := fun _ h => List.mem_cons_of_mem _ (List.mem_append_right _ h)
theorem zn_X6_feed_13 : Cond.fieldLink RX6 13 RX6 (TX6 2).2.1 (TX6 2).2.2.1 ∈ wsX6_feed := List.mem_of_getElem? (i := 2) rfl
theorem zc_X6_feed_X6_four {C : zC} {G : zG} {Qc : Array Value → State → Outcome → State → Prop} (S : St_X6_feed C G Qc) : CallW (zRm C) (zs C) (zar C) RX6 RX6 163 yX6_four cX6_four 3 none wsX6_four rm_X6_four 0 0 1 := cwV 1 S.1.1.2.2.2.2 gX6_feed_X6_four rfl rfl rfl (by decide +kernel) (by rw [S.2.2]; exact ⟨Nat.le_of_ble_eq_true rfl, Nat.le_of_ble_eq_true rfl⟩)
set_option maxRecDepth 100000 in
set_option maxHeartbeats 4000000 in
theorem sg_X6_feed_0 {C : zC} {G : zG} {Qc : Array Value → State → Outcome → State → Prop} (S : St_X6_feed C G Qc) {P_X6_four : Nat → Int32 → zM → Prop} {Q_X6_four : Nat → Int32 → zM → zM → Prop} (c_X6_four : Con_X6_four (zl C) G P_X6_four Q_X6_four) {a0 : Nat} {x1 : Int32} {x2 : Int32} {x3 : Int32} {x4 : Int32} {x5 : Int32} {m : zM} (ka0 : zK G a0 = some (6, a0))
    (h : (((zI m 1602 a0 0) + 20) ≤ 400 → ((P_X6_four a0 x1 (zsI m 600 a0 0 0)) ∧ (∀ (m2 : zM), Q_X6_four a0 x1 (zsI m 600 a0 0 0) m2 → ((P_X6_four a0 x2 m2) ∧ (∀ (m4 : zM), Q_X6_four a0 x2 m2 m4 → ((P_X6_four a0 x3 m4) ∧ (∀ (m6 : zM), Q_X6_four a0 x3 m4 m6 → ((P_X6_four a0 x4 m6) ∧ (∀ (m8 : zM), Q_X6_four a0 x4 m6 m8 → ((P_X6_four a0 x5 m8) ∧ (∀ (m10 : zM), Q_X6_four a0 x5 m8 m10 → (zRet C G Qc (some (.int (zI m10 1602 a0 0))) m10)))))))))))) ∧ (¬ ((zI m 1602 a0 0) + 20) ≤ 400 → (zRet C G Qc (some (.int (-1))) (zsI m 600 a0 0 0)))) : Pt_X6_feed_0 C G a0 x1 x2 x3 x4 x5 m := by
  obtain ⟨hF, hQ, hR⟩ := id S
  have h0 : zF0 C cX6_feed 6 wsX6_feed RX6 := hF.1
  have hL := hF.2.2.1
  unfold Pt_X6_feed_0
  refine zx_aload_n h0 0 dX6_feed_0 rfl ?_
  refine zx_iconst (v := 0) h0 dX6_feed_1 (by decide) ?_
  refine zp_600 hF ka0 zi_X6_feed_6 zn_X6_feed_129 dX6_feed_2 ?_
  refine zx_aload_n h0 0 dX6_feed_5 rfl ?_
  refine zx_get hF ka0 (by decide) rfl zi_X6_feed_6 2 (by decide) zn_X6_feed_13 rfl rfl dX6_feed_6 ?_
  refine zx_iconst (v := 0) h0 dX6_feed_9 (by decide) ?_
  refine zx_iald (j := 0) hF (zL_6_2 hL ka0) (by decide) rfl rfl (by unfold vp_in; decide) (by decide) dX6_feed_10 ?_
  refine zx_topI (zI_n (by decide)) ?_
  refine zx_bipush (v := 20) h0 dX6_feed_11 (by decide) ?_
  refine zx_iadd h0 dX6_feed_13 ?_
  refine zx_sipush (v := 400) h0 dX6_feed_14 (by decide) ?_
  refine zx_icmp_le (tgt := 22) h0 dX6_feed_17 (by decide) (fun q => ?_) (fun q => ?_)
  · replace h := h.1 q
    refine zx_aload_n h0 0 dX6_feed_22 rfl ?_
    refine zx_iload_n h0 1 dX6_feed_23 rfl ?_
    obtain ⟨ho1, h⟩ := h
    refine zx_callVv (As := [.int x1]) (rest := []) hF (c_X6_four a0 x1 (zsI m 600 a0 0 0) ka0 ho1) (zc_X6_feed_X6_four S) ka0 (by decide) rfl dX6_feed_24 rfl rfl (Nat.le_of_ble_eq_true rfl) ⟨Nat.zero_le _, Nat.zero_le _⟩ (fun m2 hq => ?_)
    replace h := h m2 hq
    refine zx_aload_n h0 0 dX6_feed_27 rfl ?_
    refine zx_iload_n h0 2 dX6_feed_28 rfl ?_
    obtain ⟨ho3, h⟩ := h
    refine zx_callVv (As := [.int x2]) (rest := []) hF (c_X6_four a0 x2 m2 ka0 ho3) (zc_X6_feed_X6_four S) ka0 (by decide) rfl dX6_feed_29 rfl rfl (Nat.le_of_ble_eq_true rfl) ⟨Nat.zero_le _, Nat.zero_le _⟩ (fun m4 hq => ?_)
    replace h := h m4 hq
    refine zx_aload_n h0 0 dX6_feed_32 rfl ?_
    refine zx_iload_n h0 3 dX6_feed_33 rfl ?_
    obtain ⟨ho5, h⟩ := h
    refine zx_callVv (As := [.int x3]) (rest := []) hF (c_X6_four a0 x3 m4 ka0 ho5) (zc_X6_feed_X6_four S) ka0 (by decide) rfl dX6_feed_34 rfl rfl (Nat.le_of_ble_eq_true rfl) ⟨Nat.zero_le _, Nat.zero_le _⟩ (fun m6 hq => ?_)
    replace h := h m6 hq
    refine zx_aload_n h0 0 dX6_feed_37 rfl ?_
    refine zx_iload h0 4 dX6_feed_38 rfl ?_
    obtain ⟨ho7, h⟩ := h
    refine zx_callVv (As := [.int x4]) (rest := []) hF (c_X6_four a0 x4 m6 ka0 ho7) (zc_X6_feed_X6_four S) ka0 (by decide) rfl dX6_feed_40 rfl rfl (Nat.le_of_ble_eq_true rfl) ⟨Nat.zero_le _, Nat.zero_le _⟩ (fun m8 hq => ?_)
    replace h := h m8 hq
    refine zx_aload_n h0 0 dX6_feed_43 rfl ?_
    refine zx_iload h0 5 dX6_feed_44 rfl ?_
    obtain ⟨ho9, h⟩ := h
    refine zx_callVv (As := [.int x5]) (rest := []) hF (c_X6_four a0 x5 m8 ka0 ho9) (zc_X6_feed_X6_four S) ka0 (by decide) rfl dX6_feed_46 rfl rfl (Nat.le_of_ble_eq_true rfl) ⟨Nat.zero_le _, Nat.zero_le _⟩ (fun m10 hq => ?_)
    replace h := h m10 hq
    refine zx_aload_n h0 0 dX6_feed_49 rfl ?_
    refine zx_get hF ka0 (by decide) rfl zi_X6_feed_6 2 (by decide) zn_X6_feed_13 rfl rfl dX6_feed_50 ?_
    refine zx_iconst (v := 0) h0 dX6_feed_53 (by decide) ?_
    refine zx_iald (j := 0) hF (zL_6_2 hL ka0) (by decide) rfl rfl (by unfold vp_in; decide) (by decide) dX6_feed_54 ?_
    exact zx_iret hF hQ dX6_feed_55 h
  · replace h := h.2 q
    refine zx_iconst (v := (-1)) h0 dX6_feed_20 (by decide) ?_
    exact zx_iret hF hQ dX6_feed_21 h
theorem zn_X6_end_129 : Cond.fieldLink RX6 129 RX6 (TX6 0).2.1 (TX6 0).2.2.1 ∈ wsX6_end := List.mem_of_getElem? (i := 1) rfl
theorem zi_X6_end_6 : ∀ w ∈ u_ws RX6 TX6 50, w ∈ wsX6_end := fun _ h => List.mem_cons_of_mem _ (List.mem_append_right _ h)
theorem zn_X6_end_13 : Cond.fieldLink RX6 13 RX6 (TX6 2).2.1 (TX6 2).2.2.1 ∈ wsX6_end := List.mem_of_getElem? (i := 2) rfl
theorem zc_X6_end_X6_in {C : zC} {G : zG} {Qc : Array Value → State → Outcome → State → Prop} (S : St_X6_end C G Qc) : CallB (zRm C) (zs C) (zar C) RX6 145 yX6_in cX6_in 3 (some .boolean) wsX6_in rm_X6_in 0 0 3 ∧ (Cond.static yX6_in).before (zar C) (zs C) = true := cwS 3 S.1.1.2.2.2.2 gX6_end_X6_in rfl rfl rfl (by decide +kernel) (by rw [S.2.2]; exact ⟨Nat.le_of_ble_eq_true rfl, Nat.le_of_ble_eq_true rfl⟩)
set_option maxRecDepth 100000 in
set_option maxHeartbeats 4000000 in
theorem sg_X6_end_0 {C : zC} {G : zG} {Qc : Array Value → State → Outcome → State → Prop} (S : St_X6_end C G Qc) {P_X6_in : Int32 → Int32 → Int32 → zM → Prop} {Q_X6_in : Int32 → Int32 → Int32 → zM → Int32 → Prop} (c_X6_in : Con_X6_in (zl C) G P_X6_in Q_X6_in) {a0 : Nat} {x1 : Int32} {m : zM} (ka0 : zK G a0 = some (6, a0))
    (h : (P_X6_in x1 0 (zI m 1602 a0 0) (zsI m 600 a0 0 0)) ∧ (∀ (r2 : Int32), Q_X6_in x1 0 (zI m 1602 a0 0) (zsI m 600 a0 0 0) r2 → ((¬ r2 = 0 → (zRet C G Qc (some (.int x1)) (zsI (zsI m 600 a0 0 0) 1602 a0 0 x1))) ∧ (r2 = 0 → (zRet C G Qc (some (.int (-1))) (zsI m 600 a0 0 0)))))) : Pt_X6_end_0 C G a0 x1 m := by
  obtain ⟨hF, hQ, hR⟩ := id S
  have h0 : zF0 C cX6_end 2 wsX6_end RX6 := hF.1
  have hL := hF.2.2.1
  unfold Pt_X6_end_0
  refine zx_aload_n h0 0 dX6_end_0 rfl ?_
  refine zx_iconst (v := 0) h0 dX6_end_1 (by decide) ?_
  refine zp_600 hF ka0 zi_X6_end_6 zn_X6_end_129 dX6_end_2 ?_
  refine zx_iload_n h0 1 dX6_end_5 rfl ?_
  refine zx_iconst (v := 0) h0 dX6_end_6 (by decide) ?_
  refine zx_aload_n h0 0 dX6_end_7 rfl ?_
  refine zx_get hF ka0 (by decide) rfl zi_X6_end_6 2 (by decide) zn_X6_end_13 rfl rfl dX6_end_8 ?_
  refine zx_iconst (v := 0) h0 dX6_end_11 (by decide) ?_
  refine zx_iald (j := 0) hF (zL_6_2 hL ka0) (by decide) rfl rfl (by unfold vp_in; decide) (by decide) dX6_end_12 ?_
  refine zx_topI (zI_n (by decide)) ?_
  obtain ⟨ho1, h⟩ := h
  refine zx_callSi (As := [.int x1, .int 0, .int (zI m 1602 a0 0)]) (rest := []) hF (c_X6_in x1 0 (zI m 1602 a0 0) (zsI m 600 a0 0 0)  ho1) (zc_X6_end_X6_in S)  dX6_end_13 rfl rfl (Nat.le_of_ble_eq_true rfl) ⟨Nat.zero_le _, Nat.zero_le _⟩ (fun r2 m2 hq => ?_)
  obtain ⟨hme, hq⟩ := hq
  subst m2
  replace h := h r2 hq
  refine zx_if_ne (tgt := 21) h0 dX6_end_16 (by decide) (fun q => ?_) (fun q => ?_)
  · replace h := h.1 q
    refine zx_aload_n h0 0 dX6_end_21 rfl ?_
    refine zx_get hF ka0 (by decide) rfl zi_X6_end_6 2 (by decide) zn_X6_end_13 rfl rfl dX6_end_22 ?_
    refine zx_iconst (v := 0) h0 dX6_end_25 (by decide) ?_
    refine zx_iload_n h0 1 dX6_end_26 rfl ?_
    refine zx_iast (j := 0) hF (zL_6_2 hL ka0) (by decide) rfl rfl (by unfold vp_in; decide) (by decide) rfl (z_fit rfl) dX6_end_27 ?_
    refine zx_iload_n h0 1 dX6_end_28 rfl ?_
    exact zx_iret hF hQ dX6_end_29 h
  · replace h := h.2 q
    refine zx_iconst (v := (-1)) h0 dX6_end_19 (by decide) ?_
    exact zx_iret hF hQ dX6_end_20 h
theorem zn_X6_see_167 : Cond.fieldLink RX6 167 RX6 (TX6 25).2.1 (TX6 25).2.2.1 ∈ wsX6_see := List.mem_of_getElem? (i := 1) rfl
theorem zi_X6_see_6 : ∀ w ∈ u_ws RX6 TX6 50, w ∈ wsX6_see := fun _ h => List.mem_cons_of_mem _ (List.mem_append_right _ h)
theorem zn_X6_see_170 : Cond.fieldLink RX6 170 RX6 (TX6 26).2.1 (TX6 26).2.2.1 ∈ wsX6_see := List.mem_of_getElem? (i := 2) rfl
theorem zn_X6_see_7 : Cond.fieldLink RX6 7 RX6 (TX6 1).2.1 (TX6 1).2.2.1 ∈ wsX6_see := List.mem_of_getElem? (i := 3) rfl
set_option maxRecDepth 100000 in
set_option maxHeartbeats 4000000 in
theorem sg_X6_see_0 {C : zC} {G : zG} {Qc : Array Value → State → Outcome → State → Prop} (S : St_X6_see C G Qc) {a0 : Nat} {m : zM} (ka0 : zK G a0 = some (6, a0))
    (h : ((zI m 626 a0 0) ≤ (zI m 625 a0 0) → (zRet C G Qc (some (.int (-1))) m)) ∧ (¬ (zI m 626 a0 0) ≤ (zI m 625 a0 0) → ((vp_in (zI m 625 a0 0) 1600) ∧ (zRet C G Qc (some (.int ((zI m 1601 a0 ((zI m 625 a0 0).toNatClampNeg)) &&& 255))) m)))) : Pt_X6_see_0 C G a0 m := by
  obtain ⟨hF, hQ, hR⟩ := id S
  have h0 : zF0 C cX6_see 1 wsX6_see RX6 := hF.1
  have hL := hF.2.2.1
  unfold Pt_X6_see_0
  refine zx_aload_n h0 0 dX6_see_0 rfl ?_
  refine zx_get hF ka0 (by decide) rfl zi_X6_see_6 25 (by decide) zn_X6_see_167 rfl rfl dX6_see_1 ?_
  refine zx_aload_n h0 0 dX6_see_4 rfl ?_
  refine zx_get hF ka0 (by decide) rfl zi_X6_see_6 26 (by decide) zn_X6_see_170 rfl rfl dX6_see_5 ?_
  refine zx_icmp_ge (tgt := 27) h0 dX6_see_8 (by decide) (fun q => ?_) (fun q => ?_)
  · replace h := h.1 q
    refine zx_iconst (v := (-1)) h0 dX6_see_27 (by decide) ?_
    exact zx_iret hF hQ dX6_see_28 h
  · replace h := h.2 q
    refine zx_aload_n h0 0 dX6_see_11 rfl ?_
    refine zx_get hF ka0 (by decide) rfl zi_X6_see_6 1 (by decide) zn_X6_see_7 rfl rfl dX6_see_12 ?_
    refine zx_aload_n h0 0 dX6_see_15 rfl ?_
    refine zx_get hF ka0 (by decide) rfl zi_X6_see_6 25 (by decide) zn_X6_see_167 rfl rfl dX6_see_16 ?_
    obtain ⟨ho1, h⟩ := h
    refine zx_bald (j := (zI m 625 a0 0).toNatClampNeg) hF (zL_6_1 hL ka0) (by decide) rfl rfl ho1 rfl dX6_see_19 ?_
    refine zx_sipush (v := 255) h0 dX6_see_20 (by decide) ?_
    refine zx_iand h0 dX6_see_23 ?_
    refine zx_goto (tgt := 28) h0 dX6_see_24 (by decide) ?_
    exact zx_iret hF hQ dX6_see_28 h
theorem zn_X6_next_167 : Cond.fieldLink RX6 167 RX6 (TX6 25).2.1 (TX6 25).2.2.1 ∈ wsX6_next := List.mem_of_getElem? (i := 1) rfl
theorem zi_X6_next_6 : ∀ w ∈ u_ws RX6 TX6 50, w ∈ wsX6_next := fun _ h => List.mem_cons_of_mem _ (List.mem_append_right _ h)
theorem zn_X6_next_177 : Cond.fieldLink RX6 177 RX6 (TX6 27).2.1 (TX6 27).2.2.1 ∈ wsX6_next := List.mem_of_getElem? (i := 2) rfl
theorem zn_X6_next_180 : Cond.fieldLink RX6 180 RX6 (TX6 29).2.1 (TX6 29).2.2.1 ∈ wsX6_next := List.mem_of_getElem? (i := 3) rfl
theorem zn_X6_next_183 : Cond.fieldLink RX6 183 RX6 (TX6 30).2.1 (TX6 30).2.2.1 ∈ wsX6_next := List.mem_of_getElem? (i := 4) rfl
theorem zn_X6_next_187 : Cond.fieldLink RX6 187 RX6 (TX6 28).2.1 (TX6 28).2.2.1 ∈ wsX6_next := List.mem_of_getElem? (i := 5) rfl
theorem zc_X6_next_X6_see {C : zC} {G : zG} {Qc : Array Value → State → Outcome → State → Prop} (S : St_X6_next C G Qc) : CallW (zRm C) (zs C) (zar C) RX6 RX6 173 yX6_see cX6_see 1 (some .int) wsX6_see rm_X6_see 0 0 0 := cwV 0 S.1.1.2.2.2.2 gX6_next_X6_see rfl rfl rfl (by decide +kernel) (by rw [S.2.2]; exact ⟨Nat.le_of_ble_eq_true rfl, Nat.le_of_ble_eq_true rfl⟩)
theorem zc_X6_next_X6_in {C : zC} {G : zG} {Qc : Array Value → State → Outcome → State → Prop} (S : St_X6_next C G Qc) : CallB (zRm C) (zs C) (zar C) RX6 145 yX6_in cX6_in 3 (some .boolean) wsX6_in rm_X6_in 0 0 3 ∧ (Cond.static yX6_in).before (zar C) (zs C) = true := cwS 3 S.1.1.2.2.2.2 gX6_next_X6_in rfl rfl rfl (by decide +kernel) (by rw [S.2.2]; exact ⟨Nat.le_of_ble_eq_true rfl, Nat.le_of_ble_eq_true rfl⟩)
set_option maxRecDepth 100000 in
set_option maxHeartbeats 4000000 in
theorem sg_X6_next_0 {C : zC} {G : zG} {Qc : Array Value → State → Outcome → State → Prop} (S : St_X6_next C G Qc) {P_X6_see : Nat → zM → Prop} {Q_X6_see : Nat → zM → Int32 → Prop} (c_X6_see : Con_X6_see (zl C) G P_X6_see Q_X6_see) {P_X6_in : Int32 → Int32 → Int32 → zM → Prop} {Q_X6_in : Int32 → Int32 → Int32 → zM → Int32 → Prop} (c_X6_in : Con_X6_in (zl C) G P_X6_in Q_X6_in) {a0 : Nat} {m : zM} (ka0 : zK G a0 = some (6, a0))
    (h : (P_X6_see a0 m) ∧ (∀ (r2 : Int32), Q_X6_see a0 m r2 → ((r2 = 10 → (Pt_X6_next_0 C G a0 (zsI m 625 a0 0 ((zI m 625 a0 0) + 1)))) ∧ (¬ r2 = 10 → (∀ (r3 : Int32), Q_X6_see a0 m r3 → ((¬ r3 = 32 → ((P_X6_see a0 (zsI m 627 a0 0 (zI m 625 a0 0))) ∧ (∀ (r5 : Int32), Q_X6_see a0 (zsI m 627 a0 0 (zI m 625 a0 0)) r5 → ((0 ≤ r5 → ((P_X6_in r5 97 122 (zsJ (zsI (zsI m 627 a0 0 (zI m 625 a0 0)) 629 a0 0 r5) 630 a0 0 0)) ∧ (∀ (r7 : Int32), Q_X6_in r5 97 122 (zsJ (zsI (zsI m 627 a0 0 (zI m 625 a0 0)) 629 a0 0 r5) 630 a0 0 0) r7 → ((r7 = 0 → ((P_X6_in r5 48 57 (zsJ (zsI (zsI m 627 a0 0 (zI m 625 a0 0)) 629 a0 0 r5) 630 a0 0 0)) ∧ (∀ (r9 : Int32), Q_X6_in r5 48 57 (zsJ (zsI (zsI m 627 a0 0 (zI m 625 a0 0)) 629 a0 0 r5) 630 a0 0 0) r9 → ((r9 = 0 → ((r5 = 58 → (zRet C G Qc none (zsI (zsI (zsJ (zsI (zsI m 627 a0 0 (zI m 625 a0 0)) 629 a0 0 r5) 630 a0 0 0) 625 a0 0 ((zI m 625 a0 0) + 1)) 628 a0 0 4))) ∧ (¬ r5 = 58 → ((r5 = 59 → (zRet C G Qc none (zsI (zsI (zsJ (zsI (zsI m 627 a0 0 (zI m 625 a0 0)) 629 a0 0 r5) 630 a0 0 0) 625 a0 0 ((zI m 625 a0 0) + 1)) 628 a0 0 4))) ∧ (¬ r5 = 59 → ((r5 = 60 → (zRet C G Qc none (zsI (zsI (zsJ (zsI (zsI m 627 a0 0 (zI m 625 a0 0)) 629 a0 0 r5) 630 a0 0 0) 625 a0 0 ((zI m 625 a0 0) + 1)) 628 a0 0 4))) ∧ (¬ r5 = 60 → ((r5 = 62 → (zRet C G Qc none (zsI (zsI (zsJ (zsI (zsI m 627 a0 0 (zI m 625 a0 0)) 629 a0 0 r5) 630 a0 0 0) 625 a0 0 ((zI m 625 a0 0) + 1)) 628 a0 0 4))) ∧ (¬ r5 = 62 → ((¬ r5 = 61 → (zRet C G Qc none (zsI (zsI (zsJ (zsI (zsI m 627 a0 0 (zI m 625 a0 0)) 629 a0 0 r5) 630 a0 0 0) 625 a0 0 ((zI m 625 a0 0) + 1)) 628 a0 0 1))) ∧ (r5 = 61 → (zRet C G Qc none (zsI (zsI (zsJ (zsI (zsI m 627 a0 0 (zI m 625 a0 0)) 629 a0 0 r5) 630 a0 0 0) 625 a0 0 ((zI m 625 a0 0) + 1)) 628 a0 0 4))))))))))))) ∧ (¬ r9 = 0 → (Pt_X6_next_168 C G a0 0 (zsI (zsJ (zsI (zsI m 627 a0 0 (zI m 625 a0 0)) 629 a0 0 r5) 630 a0 0 0) 629 a0 0 0))))))) ∧ (¬ r7 = 0 → (Pt_X6_next_79 C G a0 0 (zsJ (zsI (zsI m 627 a0 0 (zI m 625 a0 0)) 629 a0 0 r5) 630 a0 0 0))))))) ∧ (¬ 0 ≤ r5 → (zRet C G Qc none (zsI (zsJ (zsI (zsI m 627 a0 0 (zI m 625 a0 0)) 629 a0 0 r5) 630 a0 0 0) 628 a0 0 0))))))) ∧ (r3 = 32 → (Pt_X6_next_0 C G a0 (zsI m 625 a0 0 ((zI m 625 a0 0) + 1)))))))))) : Pt_X6_next_0 C G a0 m := by
  obtain ⟨hF, hQ, hR⟩ := id S
  have h0 : zF0 C cX6_next 3 wsX6_next RX6 := hF.1
  have hL := hF.2.2.1
  unfold Pt_X6_next_0
  refine zx_aload_n h0 0 dX6_next_0 rfl ?_
  obtain ⟨ho1, h⟩ := h
  refine zx_callVi (As := []) (rest := []) hF (c_X6_see a0 m ka0 ho1) (zc_X6_next_X6_see S) ka0 (by decide) rfl dX6_next_1 rfl rfl (Nat.le_of_ble_eq_true rfl) ⟨Nat.zero_le _, Nat.zero_le _⟩ (fun r2 m2 hq => ?_)
  obtain ⟨hme, hq⟩ := hq
  subst m2
  replace h := h r2 hq
  refine zx_bipush (v := 10) h0 dX6_next_4 (by decide) ?_
  refine zx_icmp_eq (tgt := 18) h0 dX6_next_6 (by decide) (fun q => ?_) (fun q => ?_)
  · replace h := h.1 q
    refine zx_aload_n h0 0 dX6_next_18 rfl ?_
    refine zx_dup h0 dX6_next_19 rfl ?_
    refine zx_get hF ka0 (by decide) rfl zi_X6_next_6 25 (by decide) zn_X6_next_167 rfl rfl dX6_next_20 ?_
    refine zx_iconst (v := 1) h0 dX6_next_23 (by decide) ?_
    refine zx_iadd h0 dX6_next_24 ?_
    refine zp_625 hF ka0 zi_X6_next_6 zn_X6_next_167 dX6_next_25 ?_
    refine zx_goto (tgt := 0) h0 dX6_next_28 (by decide) ?_
    exact zx_sub [0] rfl h
  · replace h := h.2 q
    refine zx_aload_n h0 0 dX6_next_9 rfl ?_
    refine zx_callVi (As := []) (rest := []) hF (c_X6_see a0 m ka0 ho1) (zc_X6_next_X6_see S) ka0 (by decide) rfl dX6_next_10 rfl rfl (Nat.le_of_ble_eq_true rfl) ⟨Nat.zero_le _, Nat.zero_le _⟩ (fun r3 m3 hq => ?_)
    obtain ⟨hme, hq⟩ := hq
    subst m3
    replace h := h r3 hq
    refine zx_bipush (v := 32) h0 dX6_next_13 (by decide) ?_
    refine zx_icmp_ne (tgt := 31) h0 dX6_next_15 (by decide) (fun q => ?_) (fun q => ?_)
    · replace h := h.1 q
      refine zx_aload_n h0 0 dX6_next_31 rfl ?_
      refine zx_aload_n h0 0 dX6_next_32 rfl ?_
      refine zx_get hF ka0 (by decide) rfl zi_X6_next_6 25 (by decide) zn_X6_next_167 rfl rfl dX6_next_33 ?_
      refine zp_627 hF ka0 zi_X6_next_6 zn_X6_next_177 dX6_next_36 ?_
      refine zx_aload_n h0 0 dX6_next_39 rfl ?_
      obtain ⟨ho4, h⟩ := h
      refine zx_callVi (As := []) (rest := []) hF (c_X6_see a0 (zsI m 627 a0 0 (zI m 625 a0 0)) ka0 ho4) (zc_X6_next_X6_see S) ka0 (by decide) rfl dX6_next_40 rfl rfl (Nat.le_of_ble_eq_true rfl) ⟨Nat.zero_le _, Nat.zero_le _⟩ (fun r5 m5 hq => ?_)
      obtain ⟨hme, hq⟩ := hq
      subst m5
      replace h := h r5 hq
      refine zx_istore_n (L' := [(1, .int r5), (0, .ref a0)]) h0 dX6_next_43 (by decide) rfl ?_
      refine zx_aload_n h0 1 dX6_next_44 rfl ?_
      refine zx_iload_n h0 0 dX6_next_45 rfl ?_
      refine zp_629 hF ka0 zi_X6_next_6 zn_X6_next_180 dX6_next_46 ?_
      refine zx_aload_n h0 1 dX6_next_49 rfl ?_
      refine zx_lconst (v := 0) h0 dX6_next_50 (by decide) ?_
      refine zp_630 hF ka0 zi_X6_next_6 zn_X6_next_183 dX6_next_51 ?_
      refine zx_iconst (v := 0) h0 dX6_next_54 (by decide) ?_
      refine zx_istore_n (L' := [(2, .int 0), (1, .int r5), (0, .ref a0)]) h0 dX6_next_55 (by decide) rfl ?_
      refine zx_iload_n h0 1 dX6_next_56 rfl ?_
      refine zx_if_ge (tgt := 68) h0 dX6_next_57 (by decide) (fun q => ?_) (fun q => ?_)
      · replace h := h.1 q
        refine zx_iload_n h0 1 dX6_next_68 rfl ?_
        refine zx_bipush (v := 97) h0 dX6_next_69 (by decide) ?_
        refine zx_bipush (v := 122) h0 dX6_next_71 (by decide) ?_
        obtain ⟨ho6, h⟩ := h
        refine zx_callSi (As := [.int r5, .int 97, .int 122]) (rest := []) hF (c_X6_in r5 97 122 (zsJ (zsI (zsI m 627 a0 0 (zI m 625 a0 0)) 629 a0 0 r5) 630 a0 0 0)  ho6) (zc_X6_next_X6_in S)  dX6_next_73 rfl rfl (Nat.le_of_ble_eq_true rfl) ⟨Nat.zero_le _, Nat.zero_le _⟩ (fun r7 m7 hq => ?_)
        obtain ⟨hme, hq⟩ := hq
        subst m7
        replace h := h r7 hq
        refine zx_if_eq (tgt := 152) h0 dX6_next_76 (by decide) (fun q => ?_) (fun q => ?_)
        · replace h := h.1 q
          refine zx_iload_n h0 1 dX6_next_152 rfl ?_
          refine zx_bipush (v := 48) h0 dX6_next_153 (by decide) ?_
          refine zx_bipush (v := 57) h0 dX6_next_155 (by decide) ?_
          obtain ⟨ho8, h⟩ := h
          refine zx_callSi (As := [.int r5, .int 48, .int 57]) (rest := []) hF (c_X6_in r5 48 57 (zsJ (zsI (zsI m 627 a0 0 (zI m 625 a0 0)) 629 a0 0 r5) 630 a0 0 0)  ho8) (zc_X6_next_X6_in S)  dX6_next_157 rfl rfl (Nat.le_of_ble_eq_true rfl) ⟨Nat.zero_le _, Nat.zero_le _⟩ (fun r9 m9 hq => ?_)
          obtain ⟨hme, hq⟩ := hq
          subst m9
          replace h := h r9 hq
          refine zx_if_eq (tgt := 246) h0 dX6_next_160 (by decide) (fun q => ?_) (fun q => ?_)
          · replace h := h.1 q
            refine zx_aload_n h0 2 dX6_next_246 rfl ?_
            refine zx_dup h0 dX6_next_247 rfl ?_
            refine zx_get hF ka0 (by decide) rfl zi_X6_next_6 25 (by decide) zn_X6_next_167 rfl rfl dX6_next_248 ?_
            refine zx_topI ((zI_J).trans ((zI_n (by decide)).trans (zI_n (by decide)))) ?_
            refine zx_iconst (v := 1) h0 dX6_next_251 (by decide) ?_
            refine zx_iadd h0 dX6_next_252 ?_
            refine zp_625 hF ka0 zi_X6_next_6 zn_X6_next_167 dX6_next_253 ?_
            refine zx_aload_n h0 2 dX6_next_256 rfl ?_
            refine zx_iload_n h0 1 dX6_next_257 rfl ?_
            refine zx_bipush (v := 58) h0 dX6_next_258 (by decide) ?_
            refine zx_icmp_eq (tgt := 287) h0 dX6_next_260 (by decide) (fun q => ?_) (fun q => ?_)
            · replace h := h.1 q
              refine zx_iconst (v := 4) h0 dX6_next_287 (by decide) ?_
              refine zx_goto (tgt := 292) h0 dX6_next_288 (by decide) ?_
              refine zp_628 hF ka0 zi_X6_next_6 zn_X6_next_187 dX6_next_292 ?_
              exact zx_vret hF hQ dX6_next_295 h
            · replace h := h.2 q
              refine zx_iload_n h0 1 dX6_next_263 rfl ?_
              refine zx_bipush (v := 59) h0 dX6_next_264 (by decide) ?_
              refine zx_icmp_eq (tgt := 287) h0 dX6_next_266 (by decide) (fun q => ?_) (fun q => ?_)
              · replace h := h.1 q
                refine zx_iconst (v := 4) h0 dX6_next_287 (by decide) ?_
                refine zx_goto (tgt := 292) h0 dX6_next_288 (by decide) ?_
                refine zp_628 hF ka0 zi_X6_next_6 zn_X6_next_187 dX6_next_292 ?_
                exact zx_vret hF hQ dX6_next_295 h
              · replace h := h.2 q
                refine zx_iload_n h0 1 dX6_next_269 rfl ?_
                refine zx_bipush (v := 60) h0 dX6_next_270 (by decide) ?_
                refine zx_icmp_eq (tgt := 287) h0 dX6_next_272 (by decide) (fun q => ?_) (fun q => ?_)
                · replace h := h.1 q
                  refine zx_iconst (v := 4) h0 dX6_next_287 (by decide) ?_
                  refine zx_goto (tgt := 292) h0 dX6_next_288 (by decide) ?_
                  refine zp_628 hF ka0 zi_X6_next_6 zn_X6_next_187 dX6_next_292 ?_
                  exact zx_vret hF hQ dX6_next_295 h
                · replace h := h.2 q
                  refine zx_iload_n h0 1 dX6_next_275 rfl ?_
                  refine zx_bipush (v := 62) h0 dX6_next_276 (by decide) ?_
                  refine zx_icmp_eq (tgt := 287) h0 dX6_next_278 (by decide) (fun q => ?_) (fun q => ?_)
                  · replace h := h.1 q
                    refine zx_iconst (v := 4) h0 dX6_next_287 (by decide) ?_
                    refine zx_goto (tgt := 292) h0 dX6_next_288 (by decide) ?_
                    refine zp_628 hF ka0 zi_X6_next_6 zn_X6_next_187 dX6_next_292 ?_
                    exact zx_vret hF hQ dX6_next_295 h
                  · replace h := h.2 q
                    refine zx_iload_n h0 1 dX6_next_281 rfl ?_
                    refine zx_bipush (v := 61) h0 dX6_next_282 (by decide) ?_
                    refine zx_icmp_ne (tgt := 291) h0 dX6_next_284 (by decide) (fun q => ?_) (fun q => ?_)
                    · replace h := h.1 q
                      refine zx_iconst (v := 1) h0 dX6_next_291 (by decide) ?_
                      refine zp_628 hF ka0 zi_X6_next_6 zn_X6_next_187 dX6_next_292 ?_
                      exact zx_vret hF hQ dX6_next_295 h
                    · replace h := h.2 q
                      refine zx_iconst (v := 4) h0 dX6_next_287 (by decide) ?_
                      refine zx_goto (tgt := 292) h0 dX6_next_288 (by decide) ?_
                      refine zp_628 hF ka0 zi_X6_next_6 zn_X6_next_187 dX6_next_292 ?_
                      exact zx_vret hF hQ dX6_next_295 h
          · replace h := h.2 q
            refine zx_aload_n h0 2 dX6_next_163 rfl ?_
            refine zx_iconst (v := 0) h0 dX6_next_164 (by decide) ?_
            refine zp_629 hF ka0 zi_X6_next_6 zn_X6_next_180 dX6_next_165 ?_
            exact zx_sub [2, 0] rfl h
        · replace h := h.2 q
          exact zx_sub [2, 0] rfl h
      · replace h := h.2 q
        refine zx_aload_n h0 2 dX6_next_60 rfl ?_
        refine zx_iconst (v := 0) h0 dX6_next_61 (by decide) ?_
        refine zp_628 hF ka0 zi_X6_next_6 zn_X6_next_187 dX6_next_62 ?_
        refine zx_goto (tgt := 295) h0 dX6_next_65 (by decide) ?_
        exact zx_vret hF hQ dX6_next_295 h
    · replace h := h.2 q
      refine zx_aload_n h0 0 dX6_next_18 rfl ?_
      refine zx_dup h0 dX6_next_19 rfl ?_
      refine zx_get hF ka0 (by decide) rfl zi_X6_next_6 25 (by decide) zn_X6_next_167 rfl rfl dX6_next_20 ?_
      refine zx_iconst (v := 1) h0 dX6_next_23 (by decide) ?_
      refine zx_iadd h0 dX6_next_24 ?_
      refine zp_625 hF ka0 zi_X6_next_6 zn_X6_next_167 dX6_next_25 ?_
      refine zx_goto (tgt := 0) h0 dX6_next_28 (by decide) ?_
      exact zx_sub [0] rfl h
set_option maxRecDepth 100000 in
set_option maxHeartbeats 4000000 in
theorem sg_X6_next_79 {C : zC} {G : zG} {Qc : Array Value → State → Outcome → State → Prop} (S : St_X6_next C G Qc) {P_X6_see : Nat → zM → Prop} {Q_X6_see : Nat → zM → Int32 → Prop} (c_X6_see : Con_X6_see (zl C) G P_X6_see Q_X6_see) {P_X6_in : Int32 → Int32 → Int32 → zM → Prop} {Q_X6_in : Int32 → Int32 → Int32 → zM → Int32 → Prop} (c_X6_in : Con_X6_in (zl C) G P_X6_in Q_X6_in) {a0 : Nat} {x2 : Int32} {m : zM} (ka0 : zK G a0 = some (6, a0))
    (h : (P_X6_see a0 m) ∧ (∀ (r2 : Int32), Q_X6_see a0 m r2 → ((P_X6_in r2 97 122 m) ∧ (∀ (r4 : Int32), Q_X6_in r2 97 122 m r4 → ((r4 = 0 → ((x2 ≤ 8 → (zRet C G Qc none (zsI (zsJ m 630 a0 0 (zJ m 630 a0 0)) 628 a0 0 2))) ∧ (¬ x2 ≤ 8 → (zRet C G Qc none (zsI (zsJ m 630 a0 0 0) 628 a0 0 2))))) ∧ (¬ r4 = 0 → (∀ (r5 : Int32), Q_X6_see a0 m r5 → (Pt_X6_next_79 C G a0 (x2 + 1) (zsI (zsJ m 630 a0 0 (((zJ m 630 a0 0) <<< ((8 : Int32).toInt64 &&& 63)) ||| ((r5 : Int32).toInt64))) 625 a0 0 ((zI m 625 a0 0) + 1)))))))))) : Pt_X6_next_79 C G a0 x2 m := by
  obtain ⟨hF, hQ, hR⟩ := id S
  have h0 : zF0 C cX6_next 3 wsX6_next RX6 := hF.1
  have hL := hF.2.2.1
  unfold Pt_X6_next_79
  refine zx_aload_n h0 0 dX6_next_79 rfl ?_
  obtain ⟨ho1, h⟩ := h
  refine zx_callVi (As := []) (rest := []) hF (c_X6_see a0 m ka0 ho1) (zc_X6_next_X6_see S) ka0 (by decide) rfl dX6_next_80 rfl rfl (Nat.le_of_ble_eq_true rfl) ⟨Nat.zero_le _, Nat.zero_le _⟩ (fun r2 m2 hq => ?_)
  obtain ⟨hme, hq⟩ := hq
  subst m2
  replace h := h r2 hq
  refine zx_bipush (v := 97) h0 dX6_next_83 (by decide) ?_
  refine zx_bipush (v := 122) h0 dX6_next_85 (by decide) ?_
  obtain ⟨ho3, h⟩ := h
  refine zx_callSi (As := [.int r2, .int 97, .int 122]) (rest := []) hF (c_X6_in r2 97 122 m  ho3) (zc_X6_next_X6_in S)  dX6_next_87 rfl rfl (Nat.le_of_ble_eq_true rfl) ⟨Nat.zero_le _, Nat.zero_le _⟩ (fun r4 m4 hq => ?_)
  obtain ⟨hme, hq⟩ := hq
  subst m4
  replace h := h r4 hq
  refine zx_if_eq (tgt := 126) h0 dX6_next_90 (by decide) (fun q => ?_) (fun q => ?_)
  · replace h := h.1 q
    refine zx_aload_n h0 0 dX6_next_126 rfl ?_
    refine zx_iload_n h0 1 dX6_next_127 rfl ?_
    refine zx_bipush (v := 8) h0 dX6_next_128 (by decide) ?_
    refine zx_icmp_le (tgt := 137) h0 dX6_next_130 (by decide) (fun q => ?_) (fun q => ?_)
    · replace h := h.1 q
      refine zx_aload_n h0 0 dX6_next_137 rfl ?_
      refine zx_get hF ka0 (by decide) rfl zi_X6_next_6 30 (by decide) zn_X6_next_183 rfl rfl dX6_next_138 ?_
      refine zp_630 hF ka0 zi_X6_next_6 zn_X6_next_183 dX6_next_141 ?_
      refine zx_aload_n h0 0 dX6_next_144 rfl ?_
      refine zx_iconst (v := 2) h0 dX6_next_145 (by decide) ?_
      refine zp_628 hF ka0 zi_X6_next_6 zn_X6_next_187 dX6_next_146 ?_
      refine zx_goto (tgt := 295) h0 dX6_next_149 (by decide) ?_
      exact zx_vret hF hQ dX6_next_295 h
    · replace h := h.2 q
      refine zx_lconst (v := 0) h0 dX6_next_133 (by decide) ?_
      refine zx_goto (tgt := 141) h0 dX6_next_134 (by decide) ?_
      refine zp_630 hF ka0 zi_X6_next_6 zn_X6_next_183 dX6_next_141 ?_
      refine zx_aload_n h0 0 dX6_next_144 rfl ?_
      refine zx_iconst (v := 2) h0 dX6_next_145 (by decide) ?_
      refine zp_628 hF ka0 zi_X6_next_6 zn_X6_next_187 dX6_next_146 ?_
      refine zx_goto (tgt := 295) h0 dX6_next_149 (by decide) ?_
      exact zx_vret hF hQ dX6_next_295 h
  · replace h := h.2 q
    refine zx_aload_n h0 0 dX6_next_93 rfl ?_
    refine zx_aload_n h0 0 dX6_next_94 rfl ?_
    refine zx_get hF ka0 (by decide) rfl zi_X6_next_6 30 (by decide) zn_X6_next_183 rfl rfl dX6_next_95 ?_
    refine zx_bipush (v := 8) h0 dX6_next_98 (by decide) ?_
    refine zx_lshl (v := ((zJ m 630 a0 0) <<< ((8 : Int32).toInt64 &&& 63))) h0 dX6_next_100 rfl ?_
    refine zx_aload_n h0 0 dX6_next_101 rfl ?_
    refine zx_callVi (As := []) (rest := [.long ((zJ m 630 a0 0) <<< ((8 : Int32).toInt64 &&& 63)), .ref a0]) hF (c_X6_see a0 m ka0 ho1) (zc_X6_next_X6_see S) ka0 (by decide) rfl dX6_next_102 rfl rfl (Nat.le_of_ble_eq_true rfl) ⟨Nat.zero_le _, Nat.zero_le _⟩ (fun r5 m5 hq => ?_)
    obtain ⟨hme, hq⟩ := hq
    subst m5
    replace h := h r5 hq
    refine zx_i2l (v := ((r5 : Int32).toInt64)) h0 dX6_next_105 rfl ?_
    refine zx_lor h0 dX6_next_106 ?_
    refine zp_630 hF ka0 zi_X6_next_6 zn_X6_next_183 dX6_next_107 ?_
    refine zx_aload_n h0 0 dX6_next_110 rfl ?_
    refine zx_dup h0 dX6_next_111 rfl ?_
    refine zx_get hF ka0 (by decide) rfl zi_X6_next_6 25 (by decide) zn_X6_next_167 rfl rfl dX6_next_112 ?_
    refine zx_topI (zI_J) ?_
    refine zx_iconst (v := 1) h0 dX6_next_115 (by decide) ?_
    refine zx_iadd h0 dX6_next_116 ?_
    refine zp_625 hF ka0 zi_X6_next_6 zn_X6_next_167 dX6_next_117 ?_
    refine zx_iinc (v := (x2 + 1)) (L' := [(2, .int (x2 + 1)), (0, .ref a0)]) h0 1 dX6_next_120 rfl rfl (by decide) rfl ?_
    refine zx_goto (tgt := 79) h0 dX6_next_123 (by decide) ?_
    exact zx_sub [1, 0] rfl h
set_option maxRecDepth 100000 in
set_option maxHeartbeats 4000000 in
theorem sg_X6_next_168 {C : zC} {G : zG} {Qc : Array Value → State → Outcome → State → Prop} (S : St_X6_next C G Qc) {P_X6_see : Nat → zM → Prop} {Q_X6_see : Nat → zM → Int32 → Prop} (c_X6_see : Con_X6_see (zl C) G P_X6_see Q_X6_see) {P_X6_in : Int32 → Int32 → Int32 → zM → Prop} {Q_X6_in : Int32 → Int32 → Int32 → zM → Int32 → Prop} (c_X6_in : Con_X6_in (zl C) G P_X6_in Q_X6_in) {a0 : Nat} {x2 : Int32} {m : zM} (ka0 : zK G a0 = some (6, a0))
    (h : (P_X6_see a0 m) ∧ (∀ (r2 : Int32), Q_X6_see a0 m r2 → ((P_X6_in r2 48 57 m) ∧ (∀ (r4 : Int32), Q_X6_in r2 48 57 m r4 → ((r4 = 0 → ((x2 ≤ 4 → (zRet C G Qc none (zsI m 628 a0 0 3))) ∧ (¬ x2 ≤ 4 → (zRet C G Qc none (zsI m 628 a0 0 1))))) ∧ (¬ r4 = 0 → ((4 ≤ x2 → (Pt_X6_next_210 C G a0 x2 (zI m 629 a0 0) m)) ∧ (¬ 4 ≤ x2 → (∀ (r5 : Int32), Q_X6_see a0 m r5 → (Pt_X6_next_210 C G a0 x2 (((10 * (zI m 629 a0 0)) + r5) - 48) m)))))))))) : Pt_X6_next_168 C G a0 x2 m := by
  obtain ⟨hF, hQ, hR⟩ := id S
  have h0 : zF0 C cX6_next 3 wsX6_next RX6 := hF.1
  have hL := hF.2.2.1
  unfold Pt_X6_next_168
  refine zx_aload_n h0 0 dX6_next_168 rfl ?_
  obtain ⟨ho1, h⟩ := h
  refine zx_callVi (As := []) (rest := []) hF (c_X6_see a0 m ka0 ho1) (zc_X6_next_X6_see S) ka0 (by decide) rfl dX6_next_169 rfl rfl (Nat.le_of_ble_eq_true rfl) ⟨Nat.zero_le _, Nat.zero_le _⟩ (fun r2 m2 hq => ?_)
  obtain ⟨hme, hq⟩ := hq
  subst m2
  replace h := h r2 hq
  refine zx_bipush (v := 48) h0 dX6_next_172 (by decide) ?_
  refine zx_bipush (v := 57) h0 dX6_next_174 (by decide) ?_
  obtain ⟨ho3, h⟩ := h
  refine zx_callSi (As := [.int r2, .int 48, .int 57]) (rest := []) hF (c_X6_in r2 48 57 m  ho3) (zc_X6_next_X6_in S)  dX6_next_176 rfl rfl (Nat.le_of_ble_eq_true rfl) ⟨Nat.zero_le _, Nat.zero_le _⟩ (fun r4 m4 hq => ?_)
  obtain ⟨hme, hq⟩ := hq
  subst m4
  replace h := h r4 hq
  refine zx_if_eq (tgt := 229) h0 dX6_next_179 (by decide) (fun q => ?_) (fun q => ?_)
  · replace h := h.1 q
    refine zx_aload_n h0 0 dX6_next_229 rfl ?_
    refine zx_iload_n h0 1 dX6_next_230 rfl ?_
    refine zx_iconst (v := 4) h0 dX6_next_231 (by decide) ?_
    refine zx_icmp_le (tgt := 239) h0 dX6_next_232 (by decide) (fun q => ?_) (fun q => ?_)
    · replace h := h.1 q
      refine zx_iconst (v := 3) h0 dX6_next_239 (by decide) ?_
      refine zp_628 hF ka0 zi_X6_next_6 zn_X6_next_187 dX6_next_240 ?_
      refine zx_goto (tgt := 295) h0 dX6_next_243 (by decide) ?_
      exact zx_vret hF hQ dX6_next_295 h
    · replace h := h.2 q
      refine zx_iconst (v := 1) h0 dX6_next_235 (by decide) ?_
      refine zx_goto (tgt := 240) h0 dX6_next_236 (by decide) ?_
      refine zp_628 hF ka0 zi_X6_next_6 zn_X6_next_187 dX6_next_240 ?_
      refine zx_goto (tgt := 295) h0 dX6_next_243 (by decide) ?_
      exact zx_vret hF hQ dX6_next_295 h
  · replace h := h.2 q
    refine zx_aload_n h0 0 dX6_next_182 rfl ?_
    refine zx_iload_n h0 1 dX6_next_183 rfl ?_
    refine zx_iconst (v := 4) h0 dX6_next_184 (by decide) ?_
    refine zx_icmp_ge (tgt := 206) h0 dX6_next_185 (by decide) (fun q => ?_) (fun q => ?_)
    · replace h := h.1 q
      refine zx_aload_n h0 0 dX6_next_206 rfl ?_
      refine zx_get hF ka0 (by decide) rfl zi_X6_next_6 29 (by decide) zn_X6_next_180 rfl rfl dX6_next_207 ?_
      exact zx_sub [0, 1] rfl h
    · replace h := h.2 q
      refine zx_bipush (v := 10) h0 dX6_next_188 (by decide) ?_
      refine zx_aload_n h0 0 dX6_next_190 rfl ?_
      refine zx_get hF ka0 (by decide) rfl zi_X6_next_6 29 (by decide) zn_X6_next_180 rfl rfl dX6_next_191 ?_
      refine zx_imul h0 dX6_next_194 ?_
      refine zx_aload_n h0 0 dX6_next_195 rfl ?_
      refine zx_callVi (As := []) (rest := [.int (10 * (zI m 629 a0 0)), .ref a0]) hF (c_X6_see a0 m ka0 ho1) (zc_X6_next_X6_see S) ka0 (by decide) rfl dX6_next_196 rfl rfl (Nat.le_of_ble_eq_true rfl) ⟨Nat.zero_le _, Nat.zero_le _⟩ (fun r5 m5 hq => ?_)
      obtain ⟨hme, hq⟩ := hq
      subst m5
      replace h := h r5 hq
      refine zx_iadd h0 dX6_next_199 ?_
      refine zx_bipush (v := 48) h0 dX6_next_200 (by decide) ?_
      refine zx_isub h0 dX6_next_202 ?_
      refine zx_goto (tgt := 210) h0 dX6_next_203 (by decide) ?_
      exact zx_sub [0, 1] rfl h
set_option maxRecDepth 100000 in
set_option maxHeartbeats 4000000 in
theorem sg_X6_next_210 {C : zC} {G : zG} {Qc : Array Value → State → Outcome → State → Prop} (S : St_X6_next C G Qc) {a0 : Nat} {x2 : Int32} {s0 : Int32} {m : zM} (ka0 : zK G a0 = some (6, a0))
    (h : Pt_X6_next_168 C G a0 (x2 + 1) (zsI (zsI m 629 a0 0 s0) 625 a0 0 ((zI m 625 a0 0) + 1))) : Pt_X6_next_210 C G a0 x2 s0 m := by
  obtain ⟨hF, hQ, hR⟩ := id S
  have h0 : zF0 C cX6_next 3 wsX6_next RX6 := hF.1
  have hL := hF.2.2.1
  unfold Pt_X6_next_210
  refine zp_629 hF ka0 zi_X6_next_6 zn_X6_next_180 dX6_next_210 ?_
  refine zx_aload_n h0 0 dX6_next_213 rfl ?_
  refine zx_dup h0 dX6_next_214 rfl ?_
  refine zx_get hF ka0 (by decide) rfl zi_X6_next_6 25 (by decide) zn_X6_next_167 rfl rfl dX6_next_215 ?_
  refine zx_topI (zI_n (by decide)) ?_
  refine zx_iconst (v := 1) h0 dX6_next_218 (by decide) ?_
  refine zx_iadd h0 dX6_next_219 ?_
  refine zp_625 hF ka0 zi_X6_next_6 zn_X6_next_167 dX6_next_220 ?_
  refine zx_iinc (v := (x2 + 1)) (L' := [(2, .int (x2 + 1)), (0, .ref a0)]) h0 1 dX6_next_223 rfl rfl (by decide) rfl ?_
  refine zx_goto (tgt := 168) h0 dX6_next_226 (by decide) ?_
  exact zx_sub [1, 0] rfl h
theorem zn_X6_isWord_187 : Cond.fieldLink RX6 187 RX6 (TX6 28).2.1 (TX6 28).2.2.1 ∈ wsX6_isWord := List.mem_of_getElem? (i := 1) rfl
theorem zi_X6_isWord_6 : ∀ w ∈ u_ws RX6 TX6 50, w ∈ wsX6_isWord := fun _ h => List.mem_cons_of_mem _ (List.mem_append_right _ h)
theorem zn_X6_isWord_183 : Cond.fieldLink RX6 183 RX6 (TX6 30).2.1 (TX6 30).2.2.1 ∈ wsX6_isWord := List.mem_of_getElem? (i := 2) rfl
set_option maxRecDepth 100000 in
set_option maxHeartbeats 4000000 in
theorem sg_X6_isWord_0 {C : zC} {G : zG} {Qc : Array Value → State → Outcome → State → Prop} (S : St_X6_isWord C G Qc) {a0 : Nat} {l1 : Int64} {m : zM} (ka0 : zK G a0 = some (6, a0))
    (h : (¬ (zI m 628 a0 0) = 2 → (zRet C G Qc (some (.int 0)) m)) ∧ ((zI m 628 a0 0) = 2 → ((¬ (zJ m 630 a0 0) = l1 → (zRet C G Qc (some (.int 0)) m)) ∧ ((zJ m 630 a0 0) = l1 → (zRet C G Qc (some (.int 1)) m))))) : Pt_X6_isWord_0 C G a0 l1 m := by
  obtain ⟨hF, hQ, hR⟩ := id S
  have h0 : zF0 C cX6_isWord 3 wsX6_isWord RX6 := hF.1
  have hL := hF.2.2.1
  unfold Pt_X6_isWord_0
  refine zx_aload_n h0 0 dX6_isWord_0 rfl ?_
  refine zx_get hF ka0 (by decide) rfl zi_X6_isWord_6 28 (by decide) zn_X6_isWord_187 rfl rfl dX6_isWord_1 ?_
  refine zx_iconst (v := 2) h0 dX6_isWord_4 (by decide) ?_
  refine zx_icmp_ne (tgt := 21) h0 dX6_isWord_5 (by decide) (fun q => ?_) (fun q => ?_)
  · replace h := h.1 q
    refine zx_iconst (v := 0) h0 dX6_isWord_21 (by decide) ?_
    exact zx_zret hF hQ rfl dX6_isWord_22 h
  · replace h := h.2 q
    refine zx_aload_n h0 0 dX6_isWord_8 rfl ?_
    refine zx_get hF ka0 (by decide) rfl zi_X6_isWord_6 30 (by decide) zn_X6_isWord_183 rfl rfl dX6_isWord_9 ?_
    refine zx_lload_n h0 1 dX6_isWord_12 rfl ?_
    refine zx_lcmp_ne (tgt := 21) h0 dX6_isWord_13 dX6_isWord_14 (by decide) (fun q => ?_) (fun q => ?_)
    · replace h := h.1 q
      refine zx_iconst (v := 0) h0 dX6_isWord_21 (by decide) ?_
      exact zx_zret hF hQ rfl dX6_isWord_22 h
    · replace h := h.2 q
      refine zx_iconst (v := 1) h0 dX6_isWord_17 (by decide) ?_
      refine zx_goto (tgt := 22) h0 dX6_isWord_18 (by decide) ?_
      exact zx_zret hF hQ rfl dX6_isWord_22 h
theorem zn_X6_isSign_187 : Cond.fieldLink RX6 187 RX6 (TX6 28).2.1 (TX6 28).2.2.1 ∈ wsX6_isSign := List.mem_of_getElem? (i := 1) rfl
theorem zi_X6_isSign_6 : ∀ w ∈ u_ws RX6 TX6 50, w ∈ wsX6_isSign := fun _ h => List.mem_cons_of_mem _ (List.mem_append_right _ h)
theorem zn_X6_isSign_180 : Cond.fieldLink RX6 180 RX6 (TX6 29).2.1 (TX6 29).2.2.1 ∈ wsX6_isSign := List.mem_of_getElem? (i := 2) rfl
set_option maxRecDepth 100000 in
set_option maxHeartbeats 4000000 in
theorem sg_X6_isSign_0 {C : zC} {G : zG} {Qc : Array Value → State → Outcome → State → Prop} (S : St_X6_isSign C G Qc) {a0 : Nat} {x1 : Int32} {m : zM} (ka0 : zK G a0 = some (6, a0))
    (h : (¬ (zI m 628 a0 0) = 4 → (zRet C G Qc (some (.int 0)) m)) ∧ ((zI m 628 a0 0) = 4 → ((¬ (zI m 629 a0 0) = x1 → (zRet C G Qc (some (.int 0)) m)) ∧ ((zI m 629 a0 0) = x1 → (zRet C G Qc (some (.int 1)) m))))) : Pt_X6_isSign_0 C G a0 x1 m := by
  obtain ⟨hF, hQ, hR⟩ := id S
  have h0 : zF0 C cX6_isSign 2 wsX6_isSign RX6 := hF.1
  have hL := hF.2.2.1
  unfold Pt_X6_isSign_0
  refine zx_aload_n h0 0 dX6_isSign_0 rfl ?_
  refine zx_get hF ka0 (by decide) rfl zi_X6_isSign_6 28 (by decide) zn_X6_isSign_187 rfl rfl dX6_isSign_1 ?_
  refine zx_iconst (v := 4) h0 dX6_isSign_4 (by decide) ?_
  refine zx_icmp_ne (tgt := 20) h0 dX6_isSign_5 (by decide) (fun q => ?_) (fun q => ?_)
  · replace h := h.1 q
    refine zx_iconst (v := 0) h0 dX6_isSign_20 (by decide) ?_
    exact zx_zret hF hQ rfl dX6_isSign_21 h
  · replace h := h.2 q
    refine zx_aload_n h0 0 dX6_isSign_8 rfl ?_
    refine zx_get hF ka0 (by decide) rfl zi_X6_isSign_6 29 (by decide) zn_X6_isSign_180 rfl rfl dX6_isSign_9 ?_
    refine zx_iload_n h0 1 dX6_isSign_12 rfl ?_
    refine zx_icmp_ne (tgt := 20) h0 dX6_isSign_13 (by decide) (fun q => ?_) (fun q => ?_)
    · replace h := h.1 q
      refine zx_iconst (v := 0) h0 dX6_isSign_20 (by decide) ?_
      exact zx_zret hF hQ rfl dX6_isSign_21 h
    · replace h := h.2 q
      refine zx_iconst (v := 1) h0 dX6_isSign_16 (by decide) ?_
      refine zx_goto (tgt := 21) h0 dX6_isSign_17 (by decide) ?_
      exact zx_zret hF hQ rfl dX6_isSign_21 h
theorem zn_X6_wrong_177 : Cond.fieldLink RX6 177 RX6 (TX6 27).2.1 (TX6 27).2.2.1 ∈ wsX6_wrong := List.mem_of_getElem? (i := 1) rfl
theorem zi_X6_wrong_6 : ∀ w ∈ u_ws RX6 TX6 50, w ∈ wsX6_wrong := fun _ h => List.mem_cons_of_mem _ (List.mem_append_right _ h)
theorem zn_X6_wrong_190 : Cond.fieldLink RX6 190 RX6 (TX6 31).2.1 (TX6 31).2.2.1 ∈ wsX6_wrong := List.mem_of_getElem? (i := 2) rfl
set_option maxRecDepth 100000 in
set_option maxHeartbeats 4000000 in
theorem sg_X6_wrong_0 {C : zC} {G : zG} {Qc : Array Value → State → Outcome → State → Prop} (S : St_X6_wrong C G Qc) {a0 : Nat} {m : zM} (ka0 : zK G a0 = some (6, a0))
    (h : zRet C G Qc (some (.int 0)) (zsI m 631 a0 0 (zI m 627 a0 0))) : Pt_X6_wrong_0 C G a0 m := by
  obtain ⟨hF, hQ, hR⟩ := id S
  have h0 : zF0 C cX6_wrong 1 wsX6_wrong RX6 := hF.1
  have hL := hF.2.2.1
  unfold Pt_X6_wrong_0
  refine zx_aload_n h0 0 dX6_wrong_0 rfl ?_
  refine zx_aload_n h0 0 dX6_wrong_1 rfl ?_
  refine zx_get hF ka0 (by decide) rfl zi_X6_wrong_6 27 (by decide) zn_X6_wrong_177 rfl rfl dX6_wrong_2 ?_
  refine zp_631 hF ka0 zi_X6_wrong_6 zn_X6_wrong_190 dX6_wrong_5 ?_
  refine zx_iconst (v := 0) h0 dX6_wrong_8 (by decide) ?_
  exact zx_zret hF hQ rfl dX6_wrong_9 h
theorem zn_X6_later_193 : Cond.fieldLink RX6 193 RX6 (TX6 32).2.1 (TX6 32).2.2.1 ∈ wsX6_later := List.mem_of_getElem? (i := 1) rfl
theorem zi_X6_later_6 : ∀ w ∈ u_ws RX6 TX6 50, w ∈ wsX6_later := fun _ h => List.mem_cons_of_mem _ (List.mem_append_right _ h)
theorem zn_X6_later_196 : Cond.fieldLink RX6 196 RX6 (TX6 33).2.1 (TX6 33).2.2.1 ∈ wsX6_later := List.mem_of_getElem? (i := 2) rfl
set_option maxRecDepth 100000 in
set_option maxHeartbeats 4000000 in
theorem sg_X6_later_0 {C : zC} {G : zG} {Qc : Array Value → State → Outcome → State → Prop} (S : St_X6_later C G Qc) {a0 : Nat} {x1 : Int32} {x2 : Int32} {m : zM} (ka0 : zK G a0 = some (6, a0))
    (h : (¬ (zI m 632 a0 0) = 0 → (zRet C G Qc none m)) ∧ ((zI m 632 a0 0) = 0 → (zRet C G Qc none (zsI (zsI m 632 a0 0 x1) 633 a0 0 x2)))) : Pt_X6_later_0 C G a0 x1 x2 m := by
  obtain ⟨hF, hQ, hR⟩ := id S
  have h0 : zF0 C cX6_later 3 wsX6_later RX6 := hF.1
  have hL := hF.2.2.1
  unfold Pt_X6_later_0
  refine zx_aload_n h0 0 dX6_later_0 rfl ?_
  refine zx_get hF ka0 (by decide) rfl zi_X6_later_6 32 (by decide) zn_X6_later_193 rfl rfl dX6_later_1 ?_
  refine zx_if_ne (tgt := 17) h0 dX6_later_4 (by decide) (fun q => ?_) (fun q => ?_)
  · replace h := h.1 q
    exact zx_vret hF hQ dX6_later_17 h
  · replace h := h.2 q
    refine zx_aload_n h0 0 dX6_later_7 rfl ?_
    refine zx_iload_n h0 1 dX6_later_8 rfl ?_
    refine zp_632 hF ka0 zi_X6_later_6 zn_X6_later_193 dX6_later_9 ?_
    refine zx_aload_n h0 0 dX6_later_12 rfl ?_
    refine zx_iload_n h0 2 dX6_later_13 rfl ?_
    refine zp_633 hF ka0 zi_X6_later_6 zn_X6_later_196 dX6_later_14 ?_
    exact zx_vret hF hQ dX6_later_17 h
theorem zc_X6_need_X6_isSign {C : zC} {G : zG} {Qc : Array Value → State → Outcome → State → Prop} (S : St_X6_need C G Qc) : CallW (zRm C) (zs C) (zar C) RX6 RX6 199 yX6_isSign cX6_isSign 2 (some .boolean) wsX6_isSign rm_X6_isSign 0 0 1 := cwV 1 S.1.1.2.2.2.2 gX6_need_X6_isSign rfl rfl rfl (by decide +kernel) (by rw [S.2.2]; exact ⟨Nat.le_of_ble_eq_true rfl, Nat.le_of_ble_eq_true rfl⟩)
theorem zc_X6_need_X6_next {C : zC} {G : zG} {Qc : Array Value → State → Outcome → State → Prop} (S : St_X6_need C G Qc) : CallW (zRm C) (zs C) (zar C) RX6 RX6 206 yX6_next cX6_next 3 none wsX6_next rm_X6_next 0 0 0 := cwV 0 S.1.1.2.2.2.2 gX6_need_X6_next rfl rfl rfl (by decide +kernel) (by rw [S.2.2]; exact ⟨Nat.le_of_ble_eq_true rfl, Nat.le_of_ble_eq_true rfl⟩)
theorem zc_X6_need_X6_wrong {C : zC} {G : zG} {Qc : Array Value → State → Outcome → State → Prop} (S : St_X6_need C G Qc) : CallW (zRm C) (zs C) (zar C) RX6 RX6 202 yX6_wrong cX6_wrong 1 (some .boolean) wsX6_wrong rm_X6_wrong 0 0 0 := cwV 0 S.1.1.2.2.2.2 gX6_need_X6_wrong rfl rfl rfl (by decide +kernel) (by rw [S.2.2]; exact ⟨Nat.le_of_ble_eq_true rfl, Nat.le_of_ble_eq_true rfl⟩)
set_option maxRecDepth 100000 in
set_option maxHeartbeats 4000000 in
theorem sg_X6_need_0 {C : zC} {G : zG} {Qc : Array Value → State → Outcome → State → Prop} (S : St_X6_need C G Qc) {P_X6_isSign : Nat → Int32 → zM → Prop} {Q_X6_isSign : Nat → Int32 → zM → Int32 → Prop} (c_X6_isSign : Con_X6_isSign (zl C) G P_X6_isSign Q_X6_isSign) {P_X6_next : Nat → zM → Prop} {Q_X6_next : Nat → zM → zM → Prop} (c_X6_next : Con_X6_next (zl C) G P_X6_next Q_X6_next) {P_X6_wrong : Nat → zM → Prop} {Q_X6_wrong : Nat → zM → Int32 → zM → Prop} (c_X6_wrong : Con_X6_wrong (zl C) G P_X6_wrong Q_X6_wrong) {a0 : Nat} {x1 : Int32} {m : zM} (ka0 : zK G a0 = some (6, a0))
    (h : (P_X6_isSign a0 x1 m) ∧ (∀ (r2 : Int32), Q_X6_isSign a0 x1 m r2 → ((¬ r2 = 0 → ((P_X6_next a0 m) ∧ (∀ (m4 : zM), Q_X6_next a0 m m4 → (zRet C G Qc (some (.int 1)) m4)))) ∧ (r2 = 0 → ((P_X6_wrong a0 m) ∧ (∀ (r6 : Int32) (m6 : zM), Q_X6_wrong a0 m r6 m6 → ((r6 = 0 ∨ r6 = 1) ∧ (zRet C G Qc (some (.int r6)) m6)))))))) : Pt_X6_need_0 C G a0 x1 m := by
  obtain ⟨hF, hQ, hR⟩ := id S
  have h0 : zF0 C cX6_need 2 wsX6_need RX6 := hF.1
  have hL := hF.2.2.1
  unfold Pt_X6_need_0
  refine zx_aload_n h0 0 dX6_need_0 rfl ?_
  refine zx_iload_n h0 1 dX6_need_1 rfl ?_
  obtain ⟨ho1, h⟩ := h
  refine zx_callVi (As := [.int x1]) (rest := []) hF (c_X6_isSign a0 x1 m ka0 ho1) (zc_X6_need_X6_isSign S) ka0 (by decide) rfl dX6_need_2 rfl rfl (Nat.le_of_ble_eq_true rfl) ⟨Nat.zero_le _, Nat.zero_le _⟩ (fun r2 m2 hq => ?_)
  obtain ⟨hme, hq⟩ := hq
  subst m2
  replace h := h r2 hq
  refine zx_if_ne (tgt := 13) h0 dX6_need_5 (by decide) (fun q => ?_) (fun q => ?_)
  · replace h := h.1 q
    refine zx_aload_n h0 0 dX6_need_13 rfl ?_
    obtain ⟨ho3, h⟩ := h
    refine zx_callVv (As := []) (rest := []) hF (c_X6_next a0 m ka0 ho3) (zc_X6_need_X6_next S) ka0 (by decide) rfl dX6_need_14 rfl rfl (Nat.le_of_ble_eq_true rfl) ⟨Nat.zero_le _, Nat.zero_le _⟩ (fun m4 hq => ?_)
    replace h := h m4 hq
    refine zx_iconst (v := 1) h0 dX6_need_17 (by decide) ?_
    exact zx_zret hF hQ rfl dX6_need_18 h
  · replace h := h.2 q
    refine zx_aload_n h0 0 dX6_need_8 rfl ?_
    obtain ⟨ho5, h⟩ := h
    refine zx_callVi (As := []) (rest := []) hF (c_X6_wrong a0 m ka0 ho5) (zc_X6_need_X6_wrong S) ka0 (by decide) rfl dX6_need_9 rfl rfl (Nat.le_of_ble_eq_true rfl) ⟨Nat.zero_le _, Nat.zero_le _⟩ (fun r6 m6 hq => ?_)
    replace h := h r6 m6 hq
    obtain ⟨ho7, h⟩ := h
    exact zx_zret hF hQ (z_nb ho7) dX6_need_12 h
