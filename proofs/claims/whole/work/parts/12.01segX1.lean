theorem zn_X1_measure_9 : Cond.fieldLink RX1 9 RX1 (TX1 5).2.1 (TX1 5).2.2.1 ∈ wsX1_measure := List.mem_of_getElem? (i := 1) rfl
theorem zi_X1_measure_1 : ∀ w ∈ u_ws RX1 TX1 9, w ∈ wsX1_measure := fun _ h => List.mem_cons_of_mem _ (List.mem_append_left _ (List.mem_append_right _ h))
theorem zn_X1_measure_k53 : Cond.constant RX1 53 1000000 ∈ wsX1_measure := List.mem_of_getElem? (i := 2) rfl
theorem zn_X1_measure_37 : Cond.fieldLink RX1 37 RX1 (TX1 6).2.1 (TX1 6).2.2.1 ∈ wsX1_measure := List.mem_of_getElem? (i := 3) rfl
theorem zn_X1_measure_40 : Cond.fieldLink RX1 40 RX1 (TX1 7).2.1 (TX1 7).2.2.1 ∈ wsX1_measure := List.mem_of_getElem? (i := 4) rfl
theorem zn_X1_measure_34 : Cond.fieldLink RX1 34 RX1 (TX1 4).2.1 (TX1 4).2.2.1 ∈ wsX1_measure := List.mem_of_getElem? (i := 5) rfl
theorem zn_X1_measure_25 : Cond.fieldLink RX1 25 RX1 (TX1 1).2.1 (TX1 1).2.2.1 ∈ wsX1_measure := List.mem_of_getElem? (i := 6) rfl
theorem zn_X1_measure_28 : Cond.fieldLink RX1 28 RX1 (TX1 2).2.1 (TX1 2).2.2.1 ∈ wsX1_measure := List.mem_of_getElem? (i := 7) rfl
theorem zn_X1_measure_31 : Cond.fieldLink RX1 31 RX1 (TX1 3).2.1 (TX1 3).2.2.1 ∈ wsX1_measure := List.mem_of_getElem? (i := 8) rfl
theorem zn_X1_measure_ml54 : Cond.methodLink RX1 54 Lib.Math.min.name ∈ wsX1_measure := List.mem_of_getElem? (i := 9) rfl
theorem zn_X1_measure_ms54 : Cond.static Lib.Math.min.name ∈ wsX1_measure := List.mem_of_getElem? (i := 10) rfl
theorem zn_X1_measure_mi : Cond.initialized "java/lang/Math" ∈ wsX1_measure := List.mem_of_getElem? (i := 11) rfl
theorem zn_X1_measure_mc54 : Cond.code Lib.Math.min.name Lib.Math.min.code 2 (some .int) ∈ wsX1_measure := List.mem_of_getElem? (i := 12) rfl
theorem zn_X1_measure_ml60 : Cond.methodLink RX1 60 Lib.Math.max.name ∈ wsX1_measure := List.mem_of_getElem? (i := 13) rfl
theorem zn_X1_measure_ms60 : Cond.static Lib.Math.max.name ∈ wsX1_measure := List.mem_of_getElem? (i := 14) rfl
theorem zn_X1_measure_mc60 : Cond.code Lib.Math.max.name Lib.Math.max.code 2 (some .int) ∈ wsX1_measure := List.mem_of_getElem? (i := 15) rfl
theorem zc_X1_measure_X2_pointsFor {C : zC} {G : zG} {Qc : Array Value → State → Outcome → State → Prop} (S : St_X1_measure C G Qc) : CallW (zRm C) (zs C) (zar C) RX1 RX2 47 yX2_pointsFor cX2_pointsFor 7 (some .int) wsX2_pointsFor rm_X2_pointsFor 0 0 4 := cwV 4 S.1.1.2.2.2.2 gX1_measure_X2_pointsFor rfl rfl rfl (by decide +kernel) (by rw [S.2.2]; exact ⟨Nat.le_of_ble_eq_true rfl, Nat.le_of_ble_eq_true rfl⟩)
set_option maxRecDepth 100000 in
set_option maxHeartbeats 4000000 in
theorem sg_X1_measure_0 {C : zC} {G : zG} {Qc : Array Value → State → Outcome → State → Prop} (S : St_X1_measure C G Qc) {a0 : Nat} {a1 : Nat} {m : zM} (ka0 : zK G a0 = some (1, a0)) (ka1 : zK G a1 = some (2, a1))
    (h : ((zI m 105 a0 0) = 0 → (Pt_X1_measure_24 C G a0 a1 (zI m 104 a0 0) (zsI (zsI m 106 a0 0 1000000) 107 a0 0 0))) ∧ (¬ (zI m 105 a0 0) = 0 → (zRet C G Qc none m))) : Pt_X1_measure_0 C G a0 a1 m := by
  obtain ⟨hF, hQ, hR⟩ := id S
  have h0 : zF0 C cX1_measure 4 wsX1_measure RX1 := hF.1
  have hL := hF.2.2.1
  unfold Pt_X1_measure_0
  refine zx_aload_n h0 0 dX1_measure_0 rfl ?_
  refine zx_get hF ka0 (by decide) rfl zi_X1_measure_1 5 (by decide) zn_X1_measure_9 rfl rfl dX1_measure_1 ?_
  refine zx_if_eq (tgt := 8) h0 dX1_measure_4 (by decide) (fun q => ?_) (fun q => ?_)
  · replace h := h.1 q
    refine zx_aload_n h0 0 dX1_measure_8 rfl ?_
    refine zx_ldc (v := 1000000) h0 zn_X1_measure_k53 dX1_measure_9 ?_
    refine zp_106 hF ka0 zi_X1_measure_1 zn_X1_measure_37 dX1_measure_11 ?_
    refine zx_aload_n h0 0 dX1_measure_14 rfl ?_
    refine zx_iconst (v := 0) h0 dX1_measure_15 (by decide) ?_
    refine zp_107 hF ka0 zi_X1_measure_1 zn_X1_measure_40 dX1_measure_16 ?_
    refine zx_aload_n h0 0 dX1_measure_19 rfl ?_
    refine zx_get hF ka0 (by decide) rfl zi_X1_measure_1 4 (by decide) zn_X1_measure_34 rfl rfl dX1_measure_20 ?_
    refine zx_topI ((zI_n (by decide)).trans (zI_n (by decide))) ?_
    refine zx_istore_n (L' := [(2, .int (zI m 104 a0 0)), (0, .ref a0), (1, .ref a1)]) h0 dX1_measure_23 (by decide) rfl ?_
    exact zx_sub [1, 2, 0] rfl h
  · replace h := h.2 q
    exact zx_vret hF hQ dX1_measure_7 h
set_option maxRecDepth 100000 in
set_option maxHeartbeats 4000000 in
theorem sg_X1_measure_24 {C : zC} {G : zG} {Qc : Array Value → State → Outcome → State → Prop} (S : St_X1_measure C G Qc) {P_X2_pointsFor : Nat → Int32 → Int32 → Int32 → Int32 → zM → Prop} {Q_X2_pointsFor : Nat → Int32 → Int32 → Int32 → Int32 → zM → Int32 → Prop} (c_X2_pointsFor : Con_X2_pointsFor (zl C) G P_X2_pointsFor Q_X2_pointsFor) {a0 : Nat} {a1 : Nat} {x2 : Int32} {m : zM} (ka0 : zK G a0 = some (1, a0)) (ka1 : zK G a1 = some (2, a1))
    (h : (63 < x2 → (zRet C G Qc none m)) ∧ (¬ 63 < x2 → ((¬ (x2 &&& (zI m 104 a0 0)) = (zI m 104 a0 0) → (Pt_X1_measure_24 C G a0 a1 (x2 + 1) m)) ∧ ((x2 &&& (zI m 104 a0 0)) = (zI m 104 a0 0) → ((P_X2_pointsFor a1 (zI m 101 a0 0) (zI m 102 a0 0) (zI m 103 a0 0) x2 m) ∧ (∀ (r2 : Int32), Q_X2_pointsFor a1 (zI m 101 a0 0) (zI m 102 a0 0) (zI m 103 a0 0) x2 m r2 → (Pt_X1_measure_24 C G a0 a1 (x2 + 1) (zsI (zsI m 106 a0 0 (if r2 < (zI m 106 a0 0) then r2 else (zI m 106 a0 0))) 107 a0 0 (if (zI m 107 a0 0) < r2 then r2 else (zI m 107 a0 0)))))))))) : Pt_X1_measure_24 C G a0 a1 x2 m := by
  obtain ⟨hF, hQ, hR⟩ := id S
  have h0 : zF0 C cX1_measure 4 wsX1_measure RX1 := hF.1
  have hL := hF.2.2.1
  unfold Pt_X1_measure_24
  refine zx_iload_n h0 2 dX1_measure_24 rfl ?_
  refine zx_bipush (v := 63) h0 dX1_measure_25 (by decide) ?_
  refine zx_icmp_gt (tgt := 91) h0 dX1_measure_27 (by decide) (fun q => ?_) (fun q => ?_)
  · replace h := h.1 q
    exact zx_vret hF hQ dX1_measure_91 h
  · replace h := h.2 q
    refine zx_iload_n h0 2 dX1_measure_30 rfl ?_
    refine zx_aload_n h0 0 dX1_measure_31 rfl ?_
    refine zx_get hF ka0 (by decide) rfl zi_X1_measure_1 4 (by decide) zn_X1_measure_34 rfl rfl dX1_measure_32 ?_
    refine zx_iand h0 dX1_measure_35 ?_
    refine zx_aload_n h0 0 dX1_measure_36 rfl ?_
    refine zx_get hF ka0 (by decide) rfl zi_X1_measure_1 4 (by decide) zn_X1_measure_34 rfl rfl dX1_measure_37 ?_
    refine zx_icmp_ne (tgt := 85) h0 dX1_measure_40 (by decide) (fun q => ?_) (fun q => ?_)
    · replace h := h.1 q
      refine zx_iinc (v := (x2 + 1)) (L' := [(2, .int (x2 + 1)), (0, .ref a0), (1, .ref a1)]) h0 2 dX1_measure_85 rfl rfl (by decide) rfl ?_
      refine zx_goto (tgt := 24) h0 dX1_measure_88 (by decide) ?_
      exact zx_sub [1, 2, 0] rfl h
    · replace h := h.2 q
      refine zx_aload_n h0 1 dX1_measure_43 rfl ?_
      refine zx_aload_n h0 0 dX1_measure_44 rfl ?_
      refine zx_get hF ka0 (by decide) rfl zi_X1_measure_1 1 (by decide) zn_X1_measure_25 rfl rfl dX1_measure_45 ?_
      refine zx_aload_n h0 0 dX1_measure_48 rfl ?_
      refine zx_get hF ka0 (by decide) rfl zi_X1_measure_1 2 (by decide) zn_X1_measure_28 rfl rfl dX1_measure_49 ?_
      refine zx_aload_n h0 0 dX1_measure_52 rfl ?_
      refine zx_get hF ka0 (by decide) rfl zi_X1_measure_1 3 (by decide) zn_X1_measure_31 rfl rfl dX1_measure_53 ?_
      refine zx_iload_n h0 2 dX1_measure_56 rfl ?_
      obtain ⟨ho1, h⟩ := h
      refine zx_callVi (As := [.int (zI m 101 a0 0), .int (zI m 102 a0 0), .int (zI m 103 a0 0), .int x2]) (rest := []) hF (c_X2_pointsFor a1 (zI m 101 a0 0) (zI m 102 a0 0) (zI m 103 a0 0) x2 m ka1 ho1) (zc_X1_measure_X2_pointsFor S) ka1 (by decide) rfl dX1_measure_57 rfl rfl (Nat.le_of_ble_eq_true rfl) ⟨Nat.zero_le _, Nat.zero_le _⟩ (fun r2 m2 hq => ?_)
      obtain ⟨hme, hq⟩ := hq
      subst m2
      replace h := h r2 hq
      refine zx_istore_n (L' := [(3, .int r2), (0, .ref a0), (1, .ref a1), (2, .int x2)]) h0 dX1_measure_60 (by decide) rfl ?_
      refine zx_aload_n h0 1 dX1_measure_61 rfl ?_
      refine zx_aload_n h0 1 dX1_measure_62 rfl ?_
      refine zx_get hF ka0 (by decide) rfl zi_X1_measure_1 6 (by decide) zn_X1_measure_37 rfl rfl dX1_measure_63 ?_
      refine zx_iload_n h0 0 dX1_measure_66 rfl ?_
      refine zx_mmin h0 zn_X1_measure_ml54 zn_X1_measure_ms54 zn_X1_measure_mi zn_X1_measure_mc54 (by rw [hR]; exact Nat.le_of_ble_eq_true rfl) (by rw [hR]; exact Nat.le_of_ble_eq_true rfl) (Nat.zero_le _) (Nat.zero_le _) dX1_measure_67 ?_
      refine zp_106 hF ka0 zi_X1_measure_1 zn_X1_measure_37 dX1_measure_70 ?_
      refine zx_aload_n h0 1 dX1_measure_73 rfl ?_
      refine zx_aload_n h0 1 dX1_measure_74 rfl ?_
      refine zx_get hF ka0 (by decide) rfl zi_X1_measure_1 7 (by decide) zn_X1_measure_40 rfl rfl dX1_measure_75 ?_
      refine zx_topI (zI_n (by decide)) ?_
      refine zx_iload_n h0 0 dX1_measure_78 rfl ?_
      refine zx_mmax h0 zn_X1_measure_ml60 zn_X1_measure_ms60 zn_X1_measure_mi zn_X1_measure_mc60 (by rw [hR]; exact Nat.le_of_ble_eq_true rfl) (by rw [hR]; exact Nat.le_of_ble_eq_true rfl) (Nat.zero_le _) (Nat.zero_le _) dX1_measure_79 ?_
      refine zp_107 hF ka0 zi_X1_measure_1 zn_X1_measure_40 dX1_measure_82 ?_
      refine zx_iinc (v := (x2 + 1)) (L' := [(2, .int (x2 + 1)), (3, .int r2), (0, .ref a0), (1, .ref a1)]) h0 3 dX1_measure_85 rfl rfl (by decide) rfl ?_
      refine zx_goto (tgt := 24) h0 dX1_measure_88 (by decide) ?_
      exact zx_sub [2, 3, 0] rfl h
theorem zn_X1_settle_9 : Cond.fieldLink RX1 9 RX1 (TX1 5).2.1 (TX1 5).2.2.1 ∈ wsX1_settle := List.mem_of_getElem? (i := 1) rfl
theorem zi_X1_settle_1 : ∀ w ∈ u_ws RX1 TX1 9, w ∈ wsX1_settle := fun _ h => List.mem_cons_of_mem _ (List.mem_append_right _ h)
theorem zn_X1_settle_37 : Cond.fieldLink RX1 37 RX1 (TX1 6).2.1 (TX1 6).2.2.1 ∈ wsX1_settle := List.mem_of_getElem? (i := 2) rfl
theorem zn_X1_settle_40 : Cond.fieldLink RX1 40 RX1 (TX1 7).2.1 (TX1 7).2.2.1 ∈ wsX1_settle := List.mem_of_getElem? (i := 3) rfl
set_option maxRecDepth 100000 in
set_option maxHeartbeats 4000000 in
theorem sg_X1_settle_0 {C : zC} {G : zG} {Qc : Array Value → State → Outcome → State → Prop} (S : St_X1_settle C G Qc) {a0 : Nat} {x1 : Int32} {x2 : Int32} {m : zM} (ka0 : zK G a0 = some (1, a0))
    (h : zRet C G Qc none (zsI (zsI (zsI m 105 a0 0 x1) 106 a0 0 x2) 107 a0 0 x2)) : Pt_X1_settle_0 C G a0 x1 x2 m := by
  obtain ⟨hF, hQ, hR⟩ := id S
  have h0 : zF0 C cX1_settle 3 wsX1_settle RX1 := hF.1
  have hL := hF.2.2.1
  unfold Pt_X1_settle_0
  refine zx_aload_n h0 0 dX1_settle_0 rfl ?_
  refine zx_iload_n h0 1 dX1_settle_1 rfl ?_
  refine zp_105 hF ka0 zi_X1_settle_1 zn_X1_settle_9 dX1_settle_2 ?_
  refine zx_aload_n h0 0 dX1_settle_5 rfl ?_
  refine zx_iload_n h0 2 dX1_settle_6 rfl ?_
  refine zp_106 hF ka0 zi_X1_settle_1 zn_X1_settle_37 dX1_settle_7 ?_
  refine zx_aload_n h0 0 dX1_settle_10 rfl ?_
  refine zx_iload_n h0 2 dX1_settle_11 rfl ?_
  refine zp_107 hF ka0 zi_X1_settle_1 zn_X1_settle_40 dX1_settle_12 ?_
  exact zx_vret hF hQ dX1_settle_15 h
theorem zn_X1_mayBring_9 : Cond.fieldLink RX1 9 RX1 (TX1 5).2.1 (TX1 5).2.2.1 ∈ wsX1_mayBring := List.mem_of_getElem? (i := 1) rfl
theorem zi_X1_mayBring_1 : ∀ w ∈ u_ws RX1 TX1 9, w ∈ wsX1_mayBring := fun _ h => List.mem_cons_of_mem _ (List.mem_append_right _ h)
theorem zn_X1_mayBring_34 : Cond.fieldLink RX1 34 RX1 (TX1 4).2.1 (TX1 4).2.2.1 ∈ wsX1_mayBring := List.mem_of_getElem? (i := 2) rfl
set_option maxRecDepth 100000 in
set_option maxHeartbeats 4000000 in
theorem sg_X1_mayBring_0 {C : zC} {G : zG} {Qc : Array Value → State → Outcome → State → Prop} (S : St_X1_mayBring C G Qc) {a0 : Nat} {x1 : Int32} {m : zM} (ka0 : zK G a0 = some (1, a0))
    (h : (¬ (zI m 105 a0 0) = 0 → (zRet C G Qc (some (.int 0)) m)) ∧ ((zI m 105 a0 0) = 0 → ((x1 < 0 → (zRet C G Qc (some (.int 0)) m)) ∧ (¬ x1 < 0 → ((6 ≤ x1 → (zRet C G Qc (some (.int 0)) m)) ∧ (¬ 6 ≤ x1 → ((¬ (((zI m 104 a0 0) >>> (x1 &&& 31)) &&& 1) = 0 → (zRet C G Qc (some (.int 0)) m)) ∧ ((((zI m 104 a0 0) >>> (x1 &&& 31)) &&& 1) = 0 → (zRet C G Qc (some (.int 1)) m))))))))) : Pt_X1_mayBring_0 C G a0 x1 m := by
  obtain ⟨hF, hQ, hR⟩ := id S
  have h0 : zF0 C cX1_mayBring 2 wsX1_mayBring RX1 := hF.1
  have hL := hF.2.2.1
  unfold Pt_X1_mayBring_0
  refine zx_aload_n h0 0 dX1_mayBring_0 rfl ?_
  refine zx_get hF ka0 (by decide) rfl zi_X1_mayBring_1 5 (by decide) zn_X1_mayBring_9 rfl rfl dX1_mayBring_1 ?_
  refine zx_if_ne (tgt := 32) h0 dX1_mayBring_4 (by decide) (fun q => ?_) (fun q => ?_)
  · replace h := h.1 q
    refine zx_iconst (v := 0) h0 dX1_mayBring_32 (by decide) ?_
    exact zx_zret hF hQ rfl dX1_mayBring_33 h
  · replace h := h.2 q
    refine zx_iload_n h0 1 dX1_mayBring_7 rfl ?_
    refine zx_if_lt (tgt := 32) h0 dX1_mayBring_8 (by decide) (fun q => ?_) (fun q => ?_)
    · replace h := h.1 q
      refine zx_iconst (v := 0) h0 dX1_mayBring_32 (by decide) ?_
      exact zx_zret hF hQ rfl dX1_mayBring_33 h
    · replace h := h.2 q
      refine zx_iload_n h0 1 dX1_mayBring_11 rfl ?_
      refine zx_bipush (v := 6) h0 dX1_mayBring_12 (by decide) ?_
      refine zx_icmp_ge (tgt := 32) h0 dX1_mayBring_14 (by decide) (fun q => ?_) (fun q => ?_)
      · replace h := h.1 q
        refine zx_iconst (v := 0) h0 dX1_mayBring_32 (by decide) ?_
        exact zx_zret hF hQ rfl dX1_mayBring_33 h
      · replace h := h.2 q
        refine zx_aload_n h0 0 dX1_mayBring_17 rfl ?_
        refine zx_get hF ka0 (by decide) rfl zi_X1_mayBring_1 4 (by decide) zn_X1_mayBring_34 rfl rfl dX1_mayBring_18 ?_
        refine zx_iload_n h0 1 dX1_mayBring_21 rfl ?_
        refine zx_ishr h0 dX1_mayBring_22 ?_
        refine zx_iconst (v := 1) h0 dX1_mayBring_23 (by decide) ?_
        refine zx_iand h0 dX1_mayBring_24 ?_
        refine zx_if_ne (tgt := 32) h0 dX1_mayBring_25 (by decide) (fun q => ?_) (fun q => ?_)
        · replace h := h.1 q
          refine zx_iconst (v := 0) h0 dX1_mayBring_32 (by decide) ?_
          exact zx_zret hF hQ rfl dX1_mayBring_33 h
        · replace h := h.2 q
          refine zx_iconst (v := 1) h0 dX1_mayBring_28 (by decide) ?_
          refine zx_goto (tgt := 33) h0 dX1_mayBring_29 (by decide) ?_
          exact zx_zret hF hQ rfl dX1_mayBring_33 h
theorem zn_X1_isIn_9 : Cond.fieldLink RX1 9 RX1 (TX1 5).2.1 (TX1 5).2.2.1 ∈ wsX1_isIn := List.mem_of_getElem? (i := 1) rfl
theorem zi_X1_isIn_1 : ∀ w ∈ u_ws RX1 TX1 9, w ∈ wsX1_isIn := fun _ h => List.mem_cons_of_mem _ (List.mem_append_right _ h)
set_option maxRecDepth 100000 in
set_option maxHeartbeats 4000000 in
theorem sg_X1_isIn_0 {C : zC} {G : zG} {Qc : Array Value → State → Outcome → State → Prop} (S : St_X1_isIn C G Qc) {a0 : Nat} {m : zM} (ka0 : zK G a0 = some (1, a0))
    (h : ((zI m 105 a0 0) = 0 → (zRet C G Qc (some (.int 1)) m)) ∧ (¬ (zI m 105 a0 0) = 0 → ((¬ (zI m 105 a0 0) = 1 → (zRet C G Qc (some (.int 0)) m)) ∧ ((zI m 105 a0 0) = 1 → (zRet C G Qc (some (.int 1)) m))))) : Pt_X1_isIn_0 C G a0 m := by
  obtain ⟨hF, hQ, hR⟩ := id S
  have h0 : zF0 C cX1_isIn 1 wsX1_isIn RX1 := hF.1
  have hL := hF.2.2.1
  unfold Pt_X1_isIn_0
  refine zx_aload_n h0 0 dX1_isIn_0 rfl ?_
  refine zx_get hF ka0 (by decide) rfl zi_X1_isIn_1 5 (by decide) zn_X1_isIn_9 rfl rfl dX1_isIn_1 ?_
  refine zx_if_eq (tgt := 15) h0 dX1_isIn_4 (by decide) (fun q => ?_) (fun q => ?_)
  · replace h := h.1 q
    refine zx_iconst (v := 1) h0 dX1_isIn_15 (by decide) ?_
    refine zx_goto (tgt := 20) h0 dX1_isIn_16 (by decide) ?_
    exact zx_zret hF hQ rfl dX1_isIn_20 h
  · replace h := h.2 q
    refine zx_aload_n h0 0 dX1_isIn_7 rfl ?_
    refine zx_get hF ka0 (by decide) rfl zi_X1_isIn_1 5 (by decide) zn_X1_isIn_9 rfl rfl dX1_isIn_8 ?_
    refine zx_iconst (v := 1) h0 dX1_isIn_11 (by decide) ?_
    refine zx_icmp_ne (tgt := 19) h0 dX1_isIn_12 (by decide) (fun q => ?_) (fun q => ?_)
    · replace h := h.1 q
      refine zx_iconst (v := 0) h0 dX1_isIn_19 (by decide) ?_
      exact zx_zret hF hQ rfl dX1_isIn_20 h
    · replace h := h.2 q
      refine zx_iconst (v := 1) h0 dX1_isIn_15 (by decide) ?_
      refine zx_goto (tgt := 20) h0 dX1_isIn_16 (by decide) ?_
      exact zx_zret hF hQ rfl dX1_isIn_20 h
theorem zn_X1_pointsWith_25 : Cond.fieldLink RX1 25 RX1 (TX1 1).2.1 (TX1 1).2.2.1 ∈ wsX1_pointsWith := List.mem_of_getElem? (i := 1) rfl
theorem zi_X1_pointsWith_1 : ∀ w ∈ u_ws RX1 TX1 9, w ∈ wsX1_pointsWith := fun _ h => List.mem_cons_of_mem _ (List.mem_append_left _ (List.mem_append_right _ h))
theorem zn_X1_pointsWith_28 : Cond.fieldLink RX1 28 RX1 (TX1 2).2.1 (TX1 2).2.2.1 ∈ wsX1_pointsWith := List.mem_of_getElem? (i := 2) rfl
theorem zn_X1_pointsWith_31 : Cond.fieldLink RX1 31 RX1 (TX1 3).2.1 (TX1 3).2.2.1 ∈ wsX1_pointsWith := List.mem_of_getElem? (i := 3) rfl
theorem zc_X1_pointsWith_X2_pointsFor {C : zC} {G : zG} {Qc : Array Value → State → Outcome → State → Prop} (S : St_X1_pointsWith C G Qc) : CallW (zRm C) (zs C) (zar C) RX1 RX2 47 yX2_pointsFor cX2_pointsFor 7 (some .int) wsX2_pointsFor rm_X2_pointsFor 0 0 4 := cwV 4 S.1.1.2.2.2.2 gX1_pointsWith_X2_pointsFor rfl rfl rfl (by decide +kernel) (by rw [S.2.2]; exact ⟨Nat.le_of_ble_eq_true rfl, Nat.le_of_ble_eq_true rfl⟩)
set_option maxRecDepth 100000 in
set_option maxHeartbeats 4000000 in
theorem sg_X1_pointsWith_0 {C : zC} {G : zG} {Qc : Array Value → State → Outcome → State → Prop} (S : St_X1_pointsWith C G Qc) {P_X2_pointsFor : Nat → Int32 → Int32 → Int32 → Int32 → zM → Prop} {Q_X2_pointsFor : Nat → Int32 → Int32 → Int32 → Int32 → zM → Int32 → Prop} (c_X2_pointsFor : Con_X2_pointsFor (zl C) G P_X2_pointsFor Q_X2_pointsFor) {a0 : Nat} {a1 : Nat} {x2 : Int32} {m : zM} (ka0 : zK G a0 = some (1, a0)) (ka1 : zK G a1 = some (2, a1))
    (h : (P_X2_pointsFor a1 (zI m 101 a0 0) (zI m 102 a0 0) (zI m 103 a0 0) x2 m) ∧ (∀ (r2 : Int32), Q_X2_pointsFor a1 (zI m 101 a0 0) (zI m 102 a0 0) (zI m 103 a0 0) x2 m r2 → (zRet C G Qc (some (.int r2)) m))) : Pt_X1_pointsWith_0 C G a0 a1 x2 m := by
  obtain ⟨hF, hQ, hR⟩ := id S
  have h0 : zF0 C cX1_pointsWith 3 wsX1_pointsWith RX1 := hF.1
  have hL := hF.2.2.1
  unfold Pt_X1_pointsWith_0
  refine zx_aload_n h0 1 dX1_pointsWith_0 rfl ?_
  refine zx_aload_n h0 0 dX1_pointsWith_1 rfl ?_
  refine zx_get hF ka0 (by decide) rfl zi_X1_pointsWith_1 1 (by decide) zn_X1_pointsWith_25 rfl rfl dX1_pointsWith_2 ?_
  refine zx_aload_n h0 0 dX1_pointsWith_5 rfl ?_
  refine zx_get hF ka0 (by decide) rfl zi_X1_pointsWith_1 2 (by decide) zn_X1_pointsWith_28 rfl rfl dX1_pointsWith_6 ?_
  refine zx_aload_n h0 0 dX1_pointsWith_9 rfl ?_
  refine zx_get hF ka0 (by decide) rfl zi_X1_pointsWith_1 3 (by decide) zn_X1_pointsWith_31 rfl rfl dX1_pointsWith_10 ?_
  refine zx_iload_n h0 2 dX1_pointsWith_13 rfl ?_
  obtain ⟨ho1, h⟩ := h
  refine zx_callVi (As := [.int (zI m 101 a0 0), .int (zI m 102 a0 0), .int (zI m 103 a0 0), .int x2]) (rest := []) hF (c_X2_pointsFor a1 (zI m 101 a0 0) (zI m 102 a0 0) (zI m 103 a0 0) x2 m ka1 ho1) (zc_X1_pointsWith_X2_pointsFor S) ka1 (by decide) rfl dX1_pointsWith_14 rfl rfl (Nat.le_of_ble_eq_true rfl) ⟨Nat.zero_le _, Nat.zero_le _⟩ (fun r2 m2 hq => ?_)
  obtain ⟨hme, hq⟩ := hq
  subst m2
  replace h := h r2 hq
  exact zx_iret hF hQ dX1_pointsWith_17 h
theorem zn_X1_copyFrom_22 : Cond.fieldLink RX1 22 RX1 (TX1 0).2.1 (TX1 0).2.2.1 ∈ wsX1_copyFrom := List.mem_of_getElem? (i := 1) rfl
theorem zi_X1_copyFrom_1 : ∀ w ∈ u_ws RX1 TX1 9, w ∈ wsX1_copyFrom := fun _ h => List.mem_cons_of_mem _ (List.mem_append_left _ (List.mem_append_right _ h))
theorem zn_X1_copyFrom_25 : Cond.fieldLink RX1 25 RX1 (TX1 1).2.1 (TX1 1).2.2.1 ∈ wsX1_copyFrom := List.mem_of_getElem? (i := 2) rfl
theorem zn_X1_copyFrom_28 : Cond.fieldLink RX1 28 RX1 (TX1 2).2.1 (TX1 2).2.2.1 ∈ wsX1_copyFrom := List.mem_of_getElem? (i := 3) rfl
theorem zn_X1_copyFrom_31 : Cond.fieldLink RX1 31 RX1 (TX1 3).2.1 (TX1 3).2.2.1 ∈ wsX1_copyFrom := List.mem_of_getElem? (i := 4) rfl
theorem zn_X1_copyFrom_34 : Cond.fieldLink RX1 34 RX1 (TX1 4).2.1 (TX1 4).2.2.1 ∈ wsX1_copyFrom := List.mem_of_getElem? (i := 5) rfl
theorem zn_X1_copyFrom_9 : Cond.fieldLink RX1 9 RX1 (TX1 5).2.1 (TX1 5).2.2.1 ∈ wsX1_copyFrom := List.mem_of_getElem? (i := 6) rfl
theorem zn_X1_copyFrom_37 : Cond.fieldLink RX1 37 RX1 (TX1 6).2.1 (TX1 6).2.2.1 ∈ wsX1_copyFrom := List.mem_of_getElem? (i := 7) rfl
theorem zn_X1_copyFrom_40 : Cond.fieldLink RX1 40 RX1 (TX1 7).2.1 (TX1 7).2.2.1 ∈ wsX1_copyFrom := List.mem_of_getElem? (i := 8) rfl
theorem zn_X1_copyFrom_18 : Cond.fieldLink RX1 18 RX1 (TX1 8).2.1 (TX1 8).2.2.1 ∈ wsX1_copyFrom := List.mem_of_getElem? (i := 9) rfl
theorem zc_X1_copyFrom_X3_copyFrom {C : zC} {G : zG} {Qc : Array Value → State → Outcome → State → Prop} (S : St_X1_copyFrom C G Qc) : CallW (zRm C) (zs C) (zar C) RX1 RX3 43 yX3_copyFrom cX3_copyFrom 2 none wsX3_copyFrom rm_X3_copyFrom 0 0 1 := cwV 1 S.1.1.2.2.2.2 gX1_copyFrom_X3_copyFrom rfl rfl rfl (by decide +kernel) (by rw [S.2.2]; exact ⟨Nat.le_of_ble_eq_true rfl, Nat.le_of_ble_eq_true rfl⟩)
set_option maxRecDepth 100000 in
set_option maxHeartbeats 4000000 in
theorem sg_X1_copyFrom_0 {C : zC} {G : zG} {Qc : Array Value → State → Outcome → State → Prop} (S : St_X1_copyFrom C G Qc) {P_X3_copyFrom : Nat → Nat → zM → Prop} {Q_X3_copyFrom : Nat → Nat → zM → zM → Prop} (c_X3_copyFrom : Con_X3_copyFrom (zl C) G P_X3_copyFrom Q_X3_copyFrom) {a0 : Nat} {a1 : Nat} {m : zM} (ka0 : zK G a0 = some (1, a0)) (ka1 : zK G a1 = some (1, a1))
    (h : (P_X3_copyFrom (a0 + 1) (a1 + 1) (zsI (zsI (zsI (zsI (zsI (zsI (zsI (zsI m 100 a0 0 (zI m 100 a1 0)) 101 a0 0 (zI m 101 a1 0)) 102 a0 0 (zI m 102 a1 0)) 103 a0 0 (zI m 103 a1 0)) 104 a0 0 (zI m 104 a1 0)) 105 a0 0 (zI m 105 a1 0)) 106 a0 0 (zI m 106 a1 0)) 107 a0 0 (zI m 107 a1 0))) ∧ (∀ (m2 : zM), Q_X3_copyFrom (a0 + 1) (a1 + 1) (zsI (zsI (zsI (zsI (zsI (zsI (zsI (zsI m 100 a0 0 (zI m 100 a1 0)) 101 a0 0 (zI m 101 a1 0)) 102 a0 0 (zI m 102 a1 0)) 103 a0 0 (zI m 103 a1 0)) 104 a0 0 (zI m 104 a1 0)) 105 a0 0 (zI m 105 a1 0)) 106 a0 0 (zI m 106 a1 0)) 107 a0 0 (zI m 107 a1 0)) m2 → (zRet C G Qc none m2))) : Pt_X1_copyFrom_0 C G a0 a1 m := by
  obtain ⟨hF, hQ, hR⟩ := id S
  have h0 : zF0 C cX1_copyFrom 2 wsX1_copyFrom RX1 := hF.1
  have hL := hF.2.2.1
  unfold Pt_X1_copyFrom_0
  refine zx_aload_n h0 0 dX1_copyFrom_0 rfl ?_
  refine zx_aload_n h0 1 dX1_copyFrom_1 rfl ?_
  refine zx_get hF ka1 (by decide) rfl zi_X1_copyFrom_1 0 (by decide) zn_X1_copyFrom_22 rfl rfl dX1_copyFrom_2 ?_
  refine zp_100 hF ka0 zi_X1_copyFrom_1 zn_X1_copyFrom_22 dX1_copyFrom_5 ?_
  refine zx_aload_n h0 0 dX1_copyFrom_8 rfl ?_
  refine zx_aload_n h0 1 dX1_copyFrom_9 rfl ?_
  refine zx_get hF ka1 (by decide) rfl zi_X1_copyFrom_1 1 (by decide) zn_X1_copyFrom_25 rfl rfl dX1_copyFrom_10 ?_
  refine zx_topI (zI_n (by decide)) ?_
  refine zp_101 hF ka0 zi_X1_copyFrom_1 zn_X1_copyFrom_25 dX1_copyFrom_13 ?_
  refine zx_aload_n h0 0 dX1_copyFrom_16 rfl ?_
  refine zx_aload_n h0 1 dX1_copyFrom_17 rfl ?_
  refine zx_get hF ka1 (by decide) rfl zi_X1_copyFrom_1 2 (by decide) zn_X1_copyFrom_28 rfl rfl dX1_copyFrom_18 ?_
  refine zx_topI ((zI_n (by decide)).trans (zI_n (by decide))) ?_
  refine zp_102 hF ka0 zi_X1_copyFrom_1 zn_X1_copyFrom_28 dX1_copyFrom_21 ?_
  refine zx_aload_n h0 0 dX1_copyFrom_24 rfl ?_
  refine zx_aload_n h0 1 dX1_copyFrom_25 rfl ?_
  refine zx_get hF ka1 (by decide) rfl zi_X1_copyFrom_1 3 (by decide) zn_X1_copyFrom_31 rfl rfl dX1_copyFrom_26 ?_
  refine zx_topI ((zI_n (by decide)).trans ((zI_n (by decide)).trans (zI_n (by decide)))) ?_
  refine zp_103 hF ka0 zi_X1_copyFrom_1 zn_X1_copyFrom_31 dX1_copyFrom_29 ?_
  refine zx_aload_n h0 0 dX1_copyFrom_32 rfl ?_
  refine zx_aload_n h0 1 dX1_copyFrom_33 rfl ?_
  refine zx_get hF ka1 (by decide) rfl zi_X1_copyFrom_1 4 (by decide) zn_X1_copyFrom_34 rfl rfl dX1_copyFrom_34 ?_
  refine zx_topI ((zI_n (by decide)).trans ((zI_n (by decide)).trans ((zI_n (by decide)).trans (zI_n (by decide))))) ?_
  refine zp_104 hF ka0 zi_X1_copyFrom_1 zn_X1_copyFrom_34 dX1_copyFrom_37 ?_
  refine zx_aload_n h0 0 dX1_copyFrom_40 rfl ?_
  refine zx_aload_n h0 1 dX1_copyFrom_41 rfl ?_
  refine zx_get hF ka1 (by decide) rfl zi_X1_copyFrom_1 5 (by decide) zn_X1_copyFrom_9 rfl rfl dX1_copyFrom_42 ?_
  refine zx_topI ((zI_n (by decide)).trans ((zI_n (by decide)).trans ((zI_n (by decide)).trans ((zI_n (by decide)).trans (zI_n (by decide)))))) ?_
  refine zp_105 hF ka0 zi_X1_copyFrom_1 zn_X1_copyFrom_9 dX1_copyFrom_45 ?_
  refine zx_aload_n h0 0 dX1_copyFrom_48 rfl ?_
  refine zx_aload_n h0 1 dX1_copyFrom_49 rfl ?_
  refine zx_get hF ka1 (by decide) rfl zi_X1_copyFrom_1 6 (by decide) zn_X1_copyFrom_37 rfl rfl dX1_copyFrom_50 ?_
  refine zx_topI ((zI_n (by decide)).trans ((zI_n (by decide)).trans ((zI_n (by decide)).trans ((zI_n (by decide)).trans ((zI_n (by decide)).trans (zI_n (by decide))))))) ?_
  refine zp_106 hF ka0 zi_X1_copyFrom_1 zn_X1_copyFrom_37 dX1_copyFrom_53 ?_
  refine zx_aload_n h0 0 dX1_copyFrom_56 rfl ?_
  refine zx_aload_n h0 1 dX1_copyFrom_57 rfl ?_
  refine zx_get hF ka1 (by decide) rfl zi_X1_copyFrom_1 7 (by decide) zn_X1_copyFrom_40 rfl rfl dX1_copyFrom_58 ?_
  refine zx_topI ((zI_n (by decide)).trans ((zI_n (by decide)).trans ((zI_n (by decide)).trans ((zI_n (by decide)).trans ((zI_n (by decide)).trans ((zI_n (by decide)).trans (zI_n (by decide)))))))) ?_
  refine zp_107 hF ka0 zi_X1_copyFrom_1 zn_X1_copyFrom_40 dX1_copyFrom_61 ?_
  refine zx_aload_n h0 0 dX1_copyFrom_64 rfl ?_
  refine zx_get hF ka0 (by decide) rfl zi_X1_copyFrom_1 8 (by decide) zn_X1_copyFrom_18 rfl rfl dX1_copyFrom_65 ?_
  refine zx_aload_n h0 1 dX1_copyFrom_68 rfl ?_
  refine zx_get hF ka1 (by decide) rfl zi_X1_copyFrom_1 8 (by decide) zn_X1_copyFrom_18 rfl rfl dX1_copyFrom_69 ?_
  obtain ⟨ho1, h⟩ := h
  refine zx_callVv (As := [.ref (a1 + 1)]) (rest := []) hF (c_X3_copyFrom (a0 + 1) (a1 + 1) (zsI (zsI (zsI (zsI (zsI (zsI (zsI (zsI m 100 a0 0 (zI m 100 a1 0)) 101 a0 0 (zI m 101 a1 0)) 102 a0 0 (zI m 102 a1 0)) 103 a0 0 (zI m 103 a1 0)) 104 a0 0 (zI m 104 a1 0)) 105 a0 0 (zI m 105 a1 0)) 106 a0 0 (zI m 106 a1 0)) 107 a0 0 (zI m 107 a1 0)) (zL_1_1 hL ka0) (zL_1_1 hL ka1) ho1) (zc_X1_copyFrom_X3_copyFrom S) (zL_1_1 hL ka0) (by decide) rfl dX1_copyFrom_72 rfl rfl (Nat.le_of_ble_eq_true rfl) ⟨Nat.zero_le _, Nat.zero_le _⟩ (fun m2 hq => ?_)
  replace h := h m2 hq
  exact zx_vret hF hQ dX1_copyFrom_75 h
