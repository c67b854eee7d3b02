theorem zn_X6_finish_129 : Cond.fieldLink RX6 129 RX6 (TX6 0).2.1 (TX6 0).2.2.1 ∈ wsX6_finish := List.mem_of_getElem? (i := 1) rfl
theorem zi_X6_finish_6 : ∀ w ∈ u_ws RX6 TX6 50, w ∈ wsX6_finish := fun _ h => List.mem_cons_of_mem _ (List.mem_append_right _ h)
theorem zn_X6_finish_33 : Cond.fieldLink RX6 33 RX6 (TX6 8).2.1 (TX6 8).2.2.1 ∈ wsX6_finish := List.mem_of_getElem? (i := 2) rfl
theorem zn_X6_finish_k314 : Cond.constantLong RX6 314 (-1) ∈ wsX6_finish := List.mem_of_getElem? (i := 3) rfl
theorem zn_X6_finish_23 : Cond.fieldLink RX6 23 RX6 (TX6 5).2.1 (TX6 5).2.2.1 ∈ wsX6_finish := List.mem_of_getElem? (i := 4) rfl
theorem zn_X6_finish_27 : Cond.fieldLink RX6 27 RX6 (TX6 6).2.1 (TX6 6).2.2.1 ∈ wsX6_finish := List.mem_of_getElem? (i := 5) rfl
theorem zn_X6_finish_121 : Cond.fieldLink RX6 121 RX6 (TX6 48).2.1 (TX6 48).2.2.1 ∈ wsX6_finish := List.mem_of_getElem? (i := 6) rfl
theorem zn_X6_finish_40 : Cond.fieldLink RX6 40 RX6 (TX6 10).2.1 (TX6 10).2.2.1 ∈ wsX6_finish := List.mem_of_getElem? (i := 7) rfl
theorem zc_X6_finish_X6_all {C : zC} {G : zG} {Qc : Array Value → State → Outcome → State → Prop} (S : St_X6_finish C G Qc) : CallW (zRm C) (zs C) (zar C) RX6 RX6 296 yX6_all cX6_all 4 (some .long) wsX6_all rm_X6_all 0 0 0 := cwV 0 S.1.1.2.2.2.2 gX6_finish_X6_all rfl rfl rfl (by decide +kernel) (by rw [S.2.2]; exact ⟨Nat.le_of_ble_eq_true rfl, Nat.le_of_ble_eq_true rfl⟩)
theorem zc_X6_finish_X6_states {C : zC} {G : zG} {Qc : Array Value → State → Outcome → State → Prop} (S : St_X6_finish C G Qc) : CallW (zRm C) (zs C) (zar C) RX6 RX6 326 yX6_states cX6_states 4 (some .int) wsX6_states rm_X6_states 0 0 1 := cwV 1 S.1.1.2.2.2.2 gX6_finish_X6_states rfl rfl rfl (by decide +kernel) (by rw [S.2.2]; exact ⟨Nat.le_of_ble_eq_true rfl, Nat.le_of_ble_eq_true rfl⟩)
theorem zc_X6_finish_X6_paidAll {C : zC} {G : zG} {Qc : Array Value → State → Outcome → State → Prop} (S : St_X6_finish C G Qc) : CallW (zRm C) (zs C) (zar C) RX6 RX6 159 yX6_paidAll cX6_paidAll 4 (some .long) wsX6_paidAll rm_X6_paidAll 0 0 0 := cwV 0 S.1.1.2.2.2.2 gX6_finish_X6_paidAll rfl rfl rfl (by decide +kernel) (by rw [S.2.2]; exact ⟨Nat.le_of_ble_eq_true rfl, Nat.le_of_ble_eq_true rfl⟩)
theorem zc_X6_finish_X6_is {C : zC} {G : zG} {Qc : Array Value → State → Outcome → State → Prop} (S : St_X6_finish C G Qc) : CallW (zRm C) (zs C) (zar C) RX6 RX6 307 yX6_is cX6_is 3 (some .boolean) wsX6_is rm_X6_is 0 0 2 := cwV 2 S.1.1.2.2.2.2 gX6_finish_X6_is rfl rfl rfl (by decide +kernel) (by rw [S.2.2]; exact ⟨Nat.le_of_ble_eq_true rfl, Nat.le_of_ble_eq_true rfl⟩)
theorem zc_X6_finish_X6_of {C : zC} {G : zG} {Qc : Array Value → State → Outcome → State → Prop} (S : St_X6_finish C G Qc) : CallW (zRm C) (zs C) (zar C) RX6 RX6 153 yX6_of cX6_of 3 (some .int) wsX6_of rm_X6_of 0 0 2 := cwV 2 S.1.1.2.2.2.2 gX6_finish_X6_of rfl rfl rfl (by decide +kernel) (by rw [S.2.2]; exact ⟨Nat.le_of_ble_eq_true rfl, Nat.le_of_ble_eq_true rfl⟩)
theorem zc_X6_finish_X6_pay {C : zC} {G : zG} {Qc : Array Value → State → Outcome → State → Prop} (S : St_X6_finish C G Qc) : CallW (zRm C) (zs C) (zar C) RX6 RX6 322 yX6_pay cX6_pay 14 none wsX6_pay rm_X6_pay 0 0 2 := cwV 2 S.1.1.2.2.2.2 gX6_finish_X6_pay rfl rfl rfl (by decide +kernel) (by rw [S.2.2]; exact ⟨Nat.le_of_ble_eq_true rfl, Nat.le_of_ble_eq_true rfl⟩)
set_option maxRecDepth 100000 in
set_option maxHeartbeats 4000000 in
theorem sg_X6_finish_0 {C : zC} {G : zG} {Qc : Array Value → State → Outcome → State → Prop} (S : St_X6_finish C G Qc) {P_X6_all : Nat → zM → Prop} {Q_X6_all : Nat → zM → Int64 → Prop} (c_X6_all : Con_X6_all (zl C) G P_X6_all Q_X6_all) {P_X6_states : Nat → Int32 → zM → Prop} {Q_X6_states : Nat → Int32 → zM → Int32 → Prop} (c_X6_states : Con_X6_states (zl C) G P_X6_states Q_X6_states) {P_X6_paidAll : Nat → zM → Prop} {Q_X6_paidAll : Nat → zM → Int64 → Prop} (c_X6_paidAll : Con_X6_paidAll (zl C) G P_X6_paidAll Q_X6_paidAll) {a0 : Nat} {m : zM} (ka0 : zK G a0 = some (6, a0))
    (h : (P_X6_all a0 (zsI m 600 a0 0 0)) ∧ (∀ (r2 : Int64), Q_X6_all a0 (zsI m 600 a0 0 0) r2 → ((¬ (zI m 1608 a0 0) = 0 → (zRet C G Qc (some (.long (-1))) (zsI m 600 a0 0 0))) ∧ ((zI m 1608 a0 0) = 0 → ((r2 = 0 → (zRet C G Qc (some (.long (-1))) (zsI m 600 a0 0 0))) ∧ (¬ r2 = 0 → ((P_X6_states a0 0 (zsI m 600 a0 0 0)) ∧ (∀ (r4 : Int32), Q_X6_states a0 0 (zsI m 600 a0 0 0) r4 → ((r4 ≤ 0 → ((P_X6_paidAll a0 (zsI m 600 a0 0 0)) ∧ (∀ (r6 : Int64), Q_X6_paidAll a0 (zsI m 600 a0 0 0) r6 → (Pt_X6_finish_53 C G a0 r2 r6 (zJ m 1605 a0 0) 0 (zsI m 600 a0 0 0))))) ∧ (¬ r4 ≤ 0 → (zRet C G Qc (some (.long (-1))) (zsI m 600 a0 0 0)))))))))))) : Pt_X6_finish_0 C G a0 m := by
  obtain ⟨hF, hQ, hR⟩ := id S
  have h0 : zF0 C cX6_finish 10 wsX6_finish RX6 := hF.1
  have hL := hF.2.2.1
  unfold Pt_X6_finish_0
  refine zx_aload_n h0 0 dX6_finish_0 rfl ?_
  refine zx_iconst (v := 0) h0 dX6_finish_1 (by decide) ?_
  refine zp_600 hF ka0 zi_X6_finish_6 zn_X6_finish_129 dX6_finish_2 ?_
  refine zx_aload_n h0 0 dX6_finish_5 rfl ?_
  obtain ⟨ho1, h⟩ := h
  refine zx_callVl (As := []) (rest := []) hF (c_X6_all a0 (zsI m 600 a0 0 0) ka0 ho1) (zc_X6_finish_X6_all S) ka0 (by decide) rfl dX6_finish_6 rfl rfl (Nat.le_of_ble_eq_true rfl) ⟨Nat.zero_le _, Nat.zero_le _⟩ (fun r2 m2 hq => ?_)
  obtain ⟨hme, hq⟩ := hq
  subst m2
  replace h := h r2 hq
  refine zx_lstore_n (L' := [(1, .long r2), (0, .ref a0)]) h0 dX6_finish_9 (by decide) rfl ?_
  refine zx_aload_n h0 1 dX6_finish_10 rfl ?_
  refine zx_get hF ka0 (by decide) rfl zi_X6_finish_6 8 (by decide) zn_X6_finish_33 rfl rfl dX6_finish_11 ?_
  refine zx_iconst (v := 0) h0 dX6_finish_14 (by decide) ?_
  refine zx_zald (j := 0) hF (zL_6_8 hL ka0) (by decide) rfl rfl (by unfold vp_in; decide) (by decide) dX6_finish_15 ?_
  refine zx_topI (zI_n (by decide)) ?_
  refine zx_if_ne (tgt := 33) h0 dX6_finish_16 (by decide) (fun q => ?_) (fun q => ?_)
  · replace h := h.1 q
    refine zx_ldc2 (v := (-1)) h0 zn_X6_finish_k314 dX6_finish_33 ?_
    exact zx_lret hF hQ dX6_finish_36 h
  · replace h := h.2 q
    refine zx_lload_n h0 0 dX6_finish_19 rfl ?_
    refine zx_lconst (v := 0) h0 dX6_finish_20 (by decide) ?_
    refine zx_lcmp_eq (tgt := 33) h0 dX6_finish_21 dX6_finish_22 (by decide) (fun q => ?_) (fun q => ?_)
    · replace h := h.1 q
      refine zx_ldc2 (v := (-1)) h0 zn_X6_finish_k314 dX6_finish_33 ?_
      exact zx_lret hF hQ dX6_finish_36 h
    · replace h := h.2 q
      refine zx_aload_n h0 1 dX6_finish_25 rfl ?_
      refine zx_iconst (v := 0) h0 dX6_finish_26 (by decide) ?_
      obtain ⟨ho3, h⟩ := h
      refine zx_callVi (As := [.int 0]) (rest := []) hF (c_X6_states a0 0 (zsI m 600 a0 0 0) ka0 ho3) (zc_X6_finish_X6_states S) ka0 (by decide) rfl dX6_finish_27 rfl rfl (Nat.le_of_ble_eq_true rfl) ⟨Nat.zero_le _, Nat.zero_le _⟩ (fun r4 m4 hq => ?_)
      obtain ⟨hme, hq⟩ := hq
      subst m4
      replace h := h r4 hq
      refine zx_if_le (tgt := 37) h0 dX6_finish_30 (by decide) (fun q => ?_) (fun q => ?_)
      · replace h := h.1 q
        refine zx_aload_n h0 1 dX6_finish_37 rfl ?_
        obtain ⟨ho5, h⟩ := h
        refine zx_callVl (As := []) (rest := []) hF (c_X6_paidAll a0 (zsI m 600 a0 0 0) ka0 ho5) (zc_X6_finish_X6_paidAll S) ka0 (by decide) rfl dX6_finish_38 rfl rfl (Nat.le_of_ble_eq_true rfl) ⟨Nat.zero_le _, Nat.zero_le _⟩ (fun r6 m6 hq => ?_)
        obtain ⟨hme, hq⟩ := hq
        subst m6
        replace h := h r6 hq
        refine zx_lstore_n (L' := [(3, .long r6), (1, .long r2), (0, .ref a0)]) h0 dX6_finish_41 (by decide) rfl ?_
        refine zx_aload_n h0 2 dX6_finish_42 rfl ?_
        refine zx_get hF ka0 (by decide) rfl zi_X6_finish_6 5 (by decide) zn_X6_finish_23 rfl rfl dX6_finish_43 ?_
        refine zx_iconst (v := 0) h0 dX6_finish_46 (by decide) ?_
        refine zx_lald (j := 0) hF (zL_6_5 hL ka0) (by decide) rfl rfl (by unfold vp_in; decide) (by decide) dX6_finish_47 ?_
        refine zx_topJ (zJ_I) ?_
        refine zx_lstore (L' := [(5, .long (zJ m 1605 a0 0)), (3, .long r6), (1, .long r2), (0, .ref a0)]) h0 dX6_finish_48 (by decide) rfl ?_
        refine zx_iconst (v := 0) h0 dX6_finish_50 (by decide) ?_
        refine zx_istore (L' := [(7, .int 0), (5, .long (zJ m 1605 a0 0)), (3, .long r6), (1, .long r2), (0, .ref a0)]) h0 dX6_finish_51 (by decide) rfl ?_
        exact zx_sub [4, 3, 2, 1, 0] rfl h
      · replace h := h.2 q
        refine zx_ldc2 (v := (-1)) h0 zn_X6_finish_k314 dX6_finish_33 ?_
        exact zx_lret hF hQ dX6_finish_36 h
set_option maxRecDepth 100000 in
set_option maxHeartbeats 4000000 in
theorem sg_X6_finish_53 {C : zC} {G : zG} {Qc : Array Value → State → Outcome → State → Prop} (S : St_X6_finish C G Qc) {P_X6_is : Nat → Int32 → Int32 → zM → Prop} {Q_X6_is : Nat → Int32 → Int32 → zM → Int32 → Prop} (c_X6_is : Con_X6_is (zl C) G P_X6_is Q_X6_is) {P_X6_of : Nat → Int32 → Int32 → zM → Prop} {Q_X6_of : Nat → Int32 → Int32 → zM → Int32 → Prop} (c_X6_of : Con_X6_of (zl C) G P_X6_of Q_X6_of) {P_X6_pay : Nat → Int32 → Int64 → zM → Prop} {Q_X6_pay : Nat → Int32 → Int64 → zM → zM → Prop} (c_X6_pay : Con_X6_pay (zl C) G P_X6_pay Q_X6_pay) {a0 : Nat} {l1 : Int64} {l3 : Int64} {l5 : Int64} {x7 : Int32} {m : zM} (ka0 : zK G a0 = some (6, a0))
    (h : ((zI m 1606 a0 0) ≤ x7 → (Pt_X6_finish_158 C G a0 l3 l5 m)) ∧ (¬ (zI m 1606 a0 0) ≤ x7 → ((vp_in x7 16) ∧ ((P_X6_is a0 x7 1 (zsJ m 1648 a0 x7.toNatClampNeg (-1))) ∧ (∀ (r3 : Int32), Q_X6_is a0 x7 1 (zsJ m 1648 a0 x7.toNatClampNeg (-1)) r3 → ((r3 = 0 → (Pt_X6_finish_53 C G a0 l1 l3 l5 (x7 + 1) (zsJ m 1648 a0 x7.toNatClampNeg (-1)))) ∧ (¬ r3 = 0 → ((P_X6_of a0 x7 6 (zsJ m 1648 a0 x7.toNatClampNeg (-1))) ∧ (∀ (r5 : Int32), Q_X6_of a0 x7 6 (zsJ m 1648 a0 x7.toNatClampNeg (-1)) r5 → ((¬ l1 = 0) ∧ (∀ (r7 : Int32), Q_X6_of a0 x7 6 (zsJ m 1648 a0 x7.toNatClampNeg (-1)) r7 → ((vp_in x7 64) ∧ ((P_X6_pay a0 x7 ((((zJ m 1605 a0 0) * ((r5 : Int32).toInt64)) / l1) - (zJ m 1610 a0 x7.toNatClampNeg)) (zsJ (zsJ m 1648 a0 x7.toNatClampNeg (-1)) 1648 a0 x7.toNatClampNeg (((zJ m 1605 a0 0) * ((r7 : Int32).toInt64)) - ((zJ m 1605 a0 0) * ((r7 : Int32).toInt64)) / l1 * l1))) ∧ (∀ (m10 : zM), Q_X6_pay a0 x7 ((((zJ m 1605 a0 0) * ((r5 : Int32).toInt64)) / l1) - (zJ m 1610 a0 x7.toNatClampNeg)) (zsJ (zsJ m 1648 a0 x7.toNatClampNeg (-1)) 1648 a0 x7.toNatClampNeg (((zJ m 1605 a0 0) * ((r7 : Int32).toInt64)) - ((zJ m 1605 a0 0) * ((r7 : Int32).toInt64)) / l1 * l1)) m10 → (Pt_X6_finish_53 C G a0 l1 l3 (l5 - (((zJ m 1605 a0 0) * ((r5 : Int32).toInt64)) / l1)) (x7 + 1) m10))))))))))))))) : Pt_X6_finish_53 C G a0 l1 l3 l5 x7 m := by
  obtain ⟨hF, hQ, hR⟩ := id S
  have h0 : zF0 C cX6_finish 10 wsX6_finish RX6 := hF.1
  have hL := hF.2.2.1
  unfold Pt_X6_finish_53
  refine zx_iload h0 4 dX6_finish_53 rfl ?_
  refine zx_aload_n h0 0 dX6_finish_55 rfl ?_
  refine zx_get hF ka0 (by decide) rfl zi_X6_finish_6 6 (by decide) zn_X6_finish_27 rfl rfl dX6_finish_56 ?_
  refine zx_iconst (v := 0) h0 dX6_finish_59 (by decide) ?_
  refine zx_iald (j := 0) hF (zL_6_6 hL ka0) (by decide) rfl rfl (by unfold vp_in; decide) (by decide) dX6_finish_60 ?_
  refine zx_icmp_ge (tgt := 158) h0 dX6_finish_61 (by decide) (fun q => ?_) (fun q => ?_)
  · replace h := h.1 q
    exact zx_sub [0, 2, 3] rfl h
  · replace h := h.2 q
    refine zx_aload_n h0 0 dX6_finish_64 rfl ?_
    refine zx_get hF ka0 (by decide) rfl zi_X6_finish_6 48 (by decide) zn_X6_finish_121 rfl rfl dX6_finish_65 ?_
    refine zx_iload h0 4 dX6_finish_68 rfl ?_
    refine zx_ldc2 (v := (-1)) h0 zn_X6_finish_k314 dX6_finish_70 ?_
    obtain ⟨ho1, h⟩ := h
    refine zx_last (j := x7.toNatClampNeg) hF (zL_6_37 hL ka0) (by decide) rfl rfl ho1 rfl dX6_finish_73 ?_
    refine zx_aload_n h0 0 dX6_finish_74 rfl ?_
    refine zx_iload h0 4 dX6_finish_75 rfl ?_
    refine zx_iconst (v := 1) h0 dX6_finish_77 (by decide) ?_
    obtain ⟨ho2, h⟩ := h
    refine zx_callVi (As := [.int x7, .int 1]) (rest := []) hF (c_X6_is a0 x7 1 (zsJ m 1648 a0 x7.toNatClampNeg (-1)) ka0 ho2) (zc_X6_finish_X6_is S) ka0 (by decide) rfl dX6_finish_78 rfl rfl (Nat.le_of_ble_eq_true rfl) ⟨Nat.zero_le _, Nat.zero_le _⟩ (fun r3 m3 hq => ?_)
    obtain ⟨hme, hq⟩ := hq
    subst m3
    replace h := h r3 hq
    refine zx_if_eq (tgt := 152) h0 dX6_finish_81 (by decide) (fun q => ?_) (fun q => ?_)
    · replace h := h.1 q
      refine zx_iinc (v := (x7 + 1)) (L' := [(7, .int (x7 + 1)), (0, .ref a0), (1, .long l1), (3, .long l3), (5, .long l5)]) h0 4 dX6_finish_152 rfl rfl (by decide) rfl ?_
      refine zx_goto (tgt := 53) h0 dX6_finish_155 (by decide) ?_
      exact zx_sub [1, 2, 3, 4, 0] rfl h
    · replace h := h.2 q
      refine zx_aload_n h0 0 dX6_finish_84 rfl ?_
      refine zx_get hF ka0 (by decide) rfl zi_X6_finish_6 5 (by decide) zn_X6_finish_23 rfl rfl dX6_finish_85 ?_
      refine zx_iconst (v := 0) h0 dX6_finish_88 (by decide) ?_
      refine zx_lald (j := 0) hF (zL_6_5 hL ka0) (by decide) rfl rfl (by unfold vp_in; decide) (by decide) dX6_finish_89 ?_
      refine zx_topJ (zJ_n (by decide)) ?_
      refine zx_aload_n h0 0 dX6_finish_90 rfl ?_
      refine zx_iload h0 4 dX6_finish_91 rfl ?_
      refine zx_bipush (v := 6) h0 dX6_finish_93 (by decide) ?_
      obtain ⟨ho4, h⟩ := h
      refine zx_callVi (As := [.int x7, .int 6]) (rest := [.long (zJ m 1605 a0 0)]) hF (c_X6_of a0 x7 6 (zsJ m 1648 a0 x7.toNatClampNeg (-1)) ka0 ho4) (zc_X6_finish_X6_of S) ka0 (by decide) rfl dX6_finish_95 rfl rfl (Nat.le_of_ble_eq_true rfl) ⟨Nat.zero_le _, Nat.zero_le _⟩ (fun r5 m5 hq => ?_)
      obtain ⟨hme, hq⟩ := hq
      subst m5
      replace h := h r5 hq
      refine zx_i2l (v := ((r5 : Int32).toInt64)) h0 dX6_finish_98 rfl ?_
      refine zx_lmul h0 dX6_finish_99 ?_
      refine zx_lload_n h0 1 dX6_finish_100 rfl ?_
      obtain ⟨ho6, h⟩ := h
      refine zx_ldiv h0 dX6_finish_101 ho6 ?_
      refine zx_lstore (L' := [(8, .long (((zJ m 1605 a0 0) * ((r5 : Int32).toInt64)) / l1)), (0, .ref a0), (1, .long l1), (3, .long l3), (5, .long l5), (7, .int x7)]) h0 dX6_finish_102 (by decide) rfl ?_
      refine zx_aload_n h0 1 dX6_finish_104 rfl ?_
      refine zx_get hF ka0 (by decide) rfl zi_X6_finish_6 48 (by decide) zn_X6_finish_121 rfl rfl dX6_finish_105 ?_
      refine zx_iload h0 5 dX6_finish_108 rfl ?_
      refine zx_aload_n h0 1 dX6_finish_110 rfl ?_
      refine zx_get hF ka0 (by decide) rfl zi_X6_finish_6 5 (by decide) zn_X6_finish_23 rfl rfl dX6_finish_111 ?_
      refine zx_iconst (v := 0) h0 dX6_finish_114 (by decide) ?_
      refine zx_lald (j := 0) hF (zL_6_5 hL ka0) (by decide) rfl rfl (by unfold vp_in; decide) (by decide) dX6_finish_115 ?_
      refine zx_topJ (zJ_n (by decide)) ?_
      refine zx_aload_n h0 1 dX6_finish_116 rfl ?_
      refine zx_iload h0 5 dX6_finish_117 rfl ?_
      refine zx_bipush (v := 6) h0 dX6_finish_119 (by decide) ?_
      refine zx_callVi (As := [.int x7, .int 6]) (rest := [.long (zJ m 1605 a0 0), .int x7, .ref (a0 + 37)]) hF (c_X6_of a0 x7 6 (zsJ m 1648 a0 x7.toNatClampNeg (-1)) ka0 ho4) (zc_X6_finish_X6_of S) ka0 (by decide) rfl dX6_finish_121 rfl rfl (Nat.le_of_ble_eq_true rfl) ⟨Nat.zero_le _, Nat.zero_le _⟩ (fun r7 m7 hq => ?_)
      obtain ⟨hme, hq⟩ := hq
      subst m7
      replace h := h r7 hq
      refine zx_i2l (v := ((r7 : Int32).toInt64)) h0 dX6_finish_124 rfl ?_
      refine zx_lmul h0 dX6_finish_125 ?_
      refine zx_lload_n h0 2 dX6_finish_126 rfl ?_
      refine zx_lrem h0 dX6_finish_127 ho6 ?_
      refine zx_last (j := x7.toNatClampNeg) hF (zL_6_37 hL ka0) (by decide) rfl rfl ho1 rfl dX6_finish_128 ?_
      refine zx_lload h0 4 dX6_finish_129 rfl ?_
      refine zx_lload h0 0 dX6_finish_131 rfl ?_
      refine zx_lsub h0 dX6_finish_133 ?_
      refine zx_lstore (L' := [(5, .long (l5 - (((zJ m 1605 a0 0) * ((r5 : Int32).toInt64)) / l1))), (8, .long (((zJ m 1605 a0 0) * ((r5 : Int32).toInt64)) / l1)), (0, .ref a0), (1, .long l1), (3, .long l3), (7, .int x7)]) h0 dX6_finish_134 (by decide) rfl ?_
      refine zx_aload_n h0 2 dX6_finish_136 rfl ?_
      refine zx_iload h0 5 dX6_finish_137 rfl ?_
      refine zx_lload h0 1 dX6_finish_139 rfl ?_
      refine zx_aload_n h0 2 dX6_finish_141 rfl ?_
      refine zx_get hF ka0 (by decide) rfl zi_X6_finish_6 10 (by decide) zn_X6_finish_40 rfl rfl dX6_finish_142 ?_
      refine zx_iload h0 5 dX6_finish_145 rfl ?_
      obtain ⟨ho8, h⟩ := h
      refine zx_lald (j := x7.toNatClampNeg) hF (zL_6_10 hL ka0) (by decide) rfl rfl ho8 rfl dX6_finish_147 ?_
      refine zx_topJ ((zJ_n (by decide)).trans (zJ_n (by decide))) ?_
      refine zx_lsub h0 dX6_finish_148 ?_
      obtain ⟨ho9, h⟩ := h
      refine zx_callVv (As := [.int x7, .long ((((zJ m 1605 a0 0) * ((r5 : Int32).toInt64)) / l1) - (zJ m 1610 a0 x7.toNatClampNeg))]) (rest := []) hF (c_X6_pay a0 x7 ((((zJ m 1605 a0 0) * ((r5 : Int32).toInt64)) / l1) - (zJ m 1610 a0 x7.toNatClampNeg)) (zsJ (zsJ m 1648 a0 x7.toNatClampNeg (-1)) 1648 a0 x7.toNatClampNeg (((zJ m 1605 a0 0) * ((r7 : Int32).toInt64)) - ((zJ m 1605 a0 0) * ((r7 : Int32).toInt64)) / l1 * l1)) ka0 ho9) (zc_X6_finish_X6_pay S) ka0 (by decide) rfl dX6_finish_149 rfl rfl (Nat.le_of_ble_eq_true rfl) ⟨Nat.zero_le _, Nat.zero_le _⟩ (fun m10 hq => ?_)
      replace h := h m10 hq
      refine zx_iinc (v := (x7 + 1)) (L' := [(7, .int (x7 + 1)), (5, .long (l5 - (((zJ m 1605 a0 0) * ((r5 : Int32).toInt64)) / l1))), (8, .long (((zJ m 1605 a0 0) * ((r5 : Int32).toInt64)) / l1)), (0, .ref a0), (1, .long l1), (3, .long l3)]) h0 5 dX6_finish_152 rfl rfl (by decide) rfl ?_
      refine zx_goto (tgt := 53) h0 dX6_finish_155 (by decide) ?_
      exact zx_sub [3, 4, 5, 1, 0] rfl h
set_option maxRecDepth 100000 in
set_option maxHeartbeats 4000000 in
theorem sg_X6_finish_158 {C : zC} {G : zG} {Qc : Array Value → State → Outcome → State → Prop} (S : St_X6_finish C G Qc) {P_X6_paidAll : Nat → zM → Prop} {Q_X6_paidAll : Nat → zM → Int64 → Prop} (c_X6_paidAll : Con_X6_paidAll (zl C) G P_X6_paidAll Q_X6_paidAll) {a0 : Nat} {l3 : Int64} {l5 : Int64} {m : zM} (ka0 : zK G a0 = some (6, a0))
    (h : (l5 ≤ 0 → ((P_X6_paidAll a0 (zsI m 1608 a0 0 1)) ∧ (∀ (r2 : Int64), Q_X6_paidAll a0 (zsI m 1608 a0 0 1) r2 → (zRet C G Qc (some (.long (r2 - l3))) (zsI m 1608 a0 0 1))))) ∧ (¬ l5 ≤ 0 → (Pt_X6_finish_171 C G a0 l3 l5 (-1) 0 m))) : Pt_X6_finish_158 C G a0 l3 l5 m := by
  obtain ⟨hF, hQ, hR⟩ := id S
  have h0 : zF0 C cX6_finish 10 wsX6_finish RX6 := hF.1
  have hL := hF.2.2.1
  unfold Pt_X6_finish_158
  refine zx_lload h0 2 dX6_finish_158 rfl ?_
  refine zx_lconst (v := 0) h0 dX6_finish_160 (by decide) ?_
  refine zx_lcmp_le (tgt := 254) h0 dX6_finish_161 dX6_finish_162 (by decide) (fun q => ?_) (fun q => ?_)
  · replace h := h.1 q
    refine zx_aload_n h0 0 dX6_finish_254 rfl ?_
    refine zx_get hF ka0 (by decide) rfl zi_X6_finish_6 8 (by decide) zn_X6_finish_33 rfl rfl dX6_finish_255 ?_
    refine zx_iconst (v := 0) h0 dX6_finish_258 (by decide) ?_
    refine zx_iconst (v := 1) h0 dX6_finish_259 (by decide) ?_
    refine zx_zast (j := 0) (xv := 1) hF (zL_6_8 hL ka0) (by decide) rfl rfl (by unfold vp_in; decide) (by decide) (by decide) (z_fitz (by decide) (by decide)) dX6_finish_260 ?_
    refine zx_aload_n h0 0 dX6_finish_261 rfl ?_
    obtain ⟨ho1, h⟩ := h
    refine zx_callVl (As := []) (rest := []) hF (c_X6_paidAll a0 (zsI m 1608 a0 0 1) ka0 ho1) (zc_X6_finish_X6_paidAll S) ka0 (by decide) rfl dX6_finish_262 rfl rfl (Nat.le_of_ble_eq_true rfl) ⟨Nat.zero_le _, Nat.zero_le _⟩ (fun r2 m2 hq => ?_)
    obtain ⟨hme, hq⟩ := hq
    subst m2
    replace h := h r2 hq
    refine zx_lload_n h0 1 dX6_finish_265 rfl ?_
    refine zx_lsub h0 dX6_finish_266 ?_
    exact zx_lret hF hQ dX6_finish_267 h
  · replace h := h.2 q
    refine zx_iconst (v := (-1)) h0 dX6_finish_165 (by decide) ?_
    refine zx_istore (L' := [(7, .int (-1)), (0, .ref a0), (3, .long l3), (5, .long l5)]) h0 dX6_finish_166 (by decide) rfl ?_
    refine zx_iconst (v := 0) h0 dX6_finish_168 (by decide) ?_
    refine zx_istore (L' := [(8, .int 0), (7, .int (-1)), (0, .ref a0), (3, .long l3), (5, .long l5)]) h0 dX6_finish_169 (by decide) rfl ?_
    exact zx_sub [2, 3, 4, 1, 0] rfl h
set_option maxRecDepth 100000 in
set_option maxHeartbeats 4000000 in
theorem sg_X6_finish_171 {C : zC} {G : zG} {Qc : Array Value → State → Outcome → State → Prop} (S : St_X6_finish C G Qc) {P_X6_pay : Nat → Int32 → Int64 → zM → Prop} {Q_X6_pay : Nat → Int32 → Int64 → zM → zM → Prop} (c_X6_pay : Con_X6_pay (zl C) G P_X6_pay Q_X6_pay) {a0 : Nat} {l3 : Int64} {l5 : Int64} {x7 : Int32} {x8 : Int32} {m : zM} (ka0 : zK G a0 = some (6, a0))
    (h : ((zI m 1606 a0 0) ≤ x8 → ((P_X6_pay a0 x7 1 m) ∧ (∀ (m2 : zM), Q_X6_pay a0 x7 1 m m2 → ((vp_in x7 16) ∧ (Pt_X6_finish_158 C G a0 l3 (l5 - 1) (zsJ m2 1648 a0 x7.toNatClampNeg (-1))))))) ∧ (¬ (zI m 1606 a0 0) ≤ x8 → ((vp_in x8 16) ∧ (((zJ m 1648 a0 x8.toNatClampNeg) < 0 → (Pt_X6_finish_171 C G a0 l3 l5 x7 (x8 + 1) m)) ∧ (¬ (zJ m 1648 a0 x8.toNatClampNeg) < 0 → ((x7 = (-1) → (Pt_X6_finish_171 C G a0 l3 l5 x8 (x8 + 1) m)) ∧ (¬ x7 = (-1) → ((vp_in x7 16) ∧ (((zJ m 1648 a0 x8.toNatClampNeg) ≤ (zJ m 1648 a0 x7.toNatClampNeg) → (Pt_X6_finish_171 C G a0 l3 l5 x7 (x8 + 1) m)) ∧ (¬ (zJ m 1648 a0 x8.toNatClampNeg) ≤ (zJ m 1648 a0 x7.toNatClampNeg) → (Pt_X6_finish_171 C G a0 l3 l5 x8 (x8 + 1) m))))))))))) : Pt_X6_finish_171 C G a0 l3 l5 x7 x8 m := by
  obtain ⟨hF, hQ, hR⟩ := id S
  have h0 : zF0 C cX6_finish 10 wsX6_finish RX6 := hF.1
  have hL := hF.2.2.1
  unfold Pt_X6_finish_171
  refine zx_iload h0 4 dX6_finish_171 rfl ?_
  refine zx_aload_n h0 0 dX6_finish_173 rfl ?_
  refine zx_get hF ka0 (by decide) rfl zi_X6_finish_6 6 (by decide) zn_X6_finish_27 rfl rfl dX6_finish_174 ?_
  refine zx_iconst (v := 0) h0 dX6_finish_177 (by decide) ?_
  refine zx_iald (j := 0) hF (zL_6_6 hL ka0) (by decide) rfl rfl (by unfold vp_in; decide) (by decide) dX6_finish_178 ?_
  refine zx_icmp_ge (tgt := 228) h0 dX6_finish_179 (by decide) (fun q => ?_) (fun q => ?_)
  · replace h := h.1 q
    refine zx_aload_n h0 0 dX6_finish_228 rfl ?_
    refine zx_iload h0 3 dX6_finish_229 rfl ?_
    refine zx_lconst (v := 1) h0 dX6_finish_231 (by decide) ?_
    obtain ⟨ho1, h⟩ := h
    refine zx_callVv (As := [.int x7, .long 1]) (rest := []) hF (c_X6_pay a0 x7 1 m ka0 ho1) (zc_X6_finish_X6_pay S) ka0 (by decide) rfl dX6_finish_232 rfl rfl (Nat.le_of_ble_eq_true rfl) ⟨Nat.zero_le _, Nat.zero_le _⟩ (fun m2 hq => ?_)
    replace h := h m2 hq
    refine zx_aload_n h0 0 dX6_finish_235 rfl ?_
    refine zx_get hF ka0 (by decide) rfl zi_X6_finish_6 48 (by decide) zn_X6_finish_121 rfl rfl dX6_finish_236 ?_
    refine zx_iload h0 3 dX6_finish_239 rfl ?_
    refine zx_ldc2 (v := (-1)) h0 zn_X6_finish_k314 dX6_finish_241 ?_
    obtain ⟨ho3, h⟩ := h
    refine zx_last (j := x7.toNatClampNeg) hF (zL_6_37 hL ka0) (by decide) rfl rfl ho3 rfl dX6_finish_244 ?_
    refine zx_lload h0 2 dX6_finish_245 rfl ?_
    refine zx_lconst (v := 1) h0 dX6_finish_247 (by decide) ?_
    refine zx_lsub h0 dX6_finish_248 ?_
    refine zx_lstore (L' := [(5, .long (l5 - 1)), (0, .ref a0), (3, .long l3), (7, .int x7), (8, .int x8)]) h0 dX6_finish_249 (by decide) rfl ?_
    refine zx_goto (tgt := 158) h0 dX6_finish_251 (by decide) ?_
    exact zx_sub [1, 2, 0] rfl h
  · replace h := h.2 q
    refine zx_aload_n h0 0 dX6_finish_182 rfl ?_
    refine zx_get hF ka0 (by decide) rfl zi_X6_finish_6 48 (by decide) zn_X6_finish_121 rfl rfl dX6_finish_183 ?_
    refine zx_iload h0 4 dX6_finish_186 rfl ?_
    obtain ⟨ho4, h⟩ := h
    refine zx_lald (j := x8.toNatClampNeg) hF (zL_6_37 hL ka0) (by decide) rfl rfl ho4 rfl dX6_finish_188 ?_
    refine zx_lconst (v := 0) h0 dX6_finish_189 (by decide) ?_
    refine zx_lcmp_lt (tgt := 222) h0 dX6_finish_190 dX6_finish_191 (by decide) (fun q => ?_) (fun q => ?_)
    · replace h := h.1 q
      refine zx_iinc (v := (x8 + 1)) (L' := [(8, .int (x8 + 1)), (0, .ref a0), (3, .long l3), (5, .long l5), (7, .int x7)]) h0 4 dX6_finish_222 rfl rfl (by decide) rfl ?_
      refine zx_goto (tgt := 171) h0 dX6_finish_225 (by decide) ?_
      exact zx_sub [1, 2, 3, 4, 0] rfl h
    · replace h := h.2 q
      refine zx_iload h0 3 dX6_finish_194 rfl ?_
      refine zx_iconst (v := (-1)) h0 dX6_finish_196 (by decide) ?_
      refine zx_icmp_eq (tgt := 218) h0 dX6_finish_197 (by decide) (fun q => ?_) (fun q => ?_)
      · replace h := h.1 q
        refine zx_iload h0 4 dX6_finish_218 rfl ?_
        refine zx_istore (L' := [(7, .int x8), (0, .ref a0), (3, .long l3), (5, .long l5), (8, .int x8)]) h0 dX6_finish_220 (by decide) rfl ?_
        refine zx_iinc (v := (x8 + 1)) (L' := [(8, .int (x8 + 1)), (7, .int x8), (0, .ref a0), (3, .long l3), (5, .long l5)]) h0 4 dX6_finish_222 rfl rfl (by decide) rfl ?_
        refine zx_goto (tgt := 171) h0 dX6_finish_225 (by decide) ?_
        exact zx_sub [2, 3, 4, 1, 0] rfl h
      · replace h := h.2 q
        refine zx_aload_n h0 0 dX6_finish_200 rfl ?_
        refine zx_get hF ka0 (by decide) rfl zi_X6_finish_6 48 (by decide) zn_X6_finish_121 rfl rfl dX6_finish_201 ?_
        refine zx_iload h0 4 dX6_finish_204 rfl ?_
        refine zx_lald (j := x8.toNatClampNeg) hF (zL_6_37 hL ka0) (by decide) rfl rfl ho4 rfl dX6_finish_206 ?_
        refine zx_aload_n h0 0 dX6_finish_207 rfl ?_
        refine zx_get hF ka0 (by decide) rfl zi_X6_finish_6 48 (by decide) zn_X6_finish_121 rfl rfl dX6_finish_208 ?_
        refine zx_iload h0 3 dX6_finish_211 rfl ?_
        obtain ⟨ho5, h⟩ := h
        refine zx_lald (j := x7.toNatClampNeg) hF (zL_6_37 hL ka0) (by decide) rfl rfl ho5 rfl dX6_finish_213 ?_
        refine zx_lcmp_le (tgt := 222) h0 dX6_finish_214 dX6_finish_215 (by decide) (fun q => ?_) (fun q => ?_)
        · replace h := h.1 q
          refine zx_iinc (v := (x8 + 1)) (L' := [(8, .int (x8 + 1)), (0, .ref a0), (3, .long l3), (5, .long l5), (7, .int x7)]) h0 4 dX6_finish_222 rfl rfl (by decide) rfl ?_
          refine zx_goto (tgt := 171) h0 dX6_finish_225 (by decide) ?_
          exact zx_sub [1, 2, 3, 4, 0] rfl h
        · replace h := h.2 q
          refine zx_iload h0 4 dX6_finish_218 rfl ?_
          refine zx_istore (L' := [(7, .int x8), (0, .ref a0), (3, .long l3), (5, .long l5), (8, .int x8)]) h0 dX6_finish_220 (by decide) rfl ?_
          refine zx_iinc (v := (x8 + 1)) (L' := [(8, .int (x8 + 1)), (7, .int x8), (0, .ref a0), (3, .long l3), (5, .long l5)]) h0 4 dX6_finish_222 rfl rfl (by decide) rfl ?_
          refine zx_goto (tgt := 171) h0 dX6_finish_225 (by decide) ?_
          exact zx_sub [2, 3, 4, 1, 0] rfl h
theorem zn_X6_sum_129 : Cond.fieldLink RX6 129 RX6 (TX6 0).2.1 (TX6 0).2.2.1 ∈ wsX6_sum := List.mem_of_getElem? (i := 1) rfl
theorem zi_X6_sum_6 : ∀ w ∈ u_ws RX6 TX6 50, w ∈ wsX6_sum := fun _ h => List.mem_cons_of_mem _ (List.mem_append_right _ h)
theorem zn_X6_sum_k314 : Cond.constantLong RX6 314 (-1) ∈ wsX6_sum := List.mem_of_getElem? (i := 4) rfl
theorem zn_X6_sum_23 : Cond.fieldLink RX6 23 RX6 (TX6 5).2.1 (TX6 5).2.2.1 ∈ wsX6_sum := List.mem_of_getElem? (i := 2) rfl
theorem zn_X6_sum_27 : Cond.fieldLink RX6 27 RX6 (TX6 6).2.1 (TX6 6).2.2.1 ∈ wsX6_sum := List.mem_of_getElem? (i := 3) rfl
theorem zc_X6_sum_X6_paidAll {C : zC} {G : zG} {Qc : Array Value → State → Outcome → State → Prop} (S : St_X6_sum C G Qc) : CallW (zRm C) (zs C) (zar C) RX6 RX6 159 yX6_paidAll cX6_paidAll 4 (some .long) wsX6_paidAll rm_X6_paidAll 0 0 0 := cwV 0 S.1.1.2.2.2.2 gX6_sum_X6_paidAll rfl rfl rfl (by decide +kernel) (by rw [S.2.2]; exact ⟨Nat.le_of_ble_eq_true rfl, Nat.le_of_ble_eq_true rfl⟩)
theorem zc_X6_sum_X6_all {C : zC} {G : zG} {Qc : Array Value → State → Outcome → State → Prop} (S : St_X6_sum C G Qc) : CallW (zRm C) (zs C) (zar C) RX6 RX6 296 yX6_all cX6_all 4 (some .long) wsX6_all rm_X6_all 0 0 0 := cwV 0 S.1.1.2.2.2.2 gX6_sum_X6_all rfl rfl rfl (by decide +kernel) (by rw [S.2.2]; exact ⟨Nat.le_of_ble_eq_true rfl, Nat.le_of_ble_eq_true rfl⟩)
theorem zc_X6_sum_X6_leastOf {C : zC} {G : zG} {Qc : Array Value → State → Outcome → State → Prop} (S : St_X6_sum C G Qc) : CallW (zRm C) (zs C) (zar C) RX6 RX6 293 yX6_leastOf cX6_leastOf 5 (some .int) wsX6_leastOf rm_X6_leastOf 0 0 1 := cwV 1 S.1.1.2.2.2.2 gX6_sum_X6_leastOf rfl rfl rfl (by decide +kernel) (by rw [S.2.2]; exact ⟨Nat.le_of_ble_eq_true rfl, Nat.le_of_ble_eq_true rfl⟩)
set_option maxRecDepth 100000 in
set_option maxHeartbeats 4000000 in
theorem sg_X6_sum_0 {C : zC} {G : zG} {Qc : Array Value → State → Outcome → State → Prop} (S : St_X6_sum C G Qc) {P_X6_paidAll : Nat → zM → Prop} {Q_X6_paidAll : Nat → zM → Int64 → Prop} (c_X6_paidAll : Con_X6_paidAll (zl C) G P_X6_paidAll Q_X6_paidAll) {P_X6_all : Nat → zM → Prop} {Q_X6_all : Nat → zM → Int64 → Prop} (c_X6_all : Con_X6_all (zl C) G P_X6_all Q_X6_all) {a0 : Nat} {x1 : Int32} {m : zM} (ka0 : zK G a0 = some (6, a0))
    (h : ((x1).toInt < 0 ∨ 3 < (x1).toInt → (zRet C G Qc (some (.long (-1))) (zsI m 600 a0 0 0))) ∧ (x1 = 0 → (zRet C G Qc (some (.long (zJ m 1605 a0 0))) (zsI m 600 a0 0 0))) ∧ (x1 = 1 → ((P_X6_paidAll a0 (zsI m 600 a0 0 0)) ∧ (∀ (r2 : Int64), Q_X6_paidAll a0 (zsI m 600 a0 0 0) r2 → (zRet C G Qc (some (.long r2)) (zsI m 600 a0 0 0))))) ∧ (x1 = 2 → ((P_X6_all a0 (zsI m 600 a0 0 0)) ∧ (∀ (r4 : Int64), Q_X6_all a0 (zsI m 600 a0 0 0) r4 → (zRet C G Qc (some (.long r4)) (zsI m 600 a0 0 0))))) ∧ (x1 = 3 → (Pt_X6_sum_58 C G a0 0 0 (zsI m 600 a0 0 0)))) : Pt_X6_sum_0 C G a0 x1 m := by
  obtain ⟨hF, hQ, hR⟩ := id S
  have h0 : zF0 C cX6_sum 5 wsX6_sum RX6 := hF.1
  have hL := hF.2.2.1
  unfold Pt_X6_sum_0
  refine zx_aload_n h0 0 dX6_sum_0 rfl ?_
  refine zx_iconst (v := 0) h0 dX6_sum_1 (by decide) ?_
  refine zp_600 hF ka0 zi_X6_sum_6 zn_X6_sum_129 dX6_sum_2 ?_
  refine zx_iload_n h0 1 dX6_sum_5 rfl ?_
  by_cases hout : (x1).toInt < 0 ∨ 3 < (x1).toInt
  · replace h := h.1 hout
    refine zx_tabOut (tgt := 87) h0 dX6_sum_6 hout (by decide) ?_
    refine zx_ldc2 (v := (-1)) h0 zn_X6_sum_k314 dX6_sum_87 ?_
    exact zx_lret hF hQ dX6_sum_90 h
  replace h := h.2
  by_cases q0 : x1 = 0
  · replace h := h.1 q0
    refine zx_tabIn (tgt := 36) h0 dX6_sum_6 (by rw [q0]; decide) (by rw [q0]; decide) (by rw [q0]; rfl) (by decide) ?_
    refine zx_aload_n h0 0 dX6_sum_36 rfl ?_
    refine zx_get hF ka0 (by decide) rfl zi_X6_sum_6 5 (by decide) zn_X6_sum_23 rfl rfl dX6_sum_37 ?_
    refine zx_iconst (v := 0) h0 dX6_sum_40 (by decide) ?_
    refine zx_lald (j := 0) hF (zL_6_5 hL ka0) (by decide) rfl rfl (by unfold vp_in; decide) (by decide) dX6_sum_41 ?_
    refine zx_topJ (zJ_I) ?_
    exact zx_lret hF hQ dX6_sum_42 h
  by_cases q1 : x1 = 1
  · replace h := h.2.1 q1
    refine zx_tabIn (tgt := 43) h0 dX6_sum_6 (by rw [q1]; decide) (by rw [q1]; decide) (by rw [q1]; rfl) (by decide) ?_
    refine zx_aload_n h0 0 dX6_sum_43 rfl ?_
    obtain ⟨ho1, h⟩ := h
    refine zx_callVl (As := []) (rest := []) hF (c_X6_paidAll a0 (zsI m 600 a0 0 0) ka0 ho1) (zc_X6_sum_X6_paidAll S) ka0 (by decide) rfl dX6_sum_44 rfl rfl (Nat.le_of_ble_eq_true rfl) ⟨Nat.zero_le _, Nat.zero_le _⟩ (fun r2 m2 hq => ?_)
    obtain ⟨hme, hq⟩ := hq
    subst m2
    replace h := h r2 hq
    exact zx_lret hF hQ dX6_sum_47 h
  by_cases q2 : x1 = 2
  · replace h := h.2.2.1 q2
    refine zx_tabIn (tgt := 48) h0 dX6_sum_6 (by rw [q2]; decide) (by rw [q2]; decide) (by rw [q2]; rfl) (by decide) ?_
    refine zx_aload_n h0 0 dX6_sum_48 rfl ?_
    obtain ⟨ho3, h⟩ := h
    refine zx_callVl (As := []) (rest := []) hF (c_X6_all a0 (zsI m 600 a0 0 0) ka0 ho3) (zc_X6_sum_X6_all S) ka0 (by decide) rfl dX6_sum_49 rfl rfl (Nat.le_of_ble_eq_true rfl) ⟨Nat.zero_le _, Nat.zero_le _⟩ (fun r4 m4 hq => ?_)
    obtain ⟨hme, hq⟩ := hq
    subst m4
    replace h := h r4 hq
    exact zx_lret hF hQ dX6_sum_52 h
  by_cases q3 : x1 = 3
  · replace h := h.2.2.2 q3
    refine zx_tabIn (tgt := 53) h0 dX6_sum_6 (by rw [q3]; decide) (by rw [q3]; decide) (by rw [q3]; rfl) (by decide) ?_
    refine zx_lconst (v := 0) h0 dX6_sum_53 (by decide) ?_
    refine zx_lstore_n (L' := [(2, .long 0), (0, .ref a0), (1, .int x1)]) h0 dX6_sum_54 (by decide) rfl ?_
    refine zx_iconst (v := 0) h0 dX6_sum_55 (by decide) ?_
    refine zx_istore (L' := [(4, .int 0), (2, .long 0), (0, .ref a0), (1, .int x1)]) h0 dX6_sum_56 (by decide) rfl ?_
    exact zx_sub [2, 1, 0] rfl h
  exact absurd (z_out3 q0 q1 q2 q3) hout
set_option maxRecDepth 100000 in
set_option maxHeartbeats 4000000 in
theorem sg_X6_sum_58 {C : zC} {G : zG} {Qc : Array Value → State → Outcome → State → Prop} (S : St_X6_sum C G Qc) {P_X6_leastOf : Nat → Int32 → zM → Prop} {Q_X6_leastOf : Nat → Int32 → zM → Int32 → Prop} (c_X6_leastOf : Con_X6_leastOf (zl C) G P_X6_leastOf Q_X6_leastOf) {a0 : Nat} {l2 : Int64} {x4 : Int32} {m : zM} (ka0 : zK G a0 = some (6, a0))
    (h : ((zI m 1606 a0 0) ≤ x4 → (zRet C G Qc (some (.long l2)) m)) ∧ (¬ (zI m 1606 a0 0) ≤ x4 → ((P_X6_leastOf a0 x4 m) ∧ (∀ (r2 : Int32), Q_X6_leastOf a0 x4 m r2 → (Pt_X6_sum_58 C G a0 (l2 + ((r2 : Int32).toInt64)) (x4 + 1) m))))) : Pt_X6_sum_58 C G a0 l2 x4 m := by
  obtain ⟨hF, hQ, hR⟩ := id S
  have h0 : zF0 C cX6_sum 5 wsX6_sum RX6 := hF.1
  have hL := hF.2.2.1
  unfold Pt_X6_sum_58
  refine zx_iload h0 2 dX6_sum_58 rfl ?_
  refine zx_aload_n h0 0 dX6_sum_60 rfl ?_
  refine zx_get hF ka0 (by decide) rfl zi_X6_sum_6 6 (by decide) zn_X6_sum_27 rfl rfl dX6_sum_61 ?_
  refine zx_iconst (v := 0) h0 dX6_sum_64 (by decide) ?_
  refine zx_iald (j := 0) hF (zL_6_6 hL ka0) (by decide) rfl rfl (by unfold vp_in; decide) (by decide) dX6_sum_65 ?_
  refine zx_icmp_ge (tgt := 85) h0 dX6_sum_66 (by decide) (fun q => ?_) (fun q => ?_)
  · replace h := h.1 q
    refine zx_lload_n h0 1 dX6_sum_85 rfl ?_
    exact zx_lret hF hQ dX6_sum_86 h
  · replace h := h.2 q
    refine zx_lload_n h0 1 dX6_sum_69 rfl ?_
    refine zx_aload_n h0 0 dX6_sum_70 rfl ?_
    refine zx_iload h0 2 dX6_sum_71 rfl ?_
    obtain ⟨ho1, h⟩ := h
    refine zx_callVi (As := [.int x4]) (rest := [.long l2]) hF (c_X6_leastOf a0 x4 m ka0 ho1) (zc_X6_sum_X6_leastOf S) ka0 (by decide) rfl dX6_sum_73 rfl rfl (Nat.le_of_ble_eq_true rfl) ⟨Nat.zero_le _, Nat.zero_le _⟩ (fun r2 m2 hq => ?_)
    obtain ⟨hme, hq⟩ := hq
    subst m2
    replace h := h r2 hq
    refine zx_i2l (v := ((r2 : Int32).toInt64)) h0 dX6_sum_76 rfl ?_
    refine zx_ladd h0 dX6_sum_77 ?_
    refine zx_lstore_n (L' := [(2, .long (l2 + ((r2 : Int32).toInt64))), (0, .ref a0), (4, .int x4)]) h0 dX6_sum_78 (by decide) rfl ?_
    refine zx_iinc (v := (x4 + 1)) (L' := [(4, .int (x4 + 1)), (2, .long (l2 + ((r2 : Int32).toInt64))), (0, .ref a0)]) h0 2 dX6_sum_79 rfl rfl (by decide) rfl ?_
    refine zx_goto (tgt := 58) h0 dX6_sum_82 (by decide) ?_
    exact zx_sub [2, 1, 0] rfl h
theorem zn_X6_count_129 : Cond.fieldLink RX6 129 RX6 (TX6 0).2.1 (TX6 0).2.2.1 ∈ wsX6_count := List.mem_of_getElem? (i := 1) rfl
theorem zi_X6_count_6 : ∀ w ∈ u_ws RX6 TX6 50, w ∈ wsX6_count := fun _ h => List.mem_cons_of_mem _ (List.mem_append_right _ h)
theorem zn_X6_count_27 : Cond.fieldLink RX6 27 RX6 (TX6 6).2.1 (TX6 6).2.2.1 ∈ wsX6_count := List.mem_of_getElem? (i := 2) rfl
theorem zn_X6_count_64 : Cond.fieldLink RX6 64 RX6 (TX6 18).2.1 (TX6 18).2.2.1 ∈ wsX6_count := List.mem_of_getElem? (i := 3) rfl
theorem zn_X6_count_30 : Cond.fieldLink RX6 30 RX6 (TX6 7).2.1 (TX6 7).2.2.1 ∈ wsX6_count := List.mem_of_getElem? (i := 4) rfl
theorem zn_X6_count_33 : Cond.fieldLink RX6 33 RX6 (TX6 8).2.1 (TX6 8).2.2.1 ∈ wsX6_count := List.mem_of_getElem? (i := 5) rfl
theorem zc_X6_count_X6_states {C : zC} {G : zG} {Qc : Array Value → State → Outcome → State → Prop} (S : St_X6_count C G Qc) : CallW (zRm C) (zs C) (zar C) RX6 RX6 326 yX6_states cX6_states 4 (some .int) wsX6_states rm_X6_states 0 0 1 := cwV 1 S.1.1.2.2.2.2 gX6_count_X6_states rfl rfl rfl (by decide +kernel) (by rw [S.2.2]; exact ⟨Nat.le_of_ble_eq_true rfl, Nat.le_of_ble_eq_true rfl⟩)
set_option maxRecDepth 100000 in
set_option maxHeartbeats 4000000 in
theorem sg_X6_count_0 {C : zC} {G : zG} {Qc : Array Value → State → Outcome → State → Prop} (S : St_X6_count C G Qc) {P_X6_states : Nat → Int32 → zM → Prop} {Q_X6_states : Nat → Int32 → zM → Int32 → Prop} (c_X6_states : Con_X6_states (zl C) G P_X6_states Q_X6_states) {a0 : Nat} {x1 : Int32} {m : zM} (ka0 : zK G a0 = some (6, a0))
    (h : ((x1).toInt < 0 ∨ 6 < (x1).toInt → (zRet C G Qc (some (.int (-1))) (zsI m 600 a0 0 0))) ∧ (x1 = 0 → (zRet C G Qc (some (.int (zI m 1606 a0 0))) (zsI m 600 a0 0 0))) ∧ (x1 = 1 → ((P_X6_states a0 0 (zsI m 600 a0 0 0)) ∧ (∀ (r2 : Int32), Q_X6_states a0 0 (zsI m 600 a0 0 0) r2 → (zRet C G Qc (some (.int r2)) (zsI m 600 a0 0 0))))) ∧ (x1 = 2 → ((P_X6_states a0 1 (zsI m 600 a0 0 0)) ∧ (∀ (r4 : Int32), Q_X6_states a0 1 (zsI m 600 a0 0 0) r4 → (zRet C G Qc (some (.int r4)) (zsI m 600 a0 0 0))))) ∧ (x1 = 3 → ((P_X6_states a0 2 (zsI m 600 a0 0 0)) ∧ (∀ (r6 : Int32), Q_X6_states a0 2 (zsI m 600 a0 0 0) r6 → (zRet C G Qc (some (.int r6)) (zsI m 600 a0 0 0))))) ∧ (x1 = 4 → (zRet C G Qc (some (.int (zI m 1618 a0 0))) (zsI m 600 a0 0 0))) ∧ (x1 = 5 → (zRet C G Qc (some (.int (zI m 1607 a0 0))) (zsI m 600 a0 0 0))) ∧ (x1 = 6 → (((zI m 1608 a0 0) = 0 → (zRet C G Qc (some (.int 0)) (zsI m 600 a0 0 0))) ∧ (¬ (zI m 1608 a0 0) = 0 → (zRet C G Qc (some (.int 1)) (zsI m 600 a0 0 0)))))) : Pt_X6_count_0 C G a0 x1 m := by
  obtain ⟨hF, hQ, hR⟩ := id S
  have h0 : zF0 C cX6_count 2 wsX6_count RX6 := hF.1
  have hL := hF.2.2.1
  unfold Pt_X6_count_0
  refine zx_aload_n h0 0 dX6_count_0 rfl ?_
  refine zx_iconst (v := 0) h0 dX6_count_1 (by decide) ?_
  refine zp_600 hF ka0 zi_X6_count_6 zn_X6_count_129 dX6_count_2 ?_
  refine zx_iload_n h0 1 dX6_count_5 rfl ?_
  by_cases hout : (x1).toInt < 0 ∨ 6 < (x1).toInt
  · replace h := h.1 hout
    refine zx_tabOut (tgt := 102) h0 dX6_count_6 hout (by decide) ?_
    refine zx_iconst (v := (-1)) h0 dX6_count_102 (by decide) ?_
    exact zx_iret hF hQ dX6_count_103 h
  replace h := h.2
  by_cases q0 : x1 = 0
  · replace h := h.1 q0
    refine zx_tabIn (tgt := 48) h0 dX6_count_6 (by rw [q0]; decide) (by rw [q0]; decide) (by rw [q0]; rfl) (by decide) ?_
    refine zx_aload_n h0 0 dX6_count_48 rfl ?_
    refine zx_get hF ka0 (by decide) rfl zi_X6_count_6 6 (by decide) zn_X6_count_27 rfl rfl dX6_count_49 ?_
    refine zx_iconst (v := 0) h0 dX6_count_52 (by decide) ?_
    refine zx_iald (j := 0) hF (zL_6_6 hL ka0) (by decide) rfl rfl (by unfold vp_in; decide) (by decide) dX6_count_53 ?_
    refine zx_topI (zI_n (by decide)) ?_
    exact zx_iret hF hQ dX6_count_54 h
  by_cases q1 : x1 = 1
  · replace h := h.2.1 q1
    refine zx_tabIn (tgt := 55) h0 dX6_count_6 (by rw [q1]; decide) (by rw [q1]; decide) (by rw [q1]; rfl) (by decide) ?_
    refine zx_aload_n h0 0 dX6_count_55 rfl ?_
    refine zx_iconst (v := 0) h0 dX6_count_56 (by decide) ?_
    obtain ⟨ho1, h⟩ := h
    refine zx_callVi (As := [.int 0]) (rest := []) hF (c_X6_states a0 0 (zsI m 600 a0 0 0) ka0 ho1) (zc_X6_count_X6_states S) ka0 (by decide) rfl dX6_count_57 rfl rfl (Nat.le_of_ble_eq_true rfl) ⟨Nat.zero_le _, Nat.zero_le _⟩ (fun r2 m2 hq => ?_)
    obtain ⟨hme, hq⟩ := hq
    subst m2
    replace h := h r2 hq
    exact zx_iret hF hQ dX6_count_60 h
  by_cases q2 : x1 = 2
  · replace h := h.2.2.1 q2
    refine zx_tabIn (tgt := 61) h0 dX6_count_6 (by rw [q2]; decide) (by rw [q2]; decide) (by rw [q2]; rfl) (by decide) ?_
    refine zx_aload_n h0 0 dX6_count_61 rfl ?_
    refine zx_iconst (v := 1) h0 dX6_count_62 (by decide) ?_
    obtain ⟨ho3, h⟩ := h
    refine zx_callVi (As := [.int 1]) (rest := []) hF (c_X6_states a0 1 (zsI m 600 a0 0 0) ka0 ho3) (zc_X6_count_X6_states S) ka0 (by decide) rfl dX6_count_63 rfl rfl (Nat.le_of_ble_eq_true rfl) ⟨Nat.zero_le _, Nat.zero_le _⟩ (fun r4 m4 hq => ?_)
    obtain ⟨hme, hq⟩ := hq
    subst m4
    replace h := h r4 hq
    exact zx_iret hF hQ dX6_count_66 h
  by_cases q3 : x1 = 3
  · replace h := h.2.2.2.1 q3
    refine zx_tabIn (tgt := 67) h0 dX6_count_6 (by rw [q3]; decide) (by rw [q3]; decide) (by rw [q3]; rfl) (by decide) ?_
    refine zx_aload_n h0 0 dX6_count_67 rfl ?_
    refine zx_iconst (v := 2) h0 dX6_count_68 (by decide) ?_
    obtain ⟨ho5, h⟩ := h
    refine zx_callVi (As := [.int 2]) (rest := []) hF (c_X6_states a0 2 (zsI m 600 a0 0 0) ka0 ho5) (zc_X6_count_X6_states S) ka0 (by decide) rfl dX6_count_69 rfl rfl (Nat.le_of_ble_eq_true rfl) ⟨Nat.zero_le _, Nat.zero_le _⟩ (fun r6 m6 hq => ?_)
    obtain ⟨hme, hq⟩ := hq
    subst m6
    replace h := h r6 hq
    exact zx_iret hF hQ dX6_count_72 h
  by_cases q4 : x1 = 4
  · replace h := h.2.2.2.2.1 q4
    refine zx_tabIn (tgt := 73) h0 dX6_count_6 (by rw [q4]; decide) (by rw [q4]; decide) (by rw [q4]; rfl) (by decide) ?_
    refine zx_aload_n h0 0 dX6_count_73 rfl ?_
    refine zx_get hF ka0 (by decide) rfl zi_X6_count_6 18 (by decide) zn_X6_count_64 rfl rfl dX6_count_74 ?_
    refine zx_iconst (v := 0) h0 dX6_count_77 (by decide) ?_
    refine zx_iald (j := 0) hF (zL_6_18 hL ka0) (by decide) rfl rfl (by unfold vp_in; decide) (by decide) dX6_count_78 ?_
    refine zx_topI (zI_n (by decide)) ?_
    exact zx_iret hF hQ dX6_count_79 h
  by_cases q5 : x1 = 5
  · replace h := h.2.2.2.2.2.1 q5
    refine zx_tabIn (tgt := 80) h0 dX6_count_6 (by rw [q5]; decide) (by rw [q5]; decide) (by rw [q5]; rfl) (by decide) ?_
    refine zx_aload_n h0 0 dX6_count_80 rfl ?_
    refine zx_get hF ka0 (by decide) rfl zi_X6_count_6 7 (by decide) zn_X6_count_30 rfl rfl dX6_count_81 ?_
    refine zx_iconst (v := 0) h0 dX6_count_84 (by decide) ?_
    refine zx_iald (j := 0) hF (zL_6_7 hL ka0) (by decide) rfl rfl (by unfold vp_in; decide) (by decide) dX6_count_85 ?_
    refine zx_topI (zI_n (by decide)) ?_
    exact zx_iret hF hQ dX6_count_86 h
  by_cases q6 : x1 = 6
  · replace h := h.2.2.2.2.2.2 q6
    refine zx_tabIn (tgt := 87) h0 dX6_count_6 (by rw [q6]; decide) (by rw [q6]; decide) (by rw [q6]; rfl) (by decide) ?_
    refine zx_aload_n h0 0 dX6_count_87 rfl ?_
    refine zx_get hF ka0 (by decide) rfl zi_X6_count_6 8 (by decide) zn_X6_count_33 rfl rfl dX6_count_88 ?_
    refine zx_iconst (v := 0) h0 dX6_count_91 (by decide) ?_
    refine zx_zald (j := 0) hF (zL_6_8 hL ka0) (by decide) rfl rfl (by unfold vp_in; decide) (by decide) dX6_count_92 ?_
    refine zx_topI (zI_n (by decide)) ?_
    refine zx_if_eq (tgt := 100) h0 dX6_count_93 (by decide) (fun q => ?_) (fun q => ?_)
    · replace h := h.1 q
      refine zx_iconst (v := 0) h0 dX6_count_100 (by decide) ?_
      exact zx_iret hF hQ dX6_count_101 h
    · replace h := h.2 q
      refine zx_iconst (v := 1) h0 dX6_count_96 (by decide) ?_
      refine zx_goto (tgt := 101) h0 dX6_count_97 (by decide) ?_
      exact zx_iret hF hQ dX6_count_101 h
  exact absurd (z_out6 q0 q1 q2 q3 q4 q5 q6) hout
theorem zn_X6_image_129 : Cond.fieldLink RX6 129 RX6 (TX6 0).2.1 (TX6 0).2.2.1 ∈ wsX6_image := List.mem_of_getElem? (i := 1) rfl
theorem zi_X6_image_6 : ∀ w ∈ u_ws RX6 TX6 50, w ∈ wsX6_image := fun _ h => List.mem_cons_of_mem _ (List.mem_append_right _ h)
theorem zn_X6_image_124 : Cond.fieldLink RX6 124 RX6 (TX6 49).2.1 (TX6 49).2.2.1 ∈ wsX6_image := List.mem_of_getElem? (i := 2) rfl
theorem zc_X6_image_X6_in {C : zC} {G : zG} {Qc : Array Value → State → Outcome → State → Prop} (S : St_X6_image C G Qc) : CallB (zRm C) (zs C) (zar C) RX6 145 yX6_in cX6_in 3 (some .boolean) wsX6_in rm_X6_in 0 0 3 ∧ (Cond.static yX6_in).before (zar C) (zs C) = true := cwS 3 S.1.1.2.2.2.2 gX6_image_X6_in rfl rfl rfl (by decide +kernel) (by rw [S.2.2]; exact ⟨Nat.le_of_ble_eq_true rfl, Nat.le_of_ble_eq_true rfl⟩)
theorem zc_X6_image_X6_copy {C : zC} {G : zG} {Qc : Array Value → State → Outcome → State → Prop} (S : St_X6_image C G Qc) : CallW (zRm C) (zs C) (zar C) RX6 RX6 329 yX6_copy cX6_copy 4 none wsX6_copy rm_X6_copy 0 0 2 := cwV 2 S.1.1.2.2.2.2 gX6_image_X6_copy rfl rfl rfl (by decide +kernel) (by rw [S.2.2]; exact ⟨Nat.le_of_ble_eq_true rfl, Nat.le_of_ble_eq_true rfl⟩)
set_option maxRecDepth 100000 in
set_option maxHeartbeats 4000000 in
theorem sg_X6_image_0 {C : zC} {G : zG} {Qc : Array Value → State → Outcome → State → Prop} (S : St_X6_image C G Qc) {P_X6_in : Int32 → Int32 → Int32 → zM → Prop} {Q_X6_in : Int32 → Int32 → Int32 → zM → Int32 → Prop} (c_X6_in : Con_X6_in (zl C) G P_X6_in Q_X6_in) {P_X6_copy : Nat → Int32 → Int32 → zM → Prop} {Q_X6_copy : Nat → Int32 → Int32 → zM → zM → Prop} (c_X6_copy : Con_X6_copy (zl C) G P_X6_copy Q_X6_copy) {a0 : Nat} {x1 : Int32} {m : zM} (ka0 : zK G a0 = some (6, a0))
    (h : (P_X6_in x1 0 2 (zsI m 600 a0 0 0)) ∧ (∀ (r2 : Int32), Q_X6_in x1 0 2 (zsI m 600 a0 0 0) r2 → ((¬ r2 = 0 → ((P_X6_copy a0 0 (x1 + 1) (zsI m 600 a0 0 0)) ∧ (∀ (m4 : zM), Q_X6_copy a0 0 (x1 + 1) (zsI m 600 a0 0 0) m4 → ((vp_in x1 3) ∧ (zRet C G Qc (some (.int 1)) (zsI m4 1649 a0 x1.toNatClampNeg 1)))))) ∧ (r2 = 0 → (zRet C G Qc (some (.int 0)) (zsI m 600 a0 0 0)))))) : Pt_X6_image_0 C G a0 x1 m := by
  obtain ⟨hF, hQ, hR⟩ := id S
  have h0 : zF0 C cX6_image 2 wsX6_image RX6 := hF.1
  have hL := hF.2.2.1
  unfold Pt_X6_image_0
  refine zx_aload_n h0 0 dX6_image_0 rfl ?_
  refine zx_iconst (v := 0) h0 dX6_image_1 (by decide) ?_
  refine zp_600 hF ka0 zi_X6_image_6 zn_X6_image_129 dX6_image_2 ?_
  refine zx_iload_n h0 1 dX6_image_5 rfl ?_
  refine zx_iconst (v := 0) h0 dX6_image_6 (by decide) ?_
  refine zx_iconst (v := 2) h0 dX6_image_7 (by decide) ?_
  obtain ⟨ho1, h⟩ := h
  refine zx_callSi (As := [.int x1, .int 0, .int 2]) (rest := []) hF (c_X6_in x1 0 2 (zsI m 600 a0 0 0)  ho1) (zc_X6_image_X6_in S)  dX6_image_8 rfl rfl (Nat.le_of_ble_eq_true rfl) ⟨Nat.zero_le _, Nat.zero_le _⟩ (fun r2 m2 hq => ?_)
  obtain ⟨hme, hq⟩ := hq
  subst m2
  replace h := h r2 hq
  refine zx_if_ne (tgt := 16) h0 dX6_image_11 (by decide) (fun q => ?_) (fun q => ?_)
  · replace h := h.1 q
    refine zx_aload_n h0 0 dX6_image_16 rfl ?_
    refine zx_iconst (v := 0) h0 dX6_image_17 (by decide) ?_
    refine zx_iload_n h0 1 dX6_image_18 rfl ?_
    refine zx_iconst (v := 1) h0 dX6_image_19 (by decide) ?_
    refine zx_iadd h0 dX6_image_20 ?_
    obtain ⟨ho3, h⟩ := h
    refine zx_callVv (As := [.int 0, .int (x1 + 1)]) (rest := []) hF (c_X6_copy a0 0 (x1 + 1) (zsI m 600 a0 0 0) ka0 ho3) (zc_X6_image_X6_copy S) ka0 (by decide) rfl dX6_image_21 rfl rfl (Nat.le_of_ble_eq_true rfl) ⟨Nat.zero_le _, Nat.zero_le _⟩ (fun m4 hq => ?_)
    replace h := h m4 hq
    refine zx_aload_n h0 0 dX6_image_24 rfl ?_
    refine zx_get hF ka0 (by decide) rfl zi_X6_image_6 49 (by decide) zn_X6_image_124 rfl rfl dX6_image_25 ?_
    refine zx_iload_n h0 1 dX6_image_28 rfl ?_
    refine zx_iconst (v := 1) h0 dX6_image_29 (by decide) ?_
    obtain ⟨ho5, h⟩ := h
    refine zx_zast (j := x1.toNatClampNeg) (xv := 1) hF (zL_6_38 hL ka0) (by decide) rfl rfl ho5 rfl (by decide) (z_fitz (by decide) (by decide)) dX6_image_30 ?_
    refine zx_iconst (v := 1) h0 dX6_image_31 (by decide) ?_
    exact zx_zret hF hQ rfl dX6_image_32 h
  · replace h := h.2 q
    refine zx_iconst (v := 0) h0 dX6_image_14 (by decide) ?_
    exact zx_zret hF hQ rfl dX6_image_15 h
theorem zn_X6_again_129 : Cond.fieldLink RX6 129 RX6 (TX6 0).2.1 (TX6 0).2.2.1 ∈ wsX6_again := List.mem_of_getElem? (i := 1) rfl
theorem zi_X6_again_6 : ∀ w ∈ u_ws RX6 TX6 50, w ∈ wsX6_again := fun _ h => List.mem_cons_of_mem _ (List.mem_append_right _ h)
theorem zn_X6_again_124 : Cond.fieldLink RX6 124 RX6 (TX6 49).2.1 (TX6 49).2.2.1 ∈ wsX6_again := List.mem_of_getElem? (i := 2) rfl
theorem zc_X6_again_X6_in {C : zC} {G : zG} {Qc : Array Value → State → Outcome → State → Prop} (S : St_X6_again C G Qc) : CallB (zRm C) (zs C) (zar C) RX6 145 yX6_in cX6_in 3 (some .boolean) wsX6_in rm_X6_in 0 0 3 ∧ (Cond.static yX6_in).before (zar C) (zs C) = true := cwS 3 S.1.1.2.2.2.2 gX6_again_X6_in rfl rfl rfl (by decide +kernel) (by rw [S.2.2]; exact ⟨Nat.le_of_ble_eq_true rfl, Nat.le_of_ble_eq_true rfl⟩)
theorem zc_X6_again_X6_copy {C : zC} {G : zG} {Qc : Array Value → State → Outcome → State → Prop} (S : St_X6_again C G Qc) : CallW (zRm C) (zs C) (zar C) RX6 RX6 329 yX6_copy cX6_copy 4 none wsX6_copy rm_X6_copy 0 0 2 := cwV 2 S.1.1.2.2.2.2 gX6_again_X6_copy rfl rfl rfl (by decide +kernel) (by rw [S.2.2]; exact ⟨Nat.le_of_ble_eq_true rfl, Nat.le_of_ble_eq_true rfl⟩)
set_option maxRecDepth 100000 in
set_option maxHeartbeats 4000000 in
theorem sg_X6_again_0 {C : zC} {G : zG} {Qc : Array Value → State → Outcome → State → Prop} (S : St_X6_again C G Qc) {P_X6_in : Int32 → Int32 → Int32 → zM → Prop} {Q_X6_in : Int32 → Int32 → Int32 → zM → Int32 → Prop} (c_X6_in : Con_X6_in (zl C) G P_X6_in Q_X6_in) {P_X6_copy : Nat → Int32 → Int32 → zM → Prop} {Q_X6_copy : Nat → Int32 → Int32 → zM → zM → Prop} (c_X6_copy : Con_X6_copy (zl C) G P_X6_copy Q_X6_copy) {a0 : Nat} {x1 : Int32} {m : zM} (ka0 : zK G a0 = some (6, a0))
    (h : (P_X6_in x1 0 2 (zsI m 600 a0 0 0)) ∧ (∀ (r2 : Int32), Q_X6_in x1 0 2 (zsI m 600 a0 0 0) r2 → ((r2 = 0 → (zRet C G Qc (some (.int 0)) (zsI m 600 a0 0 0))) ∧ (¬ r2 = 0 → ((vp_in x1 3) ∧ ((¬ (zI m 1649 a0 x1.toNatClampNeg) = 0 → ((P_X6_copy a0 (x1 + 1) 0 (zsI m 600 a0 0 0)) ∧ (∀ (m5 : zM), Q_X6_copy a0 (x1 + 1) 0 (zsI m 600 a0 0 0) m5 → (zRet C G Qc (some (.int 1)) m5)))) ∧ ((zI m 1649 a0 x1.toNatClampNeg) = 0 → (zRet C G Qc (some (.int 0)) (zsI m 600 a0 0 0))))))))) : Pt_X6_again_0 C G a0 x1 m := by
  obtain ⟨hF, hQ, hR⟩ := id S
  have h0 : zF0 C cX6_again 2 wsX6_again RX6 := hF.1
  have hL := hF.2.2.1
  unfold Pt_X6_again_0
  refine zx_aload_n h0 0 dX6_again_0 rfl ?_
  refine zx_iconst (v := 0) h0 dX6_again_1 (by decide) ?_
  refine zp_600 hF ka0 zi_X6_again_6 zn_X6_again_129 dX6_again_2 ?_
  refine zx_iload_n h0 1 dX6_again_5 rfl ?_
  refine zx_iconst (v := 0) h0 dX6_again_6 (by decide) ?_
  refine zx_iconst (v := 2) h0 dX6_again_7 (by decide) ?_
  obtain ⟨ho1, h⟩ := h
  refine zx_callSi (As := [.int x1, .int 0, .int 2]) (rest := []) hF (c_X6_in x1 0 2 (zsI m 600 a0 0 0)  ho1) (zc_X6_again_X6_in S)  dX6_again_8 rfl rfl (Nat.le_of_ble_eq_true rfl) ⟨Nat.zero_le _, Nat.zero_le _⟩ (fun r2 m2 hq => ?_)
  obtain ⟨hme, hq⟩ := hq
  subst m2
  replace h := h r2 hq
  refine zx_if_eq (tgt := 23) h0 dX6_again_11 (by decide) (fun q => ?_) (fun q => ?_)
  · replace h := h.1 q
    refine zx_iconst (v := 0) h0 dX6_again_23 (by decide) ?_
    exact zx_zret hF hQ rfl dX6_again_24 h
  · replace h := h.2 q
    refine zx_aload_n h0 0 dX6_again_14 rfl ?_
    refine zx_get hF ka0 (by decide) rfl zi_X6_again_6 49 (by decide) zn_X6_again_124 rfl rfl dX6_again_15 ?_
    refine zx_iload_n h0 1 dX6_again_18 rfl ?_
    obtain ⟨ho3, h⟩ := h
    refine zx_zald (j := x1.toNatClampNeg) hF (zL_6_38 hL ka0) (by decide) rfl rfl ho3 rfl dX6_again_19 ?_
    refine zx_topI (zI_n (by decide)) ?_
    refine zx_if_ne (tgt := 25) h0 dX6_again_20 (by decide) (fun q => ?_) (fun q => ?_)
    · replace h := h.1 q
      refine zx_aload_n h0 0 dX6_again_25 rfl ?_
      refine zx_iload_n h0 1 dX6_again_26 rfl ?_
      refine zx_iconst (v := 1) h0 dX6_again_27 (by decide) ?_
      refine zx_iadd h0 dX6_again_28 ?_
      refine zx_iconst (v := 0) h0 dX6_again_29 (by decide) ?_
      obtain ⟨ho4, h⟩ := h
      refine zx_callVv (As := [.int (x1 + 1), .int 0]) (rest := []) hF (c_X6_copy a0 (x1 + 1) 0 (zsI m 600 a0 0 0) ka0 ho4) (zc_X6_again_X6_copy S) ka0 (by decide) rfl dX6_again_30 rfl rfl (Nat.le_of_ble_eq_true rfl) ⟨Nat.zero_le _, Nat.zero_le _⟩ (fun m5 hq => ?_)
      replace h := h m5 hq
      refine zx_iconst (v := 1) h0 dX6_again_33 (by decide) ?_
      exact zx_zret hF hQ rfl dX6_again_34 h
    · replace h := h.2 q
      refine zx_iconst (v := 0) h0 dX6_again_23 (by decide) ?_
      exact zx_zret hF hQ rfl dX6_again_24 h
