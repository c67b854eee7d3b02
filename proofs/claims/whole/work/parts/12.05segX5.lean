theorem zn_X5_count_12 : Cond.fieldLink RX5 12 RX5 (TX5 0).2.1 (TX5 0).2.2.1 ∈ wsX5_count := List.mem_of_getElem? (i := 1) rfl
theorem zi_X5_count_5 : ∀ w ∈ u_ws RX5 TX5 3, w ∈ wsX5_count := fun _ h => List.mem_cons_of_mem _ (List.mem_append_left _ (List.mem_append_left _ (List.mem_append_left _ (List.mem_append_right _ h))))
theorem zn_X5_count_209 : Cond.fieldLink RX5 209 RX0 (TX0 7).2.1 (TX0 7).2.2.1 ∈ wsX5_count := List.mem_of_getElem? (i := 2) rfl
theorem zi_X5_count_0 : ∀ w ∈ u_ws RX0 TX0 10, w ∈ wsX5_count := fun _ h => List.mem_cons_of_mem _ (List.mem_append_left _ (List.mem_append_left _ (List.mem_append_right _ h)))
theorem zn_X5_count_71 : Cond.fieldLink RX5 71 RX0 (TX0 3).2.1 (TX0 3).2.2.1 ∈ wsX5_count := List.mem_of_getElem? (i := 3) rfl
theorem zn_X5_count_82 : Cond.fieldLink RX5 82 RX2 (TX2 0).2.1 (TX2 0).2.2.1 ∈ wsX5_count := List.mem_of_getElem? (i := 4) rfl
theorem zi_X5_count_2 : ∀ w ∈ u_ws RX2 TX2 8, w ∈ wsX5_count := fun _ h => List.mem_cons_of_mem _ (List.mem_append_left _ (List.mem_append_right _ h))
theorem zn_X5_count_212 : Cond.fieldLink RX5 212 RX0 (TX0 8).2.1 (TX0 8).2.2.1 ∈ wsX5_count := List.mem_of_getElem? (i := 5) rfl
theorem zn_X5_count_27 : Cond.fieldLink RX5 27 RX0 (TX0 9).2.1 (TX0 9).2.2.1 ∈ wsX5_count := List.mem_of_getElem? (i := 6) rfl
theorem zc_X5_count_X0_inState {C : zC} {G : zG} {Qc : Array Value → State → Outcome → State → Prop} (S : St_X5_count C G Qc) : CallW (zRm C) (zs C) (zar C) RX5 RX0 197 yX0_inState cX0_inState 7 (some .int) wsX0_inState rm_X0_inState 0 0 1 := cwV 1 S.1.1.2.2.2.2 gX5_count_X0_inState rfl rfl rfl (by decide +kernel) (by rw [S.2.2]; exact ⟨Nat.le_of_ble_eq_true rfl, Nat.le_of_ble_eq_true rfl⟩)
set_option maxRecDepth 100000 in
set_option maxHeartbeats 4000000 in
theorem sg_X5_count_0 {C : zC} {G : zG} {Qc : Array Value → State → Outcome → State → Prop} (S : St_X5_count C G Qc) {P_X0_inState : Nat → Int32 → zM → Prop} {Q_X0_inState : Nat → Int32 → zM → Int32 → Prop} (c_X0_inState : Con_X0_inState (zl C) G P_X0_inState Q_X0_inState) {a0 : Nat} {x1 : Int32} {m : zM} (ka0 : zK G a0 = some (5, a0))
    (h : ((x1).toInt < 0 ∨ 6 < (x1).toInt → (zRet C G Qc (some (.int (-1))) m)) ∧ (x1 = 0 → (zRet C G Qc (some (.int (zI m 7 (a0 + 1) 0))) m)) ∧ (x1 = 1 → ((P_X0_inState (a0 + 1) 0 m) ∧ (∀ (r2 : Int32), Q_X0_inState (a0 + 1) 0 m r2 → (zRet C G Qc (some (.int r2)) m)))) ∧ (x1 = 2 → ((P_X0_inState (a0 + 1) 1 m) ∧ (∀ (r4 : Int32), Q_X0_inState (a0 + 1) 1 m r4 → (zRet C G Qc (some (.int r4)) m)))) ∧ (x1 = 3 → ((P_X0_inState (a0 + 1) 2 m) ∧ (∀ (r6 : Int32), Q_X0_inState (a0 + 1) 2 m r6 → (zRet C G Qc (some (.int r6)) m)))) ∧ (x1 = 4 → (zRet C G Qc (some (.int (zI m 200 (zR m 3 (a0 + 1)) 0))) m)) ∧ (x1 = 5 → (zRet C G Qc (some (.int (zI m 8 (a0 + 1) 0))) m)) ∧ (x1 = 6 → (((zI m 9 (a0 + 1) 0) = 0 → (zRet C G Qc (some (.int 0)) m)) ∧ (¬ (zI m 9 (a0 + 1) 0) = 0 → (zRet C G Qc (some (.int 1)) m))))) : Pt_X5_count_0 C G a0 x1 m := by
  obtain ⟨hF, hQ, hR⟩ := id S
  have h0 : zF0 C cX5_count 2 wsX5_count RX5 := hF.1
  have hL := hF.2.2.1
  unfold Pt_X5_count_0
  refine zx_iload_n h0 1 dX5_count_0 rfl ?_
  by_cases hout : (x1).toInt < 0 ∨ 6 < (x1).toInt
  · replace h := h.1 hout
    refine zx_tabOut (tgt := 114) h0 dX5_count_1 hout (by decide) ?_
    refine zx_iconst (v := (-1)) h0 dX5_count_114 (by decide) ?_
    exact zx_iret hF hQ dX5_count_115 h
  replace h := h.2
  by_cases q0 : x1 = 0
  · replace h := h.1 q0
    refine zx_tabIn (tgt := 44) h0 dX5_count_1 (by rw [q0]; decide) (by rw [q0]; decide) (by rw [q0]; rfl) (by decide) ?_
    refine zx_aload_n h0 0 dX5_count_44 rfl ?_
    refine zx_get hF ka0 (by decide) rfl zi_X5_count_5 0 (by decide) zn_X5_count_12 rfl rfl dX5_count_45 ?_
    refine zx_get hF (zL_5_1 hL ka0) (by decide) rfl zi_X5_count_0 7 (by decide) zn_X5_count_209 rfl rfl dX5_count_48 ?_
    exact zx_iret hF hQ dX5_count_51 h
  by_cases q1 : x1 = 1
  · replace h := h.2.1 q1
    refine zx_tabIn (tgt := 52) h0 dX5_count_1 (by rw [q1]; decide) (by rw [q1]; decide) (by rw [q1]; rfl) (by decide) ?_
    refine zx_aload_n h0 0 dX5_count_52 rfl ?_
    refine zx_get hF ka0 (by decide) rfl zi_X5_count_5 0 (by decide) zn_X5_count_12 rfl rfl dX5_count_53 ?_
    refine zx_iconst (v := 0) h0 dX5_count_56 (by decide) ?_
    obtain ⟨ho1, h⟩ := h
    refine zx_callVi (As := [.int 0]) (rest := []) hF (c_X0_inState (a0 + 1) 0 m (zL_5_1 hL ka0) ho1) (zc_X5_count_X0_inState S) (zL_5_1 hL ka0) (by decide) rfl dX5_count_57 rfl rfl (Nat.le_of_ble_eq_true rfl) ⟨Nat.zero_le _, Nat.zero_le _⟩ (fun r2 m2 hq => ?_)
    obtain ⟨hme, hq⟩ := hq
    subst m2
    replace h := h r2 hq
    exact zx_iret hF hQ dX5_count_60 h
  by_cases q2 : x1 = 2
  · replace h := h.2.2.1 q2
    refine zx_tabIn (tgt := 61) h0 dX5_count_1 (by rw [q2]; decide) (by rw [q2]; decide) (by rw [q2]; rfl) (by decide) ?_
    refine zx_aload_n h0 0 dX5_count_61 rfl ?_
    refine zx_get hF ka0 (by decide) rfl zi_X5_count_5 0 (by decide) zn_X5_count_12 rfl rfl dX5_count_62 ?_
    refine zx_iconst (v := 1) h0 dX5_count_65 (by decide) ?_
    obtain ⟨ho3, h⟩ := h
    refine zx_callVi (As := [.int 1]) (rest := []) hF (c_X0_inState (a0 + 1) 1 m (zL_5_1 hL ka0) ho3) (zc_X5_count_X0_inState S) (zL_5_1 hL ka0) (by decide) rfl dX5_count_66 rfl rfl (Nat.le_of_ble_eq_true rfl) ⟨Nat.zero_le _, Nat.zero_le _⟩ (fun r4 m4 hq => ?_)
    obtain ⟨hme, hq⟩ := hq
    subst m4
    replace h := h r4 hq
    exact zx_iret hF hQ dX5_count_69 h
  by_cases q3 : x1 = 3
  · replace h := h.2.2.2.1 q3
    refine zx_tabIn (tgt := 70) h0 dX5_count_1 (by rw [q3]; decide) (by rw [q3]; decide) (by rw [q3]; rfl) (by decide) ?_
    refine zx_aload_n h0 0 dX5_count_70 rfl ?_
    refine zx_get hF ka0 (by decide) rfl zi_X5_count_5 0 (by decide) zn_X5_count_12 rfl rfl dX5_count_71 ?_
    refine zx_iconst (v := 2) h0 dX5_count_74 (by decide) ?_
    obtain ⟨ho5, h⟩ := h
    refine zx_callVi (As := [.int 2]) (rest := []) hF (c_X0_inState (a0 + 1) 2 m (zL_5_1 hL ka0) ho5) (zc_X5_count_X0_inState S) (zL_5_1 hL ka0) (by decide) rfl dX5_count_75 rfl rfl (Nat.le_of_ble_eq_true rfl) ⟨Nat.zero_le _, Nat.zero_le _⟩ (fun r6 m6 hq => ?_)
    obtain ⟨hme, hq⟩ := hq
    subst m6
    replace h := h r6 hq
    exact zx_iret hF hQ dX5_count_78 h
  by_cases q4 : x1 = 4
  · replace h := h.2.2.2.2.1 q4
    refine zx_tabIn (tgt := 79) h0 dX5_count_1 (by rw [q4]; decide) (by rw [q4]; decide) (by rw [q4]; rfl) (by decide) ?_
    refine zx_aload_n h0 0 dX5_count_79 rfl ?_
    refine zx_get hF ka0 (by decide) rfl zi_X5_count_5 0 (by decide) zn_X5_count_12 rfl rfl dX5_count_80 ?_
    refine zx_wt (fun hw7 => ?_)
    refine zx_get hF (zL_5_1 hL ka0) (by decide) rfl zi_X5_count_0 3 (by decide) zn_X5_count_71 rfl rfl dX5_count_83 ?_
    refine zx_get hF (hw7.2.1 _ (zL_5_1 hL ka0)) (by decide) rfl zi_X5_count_2 0 (by decide) zn_X5_count_82 rfl rfl dX5_count_86 ?_
    exact zx_iret hF hQ dX5_count_89 h
  by_cases q5 : x1 = 5
  · replace h := h.2.2.2.2.2.1 q5
    refine zx_tabIn (tgt := 90) h0 dX5_count_1 (by rw [q5]; decide) (by rw [q5]; decide) (by rw [q5]; rfl) (by decide) ?_
    refine zx_aload_n h0 0 dX5_count_90 rfl ?_
    refine zx_get hF ka0 (by decide) rfl zi_X5_count_5 0 (by decide) zn_X5_count_12 rfl rfl dX5_count_91 ?_
    refine zx_get hF (zL_5_1 hL ka0) (by decide) rfl zi_X5_count_0 8 (by decide) zn_X5_count_212 rfl rfl dX5_count_94 ?_
    exact zx_iret hF hQ dX5_count_97 h
  by_cases q6 : x1 = 6
  · replace h := h.2.2.2.2.2.2 q6
    refine zx_tabIn (tgt := 98) h0 dX5_count_1 (by rw [q6]; decide) (by rw [q6]; decide) (by rw [q6]; rfl) (by decide) ?_
    refine zx_aload_n h0 0 dX5_count_98 rfl ?_
    refine zx_get hF ka0 (by decide) rfl zi_X5_count_5 0 (by decide) zn_X5_count_12 rfl rfl dX5_count_99 ?_
    refine zx_get hF (zL_5_1 hL ka0) (by decide) rfl zi_X5_count_0 9 (by decide) zn_X5_count_27 rfl rfl dX5_count_102 ?_
    refine zx_if_eq (tgt := 112) h0 dX5_count_105 (by decide) (fun q => ?_) (fun q => ?_)
    · replace h := h.1 q
      refine zx_iconst (v := 0) h0 dX5_count_112 (by decide) ?_
      exact zx_iret hF hQ dX5_count_113 h
    · replace h := h.2 q
      refine zx_iconst (v := 1) h0 dX5_count_108 (by decide) ?_
      refine zx_goto (tgt := 113) h0 dX5_count_109 (by decide) ?_
      exact zx_iret hF hQ dX5_count_113 h
  exact absurd (z_out6 q0 q1 q2 q3 q4 q5 q6) hout
theorem zn_X5_again_16 : Cond.fieldLink RX5 16 RX5 (TX5 1).2.1 (TX5 1).2.2.1 ∈ wsX5_again := List.mem_of_getElem? (i := 1) rfl
theorem zi_X5_again_5 : ∀ w ∈ u_ws RX5 TX5 3, w ∈ wsX5_again := fun _ h => List.mem_cons_of_mem _ (List.mem_append_left _ (List.mem_append_left _ (List.mem_append_left _ (List.mem_append_left _ (List.mem_append_right _ h)))))
theorem zn_X5_again_12 : Cond.fieldLink RX5 12 RX5 (TX5 0).2.1 (TX5 0).2.2.1 ∈ wsX5_again := List.mem_of_getElem? (i := 2) rfl
theorem zc_X5_again_X0_copyFrom {C : zC} {G : zG} {Qc : Array Value → State → Outcome → State → Prop} (S : St_X5_again C G Qc) : CallW (zRm C) (zs C) (zar C) RX5 RX0 215 yX0_copyFrom cX0_copyFrom 3 none wsX0_copyFrom rm_X0_copyFrom 0 0 1 := cwV 1 S.1.1.2.2.2.2 gX5_again_X0_copyFrom rfl rfl rfl (by decide +kernel) (by rw [S.2.2]; exact ⟨Nat.le_of_ble_eq_true rfl, Nat.le_of_ble_eq_true rfl⟩)
set_option maxRecDepth 100000 in
set_option maxHeartbeats 4000000 in
theorem sg_X5_again_0 {C : zC} {G : zG} {Qc : Array Value → State → Outcome → State → Prop} (S : St_X5_again C G Qc) {P_X0_copyFrom : Nat → Nat → zM → Prop} {Q_X0_copyFrom : Nat → Nat → zM → zM → Prop} (c_X0_copyFrom : Con_X0_copyFrom (zl C) G P_X0_copyFrom Q_X0_copyFrom) {a0 : Nat} {x1 : Int32} {m : zM} (ka0 : zK G a0 = some (5, a0))
    (h : (x1 < 0 → (zRet C G Qc (some (.int 0)) m)) ∧ (¬ x1 < 0 → ((x1 < 3 → ((vp_in x1 3) ∧ (((zQ m 1501 a0 x1.toNatClampNeg) = none → (zRet C G Qc (some (.int 0)) m)) ∧ (∀ b2 : Nat, (zQ m 1501 a0 x1.toNatClampNeg) = some b2 → ((P_X0_copyFrom (a0 + 1) b2 m) ∧ (∀ (m4 : zM), Q_X0_copyFrom (a0 + 1) b2 m m4 → (zRet C G Qc (some (.int 1)) m4))))))) ∧ (¬ x1 < 3 → (zRet C G Qc (some (.int 0)) m))))) : Pt_X5_again_0 C G a0 x1 m := by
  obtain ⟨hF, hQ, hR⟩ := id S
  have h0 : zF0 C cX5_again 3 wsX5_again RX5 := hF.1
  have hL := hF.2.2.1
  unfold Pt_X5_again_0
  refine zx_iload_n h0 1 dX5_again_0 rfl ?_
  refine zx_if_lt (tgt := 9) h0 dX5_again_1 (by decide) (fun q => ?_) (fun q => ?_)
  · replace h := h.1 q
    refine zx_iconst (v := 0) h0 dX5_again_9 (by decide) ?_
    exact zx_zret hF hQ rfl dX5_again_10 h
  · replace h := h.2 q
    refine zx_iload_n h0 1 dX5_again_4 rfl ?_
    refine zx_iconst (v := 3) h0 dX5_again_5 (by decide) ?_
    refine zx_icmp_lt (tgt := 11) h0 dX5_again_6 (by decide) (fun q => ?_) (fun q => ?_)
    · replace h := h.1 q
      refine zx_aload_n h0 0 dX5_again_11 rfl ?_
      refine zx_get hF ka0 (by decide) rfl zi_X5_again_5 1 (by decide) zn_X5_again_16 rfl rfl dX5_again_12 ?_
      refine zx_iload_n h0 1 dX5_again_15 rfl ?_
      obtain ⟨ho1, h⟩ := h
      refine zx_aaldQ (j := x1.toNatClampNeg) (t := 4) hF (zL_5_124 hL ka0) (by decide) rfl (Or.inl rfl) (by decide) rfl rfl ho1 rfl dX5_again_16 ?_
      refine zx_wt (fun hw2 => ?_)
      refine zx_rf (fun q => ?_) (fun b2 hb2 => ?_)
      · replace h := h.1 q
        refine zx_astore_nN (L' := [(2, .null), (0, .ref a0), (1, .int x1)]) h0 dX5_again_17 (by decide) rfl ?_
        refine zx_aload_nN h0 0 dX5_again_18 rfl ?_
        refine zx_ifnonnullN h0 dX5_again_19 ?_
        refine zx_iconst (v := 0) h0 dX5_again_22 (by decide) ?_
        exact zx_zret hF hQ rfl dX5_again_23 h
      · replace h := h.2 b2 hb2
        refine zx_astore_n (L' := [(2, .ref b2), (0, .ref a0), (1, .int x1)]) h0 dX5_again_17 (by decide) rfl ?_
        refine zx_aload_n h0 0 dX5_again_18 rfl ?_
        refine zx_ifnonnull (tgt := 24) h0 dX5_again_19 (by decide) ?_
        refine zx_aload_n h0 1 dX5_again_24 rfl ?_
        refine zx_get hF ka0 (by decide) rfl zi_X5_again_5 0 (by decide) zn_X5_again_12 rfl rfl dX5_again_25 ?_
        refine zx_aload_n h0 0 dX5_again_28 rfl ?_
        obtain ⟨ho3, h⟩ := h
        refine zx_callVv (As := [.ref b2]) (rest := []) hF (c_X0_copyFrom (a0 + 1) b2 m (zL_5_1 hL ka0) ((hw2.2.2.2 _ ka0).2 x1.toNatClampNeg _ (z_inlt ho1) hb2) ho3) (zc_X5_again_X0_copyFrom S) (zL_5_1 hL ka0) (by decide) rfl dX5_again_29 rfl rfl (Nat.le_of_ble_eq_true rfl) ⟨Nat.zero_le _, Nat.zero_le _⟩ (fun m4 hq => ?_)
        replace h := h m4 hq
        refine zx_iconst (v := 1) h0 dX5_again_32 (by decide) ?_
        exact zx_zret hF hQ rfl dX5_again_33 h
    · replace h := h.2 q
      refine zx_iconst (v := 0) h0 dX5_again_9 (by decide) ?_
      exact zx_zret hF hQ rfl dX5_again_10 h
