theorem z_o1_5 {x : Int32} (q1 : ¬ x = 1) (q2 : ¬ x = 2) (q3 : ¬ x = 3) (q4 : ¬ x = 4) (q5 : ¬ x = 5) : x.toInt < 1 ∨ 5 < x.toInt := by
  by_cases q0 : x = 0
  · subst q0; exact Or.inl (by decide)
  · rcases z_out5 q0 q1 q2 q3 q4 q5 with h | h
    · exact Or.inl (by omega)
    · exact Or.inr h
theorem zn_J6_bitCount_0f7a4_k265 : Cond.constant RJ6 265 1431655765 ∈ wsJ6_bitCount_0f7a4 := List.mem_of_getElem? (i := 1) rfl
theorem zn_J6_bitCount_0f7a4_k266 : Cond.constant RJ6 266 858993459 ∈ wsJ6_bitCount_0f7a4 := List.mem_of_getElem? (i := 2) rfl
theorem zn_J6_bitCount_0f7a4_k267 : Cond.constant RJ6 267 252645135 ∈ wsJ6_bitCount_0f7a4 := List.mem_of_getElem? (i := 3) rfl
set_option maxRecDepth 100000 in
set_option maxHeartbeats 4000000 in
theorem sg_J6_bitCount_0f7a4_0 {C : zC} {G : zG} {Qc : Array Value → State → Outcome → State → Prop} (S : St_J6_bitCount_0f7a4 C G Qc) {x0 : Int32} {m : zM}
    (h : zRet C G Qc (some (.int ((((((((x0 - ((zushr x0 1) &&& 1431655765)) &&& 858993459) + ((zushr (x0 - ((zushr x0 1) &&& 1431655765)) 2) &&& 858993459)) + (zushr (((x0 - ((zushr x0 1) &&& 1431655765)) &&& 858993459) + ((zushr (x0 - ((zushr x0 1) &&& 1431655765)) 2) &&& 858993459)) 4)) &&& 252645135) + (zushr (((((x0 - ((zushr x0 1) &&& 1431655765)) &&& 858993459) + ((zushr (x0 - ((zushr x0 1) &&& 1431655765)) 2) &&& 858993459)) + (zushr (((x0 - ((zushr x0 1) &&& 1431655765)) &&& 858993459) + ((zushr (x0 - ((zushr x0 1) &&& 1431655765)) 2) &&& 858993459)) 4)) &&& 252645135) 8)) + (zushr ((((((x0 - ((zushr x0 1) &&& 1431655765)) &&& 858993459) + ((zushr (x0 - ((zushr x0 1) &&& 1431655765)) 2) &&& 858993459)) + (zushr (((x0 - ((zushr x0 1) &&& 1431655765)) &&& 858993459) + ((zushr (x0 - ((zushr x0 1) &&& 1431655765)) 2) &&& 858993459)) 4)) &&& 252645135) + (zushr (((((x0 - ((zushr x0 1) &&& 1431655765)) &&& 858993459) + ((zushr (x0 - ((zushr x0 1) &&& 1431655765)) 2) &&& 858993459)) + (zushr (((x0 - ((zushr x0 1) &&& 1431655765)) &&& 858993459) + ((zushr (x0 - ((zushr x0 1) &&& 1431655765)) 2) &&& 858993459)) 4)) &&& 252645135) 8)) 16)) &&& 63))) m) : Pt_J6_bitCount_0f7a4_0 C G x0 m := by
  obtain ⟨hF, hQ, hR⟩ := id S
  have h0 : zF0 C cJ6_bitCount_0f7a4 1 wsJ6_bitCount_0f7a4 RJ6 := hF.1
  have hL := hF.2.2.1
  unfold Pt_J6_bitCount_0f7a4_0
  refine zx_iload_n h0 0 dJ6_bitCount_0f7a4_0 rfl ?_
  refine zx_iload_n h0 0 dJ6_bitCount_0f7a4_1 rfl ?_
  refine zx_iconst (v := 1) h0 dJ6_bitCount_0f7a4_2 (by decide) ?_
  refine zx_iushr (v := (zushr x0 1)) h0 dJ6_bitCount_0f7a4_3 rfl ?_
  refine zx_ldcw (v := 1431655765) h0 zn_J6_bitCount_0f7a4_k265 dJ6_bitCount_0f7a4_4 ?_
  refine zx_iand h0 dJ6_bitCount_0f7a4_7 ?_
  refine zx_isub h0 dJ6_bitCount_0f7a4_8 ?_
  refine zx_istore_n (L' := [(0, .int (x0 - ((zushr x0 1) &&& 1431655765)))]) h0 dJ6_bitCount_0f7a4_9 (by decide) rfl ?_
  refine zx_iload_n h0 0 dJ6_bitCount_0f7a4_10 rfl ?_
  refine zx_ldcw (v := 858993459) h0 zn_J6_bitCount_0f7a4_k266 dJ6_bitCount_0f7a4_11 ?_
  refine zx_iand h0 dJ6_bitCount_0f7a4_14 ?_
  refine zx_iload_n h0 0 dJ6_bitCount_0f7a4_15 rfl ?_
  refine zx_iconst (v := 2) h0 dJ6_bitCount_0f7a4_16 (by decide) ?_
  refine zx_iushr (v := (zushr (x0 - ((zushr x0 1) &&& 1431655765)) 2)) h0 dJ6_bitCount_0f7a4_17 rfl ?_
  refine zx_ldcw (v := 858993459) h0 zn_J6_bitCount_0f7a4_k266 dJ6_bitCount_0f7a4_18 ?_
  refine zx_iand h0 dJ6_bitCount_0f7a4_21 ?_
  refine zx_iadd h0 dJ6_bitCount_0f7a4_22 ?_
  refine zx_istore_n (L' := [(0, .int (((x0 - ((zushr x0 1) &&& 1431655765)) &&& 858993459) + ((zushr (x0 - ((zushr x0 1) &&& 1431655765)) 2) &&& 858993459)))]) h0 dJ6_bitCount_0f7a4_23 (by decide) rfl ?_
  refine zx_iload_n h0 0 dJ6_bitCount_0f7a4_24 rfl ?_
  refine zx_iload_n h0 0 dJ6_bitCount_0f7a4_25 rfl ?_
  refine zx_iconst (v := 4) h0 dJ6_bitCount_0f7a4_26 (by decide) ?_
  refine zx_iushr (v := (zushr (((x0 - ((zushr x0 1) &&& 1431655765)) &&& 858993459) + ((zushr (x0 - ((zushr x0 1) &&& 1431655765)) 2) &&& 858993459)) 4)) h0 dJ6_bitCount_0f7a4_27 rfl ?_
  refine zx_iadd h0 dJ6_bitCount_0f7a4_28 ?_
  refine zx_ldcw (v := 252645135) h0 zn_J6_bitCount_0f7a4_k267 dJ6_bitCount_0f7a4_29 ?_
  refine zx_iand h0 dJ6_bitCount_0f7a4_32 ?_
  refine zx_istore_n (L' := [(0, .int (((((x0 - ((zushr x0 1) &&& 1431655765)) &&& 858993459) + ((zushr (x0 - ((zushr x0 1) &&& 1431655765)) 2) &&& 858993459)) + (zushr (((x0 - ((zushr x0 1) &&& 1431655765)) &&& 858993459) + ((zushr (x0 - ((zushr x0 1) &&& 1431655765)) 2) &&& 858993459)) 4)) &&& 252645135))]) h0 dJ6_bitCount_0f7a4_33 (by decide) rfl ?_
  refine zx_iload_n h0 0 dJ6_bitCount_0f7a4_34 rfl ?_
  refine zx_iload_n h0 0 dJ6_bitCount_0f7a4_35 rfl ?_
  refine zx_bipush (v := 8) h0 dJ6_bitCount_0f7a4_36 (by decide) ?_
  refine zx_iushr (v := (zushr (((((x0 - ((zushr x0 1) &&& 1431655765)) &&& 858993459) + ((zushr (x0 - ((zushr x0 1) &&& 1431655765)) 2) &&& 858993459)) + (zushr (((x0 - ((zushr x0 1) &&& 1431655765)) &&& 858993459) + ((zushr (x0 - ((zushr x0 1) &&& 1431655765)) 2) &&& 858993459)) 4)) &&& 252645135) 8)) h0 dJ6_bitCount_0f7a4_38 rfl ?_
  refine zx_iadd h0 dJ6_bitCount_0f7a4_39 ?_
  refine zx_istore_n (L' := [(0, .int ((((((x0 - ((zushr x0 1) &&& 1431655765)) &&& 858993459) + ((zushr (x0 - ((zushr x0 1) &&& 1431655765)) 2) &&& 858993459)) + (zushr (((x0 - ((zushr x0 1) &&& 1431655765)) &&& 858993459) + ((zushr (x0 - ((zushr x0 1) &&& 1431655765)) 2) &&& 858993459)) 4)) &&& 252645135) + (zushr (((((x0 - ((zushr x0 1) &&& 1431655765)) &&& 858993459) + ((zushr (x0 - ((zushr x0 1) &&& 1431655765)) 2) &&& 858993459)) + (zushr (((x0 - ((zushr x0 1) &&& 1431655765)) &&& 858993459) + ((zushr (x0 - ((zushr x0 1) &&& 1431655765)) 2) &&& 858993459)) 4)) &&& 252645135) 8)))]) h0 dJ6_bitCount_0f7a4_40 (by decide) rfl ?_
  refine zx_iload_n h0 0 dJ6_bitCount_0f7a4_41 rfl ?_
  refine zx_iload_n h0 0 dJ6_bitCount_0f7a4_42 rfl ?_
  refine zx_bipush (v := 16) h0 dJ6_bitCount_0f7a4_43 (by decide) ?_
  refine zx_iushr (v := (zushr ((((((x0 - ((zushr x0 1) &&& 1431655765)) &&& 858993459) + ((zushr (x0 - ((zushr x0 1) &&& 1431655765)) 2) &&& 858993459)) + (zushr (((x0 - ((zushr x0 1) &&& 1431655765)) &&& 858993459) + ((zushr (x0 - ((zushr x0 1) &&& 1431655765)) 2) &&& 858993459)) 4)) &&& 252645135) + (zushr (((((x0 - ((zushr x0 1) &&& 1431655765)) &&& 858993459) + ((zushr (x0 - ((zushr x0 1) &&& 1431655765)) 2) &&& 858993459)) + (zushr (((x0 - ((zushr x0 1) &&& 1431655765)) &&& 858993459) + ((zushr (x0 - ((zushr x0 1) &&& 1431655765)) 2) &&& 858993459)) 4)) &&& 252645135) 8)) 16)) h0 dJ6_bitCount_0f7a4_45 rfl ?_
  refine zx_iadd h0 dJ6_bitCount_0f7a4_46 ?_
  refine zx_istore_n (L' := [(0, .int (((((((x0 - ((zushr x0 1) &&& 1431655765)) &&& 858993459) + ((zushr (x0 - ((zushr x0 1) &&& 1431655765)) 2) &&& 858993459)) + (zushr (((x0 - ((zushr x0 1) &&& 1431655765)) &&& 858993459) + ((zushr (x0 - ((zushr x0 1) &&& 1431655765)) 2) &&& 858993459)) 4)) &&& 252645135) + (zushr (((((x0 - ((zushr x0 1) &&& 1431655765)) &&& 858993459) + ((zushr (x0 - ((zushr x0 1) &&& 1431655765)) 2) &&& 858993459)) + (zushr (((x0 - ((zushr x0 1) &&& 1431655765)) &&& 858993459) + ((zushr (x0 - ((zushr x0 1) &&& 1431655765)) 2) &&& 858993459)) 4)) &&& 252645135) 8)) + (zushr ((((((x0 - ((zushr x0 1) &&& 1431655765)) &&& 858993459) + ((zushr (x0 - ((zushr x0 1) &&& 1431655765)) 2) &&& 858993459)) + (zushr (((x0 - ((zushr x0 1) &&& 1431655765)) &&& 858993459) + ((zushr (x0 - ((zushr x0 1) &&& 1431655765)) 2) &&& 858993459)) 4)) &&& 252645135) + (zushr (((((x0 - ((zushr x0 1) &&& 1431655765)) &&& 858993459) + ((zushr (x0 - ((zushr x0 1) &&& 1431655765)) 2) &&& 858993459)) + (zushr (((x0 - ((zushr x0 1) &&& 1431655765)) &&& 858993459) + ((zushr (x0 - ((zushr x0 1) &&& 1431655765)) 2) &&& 858993459)) 4)) &&& 252645135) 8)) 16)))]) h0 dJ6_bitCount_0f7a4_47 (by decide) rfl ?_
  refine zx_iload_n h0 0 dJ6_bitCount_0f7a4_48 rfl ?_
  refine zx_bipush (v := 63) h0 dJ6_bitCount_0f7a4_49 (by decide) ?_
  refine zx_iand h0 dJ6_bitCount_0f7a4_51 ?_
  exact zx_iret hF hQ dJ6_bitCount_0f7a4_52 h
theorem zc_X2_seenBy_J6_bitCount_0f7a4 {C : zC} {G : zG} {Qc : Array Value → State → Outcome → State → Prop} (S : St_X2_seenBy C G Qc) : CallB (zRm C) (zs C) (zar C) RX2 70 yJ6_bitCount_0f7a4 cJ6_bitCount_0f7a4 1 (some .int) wsJ6_bitCount_0f7a4 rm_J6_bitCount_0f7a4 0 0 1 ∧ (Cond.static yJ6_bitCount_0f7a4).before (zar C) (zs C) = true := va_cwS 1 S.1.1.2.2.2.2 gX2_seenBy_J6_bitCount_0f7a4 rfl rfl rfl (by decide +kernel) (by rw [S.2.2]; exact ⟨Nat.le_of_ble_eq_true rfl, Nat.le_of_ble_eq_true rfl⟩)
set_option maxRecDepth 100000 in
set_option maxHeartbeats 4000000 in
theorem sg_X2_seenBy_0 {C : zC} {G : zG} {Qc : Array Value → State → Outcome → State → Prop} (S : St_X2_seenBy C G Qc) {P_J6_bitCount_0f7a4 : Int32 → zM → Prop} {Q_J6_bitCount_0f7a4 : Int32 → zM → Int32 → Prop} (c_J6_bitCount_0f7a4 : Con_J6_bitCount_0f7a4 (zl C) G P_J6_bitCount_0f7a4 Q_J6_bitCount_0f7a4) {x0 : Int32} {x1 : Int32} {x2 : Int32} {x3 : Int32} {x4 : Int32} {x5 : Int32} {m : zM}
    (h : ((x0).toInt < 0 ∨ 3 < (x0).toInt → (zRet C G Qc (some (.int x5)) m)) ∧ (x0 = 0 → (zRet C G Qc (some (.int x1)) m)) ∧ (x0 = 1 → (zRet C G Qc (some (.int x2)) m)) ∧ (x0 = 2 → (zRet C G Qc (some (.int x3)) m)) ∧ (x0 = 3 → ((P_J6_bitCount_0f7a4 x4 m) ∧ (∀ (r2 : Int32), Q_J6_bitCount_0f7a4 x4 m r2 → (zRet C G Qc (some (.int r2)) m))))) : Pt_X2_seenBy_0 C G x0 x1 x2 x3 x4 x5 m := by
  obtain ⟨hF, hQ, hR⟩ := id S
  have h0 : zF0 C cX2_seenBy 6 wsX2_seenBy RX2 := hF.1
  have hL := hF.2.2.1
  unfold Pt_X2_seenBy_0
  refine zx_iload_n h0 0 dX2_seenBy_0 rfl ?_
  by_cases hout : (x0).toInt < 0 ∨ 3 < (x0).toInt
  · replace h := h.1 hout
    refine zx_tabOut (tgt := 44) h0 dX2_seenBy_1 hout (by decide) ?_
    refine zx_iload h0 5 dX2_seenBy_44 rfl ?_
    exact zx_iret hF hQ dX2_seenBy_46 h
  replace h := h.2
  by_cases q0 : x0 = 0
  · replace h := h.1 q0
    refine zx_tabIn (tgt := 32) h0 dX2_seenBy_1 (by rw [q0]; decide) (by rw [q0]; decide) (by rw [q0]; rfl) (by decide) ?_
    refine zx_iload_n h0 1 dX2_seenBy_32 rfl ?_
    exact zx_iret hF hQ dX2_seenBy_33 h
  by_cases q1 : x0 = 1
  · replace h := h.2.1 q1
    refine zx_tabIn (tgt := 34) h0 dX2_seenBy_1 (by rw [q1]; decide) (by rw [q1]; decide) (by rw [q1]; rfl) (by decide) ?_
    refine zx_iload_n h0 2 dX2_seenBy_34 rfl ?_
    exact zx_iret hF hQ dX2_seenBy_35 h
  by_cases q2 : x0 = 2
  · replace h := h.2.2.1 q2
    refine zx_tabIn (tgt := 36) h0 dX2_seenBy_1 (by rw [q2]; decide) (by rw [q2]; decide) (by rw [q2]; rfl) (by decide) ?_
    refine zx_iload_n h0 3 dX2_seenBy_36 rfl ?_
    exact zx_iret hF hQ dX2_seenBy_37 h
  by_cases q3 : x0 = 3
  · replace h := h.2.2.2 q3
    refine zx_tabIn (tgt := 38) h0 dX2_seenBy_1 (by rw [q3]; decide) (by rw [q3]; decide) (by rw [q3]; rfl) (by decide) ?_
    refine zx_iload h0 4 dX2_seenBy_38 rfl ?_
    obtain ⟨ho1, h⟩ := h
    refine zx_callSi (As := [.int x4]) (rest := []) hF (c_J6_bitCount_0f7a4 x4 m  ho1) (zc_X2_seenBy_J6_bitCount_0f7a4 S)  dX2_seenBy_40 rfl rfl (Nat.le_of_ble_eq_true rfl) ⟨Nat.zero_le _, Nat.zero_le _⟩ (fun r2 m2 hq => ?_)
    obtain ⟨hme, hq⟩ := hq
    subst m2
    replace h := h r2 hq
    exact zx_iret hF hQ dX2_seenBy_43 h
  exact absurd (z_out3 q0 q1 q2 q3) hout

set_option maxRecDepth 100000 in
set_option maxHeartbeats 4000000 in
theorem sg_X2_compares_0 {C : zC} {G : zG} {Qc : Array Value → State → Outcome → State → Prop} (S : St_X2_compares C G Qc) {x0 : Int32} {x1 : Int32} {x2 : Int32} {m : zM}
    (h : (¬ x1 = 60 → ((¬ x1 = 62 → ((¬ x0 = x2 → (zRet C G Qc (some (.int 0)) m)) ∧ (x0 = x2 → (zRet C G Qc (some (.int 1)) m)))) ∧ (x1 = 62 → ((x0 ≤ x2 → (zRet C G Qc (some (.int 0)) m)) ∧ (¬ x0 ≤ x2 → (zRet C G Qc (some (.int 1)) m)))))) ∧ (x1 = 60 → ((x2 ≤ x0 → (zRet C G Qc (some (.int 0)) m)) ∧ (¬ x2 ≤ x0 → (zRet C G Qc (some (.int 1)) m))))) : Pt_X2_compares_0 C G x0 x1 x2 m := by
  obtain ⟨hF, hQ, hR⟩ := id S
  have h0 : zF0 C cX2_compares 3 wsX2_compares RX2 := hF.1
  have hL := hF.2.2.1
  unfold Pt_X2_compares_0
  refine zx_iload_n h0 1 dX2_compares_0 rfl ?_
  refine zx_bipush (v := 60) h0 dX2_compares_1 (by decide) ?_
  refine zx_icmp_ne (tgt := 17) h0 dX2_compares_3 (by decide) (fun q => ?_) (fun q => ?_)
  · replace h := h.1 q
    refine zx_iload_n h0 1 dX2_compares_17 rfl ?_
    refine zx_bipush (v := 62) h0 dX2_compares_18 (by decide) ?_
    refine zx_icmp_ne (tgt := 36) h0 dX2_compares_20 (by decide) (fun q => ?_) (fun q => ?_)
    · replace h := h.1 q
      refine zx_iload_n h0 0 dX2_compares_36 rfl ?_
      refine zx_iload_n h0 2 dX2_compares_37 rfl ?_
      refine zx_icmp_ne (tgt := 45) h0 dX2_compares_38 (by decide) (fun q => ?_) (fun q => ?_)
      · replace h := h.1 q
        refine zx_iconst (v := 0) h0 dX2_compares_45 (by decide) ?_
        exact zx_zret hF hQ rfl dX2_compares_46 h
      · replace h := h.2 q
        refine zx_iconst (v := 1) h0 dX2_compares_41 (by decide) ?_
        refine zx_goto (tgt := 46) h0 dX2_compares_42 (by decide) ?_
        exact zx_zret hF hQ rfl dX2_compares_46 h
    · replace h := h.2 q
      refine zx_iload_n h0 0 dX2_compares_23 rfl ?_
      refine zx_iload_n h0 2 dX2_compares_24 rfl ?_
      refine zx_icmp_le (tgt := 32) h0 dX2_compares_25 (by decide) (fun q => ?_) (fun q => ?_)
      · replace h := h.1 q
        refine zx_iconst (v := 0) h0 dX2_compares_32 (by decide) ?_
        refine zx_goto (tgt := 46) h0 dX2_compares_33 (by decide) ?_
        exact zx_zret hF hQ rfl dX2_compares_46 h
      · replace h := h.2 q
        refine zx_iconst (v := 1) h0 dX2_compares_28 (by decide) ?_
        refine zx_goto (tgt := 46) h0 dX2_compares_29 (by decide) ?_
        exact zx_zret hF hQ rfl dX2_compares_46 h
  · replace h := h.2 q
    refine zx_iload_n h0 0 dX2_compares_6 rfl ?_
    refine zx_iload_n h0 2 dX2_compares_7 rfl ?_
    refine zx_icmp_ge (tgt := 15) h0 dX2_compares_8 (by decide) (fun q => ?_) (fun q => ?_)
    · replace h := h.1 q
      refine zx_iconst (v := 0) h0 dX2_compares_15 (by decide) ?_
      exact zx_zret hF hQ rfl dX2_compares_16 h
    · replace h := h.2 q
      refine zx_iconst (v := 1) h0 dX2_compares_11 (by decide) ?_
      refine zx_goto (tgt := 16) h0 dX2_compares_12 (by decide) ?_
      exact zx_zret hF hQ rfl dX2_compares_16 h
theorem zn_X2_lineHolds_18 : Cond.fieldLink RX2 18 RX2 (TX2 3).2.1 (TX2 3).2.2.1 ∈ wsX2_lineHolds := List.mem_of_getElem? (i := 1) rfl
theorem zi_X2_lineHolds_2 : ∀ w ∈ u_ws RX2 TX2 8, w ∈ wsX2_lineHolds := fun _ h => List.mem_cons_of_mem _ (List.mem_append_right _ h)
theorem zn_X2_lineHolds_21 : Cond.fieldLink RX2 21 RX2 (TX2 4).2.1 (TX2 4).2.2.1 ∈ wsX2_lineHolds := List.mem_of_getElem? (i := 2) rfl
theorem zn_X2_lineHolds_24 : Cond.fieldLink RX2 24 RX2 (TX2 5).2.1 (TX2 5).2.2.1 ∈ wsX2_lineHolds := List.mem_of_getElem? (i := 4) rfl
theorem zn_X2_lineHolds_27 : Cond.fieldLink RX2 27 RX2 (TX2 6).2.1 (TX2 6).2.2.1 ∈ wsX2_lineHolds := List.mem_of_getElem? (i := 3) rfl
theorem zn_X2_lineHolds_30 : Cond.fieldLink RX2 30 RX2 (TX2 7).2.1 (TX2 7).2.2.1 ∈ wsX2_lineHolds := List.mem_of_getElem? (i := 5) rfl
theorem zc_X2_lineHolds_X2_seenBy {C : zC} {G : zG} {Qc : Array Value → State → Outcome → State → Prop} (S : St_X2_lineHolds C G Qc) : CallB (zRm C) (zs C) (zar C) RX2 62 yX2_seenBy cX2_seenBy 6 (some .int) wsX2_seenBy rm_X2_seenBy 0 0 6 ∧ (Cond.static yX2_seenBy).before (zar C) (zs C) = true := cwS 6 S.1.1.2.2.2.2 gX2_lineHolds_X2_seenBy rfl rfl rfl (by decide +kernel) (by rw [S.2.2]; exact ⟨Nat.le_of_ble_eq_true rfl, Nat.le_of_ble_eq_true rfl⟩)
theorem zc_X2_lineHolds_X2_compares {C : zC} {G : zG} {Qc : Array Value → State → Outcome → State → Prop} (S : St_X2_lineHolds C G Qc) : CallB (zRm C) (zs C) (zar C) RX2 66 yX2_compares cX2_compares 3 (some .boolean) wsX2_compares rm_X2_compares 0 0 3 ∧ (Cond.static yX2_compares).before (zar C) (zs C) = true := cwS 3 S.1.1.2.2.2.2 gX2_lineHolds_X2_compares rfl rfl rfl (by decide +kernel) (by rw [S.2.2]; exact ⟨Nat.le_of_ble_eq_true rfl, Nat.le_of_ble_eq_true rfl⟩)
set_option maxRecDepth 100000 in
set_option maxHeartbeats 4000000 in
theorem sg_X2_lineHolds_0 {C : zC} {G : zG} {Qc : Array Value → State → Outcome → State → Prop} (S : St_X2_lineHolds C G Qc) {a0 : Nat} {x1 : Int32} {x2 : Int32} {x3 : Int32} {x4 : Int32} {x5 : Int32} {x6 : Int32} {m : zM} (ka0 : zK G a0 = some (2, a0))
    (h : Pt_X2_lineHolds_3 C G a0 x1 x2 x3 x4 x5 x6 0 m) : Pt_X2_lineHolds_0 C G a0 x1 x2 x3 x4 x5 x6 m := by
  obtain ⟨hF, hQ, hR⟩ := id S
  have h0 : zF0 C cX2_lineHolds 11 wsX2_lineHolds RX2 := hF.1
  have hL := hF.2.2.1
  unfold Pt_X2_lineHolds_0
  refine zx_iconst (v := 0) h0 dX2_lineHolds_0 (by decide) ?_
  refine zx_istore (L' := [(7, .int 0), (0, .ref a0), (1, .int x1), (2, .int x2), (3, .int x3), (4, .int x4), (5, .int x5), (6, .int x6)]) h0 dX2_lineHolds_1 (by decide) rfl ?_
  exact zx_sub [1, 2, 3, 4, 5, 6, 7, 0] rfl h
set_option maxRecDepth 100000 in
set_option maxHeartbeats 4000000 in
theorem sg_X2_lineHolds_3 {C : zC} {G : zG} {Qc : Array Value → State → Outcome → State → Prop} (S : St_X2_lineHolds C G Qc) {P_X2_seenBy : Int32 → Int32 → Int32 → Int32 → Int32 → Int32 → zM → Prop} {Q_X2_seenBy : Int32 → Int32 → Int32 → Int32 → Int32 → Int32 → zM → Int32 → Prop} (c_X2_seenBy : Con_X2_seenBy (zl C) G P_X2_seenBy Q_X2_seenBy) {P_X2_compares : Int32 → Int32 → Int32 → zM → Prop} {Q_X2_compares : Int32 → Int32 → Int32 → zM → Int32 → Prop} (c_X2_compares : Con_X2_compares (zl C) G P_X2_compares Q_X2_compares) {a0 : Nat} {x1 : Int32} {x2 : Int32} {x3 : Int32} {x4 : Int32} {x5 : Int32} {x6 : Int32} {x7 : Int32} {m : zM} (ka0 : zK G a0 = some (2, a0))
    (h : (vp_in x1 16) ∧ (((zI m 1203 a0 x1.toNatClampNeg) ≤ x7 → (zRet C G Qc (some (.int 1)) m)) ∧ (¬ (zI m 1203 a0 x1.toNatClampNeg) ≤ x7 → ((4 ≤ x7 → (zRet C G Qc (some (.int 1)) m)) ∧ (¬ 4 ≤ x7 → ((vp_in ((x1 * 4) + x7) 64) ∧ ((P_X2_seenBy (zI m 1204 a0 (((x1 * 4) + x7).toNatClampNeg)) x2 x3 x4 x5 x6 m) ∧ (∀ (r4 : Int32), Q_X2_seenBy (zI m 1204 a0 (((x1 * 4) + x7).toNatClampNeg)) x2 x3 x4 x5 x6 m r4 → ((¬ (zI m 1204 a0 (((x1 * 4) + x7).toNatClampNeg)) = 5 → ((P_X2_compares r4 (zI m 1205 a0 (((x1 * 4) + x7).toNatClampNeg)) (zI m 1206 a0 (((x1 * 4) + x7).toNatClampNeg)) m) ∧ (∀ (r6 : Int32), Q_X2_compares r4 (zI m 1205 a0 (((x1 * 4) + x7).toNatClampNeg)) (zI m 1206 a0 (((x1 * 4) + x7).toNatClampNeg)) m r6 → (Pt_X2_lineHolds_102 C G a0 x1 x2 x3 x4 x5 x6 x7 ((x1 * 4) + x7) r6 m)))) ∧ ((zI m 1204 a0 (((x1 * 4) + x7).toNatClampNeg)) = 5 → ((¬ ((x5 >>> ((zI m 1206 a0 (((x1 * 4) + x7).toNatClampNeg)) &&& 31)) &&& 1) = 1 → (Pt_X2_lineHolds_102 C G a0 x1 x2 x3 x4 x5 x6 x7 ((x1 * 4) + x7) 0 m)) ∧ (((x5 >>> ((zI m 1206 a0 (((x1 * 4) + x7).toNatClampNeg)) &&& 31)) &&& 1) = 1 → (Pt_X2_lineHolds_102 C G a0 x1 x2 x3 x4 x5 x6 x7 ((x1 * 4) + x7) 1 m))))))))))))) : Pt_X2_lineHolds_3 C G a0 x1 x2 x3 x4 x5 x6 x7 m := by
  obtain ⟨hF, hQ, hR⟩ := id S
  have h0 : zF0 C cX2_lineHolds 11 wsX2_lineHolds RX2 := hF.1
  have hL := hF.2.2.1
  unfold Pt_X2_lineHolds_3
  refine zx_iload h0 7 dX2_lineHolds_3 rfl ?_
  refine zx_aload_n h0 0 dX2_lineHolds_5 rfl ?_
  refine zx_get hF ka0 (by decide) rfl zi_X2_lineHolds_2 3 (by decide) zn_X2_lineHolds_18 rfl rfl dX2_lineHolds_6 ?_
  refine zx_iload_n h0 1 dX2_lineHolds_9 rfl ?_
  obtain ⟨ho1, h⟩ := h
  refine zx_iald (j := x1.toNatClampNeg) hF (zL_2_3 hL ka0) (by decide) rfl rfl ho1 rfl dX2_lineHolds_10 ?_
  refine zx_icmp_ge (tgt := 124) h0 dX2_lineHolds_11 (by decide) (fun q => ?_) (fun q => ?_)
  · replace h := h.1 q
    refine zx_iconst (v := 1) h0 dX2_lineHolds_124 (by decide) ?_
    exact zx_zret hF hQ rfl dX2_lineHolds_125 h
  · replace h := h.2 q
    refine zx_iload h0 7 dX2_lineHolds_14 rfl ?_
    refine zx_iconst (v := 4) h0 dX2_lineHolds_16 (by decide) ?_
    refine zx_icmp_ge (tgt := 124) h0 dX2_lineHolds_17 (by decide) (fun q => ?_) (fun q => ?_)
    · replace h := h.1 q
      refine zx_iconst (v := 1) h0 dX2_lineHolds_124 (by decide) ?_
      exact zx_zret hF hQ rfl dX2_lineHolds_125 h
    · replace h := h.2 q
      refine zx_iload_n h0 1 dX2_lineHolds_20 rfl ?_
      refine zx_iconst (v := 4) h0 dX2_lineHolds_21 (by decide) ?_
      refine zx_imul h0 dX2_lineHolds_22 ?_
      refine zx_iload h0 7 dX2_lineHolds_23 rfl ?_
      refine zx_iadd h0 dX2_lineHolds_25 ?_
      refine zx_istore (L' := [(8, .int ((x1 * 4) + x7)), (0, .ref a0), (1, .int x1), (2, .int x2), (3, .int x3), (4, .int x4), (5, .int x5), (6, .int x6), (7, .int x7)]) h0 dX2_lineHolds_26 (by decide) rfl ?_
      refine zx_aload_n h0 1 dX2_lineHolds_28 rfl ?_
      refine zx_get hF ka0 (by decide) rfl zi_X2_lineHolds_2 4 (by decide) zn_X2_lineHolds_21 rfl rfl dX2_lineHolds_29 ?_
      refine zx_iload h0 0 dX2_lineHolds_32 rfl ?_
      obtain ⟨ho2, h⟩ := h
      refine zx_iald (j := ((x1 * 4) + x7).toNatClampNeg) hF (zL_2_4 hL ka0) (by decide) rfl rfl ho2 rfl dX2_lineHolds_34 ?_
      refine zx_iload_n h0 3 dX2_lineHolds_35 rfl ?_
      refine zx_iload_n h0 4 dX2_lineHolds_36 rfl ?_
      refine zx_iload h0 5 dX2_lineHolds_37 rfl ?_
      refine zx_iload h0 6 dX2_lineHolds_39 rfl ?_
      refine zx_iload h0 7 dX2_lineHolds_41 rfl ?_
      obtain ⟨ho3, h⟩ := h
      refine zx_callSi (As := [.int (zI m 1204 a0 (((x1 * 4) + x7).toNatClampNeg)), .int x2, .int x3, .int x4, .int x5, .int x6]) (rest := []) hF (c_X2_seenBy (zI m 1204 a0 (((x1 * 4) + x7).toNatClampNeg)) x2 x3 x4 x5 x6 m  ho3) (zc_X2_lineHolds_X2_seenBy S)  dX2_lineHolds_43 rfl rfl (Nat.le_of_ble_eq_true rfl) ⟨Nat.zero_le _, Nat.zero_le _⟩ (fun r4 m4 hq => ?_)
      obtain ⟨hme, hq⟩ := hq
      subst m4
      replace h := h r4 hq
      refine zx_istore (L' := [(9, .int r4), (8, .int ((x1 * 4) + x7)), (0, .ref a0), (1, .int x1), (2, .int x2), (3, .int x3), (4, .int x4), (5, .int x5), (6, .int x6), (7, .int x7)]) h0 dX2_lineHolds_46 (by decide) rfl ?_
      refine zx_aload_n h0 2 dX2_lineHolds_48 rfl ?_
      refine zx_get hF ka0 (by decide) rfl zi_X2_lineHolds_2 4 (by decide) zn_X2_lineHolds_21 rfl rfl dX2_lineHolds_49 ?_
      refine zx_iload h0 1 dX2_lineHolds_52 rfl ?_
      refine zx_iald (j := ((x1 * 4) + x7).toNatClampNeg) hF (zL_2_4 hL ka0) (by decide) rfl rfl ho2 rfl dX2_lineHolds_54 ?_
      refine zx_iconst (v := 5) h0 dX2_lineHolds_55 (by decide) ?_
      refine zx_icmp_ne (tgt := 83) h0 dX2_lineHolds_56 (by decide) (fun q => ?_) (fun q => ?_)
      · replace h := h.1 q
        refine zx_iload h0 0 dX2_lineHolds_83 rfl ?_
        refine zx_aload_n h0 2 dX2_lineHolds_85 rfl ?_
        refine zx_get hF ka0 (by decide) rfl zi_X2_lineHolds_2 5 (by decide) zn_X2_lineHolds_24 rfl rfl dX2_lineHolds_86 ?_
        refine zx_iload h0 1 dX2_lineHolds_89 rfl ?_
        refine zx_iald (j := ((x1 * 4) + x7).toNatClampNeg) hF (zL_2_5 hL ka0) (by decide) rfl rfl ho2 rfl dX2_lineHolds_91 ?_
        refine zx_aload_n h0 2 dX2_lineHolds_92 rfl ?_
        refine zx_get hF ka0 (by decide) rfl zi_X2_lineHolds_2 6 (by decide) zn_X2_lineHolds_27 rfl rfl dX2_lineHolds_93 ?_
        refine zx_iload h0 1 dX2_lineHolds_96 rfl ?_
        refine zx_iald (j := ((x1 * 4) + x7).toNatClampNeg) hF (zL_2_6 hL ka0) (by decide) rfl rfl ho2 rfl dX2_lineHolds_98 ?_
        obtain ⟨ho5, h⟩ := h
        refine zx_callSi (As := [.int r4, .int (zI m 1205 a0 (((x1 * 4) + x7).toNatClampNeg)), .int (zI m 1206 a0 (((x1 * 4) + x7).toNatClampNeg))]) (rest := []) hF (c_X2_compares r4 (zI m 1205 a0 (((x1 * 4) + x7).toNatClampNeg)) (zI m 1206 a0 (((x1 * 4) + x7).toNatClampNeg)) m  ho5) (zc_X2_lineHolds_X2_compares S)  dX2_lineHolds_99 rfl rfl (Nat.le_of_ble_eq_true rfl) ⟨Nat.zero_le _, Nat.zero_le _⟩ (fun r6 m6 hq => ?_)
        obtain ⟨hme, hq⟩ := hq
        subst m6
        replace h := h r6 hq
        exact zx_sub [2, 3, 4, 5, 6, 7, 8, 9, 1] rfl h
      · replace h := h.2 q
        refine zx_iload h0 7 dX2_lineHolds_59 rfl ?_
        refine zx_aload_n h0 2 dX2_lineHolds_61 rfl ?_
        refine zx_get hF ka0 (by decide) rfl zi_X2_lineHolds_2 6 (by decide) zn_X2_lineHolds_27 rfl rfl dX2_lineHolds_62 ?_
        refine zx_iload h0 1 dX2_lineHolds_65 rfl ?_
        refine zx_iald (j := ((x1 * 4) + x7).toNatClampNeg) hF (zL_2_6 hL ka0) (by decide) rfl rfl ho2 rfl dX2_lineHolds_67 ?_
        refine zx_ishr h0 dX2_lineHolds_68 ?_
        refine zx_iconst (v := 1) h0 dX2_lineHolds_69 (by decide) ?_
        refine zx_iand h0 dX2_lineHolds_70 ?_
        refine zx_iconst (v := 1) h0 dX2_lineHolds_71 (by decide) ?_
        refine zx_icmp_ne (tgt := 79) h0 dX2_lineHolds_72 (by decide) (fun q => ?_) (fun q => ?_)
        · replace h := h.1 q
          refine zx_iconst (v := 0) h0 dX2_lineHolds_79 (by decide) ?_
          refine zx_goto (tgt := 102) h0 dX2_lineHolds_80 (by decide) ?_
          exact zx_sub [2, 3, 4, 5, 6, 7, 8, 9, 1] rfl h
        · replace h := h.2 q
          refine zx_iconst (v := 1) h0 dX2_lineHolds_75 (by decide) ?_
          refine zx_goto (tgt := 102) h0 dX2_lineHolds_76 (by decide) ?_
          exact zx_sub [2, 3, 4, 5, 6, 7, 8, 9, 1] rfl h
set_option maxRecDepth 100000 in
set_option maxHeartbeats 4000000 in
theorem sg_X2_lineHolds_102 {C : zC} {G : zG} {Qc : Array Value → State → Outcome → State → Prop} (S : St_X2_lineHolds C G Qc) {a0 : Nat} {x1 : Int32} {x2 : Int32} {x3 : Int32} {x4 : Int32} {x5 : Int32} {x6 : Int32} {x7 : Int32} {x8 : Int32} {s0 : Int32} {m : zM} (ka0 : zK G a0 = some (2, a0))
    (h : (vp_in x8 64) ∧ ((¬ s0 = (zI m 1207 a0 x8.toNatClampNeg) → (Pt_X2_lineHolds_3 C G a0 x1 x2 x3 x4 x5 x6 (x7 + 1) m)) ∧ (s0 = (zI m 1207 a0 x8.toNatClampNeg) → (zRet C G Qc (some (.int 0)) m)))) : Pt_X2_lineHolds_102 C G a0 x1 x2 x3 x4 x5 x6 x7 x8 s0 m := by
  obtain ⟨hF, hQ, hR⟩ := id S
  have h0 : zF0 C cX2_lineHolds 11 wsX2_lineHolds RX2 := hF.1
  have hL := hF.2.2.1
  unfold Pt_X2_lineHolds_102
  refine zx_istore (L' := [(10, .int s0), (0, .ref a0), (1, .int x1), (2, .int x2), (3, .int x3), (4, .int x4), (5, .int x5), (6, .int x6), (7, .int x7), (8, .int x8)]) h0 dX2_lineHolds_102 (by decide) rfl ?_
  refine zx_iload h0 0 dX2_lineHolds_104 rfl ?_
  refine zx_aload_n h0 1 dX2_lineHolds_106 rfl ?_
  refine zx_get hF ka0 (by decide) rfl zi_X2_lineHolds_2 7 (by decide) zn_X2_lineHolds_30 rfl rfl dX2_lineHolds_107 ?_
  refine zx_iload h0 9 dX2_lineHolds_110 rfl ?_
  obtain ⟨ho1, h⟩ := h
  refine zx_zald (j := x8.toNatClampNeg) hF (zL_2_7 hL ka0) (by decide) rfl rfl ho1 rfl dX2_lineHolds_112 ?_
  refine zx_icmp_ne (tgt := 118) h0 dX2_lineHolds_113 (by decide) (fun q => ?_) (fun q => ?_)
  · replace h := h.1 q
    refine zx_iinc (v := (x7 + 1)) (L' := [(7, .int (x7 + 1)), (10, .int s0), (0, .ref a0), (1, .int x1), (2, .int x2), (3, .int x3), (4, .int x4), (5, .int x5), (6, .int x6), (8, .int x8)]) h0 8 dX2_lineHolds_118 rfl rfl (by decide) rfl ?_
    refine zx_goto (tgt := 3) h0 dX2_lineHolds_121 (by decide) ?_
    exact zx_sub [2, 3, 4, 5, 6, 7, 8, 0] rfl h
  · replace h := h.2 q
    refine zx_iconst (v := 0) h0 dX2_lineHolds_116 (by decide) ?_
    exact zx_zret hF hQ rfl dX2_lineHolds_117 h
theorem zn_X2_pointsAfter_15 : Cond.fieldLink RX2 15 RX2 (TX2 2).2.1 (TX2 2).2.2.1 ∈ wsX2_pointsAfter := List.mem_of_getElem? (i := 1) rfl
theorem zi_X2_pointsAfter_2 : ∀ w ∈ u_ws RX2 TX2 8, w ∈ wsX2_pointsAfter := fun _ h => List.mem_cons_of_mem _ (List.mem_append_right _ h)
theorem zn_X2_pointsAfter_9 : Cond.fieldLink RX2 9 RX2 (TX2 1).2.1 (TX2 1).2.2.1 ∈ wsX2_pointsAfter := List.mem_of_getElem? (i := 2) rfl
theorem zn_X2_pointsAfter_k54 : Cond.constantLong RX2 54 1000000 ∈ wsX2_pointsAfter := List.mem_of_getElem? (i := 4) rfl
theorem zn_X2_pointsAfter_ml56 : Cond.methodLink RX2 56 Lib.MathLoose.min_long.x ∈ wsX2_pointsAfter := List.mem_of_getElem? (i := 5) rfl
theorem zn_X2_pointsAfter_ms56 : Cond.static Lib.MathLoose.min_long.x ∈ wsX2_pointsAfter := List.mem_of_getElem? (i := 6) rfl
theorem zn_X2_pointsAfter_mi : Cond.initialized "java/lang/Math" ∈ wsX2_pointsAfter := List.mem_of_getElem? (i := 7) rfl
theorem zn_X2_pointsAfter_mc56 : Cond.code Lib.MathLoose.min_long.x Lib.MathLoose.min_long.code 4 (some .long) ∈ wsX2_pointsAfter := List.mem_of_getElem? (i := 8) rfl
theorem zn_X2_pointsAfter_k52 : Cond.constantLong RX2 52 100 ∈ wsX2_pointsAfter := List.mem_of_getElem? (i := 3) rfl
set_option maxRecDepth 100000 in
set_option maxHeartbeats 4000000 in
theorem sg_X2_pointsAfter_0 {C : zC} {G : zG} {Qc : Array Value → State → Outcome → State → Prop} (S : St_X2_pointsAfter C G Qc) {a0 : Nat} {x1 : Int32} {x2 : Int32} {m : zM} (ka0 : zK G a0 = some (2, a0))
    (h : (vp_in x1 16) ∧ ((¬ (zI m 1201 a0 x1.toNatClampNeg) = 1 → ((¬ (zI m 1201 a0 x1.toNatClampNeg) = 2 → (zRet C G Qc (some (.int (((if 1000000 < (((zI m 1202 a0 x1.toNatClampNeg) : Int32).toInt64) then 1000000 else (((zI m 1202 a0 x1.toNatClampNeg) : Int32).toInt64)) : Int64).toInt32))) m)) ∧ ((zI m 1201 a0 x1.toNatClampNeg) = 2 → (zRet C G Qc (some (.int (((if 1000000 < ((((x2 : Int32).toInt64) * (((zI m 1202 a0 x1.toNatClampNeg) : Int32).toInt64)) / 100) then 1000000 else ((((x2 : Int32).toInt64) * (((zI m 1202 a0 x1.toNatClampNeg) : Int32).toInt64)) / 100)) : Int64).toInt32))) m)))) ∧ ((zI m 1201 a0 x1.toNatClampNeg) = 1 → (zRet C G Qc (some (.int (((if 1000000 < (((x2 : Int32).toInt64) + (((zI m 1202 a0 x1.toNatClampNeg) : Int32).toInt64)) then 1000000 else (((x2 : Int32).toInt64) + (((zI m 1202 a0 x1.toNatClampNeg) : Int32).toInt64))) : Int64).toInt32))) m)))) : Pt_X2_pointsAfter_0 C G a0 x1 x2 m := by
  obtain ⟨hF, hQ, hR⟩ := id S
  have h0 : zF0 C cX2_pointsAfter 5 wsX2_pointsAfter RX2 := hF.1
  have hL := hF.2.2.1
  unfold Pt_X2_pointsAfter_0
  refine zx_aload_n h0 0 dX2_pointsAfter_0 rfl ?_
  refine zx_get hF ka0 (by decide) rfl zi_X2_pointsAfter_2 2 (by decide) zn_X2_pointsAfter_15 rfl rfl dX2_pointsAfter_1 ?_
  refine zx_iload_n h0 1 dX2_pointsAfter_4 rfl ?_
  obtain ⟨ho1, h⟩ := h
  refine zx_iald (j := x1.toNatClampNeg) hF (zL_2_2 hL ka0) (by decide) rfl rfl ho1 rfl dX2_pointsAfter_5 ?_
  refine zx_i2l (v := (((zI m 1202 a0 x1.toNatClampNeg) : Int32).toInt64)) h0 dX2_pointsAfter_6 rfl ?_
  refine zx_lstore_n (L' := [(3, .long (((zI m 1202 a0 x1.toNatClampNeg) : Int32).toInt64)), (0, .ref a0), (1, .int x1), (2, .int x2)]) h0 dX2_pointsAfter_7 (by decide) rfl ?_
  refine zx_aload_n h0 1 dX2_pointsAfter_8 rfl ?_
  refine zx_get hF ka0 (by decide) rfl zi_X2_pointsAfter_2 1 (by decide) zn_X2_pointsAfter_9 rfl rfl dX2_pointsAfter_9 ?_
  refine zx_iload_n h0 2 dX2_pointsAfter_12 rfl ?_
  refine zx_iald (j := x1.toNatClampNeg) hF (zL_2_1 hL ka0) (by decide) rfl rfl ho1 rfl dX2_pointsAfter_13 ?_
  refine zx_iconst (v := 1) h0 dX2_pointsAfter_14 (by decide) ?_
  refine zx_icmp_ne (tgt := 26) h0 dX2_pointsAfter_15 (by decide) (fun q => ?_) (fun q => ?_)
  · replace h := h.1 q
    refine zx_aload_n h0 1 dX2_pointsAfter_26 rfl ?_
    refine zx_get hF ka0 (by decide) rfl zi_X2_pointsAfter_2 1 (by decide) zn_X2_pointsAfter_9 rfl rfl dX2_pointsAfter_27 ?_
    refine zx_iload_n h0 2 dX2_pointsAfter_30 rfl ?_
    refine zx_iald (j := x1.toNatClampNeg) hF (zL_2_1 hL ka0) (by decide) rfl rfl ho1 rfl dX2_pointsAfter_31 ?_
    refine zx_iconst (v := 2) h0 dX2_pointsAfter_32 (by decide) ?_
    refine zx_icmp_ne (tgt := 45) h0 dX2_pointsAfter_33 (by decide) (fun q => ?_) (fun q => ?_)
    · replace h := h.1 q
      refine zx_lload_n h0 0 dX2_pointsAfter_45 rfl ?_
      refine zx_ldc2 (v := 1000000) h0 zn_X2_pointsAfter_k54 dX2_pointsAfter_46 ?_
      refine zx_mminl h0 zn_X2_pointsAfter_ml56 zn_X2_pointsAfter_ms56 zn_X2_pointsAfter_mi zn_X2_pointsAfter_mc56 (by rw [hR]; exact Nat.le_of_ble_eq_true rfl) (by rw [hR]; exact Nat.le_of_ble_eq_true rfl) (Nat.zero_le _) (Nat.zero_le _) dX2_pointsAfter_49 ?_
      refine zx_l2i (v := (((if 1000000 < (((zI m 1202 a0 x1.toNatClampNeg) : Int32).toInt64) then 1000000 else (((zI m 1202 a0 x1.toNatClampNeg) : Int32).toInt64)) : Int64).toInt32)) h0 dX2_pointsAfter_52 rfl ?_
      exact zx_iret hF hQ dX2_pointsAfter_53 h
    · replace h := h.2 q
      refine zx_iload_n h0 3 dX2_pointsAfter_36 rfl ?_
      refine zx_i2l (v := ((x2 : Int32).toInt64)) h0 dX2_pointsAfter_37 rfl ?_
      refine zx_lload_n h0 0 dX2_pointsAfter_38 rfl ?_
      refine zx_lmul h0 dX2_pointsAfter_39 ?_
      refine zx_ldc2 (v := 100) h0 zn_X2_pointsAfter_k52 dX2_pointsAfter_40 ?_
      refine zx_ldiv h0 dX2_pointsAfter_43 (by decide) ?_
      refine zx_lstore_n (L' := [(3, .long ((((x2 : Int32).toInt64) * (((zI m 1202 a0 x1.toNatClampNeg) : Int32).toInt64)) / 100)), (0, .ref a0), (1, .int x1), (2, .int x2)]) h0 dX2_pointsAfter_44 (by decide) rfl ?_
      refine zx_lload_n h0 0 dX2_pointsAfter_45 rfl ?_
      refine zx_ldc2 (v := 1000000) h0 zn_X2_pointsAfter_k54 dX2_pointsAfter_46 ?_
      refine zx_mminl h0 zn_X2_pointsAfter_ml56 zn_X2_pointsAfter_ms56 zn_X2_pointsAfter_mi zn_X2_pointsAfter_mc56 (by rw [hR]; exact Nat.le_of_ble_eq_true rfl) (by rw [hR]; exact Nat.le_of_ble_eq_true rfl) (Nat.zero_le _) (Nat.zero_le _) dX2_pointsAfter_49 ?_
      refine zx_l2i (v := (((if 1000000 < ((((x2 : Int32).toInt64) * (((zI m 1202 a0 x1.toNatClampNeg) : Int32).toInt64)) / 100) then 1000000 else ((((x2 : Int32).toInt64) * (((zI m 1202 a0 x1.toNatClampNeg) : Int32).toInt64)) / 100)) : Int64).toInt32)) h0 dX2_pointsAfter_52 rfl ?_
      exact zx_iret hF hQ dX2_pointsAfter_53 h
  · replace h := h.2 q
    refine zx_iload_n h0 3 dX2_pointsAfter_18 rfl ?_
    refine zx_i2l (v := ((x2 : Int32).toInt64)) h0 dX2_pointsAfter_19 rfl ?_
    refine zx_lload_n h0 0 dX2_pointsAfter_20 rfl ?_
    refine zx_ladd h0 dX2_pointsAfter_21 ?_
    refine zx_lstore_n (L' := [(3, .long (((x2 : Int32).toInt64) + (((zI m 1202 a0 x1.toNatClampNeg) : Int32).toInt64))), (0, .ref a0), (1, .int x1), (2, .int x2)]) h0 dX2_pointsAfter_22 (by decide) rfl ?_
    refine zx_goto (tgt := 45) h0 dX2_pointsAfter_23 (by decide) ?_
    refine zx_lload_n h0 0 dX2_pointsAfter_45 rfl ?_
    refine zx_ldc2 (v := 1000000) h0 zn_X2_pointsAfter_k54 dX2_pointsAfter_46 ?_
    refine zx_mminl h0 zn_X2_pointsAfter_ml56 zn_X2_pointsAfter_ms56 zn_X2_pointsAfter_mi zn_X2_pointsAfter_mc56 (by rw [hR]; exact Nat.le_of_ble_eq_true rfl) (by rw [hR]; exact Nat.le_of_ble_eq_true rfl) (Nat.zero_le _) (Nat.zero_le _) dX2_pointsAfter_49 ?_
    refine zx_l2i (v := (((if 1000000 < (((x2 : Int32).toInt64) + (((zI m 1202 a0 x1.toNatClampNeg) : Int32).toInt64)) then 1000000 else (((x2 : Int32).toInt64) + (((zI m 1202 a0 x1.toNatClampNeg) : Int32).toInt64))) : Int64).toInt32)) h0 dX2_pointsAfter_52 rfl ?_
    exact zx_iret hF hQ dX2_pointsAfter_53 h
theorem zn_X2_pointsFor_34 : Cond.fieldLink RX2 34 RX2 (TX2 0).2.1 (TX2 0).2.2.1 ∈ wsX2_pointsFor := List.mem_of_getElem? (i := 1) rfl
theorem zi_X2_pointsFor_2 : ∀ w ∈ u_ws RX2 TX2 8, w ∈ wsX2_pointsFor := fun _ h => List.mem_cons_of_mem _ (List.mem_append_right _ h)
theorem zn_X2_pointsFor_9 : Cond.fieldLink RX2 9 RX2 (TX2 1).2.1 (TX2 1).2.2.1 ∈ wsX2_pointsFor := List.mem_of_getElem? (i := 2) rfl
theorem zc_X2_pointsFor_X2_lineHolds {C : zC} {G : zG} {Qc : Array Value → State → Outcome → State → Prop} (S : St_X2_pointsFor C G Qc) : CallW (zRm C) (zs C) (zar C) RX2 RX2 44 yX2_lineHolds cX2_lineHolds 11 (some .boolean) wsX2_lineHolds rm_X2_lineHolds 0 0 6 := cwV 6 S.1.1.2.2.2.2 gX2_pointsFor_X2_lineHolds rfl rfl rfl (by decide +kernel) (by rw [S.2.2]; exact ⟨Nat.le_of_ble_eq_true rfl, Nat.le_of_ble_eq_true rfl⟩)
theorem zc_X2_pointsFor_X2_pointsAfter {C : zC} {G : zG} {Qc : Array Value → State → Outcome → State → Prop} (S : St_X2_pointsFor C G Qc) : CallW (zRm C) (zs C) (zar C) RX2 RX2 48 yX2_pointsAfter cX2_pointsAfter 5 (some .int) wsX2_pointsAfter rm_X2_pointsAfter 0 0 2 := cwV 2 S.1.1.2.2.2.2 gX2_pointsFor_X2_pointsAfter rfl rfl rfl (by decide +kernel) (by rw [S.2.2]; exact ⟨Nat.le_of_ble_eq_true rfl, Nat.le_of_ble_eq_true rfl⟩)
set_option maxRecDepth 100000 in
set_option maxHeartbeats 4000000 in
theorem sg_X2_pointsFor_0 {C : zC} {G : zG} {Qc : Array Value → State → Outcome → State → Prop} (S : St_X2_pointsFor C G Qc) {a0 : Nat} {x1 : Int32} {x2 : Int32} {x3 : Int32} {x4 : Int32} {m : zM} (ka0 : zK G a0 = some (2, a0))
    (h : Pt_X2_pointsFor_6 C G a0 x1 x2 x3 x4 0 0 m) : Pt_X2_pointsFor_0 C G a0 x1 x2 x3 x4 m := by
  obtain ⟨hF, hQ, hR⟩ := id S
  have h0 : zF0 C cX2_pointsFor 7 wsX2_pointsFor RX2 := hF.1
  have hL := hF.2.2.1
  unfold Pt_X2_pointsFor_0
  refine zx_iconst (v := 0) h0 dX2_pointsFor_0 (by decide) ?_
  refine zx_istore (L' := [(5, .int 0), (0, .ref a0), (1, .int x1), (2, .int x2), (3, .int x3), (4, .int x4)]) h0 dX2_pointsFor_1 (by decide) rfl ?_
  refine zx_iconst (v := 0) h0 dX2_pointsFor_3 (by decide) ?_
  refine zx_istore (L' := [(6, .int 0), (5, .int 0), (0, .ref a0), (1, .int x1), (2, .int x2), (3, .int x3), (4, .int x4)]) h0 dX2_pointsFor_4 (by decide) rfl ?_
  exact zx_sub [2, 3, 4, 5, 6, 1, 0] rfl h
set_option maxRecDepth 100000 in
set_option maxHeartbeats 4000000 in
theorem sg_X2_pointsFor_6 {C : zC} {G : zG} {Qc : Array Value → State → Outcome → State → Prop} (S : St_X2_pointsFor C G Qc) {P_X2_lineHolds : Nat → Int32 → Int32 → Int32 → Int32 → Int32 → Int32 → zM → Prop} {Q_X2_lineHolds : Nat → Int32 → Int32 → Int32 → Int32 → Int32 → Int32 → zM → Int32 → Prop} (c_X2_lineHolds : Con_X2_lineHolds (zl C) G P_X2_lineHolds Q_X2_lineHolds) {P_X2_pointsAfter : Nat → Int32 → Int32 → zM → Prop} {Q_X2_pointsAfter : Nat → Int32 → Int32 → zM → Int32 → Prop} (c_X2_pointsAfter : Con_X2_pointsAfter (zl C) G P_X2_pointsAfter Q_X2_pointsAfter) {a0 : Nat} {x1 : Int32} {x2 : Int32} {x3 : Int32} {x4 : Int32} {x5 : Int32} {x6 : Int32} {m : zM} (ka0 : zK G a0 = some (2, a0))
    (h : ((zI m 200 a0 0) ≤ x6 → (zRet C G Qc (some (.int x5)) m)) ∧ (¬ (zI m 200 a0 0) ≤ x6 → ((16 ≤ x6 → (zRet C G Qc (some (.int x5)) m)) ∧ (¬ 16 ≤ x6 → ((P_X2_lineHolds a0 x6 x1 x2 x3 x4 x5 m) ∧ (∀ (r2 : Int32), Q_X2_lineHolds a0 x6 x1 x2 x3 x4 x5 m r2 → ((¬ r2 = 0 → ((vp_in x6 16) ∧ ((¬ (zI m 1201 a0 x6.toNatClampNeg) = 3 → ((P_X2_pointsAfter a0 x6 x5 m) ∧ (∀ (r5 : Int32), Q_X2_pointsAfter a0 x6 x5 m r5 → (Pt_X2_pointsFor_6 C G a0 x1 x2 x3 x4 r5 (x6 + 1) m)))) ∧ ((zI m 1201 a0 x6.toNatClampNeg) = 3 → (zRet C G Qc (some (.int 0)) m))))) ∧ (r2 = 0 → (Pt_X2_pointsFor_6 C G a0 x1 x2 x3 x4 x5 (x6 + 1) m))))))))) : Pt_X2_pointsFor_6 C G a0 x1 x2 x3 x4 x5 x6 m := by
  obtain ⟨hF, hQ, hR⟩ := id S
  have h0 : zF0 C cX2_pointsFor 7 wsX2_pointsFor RX2 := hF.1
  have hL := hF.2.2.1
  unfold Pt_X2_pointsFor_6
  refine zx_iload h0 6 dX2_pointsFor_6 rfl ?_
  refine zx_aload_n h0 0 dX2_pointsFor_8 rfl ?_
  refine zx_get hF ka0 (by decide) rfl zi_X2_pointsFor_2 0 (by decide) zn_X2_pointsFor_34 rfl rfl dX2_pointsFor_9 ?_
  refine zx_icmp_ge (tgt := 70) h0 dX2_pointsFor_12 (by decide) (fun q => ?_) (fun q => ?_)
  · replace h := h.1 q
    refine zx_iload h0 5 dX2_pointsFor_70 rfl ?_
    exact zx_iret hF hQ dX2_pointsFor_72 h
  · replace h := h.2 q
    refine zx_iload h0 6 dX2_pointsFor_15 rfl ?_
    refine zx_bipush (v := 16) h0 dX2_pointsFor_17 (by decide) ?_
    refine zx_icmp_ge (tgt := 70) h0 dX2_pointsFor_19 (by decide) (fun q => ?_) (fun q => ?_)
    · replace h := h.1 q
      refine zx_iload h0 5 dX2_pointsFor_70 rfl ?_
      exact zx_iret hF hQ dX2_pointsFor_72 h
    · replace h := h.2 q
      refine zx_aload_n h0 0 dX2_pointsFor_22 rfl ?_
      refine zx_iload h0 6 dX2_pointsFor_23 rfl ?_
      refine zx_iload_n h0 1 dX2_pointsFor_25 rfl ?_
      refine zx_iload_n h0 2 dX2_pointsFor_26 rfl ?_
      refine zx_iload_n h0 3 dX2_pointsFor_27 rfl ?_
      refine zx_iload h0 4 dX2_pointsFor_28 rfl ?_
      refine zx_iload h0 5 dX2_pointsFor_30 rfl ?_
      obtain ⟨ho1, h⟩ := h
      refine zx_callVi (As := [.int x6, .int x1, .int x2, .int x3, .int x4, .int x5]) (rest := []) hF (c_X2_lineHolds a0 x6 x1 x2 x3 x4 x5 m ka0 ho1) (zc_X2_pointsFor_X2_lineHolds S) ka0 (by decide) rfl dX2_pointsFor_32 rfl rfl (Nat.le_of_ble_eq_true rfl) ⟨Nat.zero_le _, Nat.zero_le _⟩ (fun r2 m2 hq => ?_)
      obtain ⟨hme, hq⟩ := hq
      subst m2
      replace h := h r2 hq
      refine zx_if_ne (tgt := 41) h0 dX2_pointsFor_35 (by decide) (fun q => ?_) (fun q => ?_)
      · replace h := h.1 q
        refine zx_aload_n h0 0 dX2_pointsFor_41 rfl ?_
        refine zx_get hF ka0 (by decide) rfl zi_X2_pointsFor_2 1 (by decide) zn_X2_pointsFor_9 rfl rfl dX2_pointsFor_42 ?_
        refine zx_iload h0 6 dX2_pointsFor_45 rfl ?_
        obtain ⟨ho3, h⟩ := h
        refine zx_iald (j := x6.toNatClampNeg) hF (zL_2_1 hL ka0) (by decide) rfl rfl ho3 rfl dX2_pointsFor_47 ?_
        refine zx_iconst (v := 3) h0 dX2_pointsFor_48 (by decide) ?_
        refine zx_icmp_ne (tgt := 54) h0 dX2_pointsFor_49 (by decide) (fun q => ?_) (fun q => ?_)
        · replace h := h.1 q
          refine zx_aload_n h0 0 dX2_pointsFor_54 rfl ?_
          refine zx_iload h0 6 dX2_pointsFor_55 rfl ?_
          refine zx_iload h0 5 dX2_pointsFor_57 rfl ?_
          obtain ⟨ho4, h⟩ := h
          refine zx_callVi (As := [.int x6, .int x5]) (rest := []) hF (c_X2_pointsAfter a0 x6 x5 m ka0 ho4) (zc_X2_pointsFor_X2_pointsAfter S) ka0 (by decide) rfl dX2_pointsFor_59 rfl rfl (Nat.le_of_ble_eq_true rfl) ⟨Nat.zero_le _, Nat.zero_le _⟩ (fun r5 m5 hq => ?_)
          obtain ⟨hme, hq⟩ := hq
          subst m5
          replace h := h r5 hq
          refine zx_istore (L' := [(5, .int r5), (0, .ref a0), (1, .int x1), (2, .int x2), (3, .int x3), (4, .int x4), (6, .int x6)]) h0 dX2_pointsFor_62 (by decide) rfl ?_
          refine zx_iinc (v := (x6 + 1)) (L' := [(6, .int (x6 + 1)), (5, .int r5), (0, .ref a0), (1, .int x1), (2, .int x2), (3, .int x3), (4, .int x4)]) h0 6 dX2_pointsFor_64 rfl rfl (by decide) rfl ?_
          refine zx_goto (tgt := 6) h0 dX2_pointsFor_67 (by decide) ?_
          exact zx_sub [2, 3, 4, 5, 6, 1, 0] rfl h
        · replace h := h.2 q
          refine zx_iconst (v := 0) h0 dX2_pointsFor_52 (by decide) ?_
          exact zx_iret hF hQ dX2_pointsFor_53 h
      · replace h := h.2 q
        refine zx_goto (tgt := 64) h0 dX2_pointsFor_38 (by decide) ?_
        refine zx_iinc (v := (x6 + 1)) (L' := [(6, .int (x6 + 1)), (0, .ref a0), (1, .int x1), (2, .int x2), (3, .int x3), (4, .int x4), (5, .int x5)]) h0 6 dX2_pointsFor_64 rfl rfl (by decide) rfl ?_
        refine zx_goto (tgt := 6) h0 dX2_pointsFor_67 (by decide) ?_
        exact zx_sub [1, 2, 3, 4, 5, 6, 0] rfl h
theorem zn_X2_copyFrom_34 : Cond.fieldLink RX2 34 RX2 (TX2 0).2.1 (TX2 0).2.2.1 ∈ wsX2_copyFrom := List.mem_of_getElem? (i := 1) rfl
theorem zi_X2_copyFrom_2 : ∀ w ∈ u_ws RX2 TX2 8, w ∈ wsX2_copyFrom := fun _ h => List.mem_cons_of_mem _ (List.mem_append_right _ h)
theorem zn_X2_copyFrom_9 : Cond.fieldLink RX2 9 RX2 (TX2 1).2.1 (TX2 1).2.2.1 ∈ wsX2_copyFrom := List.mem_of_getElem? (i := 2) rfl
theorem zn_X2_copyFrom_ml38 : Cond.methodLink RX2 38 arraycopyName ∈ wsX2_copyFrom := List.mem_of_getElem? (i := 3) rfl
theorem zn_X2_copyFrom_mn : Cond.native arraycopyName ∈ wsX2_copyFrom := List.mem_of_getElem? (i := 4) rfl
theorem zn_X2_copyFrom_ms : Cond.static arraycopyName ∈ wsX2_copyFrom := List.mem_of_getElem? (i := 5) rfl
theorem zn_X2_copyFrom_mi : Cond.initialized "java/lang/System" ∈ wsX2_copyFrom := List.mem_of_getElem? (i := 6) rfl
theorem zn_X2_copyFrom_15 : Cond.fieldLink RX2 15 RX2 (TX2 2).2.1 (TX2 2).2.2.1 ∈ wsX2_copyFrom := List.mem_of_getElem? (i := 7) rfl
theorem zn_X2_copyFrom_18 : Cond.fieldLink RX2 18 RX2 (TX2 3).2.1 (TX2 3).2.2.1 ∈ wsX2_copyFrom := List.mem_of_getElem? (i := 8) rfl
theorem zn_X2_copyFrom_21 : Cond.fieldLink RX2 21 RX2 (TX2 4).2.1 (TX2 4).2.2.1 ∈ wsX2_copyFrom := List.mem_of_getElem? (i := 9) rfl
theorem zn_X2_copyFrom_24 : Cond.fieldLink RX2 24 RX2 (TX2 5).2.1 (TX2 5).2.2.1 ∈ wsX2_copyFrom := List.mem_of_getElem? (i := 10) rfl
theorem zn_X2_copyFrom_27 : Cond.fieldLink RX2 27 RX2 (TX2 6).2.1 (TX2 6).2.2.1 ∈ wsX2_copyFrom := List.mem_of_getElem? (i := 11) rfl
theorem zn_X2_copyFrom_30 : Cond.fieldLink RX2 30 RX2 (TX2 7).2.1 (TX2 7).2.2.1 ∈ wsX2_copyFrom := List.mem_of_getElem? (i := 12) rfl
set_option maxRecDepth 100000 in
set_option maxHeartbeats 4000000 in
theorem sg_X2_copyFrom_0 {C : zC} {G : zG} {Qc : Array Value → State → Outcome → State → Prop} (S : St_X2_copyFrom C G Qc) {a0 : Nat} {a1 : Nat} {m : zM} (ka0 : zK G a0 = some (2, a0)) (ka1 : zK G a1 = some (2, a1))
    (h : zRet C G Qc none (zcI (zcI (zcI (zcI (zcI (zcI (zcI (zsI m 200 a0 0 (zI m 200 a1 0)) 1201 a0 (zI m 1201 a1)) 1202 a0 (zI m 1202 a1)) 1203 a0 (zI m 1203 a1)) 1204 a0 (zI m 1204 a1)) 1205 a0 (zI m 1205 a1)) 1206 a0 (zI m 1206 a1)) 1207 a0 (zI m 1207 a1))) : Pt_X2_copyFrom_0 C G a0 a1 m := by
  obtain ⟨hF, hQ, hR⟩ := id S
  have h0 : zF0 C cX2_copyFrom 2 wsX2_copyFrom RX2 := hF.1
  have hL := hF.2.2.1
  unfold Pt_X2_copyFrom_0
  refine zx_aload_n h0 0 dX2_copyFrom_0 rfl ?_
  refine zx_aload_n h0 1 dX2_copyFrom_1 rfl ?_
  refine zx_get hF ka1 (by decide) rfl zi_X2_copyFrom_2 0 (by decide) zn_X2_copyFrom_34 rfl rfl dX2_copyFrom_2 ?_
  refine zp_200 hF ka0 zi_X2_copyFrom_2 zn_X2_copyFrom_34 dX2_copyFrom_5 ?_
  refine zx_aload_n h0 1 dX2_copyFrom_8 rfl ?_
  refine zx_get hF ka1 (by decide) rfl zi_X2_copyFrom_2 1 (by decide) zn_X2_copyFrom_9 rfl rfl dX2_copyFrom_9 ?_
  refine zx_iconst (v := 0) h0 dX2_copyFrom_12 (by decide) ?_
  refine zx_aload_n h0 0 dX2_copyFrom_13 rfl ?_
  refine zx_get hF ka0 (by decide) rfl zi_X2_copyFrom_2 1 (by decide) zn_X2_copyFrom_9 rfl rfl dX2_copyFrom_14 ?_
  refine zx_iconst (v := 0) h0 dX2_copyFrom_17 (by decide) ?_
  refine zx_bipush (v := 16) h0 dX2_copyFrom_18 (by decide) ?_
  refine zx_copyI (g := (zI m 1201 a1)) hF (zL_2_1 hL ka1) (zL_2_1 hL ka0) zn_X2_copyFrom_ml38 zn_X2_copyFrom_mn zn_X2_copyFrom_ms zn_X2_copyFrom_mi (by decide) rfl rfl (by decide) (funext fun jj => zI_n (by decide)) (by rw [hR]; exact Nat.le_of_ble_eq_true rfl) (by rw [hR]; exact Nat.le_of_ble_eq_true rfl) dX2_copyFrom_20 ?_
  refine zx_aload_n h0 1 dX2_copyFrom_23 rfl ?_
  refine zx_get hF ka1 (by decide) rfl zi_X2_copyFrom_2 2 (by decide) zn_X2_copyFrom_15 rfl rfl dX2_copyFrom_24 ?_
  refine zx_iconst (v := 0) h0 dX2_copyFrom_27 (by decide) ?_
  refine zx_aload_n h0 0 dX2_copyFrom_28 rfl ?_
  refine zx_get hF ka0 (by decide) rfl zi_X2_copyFrom_2 2 (by decide) zn_X2_copyFrom_15 rfl rfl dX2_copyFrom_29 ?_
  refine zx_iconst (v := 0) h0 dX2_copyFrom_32 (by decide) ?_
  refine zx_bipush (v := 16) h0 dX2_copyFrom_33 (by decide) ?_
  refine zx_copyI (g := (zI m 1202 a1)) hF (zL_2_2 hL ka1) (zL_2_2 hL ka0) zn_X2_copyFrom_ml38 zn_X2_copyFrom_mn zn_X2_copyFrom_ms zn_X2_copyFrom_mi (by decide) rfl rfl (by decide) (funext fun jj => (zI_cn (by decide)).trans (zI_n (by decide))) (by rw [hR]; exact Nat.le_of_ble_eq_true rfl) (by rw [hR]; exact Nat.le_of_ble_eq_true rfl) dX2_copyFrom_35 ?_
  refine zx_aload_n h0 1 dX2_copyFrom_38 rfl ?_
  refine zx_get hF ka1 (by decide) rfl zi_X2_copyFrom_2 3 (by decide) zn_X2_copyFrom_18 rfl rfl dX2_copyFrom_39 ?_
  refine zx_iconst (v := 0) h0 dX2_copyFrom_42 (by decide) ?_
  refine zx_aload_n h0 0 dX2_copyFrom_43 rfl ?_
  refine zx_get hF ka0 (by decide) rfl zi_X2_copyFrom_2 3 (by decide) zn_X2_copyFrom_18 rfl rfl dX2_copyFrom_44 ?_
  refine zx_iconst (v := 0) h0 dX2_copyFrom_47 (by decide) ?_
  refine zx_bipush (v := 16) h0 dX2_copyFrom_48 (by decide) ?_
  refine zx_copyI (g := (zI m 1203 a1)) hF (zL_2_3 hL ka1) (zL_2_3 hL ka0) zn_X2_copyFrom_ml38 zn_X2_copyFrom_mn zn_X2_copyFrom_ms zn_X2_copyFrom_mi (by decide) rfl rfl (by decide) (funext fun jj => (zI_cn (by decide)).trans ((zI_cn (by decide)).trans (zI_n (by decide)))) (by rw [hR]; exact Nat.le_of_ble_eq_true rfl) (by rw [hR]; exact Nat.le_of_ble_eq_true rfl) dX2_copyFrom_50 ?_
  refine zx_aload_n h0 1 dX2_copyFrom_53 rfl ?_
  refine zx_get hF ka1 (by decide) rfl zi_X2_copyFrom_2 4 (by decide) zn_X2_copyFrom_21 rfl rfl dX2_copyFrom_54 ?_
  refine zx_iconst (v := 0) h0 dX2_copyFrom_57 (by decide) ?_
  refine zx_aload_n h0 0 dX2_copyFrom_58 rfl ?_
  refine zx_get hF ka0 (by decide) rfl zi_X2_copyFrom_2 4 (by decide) zn_X2_copyFrom_21 rfl rfl dX2_copyFrom_59 ?_
  refine zx_iconst (v := 0) h0 dX2_copyFrom_62 (by decide) ?_
  refine zx_bipush (v := 64) h0 dX2_copyFrom_63 (by decide) ?_
  refine zx_copyI (g := (zI m 1204 a1)) hF (zL_2_4 hL ka1) (zL_2_4 hL ka0) zn_X2_copyFrom_ml38 zn_X2_copyFrom_mn zn_X2_copyFrom_ms zn_X2_copyFrom_mi (by decide) rfl rfl (by decide) (funext fun jj => (zI_cn (by decide)).trans ((zI_cn (by decide)).trans ((zI_cn (by decide)).trans (zI_n (by decide))))) (by rw [hR]; exact Nat.le_of_ble_eq_true rfl) (by rw [hR]; exact Nat.le_of_ble_eq_true rfl) dX2_copyFrom_65 ?_
  refine zx_aload_n h0 1 dX2_copyFrom_68 rfl ?_
  refine zx_get hF ka1 (by decide) rfl zi_X2_copyFrom_2 5 (by decide) zn_X2_copyFrom_24 rfl rfl dX2_copyFrom_69 ?_
  refine zx_iconst (v := 0) h0 dX2_copyFrom_72 (by decide) ?_
  refine zx_aload_n h0 0 dX2_copyFrom_73 rfl ?_
  refine zx_get hF ka0 (by decide) rfl zi_X2_copyFrom_2 5 (by decide) zn_X2_copyFrom_24 rfl rfl dX2_copyFrom_74 ?_
  refine zx_iconst (v := 0) h0 dX2_copyFrom_77 (by decide) ?_
  refine zx_bipush (v := 64) h0 dX2_copyFrom_78 (by decide) ?_
  refine zx_copyI (g := (zI m 1205 a1)) hF (zL_2_5 hL ka1) (zL_2_5 hL ka0) zn_X2_copyFrom_ml38 zn_X2_copyFrom_mn zn_X2_copyFrom_ms zn_X2_copyFrom_mi (by decide) rfl rfl (by decide) (funext fun jj => (zI_cn (by decide)).trans ((zI_cn (by decide)).trans ((zI_cn (by decide)).trans ((zI_cn (by decide)).trans (zI_n (by decide)))))) (by rw [hR]; exact Nat.le_of_ble_eq_true rfl) (by rw [hR]; exact Nat.le_of_ble_eq_true rfl) dX2_copyFrom_80 ?_
  refine zx_aload_n h0 1 dX2_copyFrom_83 rfl ?_
  refine zx_get hF ka1 (by decide) rfl zi_X2_copyFrom_2 6 (by decide) zn_X2_copyFrom_27 rfl rfl dX2_copyFrom_84 ?_
  refine zx_iconst (v := 0) h0 dX2_copyFrom_87 (by decide) ?_
  refine zx_aload_n h0 0 dX2_copyFrom_88 rfl ?_
  refine zx_get hF ka0 (by decide) rfl zi_X2_copyFrom_2 6 (by decide) zn_X2_copyFrom_27 rfl rfl dX2_copyFrom_89 ?_
  refine zx_iconst (v := 0) h0 dX2_copyFrom_92 (by decide) ?_
  refine zx_bipush (v := 64) h0 dX2_copyFrom_93 (by decide) ?_
  refine zx_copyI (g := (zI m 1206 a1)) hF (zL_2_6 hL ka1) (zL_2_6 hL ka0) zn_X2_copyFrom_ml38 zn_X2_copyFrom_mn zn_X2_copyFrom_ms zn_X2_copyFrom_mi (by decide) rfl rfl (by decide) (funext fun jj => (zI_cn (by decide)).trans ((zI_cn (by decide)).trans ((zI_cn (by decide)).trans ((zI_cn (by decide)).trans ((zI_cn (by decide)).trans (zI_n (by decide))))))) (by rw [hR]; exact Nat.le_of_ble_eq_true rfl) (by rw [hR]; exact Nat.le_of_ble_eq_true rfl) dX2_copyFrom_95 ?_
  refine zx_aload_n h0 1 dX2_copyFrom_98 rfl ?_
  refine zx_get hF ka1 (by decide) rfl zi_X2_copyFrom_2 7 (by decide) zn_X2_copyFrom_30 rfl rfl dX2_copyFrom_99 ?_
  refine zx_iconst (v := 0) h0 dX2_copyFrom_102 (by decide) ?_
  refine zx_aload_n h0 0 dX2_copyFrom_103 rfl ?_
  refine zx_get hF ka0 (by decide) rfl zi_X2_copyFrom_2 7 (by decide) zn_X2_copyFrom_30 rfl rfl dX2_copyFrom_104 ?_
  refine zx_iconst (v := 0) h0 dX2_copyFrom_107 (by decide) ?_
  refine zx_bipush (v := 64) h0 dX2_copyFrom_108 (by decide) ?_
  refine zx_copyZ (g := (zI m 1207 a1)) hF (zL_2_7 hL ka1) (zL_2_7 hL ka0) zn_X2_copyFrom_ml38 zn_X2_copyFrom_mn zn_X2_copyFrom_ms zn_X2_copyFrom_mi (by decide) rfl rfl (by decide) (funext fun jj => (zI_cn (by decide)).trans ((zI_cn (by decide)).trans ((zI_cn (by decide)).trans ((zI_cn (by decide)).trans ((zI_cn (by decide)).trans ((zI_cn (by decide)).trans (zI_n (by decide)))))))) (by rw [hR]; exact Nat.le_of_ble_eq_true rfl) (by rw [hR]; exact Nat.le_of_ble_eq_true rfl) dX2_copyFrom_110 ?_
  exact zx_vret hF hQ dX2_copyFrom_113 h
theorem zn_X2_empty_34 : Cond.fieldLink RX2 34 RX2 (TX2 0).2.1 (TX2 0).2.2.1 ∈ wsX2_empty := List.mem_of_getElem? (i := 1) rfl
theorem zi_X2_empty_2 : ∀ w ∈ u_ws RX2 TX2 8, w ∈ wsX2_empty := fun _ h => List.mem_cons_of_mem _ (List.mem_append_right _ h)
theorem zn_X2_empty_18 : Cond.fieldLink RX2 18 RX2 (TX2 3).2.1 (TX2 3).2.2.1 ∈ wsX2_empty := List.mem_of_getElem? (i := 2) rfl
set_option maxRecDepth 100000 in
set_option maxHeartbeats 4000000 in
theorem sg_X2_empty_0 {C : zC} {G : zG} {Qc : Array Value → State → Outcome → State → Prop} (S : St_X2_empty C G Qc) {a0 : Nat} {m : zM} (ka0 : zK G a0 = some (2, a0))
    (h : zRet C G Qc none (zsI (zsI m 200 a0 0 0) 1203 a0 0 0)) : Pt_X2_empty_0 C G a0 m := by
  obtain ⟨hF, hQ, hR⟩ := id S
  have h0 : zF0 C cX2_empty 1 wsX2_empty RX2 := hF.1
  have hL := hF.2.2.1
  unfold Pt_X2_empty_0
  refine zx_aload_n h0 0 dX2_empty_0 rfl ?_
  refine zx_iconst (v := 0) h0 dX2_empty_1 (by decide) ?_
  refine zp_200 hF ka0 zi_X2_empty_2 zn_X2_empty_34 dX2_empty_2 ?_
  refine zx_aload_n h0 0 dX2_empty_5 rfl ?_
  refine zx_get hF ka0 (by decide) rfl zi_X2_empty_2 3 (by decide) zn_X2_empty_18 rfl rfl dX2_empty_6 ?_
  refine zx_iconst (v := 0) h0 dX2_empty_9 (by decide) ?_
  refine zx_iconst (v := 0) h0 dX2_empty_10 (by decide) ?_
  refine zx_iast (j := 0) hF (zL_2_3 hL ka0) (by decide) rfl rfl (by unfold vp_in; decide) (by decide) rfl (z_fit rfl) dX2_empty_11 ?_
  exact zx_vret hF hQ dX2_empty_12 h
theorem zn_X2_addTest_34 : Cond.fieldLink RX2 34 RX2 (TX2 0).2.1 (TX2 0).2.2.1 ∈ wsX2_addTest := List.mem_of_getElem? (i := 1) rfl
theorem zi_X2_addTest_2 : ∀ w ∈ u_ws RX2 TX2 8, w ∈ wsX2_addTest := fun _ h => List.mem_cons_of_mem _ (List.mem_append_right _ h)
theorem zn_X2_addTest_18 : Cond.fieldLink RX2 18 RX2 (TX2 3).2.1 (TX2 3).2.2.1 ∈ wsX2_addTest := List.mem_of_getElem? (i := 2) rfl
theorem zn_X2_addTest_21 : Cond.fieldLink RX2 21 RX2 (TX2 4).2.1 (TX2 4).2.2.1 ∈ wsX2_addTest := List.mem_of_getElem? (i := 3) rfl
theorem zn_X2_addTest_24 : Cond.fieldLink RX2 24 RX2 (TX2 5).2.1 (TX2 5).2.2.1 ∈ wsX2_addTest := List.mem_of_getElem? (i := 4) rfl
theorem zn_X2_addTest_27 : Cond.fieldLink RX2 27 RX2 (TX2 6).2.1 (TX2 6).2.2.1 ∈ wsX2_addTest := List.mem_of_getElem? (i := 5) rfl
theorem zn_X2_addTest_30 : Cond.fieldLink RX2 30 RX2 (TX2 7).2.1 (TX2 7).2.2.1 ∈ wsX2_addTest := List.mem_of_getElem? (i := 6) rfl
set_option maxRecDepth 100000 in
set_option maxHeartbeats 4000000 in
theorem sg_X2_addTest_0 {C : zC} {G : zG} {Qc : Array Value → State → Outcome → State → Prop} (S : St_X2_addTest C G Qc) {a0 : Nat} {x1 : Int32} {x2 : Int32} {x3 : Int32} {x4 : Int32} {m : zM} (ka0 : zK G a0 = some (2, a0))
    (h : (16 ≤ (zI m 200 a0 0) → (zRet C G Qc none m)) ∧ (¬ 16 ≤ (zI m 200 a0 0) → ((vp_in (zI m 200 a0 0) 16) ∧ (((zI m 1203 a0 ((zI m 200 a0 0).toNatClampNeg)) < 4 → ((vp_in (((zI m 200 a0 0) * 4) + (zI m 1203 a0 ((zI m 200 a0 0).toNatClampNeg))) 64) ∧ ((x4 = 0 ∨ x4 = 1) ∧ (zRet C G Qc none (zsI (zsI (zsI (zsI (zsI m 1204 a0 ((((zI m 200 a0 0) * 4) + (zI m 1203 a0 ((zI m 200 a0 0).toNatClampNeg))).toNatClampNeg) x1) 1205 a0 ((((zI m 200 a0 0) * 4) + (zI m 1203 a0 ((zI m 200 a0 0).toNatClampNeg))).toNatClampNeg) x2) 1206 a0 ((((zI m 200 a0 0) * 4) + (zI m 1203 a0 ((zI m 200 a0 0).toNatClampNeg))).toNatClampNeg) x3) 1207 a0 ((((zI m 200 a0 0) * 4) + (zI m 1203 a0 ((zI m 200 a0 0).toNatClampNeg))).toNatClampNeg) x4) 1203 a0 ((zI m 200 a0 0).toNatClampNeg) ((zI m 1203 a0 ((zI m 200 a0 0).toNatClampNeg)) + 1)))))) ∧ (¬ (zI m 1203 a0 ((zI m 200 a0 0).toNatClampNeg)) < 4 → (zRet C G Qc none m)))))) : Pt_X2_addTest_0 C G a0 x1 x2 x3 x4 m := by
  obtain ⟨hF, hQ, hR⟩ := id S
  have h0 : zF0 C cX2_addTest 6 wsX2_addTest RX2 := hF.1
  have hL := hF.2.2.1
  unfold Pt_X2_addTest_0
  refine zx_aload_n h0 0 dX2_addTest_0 rfl ?_
  refine zx_get hF ka0 (by decide) rfl zi_X2_addTest_2 0 (by decide) zn_X2_addTest_34 rfl rfl dX2_addTest_1 ?_
  refine zx_bipush (v := 16) h0 dX2_addTest_4 (by decide) ?_
  refine zx_icmp_ge (tgt := 22) h0 dX2_addTest_6 (by decide) (fun q => ?_) (fun q => ?_)
  · replace h := h.1 q
    exact zx_vret hF hQ dX2_addTest_22 h
  · replace h := h.2 q
    refine zx_aload_n h0 0 dX2_addTest_9 rfl ?_
    refine zx_get hF ka0 (by decide) rfl zi_X2_addTest_2 3 (by decide) zn_X2_addTest_18 rfl rfl dX2_addTest_10 ?_
    refine zx_aload_n h0 0 dX2_addTest_13 rfl ?_
    refine zx_get hF ka0 (by decide) rfl zi_X2_addTest_2 0 (by decide) zn_X2_addTest_34 rfl rfl dX2_addTest_14 ?_
    obtain ⟨ho1, h⟩ := h
    refine zx_iald (j := (zI m 200 a0 0).toNatClampNeg) hF (zL_2_3 hL ka0) (by decide) rfl rfl ho1 rfl dX2_addTest_17 ?_
    refine zx_iconst (v := 4) h0 dX2_addTest_18 (by decide) ?_
    refine zx_icmp_lt (tgt := 23) h0 dX2_addTest_19 (by decide) (fun q => ?_) (fun q => ?_)
    · replace h := h.1 q
      refine zx_aload_n h0 0 dX2_addTest_23 rfl ?_
      refine zx_get hF ka0 (by decide) rfl zi_X2_addTest_2 0 (by decide) zn_X2_addTest_34 rfl rfl dX2_addTest_24 ?_
      refine zx_iconst (v := 4) h0 dX2_addTest_27 (by decide) ?_
      refine zx_imul h0 dX2_addTest_28 ?_
      refine zx_aload_n h0 0 dX2_addTest_29 rfl ?_
      refine zx_get hF ka0 (by decide) rfl zi_X2_addTest_2 3 (by decide) zn_X2_addTest_18 rfl rfl dX2_addTest_30 ?_
      refine zx_aload_n h0 0 dX2_addTest_33 rfl ?_
      refine zx_get hF ka0 (by decide) rfl zi_X2_addTest_2 0 (by decide) zn_X2_addTest_34 rfl rfl dX2_addTest_34 ?_
      refine zx_iald (j := (zI m 200 a0 0).toNatClampNeg) hF (zL_2_3 hL ka0) (by decide) rfl rfl ho1 rfl dX2_addTest_37 ?_
      refine zx_iadd h0 dX2_addTest_38 ?_
      refine zx_istore (L' := [(5, .int (((zI m 200 a0 0) * 4) + (zI m 1203 a0 ((zI m 200 a0 0).toNatClampNeg)))), (0, .ref a0), (1, .int x1), (2, .int x2), (3, .int x3), (4, .int x4)]) h0 dX2_addTest_39 (by decide) rfl ?_
      refine zx_aload_n h0 1 dX2_addTest_41 rfl ?_
      refine zx_get hF ka0 (by decide) rfl zi_X2_addTest_2 4 (by decide) zn_X2_addTest_21 rfl rfl dX2_addTest_42 ?_
      refine zx_iload h0 0 dX2_addTest_45 rfl ?_
      refine zx_iload_n h0 2 dX2_addTest_47 rfl ?_
      obtain ⟨ho2, h⟩ := h
      refine zx_iast (j := (((zI m 200 a0 0) * 4) + (zI m 1203 a0 ((zI m 200 a0 0).toNatClampNeg))).toNatClampNeg) hF (zL_2_4 hL ka0) (by decide) rfl rfl ho2 rfl rfl (z_fit rfl) dX2_addTest_48 ?_
      refine zx_aload_n h0 1 dX2_addTest_49 rfl ?_
      refine zx_get hF ka0 (by decide) rfl zi_X2_addTest_2 5 (by decide) zn_X2_addTest_24 rfl rfl dX2_addTest_50 ?_
      refine zx_iload h0 0 dX2_addTest_53 rfl ?_
      refine zx_iload_n h0 3 dX2_addTest_55 rfl ?_
      refine zx_iast (j := (((zI m 200 a0 0) * 4) + (zI m 1203 a0 ((zI m 200 a0 0).toNatClampNeg))).toNatClampNeg) hF (zL_2_5 hL ka0) (by decide) rfl rfl ho2 rfl rfl (z_fit rfl) dX2_addTest_56 ?_
      refine zx_aload_n h0 1 dX2_addTest_57 rfl ?_
      refine zx_get hF ka0 (by decide) rfl zi_X2_addTest_2 6 (by decide) zn_X2_addTest_27 rfl rfl dX2_addTest_58 ?_
      refine zx_iload h0 0 dX2_addTest_61 rfl ?_
      refine zx_iload_n h0 4 dX2_addTest_63 rfl ?_
      refine zx_iast (j := (((zI m 200 a0 0) * 4) + (zI m 1203 a0 ((zI m 200 a0 0).toNatClampNeg))).toNatClampNeg) hF (zL_2_6 hL ka0) (by decide) rfl rfl ho2 rfl rfl (z_fit rfl) dX2_addTest_64 ?_
      refine zx_aload_n h0 1 dX2_addTest_65 rfl ?_
      refine zx_get hF ka0 (by decide) rfl zi_X2_addTest_2 7 (by decide) zn_X2_addTest_30 rfl rfl dX2_addTest_66 ?_
      refine zx_iload h0 0 dX2_addTest_69 rfl ?_
      refine zx_iload h0 5 dX2_addTest_71 rfl ?_
      obtain ⟨ho3, h⟩ := h
      refine zx_zast (j := (((zI m 200 a0 0) * 4) + (zI m 1203 a0 ((zI m 200 a0 0).toNatClampNeg))).toNatClampNeg) (xv := x4) hF (zL_2_7 hL ka0) (by decide) rfl rfl ho2 rfl (z_nz ho3) (z_fitz (by decide) ho3) dX2_addTest_73 ?_
      refine zx_aload_n h0 1 dX2_addTest_74 rfl ?_
      refine zx_get hF ka0 (by decide) rfl zi_X2_addTest_2 3 (by decide) zn_X2_addTest_18 rfl rfl dX2_addTest_75 ?_
      refine zx_aload_n h0 1 dX2_addTest_78 rfl ?_
      refine zx_get hF ka0 (by decide) rfl zi_X2_addTest_2 0 (by decide) zn_X2_addTest_34 rfl rfl dX2_addTest_79 ?_
      refine zx_topI ((zI_n (by decide)).trans ((zI_n (by decide)).trans ((zI_n (by decide)).trans (zI_n (by decide))))) ?_
      refine zx_dup2_11 h0 dX2_addTest_82 rfl rfl ?_
      refine zx_iald (j := (zI m 200 a0 0).toNatClampNeg) hF (zL_2_3 hL ka0) (by decide) rfl rfl ho1 rfl dX2_addTest_83 ?_
      refine zx_topI ((zI_n (by decide)).trans ((zI_n (by decide)).trans ((zI_n (by decide)).trans (zI_n (by decide))))) ?_
      refine zx_iconst (v := 1) h0 dX2_addTest_84 (by decide) ?_
      refine zx_iadd h0 dX2_addTest_85 ?_
      refine zx_iast (j := (zI m 200 a0 0).toNatClampNeg) hF (zL_2_3 hL ka0) (by decide) rfl rfl ho1 rfl rfl (z_fit rfl) dX2_addTest_86 ?_
      exact zx_vret hF hQ dX2_addTest_87 h
    · replace h := h.2 q
      exact zx_vret hF hQ dX2_addTest_22 h
theorem zn_X2_endLine_34 : Cond.fieldLink RX2 34 RX2 (TX2 0).2.1 (TX2 0).2.2.1 ∈ wsX2_endLine := List.mem_of_getElem? (i := 1) rfl
theorem zi_X2_endLine_2 : ∀ w ∈ u_ws RX2 TX2 8, w ∈ wsX2_endLine := fun _ h => List.mem_cons_of_mem _ (List.mem_append_right _ h)
theorem zn_X2_endLine_9 : Cond.fieldLink RX2 9 RX2 (TX2 1).2.1 (TX2 1).2.2.1 ∈ wsX2_endLine := List.mem_of_getElem? (i := 2) rfl
theorem zn_X2_endLine_15 : Cond.fieldLink RX2 15 RX2 (TX2 2).2.1 (TX2 2).2.2.1 ∈ wsX2_endLine := List.mem_of_getElem? (i := 3) rfl
theorem zn_X2_endLine_18 : Cond.fieldLink RX2 18 RX2 (TX2 3).2.1 (TX2 3).2.2.1 ∈ wsX2_endLine := List.mem_of_getElem? (i := 4) rfl
set_option maxRecDepth 100000 in
set_option maxHeartbeats 4000000 in
theorem sg_X2_endLine_0 {C : zC} {G : zG} {Qc : Array Value → State → Outcome → State → Prop} (S : St_X2_endLine C G Qc) {a0 : Nat} {x1 : Int32} {x2 : Int32} {m : zM} (ka0 : zK G a0 = some (2, a0))
    (h : ((zI m 200 a0 0) < 16 → ((vp_in (zI m 200 a0 0) 16) ∧ ((16 ≤ ((zI m 200 a0 0) + 1) → (zRet C G Qc none (zsI (zsI (zsI m 1201 a0 ((zI m 200 a0 0).toNatClampNeg) x1) 1202 a0 ((zI m 200 a0 0).toNatClampNeg) x2) 200 a0 0 ((zI m 200 a0 0) + 1)))) ∧ (¬ 16 ≤ ((zI m 200 a0 0) + 1) → ((vp_in ((zI m 200 a0 0) + 1) 16) ∧ (zRet C G Qc none (zsI (zsI (zsI (zsI m 1201 a0 ((zI m 200 a0 0).toNatClampNeg) x1) 1202 a0 ((zI m 200 a0 0).toNatClampNeg) x2) 200 a0 0 ((zI m 200 a0 0) + 1)) 1203 a0 (((zI m 200 a0 0) + 1).toNatClampNeg) 0))))))) ∧ (¬ (zI m 200 a0 0) < 16 → (zRet C G Qc none m))) : Pt_X2_endLine_0 C G a0 x1 x2 m := by
  obtain ⟨hF, hQ, hR⟩ := id S
  have h0 : zF0 C cX2_endLine 3 wsX2_endLine RX2 := hF.1
  have hL := hF.2.2.1
  unfold Pt_X2_endLine_0
  refine zx_aload_n h0 0 dX2_endLine_0 rfl ?_
  refine zx_get hF ka0 (by decide) rfl zi_X2_endLine_2 0 (by decide) zn_X2_endLine_34 rfl rfl dX2_endLine_1 ?_
  refine zx_bipush (v := 16) h0 dX2_endLine_4 (by decide) ?_
  refine zx_icmp_lt (tgt := 10) h0 dX2_endLine_6 (by decide) (fun q => ?_) (fun q => ?_)
  · replace h := h.1 q
    refine zx_aload_n h0 0 dX2_endLine_10 rfl ?_
    refine zx_get hF ka0 (by decide) rfl zi_X2_endLine_2 1 (by decide) zn_X2_endLine_9 rfl rfl dX2_endLine_11 ?_
    refine zx_aload_n h0 0 dX2_endLine_14 rfl ?_
    refine zx_get hF ka0 (by decide) rfl zi_X2_endLine_2 0 (by decide) zn_X2_endLine_34 rfl rfl dX2_endLine_15 ?_
    refine zx_iload_n h0 1 dX2_endLine_18 rfl ?_
    obtain ⟨ho1, h⟩ := h
    refine zx_iast (j := (zI m 200 a0 0).toNatClampNeg) hF (zL_2_1 hL ka0) (by decide) rfl rfl ho1 rfl rfl (z_fit rfl) dX2_endLine_19 ?_
    refine zx_aload_n h0 0 dX2_endLine_20 rfl ?_
    refine zx_get hF ka0 (by decide) rfl zi_X2_endLine_2 2 (by decide) zn_X2_endLine_15 rfl rfl dX2_endLine_21 ?_
    refine zx_aload_n h0 0 dX2_endLine_24 rfl ?_
    refine zx_get hF ka0 (by decide) rfl zi_X2_endLine_2 0 (by decide) zn_X2_endLine_34 rfl rfl dX2_endLine_25 ?_
    refine zx_topI (zI_n (by decide)) ?_
    refine zx_iload_n h0 2 dX2_endLine_28 rfl ?_
    refine zx_iast (j := (zI m 200 a0 0).toNatClampNeg) hF (zL_2_2 hL ka0) (by decide) rfl rfl ho1 rfl rfl (z_fit rfl) dX2_endLine_29 ?_
    refine zx_aload_n h0 0 dX2_endLine_30 rfl ?_
    refine zx_dup h0 dX2_endLine_31 rfl ?_
    refine zx_get hF ka0 (by decide) rfl zi_X2_endLine_2 0 (by decide) zn_X2_endLine_34 rfl rfl dX2_endLine_32 ?_
    refine zx_topI ((zI_n (by decide)).trans (zI_n (by decide))) ?_
    refine zx_iconst (v := 1) h0 dX2_endLine_35 (by decide) ?_
    refine zx_iadd h0 dX2_endLine_36 ?_
    refine zp_200 hF ka0 zi_X2_endLine_2 zn_X2_endLine_34 dX2_endLine_37 ?_
    refine zx_aload_n h0 0 dX2_endLine_40 rfl ?_
    refine zx_get hF ka0 (by decide) rfl zi_X2_endLine_2 0 (by decide) zn_X2_endLine_34 rfl rfl dX2_endLine_41 ?_
    refine zx_topI (zI_e) ?_
    refine zx_bipush (v := 16) h0 dX2_endLine_44 (by decide) ?_
    refine zx_icmp_ge (tgt := 59) h0 dX2_endLine_46 (by decide) (fun q => ?_) (fun q => ?_)
    · replace h := h.1 q
      exact zx_vret hF hQ dX2_endLine_59 h
    · replace h := h.2 q
      refine zx_aload_n h0 0 dX2_endLine_49 rfl ?_
      refine zx_get hF ka0 (by decide) rfl zi_X2_endLine_2 3 (by decide) zn_X2_endLine_18 rfl rfl dX2_endLine_50 ?_
      refine zx_aload_n h0 0 dX2_endLine_53 rfl ?_
      refine zx_get hF ka0 (by decide) rfl zi_X2_endLine_2 0 (by decide) zn_X2_endLine_34 rfl rfl dX2_endLine_54 ?_
      refine zx_topI (zI_e) ?_
      refine zx_iconst (v := 0) h0 dX2_endLine_57 (by decide) ?_
      obtain ⟨ho2, h⟩ := h
      refine zx_iast (j := ((zI m 200 a0 0) + 1).toNatClampNeg) hF (zL_2_3 hL ka0) (by decide) rfl rfl ho2 rfl rfl (z_fit rfl) dX2_endLine_58 ?_
      exact zx_vret hF hQ dX2_endLine_59 h
  · replace h := h.2 q
    exact zx_vret hF hQ dX2_endLine_9 h
theorem zn_X3_lienCoins_32 : Cond.fieldLink RX3 32 RX3 (TX3 1).2.1 (TX3 1).2.2.1 ∈ wsX3_lienCoins := List.mem_of_getElem? (i := 1) rfl
theorem zi_X3_lienCoins_3 : ∀ w ∈ u_ws RX3 TX3 11, w ∈ wsX3_lienCoins := fun _ h => List.mem_cons_of_mem _ (List.mem_append_right _ h)
theorem zn_X3_lienCoins_19 : Cond.fieldLink RX3 19 RX3 (TX3 8).2.1 (TX3 8).2.2.1 ∈ wsX3_lienCoins := List.mem_of_getElem? (i := 2) rfl
set_option maxRecDepth 100000 in
set_option maxHeartbeats 4000000 in
theorem sg_X3_lienCoins_0 {C : zC} {G : zG} {Qc : Array Value → State → Outcome → State → Prop} (S : St_X3_lienCoins C G Qc) {a0 : Nat} {m : zM} (ka0 : zK G a0 = some (3, a0))
    (h : Pt_X3_lienCoins_4 C G a0 0 0 m) : Pt_X3_lienCoins_0 C G a0 m := by
  obtain ⟨hF, hQ, hR⟩ := id S
  have h0 : zF0 C cX3_lienCoins 4 wsX3_lienCoins RX3 := hF.1
  have hL := hF.2.2.1
  unfold Pt_X3_lienCoins_0
  refine zx_lconst (v := 0) h0 dX3_lienCoins_0 (by decide) ?_
  refine zx_lstore_n (L' := [(1, .long 0), (0, .ref a0)]) h0 dX3_lienCoins_1 (by decide) rfl ?_
  refine zx_iconst (v := 0) h0 dX3_lienCoins_2 (by decide) ?_
  refine zx_istore_n (L' := [(3, .int 0), (1, .long 0), (0, .ref a0)]) h0 dX3_lienCoins_3 (by decide) rfl ?_
  exact zx_sub [2, 1, 0] rfl h
set_option maxRecDepth 100000 in
set_option maxHeartbeats 4000000 in
theorem sg_X3_lienCoins_4 {C : zC} {G : zG} {Qc : Array Value → State → Outcome → State → Prop} (S : St_X3_lienCoins C G Qc) {a0 : Nat} {l1 : Int64} {x3 : Int32} {m : zM} (ka0 : zK G a0 = some (3, a0))
    (h : ((zI m 301 a0 0) ≤ x3 → (zRet C G Qc (some (.long l1)) m)) ∧ (¬ (zI m 301 a0 0) ≤ x3 → ((4 ≤ x3 → (zRet C G Qc (some (.long l1)) m)) ∧ (¬ 4 ≤ x3 → ((vp_in x3 4) ∧ (Pt_X3_lienCoins_4 C G a0 (l1 + (zJ m 1308 a0 x3.toNatClampNeg)) (x3 + 1) m)))))) : Pt_X3_lienCoins_4 C G a0 l1 x3 m := by
  obtain ⟨hF, hQ, hR⟩ := id S
  have h0 : zF0 C cX3_lienCoins 4 wsX3_lienCoins RX3 := hF.1
  have hL := hF.2.2.1
  unfold Pt_X3_lienCoins_4
  refine zx_iload_n h0 2 dX3_lienCoins_4 rfl ?_
  refine zx_aload_n h0 0 dX3_lienCoins_5 rfl ?_
  refine zx_get hF ka0 (by decide) rfl zi_X3_lienCoins_3 1 (by decide) zn_X3_lienCoins_32 rfl rfl dX3_lienCoins_6 ?_
  refine zx_icmp_ge (tgt := 32) h0 dX3_lienCoins_9 (by decide) (fun q => ?_) (fun q => ?_)
  · replace h := h.1 q
    refine zx_lload_n h0 1 dX3_lienCoins_32 rfl ?_
    exact zx_lret hF hQ dX3_lienCoins_33 h
  · replace h := h.2 q
    refine zx_iload_n h0 2 dX3_lienCoins_12 rfl ?_
    refine zx_iconst (v := 4) h0 dX3_lienCoins_13 (by decide) ?_
    refine zx_icmp_ge (tgt := 32) h0 dX3_lienCoins_14 (by decide) (fun q => ?_) (fun q => ?_)
    · replace h := h.1 q
      refine zx_lload_n h0 1 dX3_lienCoins_32 rfl ?_
      exact zx_lret hF hQ dX3_lienCoins_33 h
    · replace h := h.2 q
      refine zx_lload_n h0 1 dX3_lienCoins_17 rfl ?_
      refine zx_aload_n h0 0 dX3_lienCoins_18 rfl ?_
      refine zx_get hF ka0 (by decide) rfl zi_X3_lienCoins_3 8 (by decide) zn_X3_lienCoins_19 rfl rfl dX3_lienCoins_19 ?_
      refine zx_iload_n h0 2 dX3_lienCoins_22 rfl ?_
      obtain ⟨ho1, h⟩ := h
      refine zx_lald (j := x3.toNatClampNeg) hF (zL_3_3 hL ka0) (by decide) rfl rfl ho1 rfl dX3_lienCoins_23 ?_
      refine zx_ladd h0 dX3_lienCoins_24 ?_
      refine zx_lstore_n (L' := [(1, .long (l1 + (zJ m 1308 a0 x3.toNatClampNeg))), (0, .ref a0), (3, .int x3)]) h0 dX3_lienCoins_25 (by decide) rfl ?_
      refine zx_iinc (v := (x3 + 1)) (L' := [(3, .int (x3 + 1)), (1, .long (l1 + (zJ m 1308 a0 x3.toNatClampNeg))), (0, .ref a0)]) h0 2 dX3_lienCoins_26 rfl rfl (by decide) rfl ?_
      refine zx_goto (tgt := 4) h0 dX3_lienCoins_29 (by decide) ?_
      exact zx_sub [2, 1, 0] rfl h
theorem zn_X3_heirCoins_35 : Cond.fieldLink RX3 35 RX3 (TX3 2).2.1 (TX3 2).2.2.1 ∈ wsX3_heirCoins := List.mem_of_getElem? (i := 1) rfl
theorem zi_X3_heirCoins_3 : ∀ w ∈ u_ws RX3 TX3 11, w ∈ wsX3_heirCoins := fun _ h => List.mem_cons_of_mem _ (List.mem_append_right _ h)
theorem zn_X3_heirCoins_25 : Cond.fieldLink RX3 25 RX3 (TX3 10).2.1 (TX3 10).2.2.1 ∈ wsX3_heirCoins := List.mem_of_getElem? (i := 2) rfl
set_option maxRecDepth 100000 in
set_option maxHeartbeats 4000000 in
theorem sg_X3_heirCoins_0 {C : zC} {G : zG} {Qc : Array Value → State → Outcome → State → Prop} (S : St_X3_heirCoins C G Qc) {a0 : Nat} {m : zM} (ka0 : zK G a0 = some (3, a0))
    (h : Pt_X3_heirCoins_4 C G a0 0 0 m) : Pt_X3_heirCoins_0 C G a0 m := by
  obtain ⟨hF, hQ, hR⟩ := id S
  have h0 : zF0 C cX3_heirCoins 4 wsX3_heirCoins RX3 := hF.1
  have hL := hF.2.2.1
  unfold Pt_X3_heirCoins_0
  refine zx_lconst (v := 0) h0 dX3_heirCoins_0 (by decide) ?_
  refine zx_lstore_n (L' := [(1, .long 0), (0, .ref a0)]) h0 dX3_heirCoins_1 (by decide) rfl ?_
  refine zx_iconst (v := 0) h0 dX3_heirCoins_2 (by decide) ?_
  refine zx_istore_n (L' := [(3, .int 0), (1, .long 0), (0, .ref a0)]) h0 dX3_heirCoins_3 (by decide) rfl ?_
  exact zx_sub [2, 1, 0] rfl h
set_option maxRecDepth 100000 in
set_option maxHeartbeats 4000000 in
theorem sg_X3_heirCoins_4 {C : zC} {G : zG} {Qc : Array Value → State → Outcome → State → Prop} (S : St_X3_heirCoins C G Qc) {a0 : Nat} {l1 : Int64} {x3 : Int32} {m : zM} (ka0 : zK G a0 = some (3, a0))
    (h : ((zI m 302 a0 0) ≤ x3 → (zRet C G Qc (some (.long l1)) m)) ∧ (¬ (zI m 302 a0 0) ≤ x3 → ((4 ≤ x3 → (zRet C G Qc (some (.long l1)) m)) ∧ (¬ 4 ≤ x3 → ((vp_in x3 4) ∧ (Pt_X3_heirCoins_4 C G a0 (l1 + (zJ m 1310 a0 x3.toNatClampNeg)) (x3 + 1) m)))))) : Pt_X3_heirCoins_4 C G a0 l1 x3 m := by
  obtain ⟨hF, hQ, hR⟩ := id S
  have h0 : zF0 C cX3_heirCoins 4 wsX3_heirCoins RX3 := hF.1
  have hL := hF.2.2.1
  unfold Pt_X3_heirCoins_4
  refine zx_iload_n h0 2 dX3_heirCoins_4 rfl ?_
  refine zx_aload_n h0 0 dX3_heirCoins_5 rfl ?_
  refine zx_get hF ka0 (by decide) rfl zi_X3_heirCoins_3 2 (by decide) zn_X3_heirCoins_35 rfl rfl dX3_heirCoins_6 ?_
  refine zx_icmp_ge (tgt := 32) h0 dX3_heirCoins_9 (by decide) (fun q => ?_) (fun q => ?_)
  · replace h := h.1 q
    refine zx_lload_n h0 1 dX3_heirCoins_32 rfl ?_
    exact zx_lret hF hQ dX3_heirCoins_33 h
  · replace h := h.2 q
    refine zx_iload_n h0 2 dX3_heirCoins_12 rfl ?_
    refine zx_iconst (v := 4) h0 dX3_heirCoins_13 (by decide) ?_
    refine zx_icmp_ge (tgt := 32) h0 dX3_heirCoins_14 (by decide) (fun q => ?_) (fun q => ?_)
    · replace h := h.1 q
      refine zx_lload_n h0 1 dX3_heirCoins_32 rfl ?_
      exact zx_lret hF hQ dX3_heirCoins_33 h
    · replace h := h.2 q
      refine zx_lload_n h0 1 dX3_heirCoins_17 rfl ?_
      refine zx_aload_n h0 0 dX3_heirCoins_18 rfl ?_
      refine zx_get hF ka0 (by decide) rfl zi_X3_heirCoins_3 10 (by decide) zn_X3_heirCoins_25 rfl rfl dX3_heirCoins_19 ?_
      refine zx_iload_n h0 2 dX3_heirCoins_22 rfl ?_
      obtain ⟨ho1, h⟩ := h
      refine zx_lald (j := x3.toNatClampNeg) hF (zL_3_5 hL ka0) (by decide) rfl rfl ho1 rfl dX3_heirCoins_23 ?_
      refine zx_ladd h0 dX3_heirCoins_24 ?_
      refine zx_lstore_n (L' := [(1, .long (l1 + (zJ m 1310 a0 x3.toNatClampNeg))), (0, .ref a0), (3, .int x3)]) h0 dX3_heirCoins_25 (by decide) rfl ?_
      refine zx_iinc (v := (x3 + 1)) (L' := [(3, .int (x3 + 1)), (1, .long (l1 + (zJ m 1310 a0 x3.toNatClampNeg))), (0, .ref a0)]) h0 2 dX3_heirCoins_26 rfl rfl (by decide) rfl ?_
      refine zx_goto (tgt := 4) h0 dX3_heirCoins_29 (by decide) ?_
      exact zx_sub [2, 1, 0] rfl h
theorem zn_X3_coinsOf_32 : Cond.fieldLink RX3 32 RX3 (TX3 1).2.1 (TX3 1).2.2.1 ∈ wsX3_coinsOf := List.mem_of_getElem? (i := 1) rfl
theorem zi_X3_coinsOf_3 : ∀ w ∈ u_ws RX3 TX3 11, w ∈ wsX3_coinsOf := fun _ h => List.mem_cons_of_mem _ (List.mem_append_right _ h)
theorem zn_X3_coinsOf_k54 : Cond.constantLong RX3 54 (-1) ∈ wsX3_coinsOf := List.mem_of_getElem? (i := 3) rfl
theorem zn_X3_coinsOf_19 : Cond.fieldLink RX3 19 RX3 (TX3 8).2.1 (TX3 8).2.2.1 ∈ wsX3_coinsOf := List.mem_of_getElem? (i := 2) rfl
theorem zn_X3_coinsOf_35 : Cond.fieldLink RX3 35 RX3 (TX3 2).2.1 (TX3 2).2.2.1 ∈ wsX3_coinsOf := List.mem_of_getElem? (i := 4) rfl
theorem zn_X3_coinsOf_25 : Cond.fieldLink RX3 25 RX3 (TX3 10).2.1 (TX3 10).2.2.1 ∈ wsX3_coinsOf := List.mem_of_getElem? (i := 5) rfl
theorem zn_X3_coinsOf_38 : Cond.fieldLink RX3 38 RX3 (TX3 3).2.1 (TX3 3).2.2.1 ∈ wsX3_coinsOf := List.mem_of_getElem? (i := 6) rfl
theorem zn_X3_coinsOf_42 : Cond.fieldLink RX3 42 RX3 (TX3 4).2.1 (TX3 4).2.2.1 ∈ wsX3_coinsOf := List.mem_of_getElem? (i := 7) rfl
theorem zn_X3_coinsOf_45 : Cond.fieldLink RX3 45 RX3 (TX3 5).2.1 (TX3 5).2.2.1 ∈ wsX3_coinsOf := List.mem_of_getElem? (i := 8) rfl
theorem zc_X3_coinsOf_X3_lienCoins {C : zC} {G : zG} {Qc : Array Value → State → Outcome → State → Prop} (S : St_X3_coinsOf C G Qc) : CallW (zRm C) (zs C) (zar C) RX3 RX3 56 yX3_lienCoins cX3_lienCoins 4 (some .long) wsX3_lienCoins rm_X3_lienCoins 0 0 0 := cwV 0 S.1.1.2.2.2.2 gX3_coinsOf_X3_lienCoins rfl rfl rfl (by decide +kernel) (by rw [S.2.2]; exact ⟨Nat.le_of_ble_eq_true rfl, Nat.le_of_ble_eq_true rfl⟩)
theorem zc_X3_coinsOf_X3_heirCoins {C : zC} {G : zG} {Qc : Array Value → State → Outcome → State → Prop} (S : St_X3_coinsOf C G Qc) : CallW (zRm C) (zs C) (zar C) RX3 RX3 60 yX3_heirCoins cX3_heirCoins 4 (some .long) wsX3_heirCoins rm_X3_heirCoins 0 0 0 := cwV 0 S.1.1.2.2.2.2 gX3_coinsOf_X3_heirCoins rfl rfl rfl (by decide +kernel) (by rw [S.2.2]; exact ⟨Nat.le_of_ble_eq_true rfl, Nat.le_of_ble_eq_true rfl⟩)
set_option maxRecDepth 100000 in
set_option maxHeartbeats 4000000 in
theorem sg_X3_coinsOf_0 {C : zC} {G : zG} {Qc : Array Value → State → Outcome → State → Prop} (S : St_X3_coinsOf C G Qc) {a0 : Nat} {x1 : Int32} {m : zM} (ka0 : zK G a0 = some (3, a0))
    (h : (x1 < 10 → (Pt_X3_coinsOf_39 C G a0 x1 m)) ∧ (¬ x1 < 10 → ((14 ≤ x1 → (Pt_X3_coinsOf_39 C G a0 x1 m)) ∧ (¬ 14 ≤ x1 → (((zI m 301 a0 0) ≤ (x1 - 10) → (zRet C G Qc (some (.long (-1))) m)) ∧ (¬ (zI m 301 a0 0) ≤ (x1 - 10) → ((vp_in (x1 - 10) 4) ∧ (zRet C G Qc (some (.long (zJ m 1308 a0 ((x1 - 10).toNatClampNeg)))) m)))))))) : Pt_X3_coinsOf_0 C G a0 x1 m := by
  obtain ⟨hF, hQ, hR⟩ := id S
  have h0 : zF0 C cX3_coinsOf 2 wsX3_coinsOf RX3 := hF.1
  have hL := hF.2.2.1
  unfold Pt_X3_coinsOf_0
  refine zx_iload_n h0 1 dX3_coinsOf_0 rfl ?_
  refine zx_bipush (v := 10) h0 dX3_coinsOf_1 (by decide) ?_
  refine zx_icmp_lt (tgt := 39) h0 dX3_coinsOf_3 (by decide) (fun q => ?_) (fun q => ?_)
  · replace h := h.1 q
    exact zx_sub [0, 1] rfl h
  · replace h := h.2 q
    refine zx_iload_n h0 1 dX3_coinsOf_6 rfl ?_
    refine zx_bipush (v := 14) h0 dX3_coinsOf_7 (by decide) ?_
    refine zx_icmp_ge (tgt := 39) h0 dX3_coinsOf_9 (by decide) (fun q => ?_) (fun q => ?_)
    · replace h := h.1 q
      exact zx_sub [0, 1] rfl h
    · replace h := h.2 q
      refine zx_iload_n h0 1 dX3_coinsOf_12 rfl ?_
      refine zx_bipush (v := 10) h0 dX3_coinsOf_13 (by decide) ?_
      refine zx_isub h0 dX3_coinsOf_15 ?_
      refine zx_aload_n h0 0 dX3_coinsOf_16 rfl ?_
      refine zx_get hF ka0 (by decide) rfl zi_X3_coinsOf_3 1 (by decide) zn_X3_coinsOf_32 rfl rfl dX3_coinsOf_17 ?_
      refine zx_icmp_ge (tgt := 35) h0 dX3_coinsOf_20 (by decide) (fun q => ?_) (fun q => ?_)
      · replace h := h.1 q
        refine zx_ldc2 (v := (-1)) h0 zn_X3_coinsOf_k54 dX3_coinsOf_35 ?_
        exact zx_lret hF hQ dX3_coinsOf_38 h
      · replace h := h.2 q
        refine zx_aload_n h0 0 dX3_coinsOf_23 rfl ?_
        refine zx_get hF ka0 (by decide) rfl zi_X3_coinsOf_3 8 (by decide) zn_X3_coinsOf_19 rfl rfl dX3_coinsOf_24 ?_
        refine zx_iload_n h0 1 dX3_coinsOf_27 rfl ?_
        refine zx_bipush (v := 10) h0 dX3_coinsOf_28 (by decide) ?_
        refine zx_isub h0 dX3_coinsOf_30 ?_
        obtain ⟨ho1, h⟩ := h
        refine zx_lald (j := (x1 - 10).toNatClampNeg) hF (zL_3_3 hL ka0) (by decide) rfl rfl ho1 rfl dX3_coinsOf_31 ?_
        refine zx_goto (tgt := 38) h0 dX3_coinsOf_32 (by decide) ?_
        exact zx_lret hF hQ dX3_coinsOf_38 h
set_option maxRecDepth 100000 in
set_option maxHeartbeats 4000000 in
theorem sg_X3_coinsOf_39 {C : zC} {G : zG} {Qc : Array Value → State → Outcome → State → Prop} (S : St_X3_coinsOf C G Qc) {a0 : Nat} {x1 : Int32} {m : zM} (ka0 : zK G a0 = some (3, a0))
    (h : (x1 < 20 → (Pt_X3_coinsOf_78 C G a0 x1 m)) ∧ (¬ x1 < 20 → ((24 ≤ x1 → (Pt_X3_coinsOf_78 C G a0 x1 m)) ∧ (¬ 24 ≤ x1 → (((zI m 302 a0 0) ≤ (x1 - 20) → (zRet C G Qc (some (.long (-1))) m)) ∧ (¬ (zI m 302 a0 0) ≤ (x1 - 20) → ((vp_in (x1 - 20) 4) ∧ (zRet C G Qc (some (.long (zJ m 1310 a0 ((x1 - 20).toNatClampNeg)))) m)))))))) : Pt_X3_coinsOf_39 C G a0 x1 m := by
  obtain ⟨hF, hQ, hR⟩ := id S
  have h0 : zF0 C cX3_coinsOf 2 wsX3_coinsOf RX3 := hF.1
  have hL := hF.2.2.1
  unfold Pt_X3_coinsOf_39
  refine zx_iload_n h0 1 dX3_coinsOf_39 rfl ?_
  refine zx_bipush (v := 20) h0 dX3_coinsOf_40 (by decide) ?_
  refine zx_icmp_lt (tgt := 78) h0 dX3_coinsOf_42 (by decide) (fun q => ?_) (fun q => ?_)
  · replace h := h.1 q
    exact zx_sub [0, 1] rfl h
  · replace h := h.2 q
    refine zx_iload_n h0 1 dX3_coinsOf_45 rfl ?_
    refine zx_bipush (v := 24) h0 dX3_coinsOf_46 (by decide) ?_
    refine zx_icmp_ge (tgt := 78) h0 dX3_coinsOf_48 (by decide) (fun q => ?_) (fun q => ?_)
    · replace h := h.1 q
      exact zx_sub [0, 1] rfl h
    · replace h := h.2 q
      refine zx_iload_n h0 1 dX3_coinsOf_51 rfl ?_
      refine zx_bipush (v := 20) h0 dX3_coinsOf_52 (by decide) ?_
      refine zx_isub h0 dX3_coinsOf_54 ?_
      refine zx_aload_n h0 0 dX3_coinsOf_55 rfl ?_
      refine zx_get hF ka0 (by decide) rfl zi_X3_coinsOf_3 2 (by decide) zn_X3_coinsOf_35 rfl rfl dX3_coinsOf_56 ?_
      refine zx_icmp_ge (tgt := 74) h0 dX3_coinsOf_59 (by decide) (fun q => ?_) (fun q => ?_)
      · replace h := h.1 q
        refine zx_ldc2 (v := (-1)) h0 zn_X3_coinsOf_k54 dX3_coinsOf_74 ?_
        exact zx_lret hF hQ dX3_coinsOf_77 h
      · replace h := h.2 q
        refine zx_aload_n h0 0 dX3_coinsOf_62 rfl ?_
        refine zx_get hF ka0 (by decide) rfl zi_X3_coinsOf_3 10 (by decide) zn_X3_coinsOf_25 rfl rfl dX3_coinsOf_63 ?_
        refine zx_iload_n h0 1 dX3_coinsOf_66 rfl ?_
        refine zx_bipush (v := 20) h0 dX3_coinsOf_67 (by decide) ?_
        refine zx_isub h0 dX3_coinsOf_69 ?_
        obtain ⟨ho1, h⟩ := h
        refine zx_lald (j := (x1 - 20).toNatClampNeg) hF (zL_3_5 hL ka0) (by decide) rfl rfl ho1 rfl dX3_coinsOf_70 ?_
        refine zx_goto (tgt := 77) h0 dX3_coinsOf_71 (by decide) ?_
        exact zx_lret hF hQ dX3_coinsOf_77 h
set_option maxRecDepth 100000 in
set_option maxHeartbeats 4000000 in
theorem sg_X3_coinsOf_78 {C : zC} {G : zG} {Qc : Array Value → State → Outcome → State → Prop} (S : St_X3_coinsOf C G Qc) {P_X3_lienCoins : Nat → zM → Prop} {Q_X3_lienCoins : Nat → zM → Int64 → Prop} (c_X3_lienCoins : Con_X3_lienCoins (zl C) G P_X3_lienCoins Q_X3_lienCoins) {P_X3_heirCoins : Nat → zM → Prop} {Q_X3_heirCoins : Nat → zM → Int64 → Prop} (c_X3_heirCoins : Con_X3_heirCoins (zl C) G P_X3_heirCoins Q_X3_heirCoins) {a0 : Nat} {x1 : Int32} {m : zM} (ka0 : zK G a0 = some (3, a0))
    (h : ((x1).toInt < 1 ∨ 5 < (x1).toInt → (zRet C G Qc (some (.long (-1))) m)) ∧ (x1 = 1 → (zRet C G Qc (some (.long (zJ m 303 a0 0))) m)) ∧ (x1 = 2 → (zRet C G Qc (some (.long (zJ m 304 a0 0))) m)) ∧ (x1 = 3 → ((P_X3_lienCoins a0 m) ∧ (∀ (r2 : Int64), Q_X3_lienCoins a0 m r2 → (zRet C G Qc (some (.long r2)) m)))) ∧ (x1 = 4 → ((P_X3_heirCoins a0 m) ∧ (∀ (r4 : Int64), Q_X3_heirCoins a0 m r4 → (zRet C G Qc (some (.long r4)) m)))) ∧ (x1 = 5 → (zRet C G Qc (some (.long (zJ m 305 a0 0))) m))) : Pt_X3_coinsOf_78 C G a0 x1 m := by
  obtain ⟨hF, hQ, hR⟩ := id S
  have h0 : zF0 C cX3_coinsOf 2 wsX3_coinsOf RX3 := hF.1
  have hL := hF.2.2.1
  unfold Pt_X3_coinsOf_78
  refine zx_iload_n h0 1 dX3_coinsOf_78 rfl ?_
  by_cases hout : (x1).toInt < 1 ∨ 5 < (x1).toInt
  · replace h := h.1 hout
    refine zx_tabOut (tgt := 137) h0 dX3_coinsOf_79 hout (by decide) ?_
    refine zx_ldc2 (v := (-1)) h0 zn_X3_coinsOf_k54 dX3_coinsOf_137 ?_
    exact zx_lret hF hQ dX3_coinsOf_140 h
  replace h := h.2
  by_cases q1 : x1 = 1
  · replace h := h.1 q1
    refine zx_tabIn (tgt := 112) h0 dX3_coinsOf_79 (by rw [q1]; decide) (by rw [q1]; decide) (by rw [q1]; rfl) (by decide) ?_
    refine zx_aload_n h0 0 dX3_coinsOf_112 rfl ?_
    refine zx_get hF ka0 (by decide) rfl zi_X3_coinsOf_3 3 (by decide) zn_X3_coinsOf_38 rfl rfl dX3_coinsOf_113 ?_
    exact zx_lret hF hQ dX3_coinsOf_116 h
  by_cases q2 : x1 = 2
  · replace h := h.2.1 q2
    refine zx_tabIn (tgt := 117) h0 dX3_coinsOf_79 (by rw [q2]; decide) (by rw [q2]; decide) (by rw [q2]; rfl) (by decide) ?_
    refine zx_aload_n h0 0 dX3_coinsOf_117 rfl ?_
    refine zx_get hF ka0 (by decide) rfl zi_X3_coinsOf_3 4 (by decide) zn_X3_coinsOf_42 rfl rfl dX3_coinsOf_118 ?_
    exact zx_lret hF hQ dX3_coinsOf_121 h
  by_cases q3 : x1 = 3
  · replace h := h.2.2.1 q3
    refine zx_tabIn (tgt := 122) h0 dX3_coinsOf_79 (by rw [q3]; decide) (by rw [q3]; decide) (by rw [q3]; rfl) (by decide) ?_
    refine zx_aload_n h0 0 dX3_coinsOf_122 rfl ?_
    obtain ⟨ho1, h⟩ := h
    refine zx_callVl (As := []) (rest := []) hF (c_X3_lienCoins a0 m ka0 ho1) (zc_X3_coinsOf_X3_lienCoins S) ka0 (by decide) rfl dX3_coinsOf_123 rfl rfl (Nat.le_of_ble_eq_true rfl) ⟨Nat.zero_le _, Nat.zero_le _⟩ (fun r2 m2 hq => ?_)
    obtain ⟨hme, hq⟩ := hq
    subst m2
    replace h := h r2 hq
    exact zx_lret hF hQ dX3_coinsOf_126 h
  by_cases q4 : x1 = 4
  · replace h := h.2.2.2.1 q4
    refine zx_tabIn (tgt := 127) h0 dX3_coinsOf_79 (by rw [q4]; decide) (by rw [q4]; decide) (by rw [q4]; rfl) (by decide) ?_
    refine zx_aload_n h0 0 dX3_coinsOf_127 rfl ?_
    obtain ⟨ho3, h⟩ := h
    refine zx_callVl (As := []) (rest := []) hF (c_X3_heirCoins a0 m ka0 ho3) (zc_X3_coinsOf_X3_heirCoins S) ka0 (by decide) rfl dX3_coinsOf_128 rfl rfl (Nat.le_of_ble_eq_true rfl) ⟨Nat.zero_le _, Nat.zero_le _⟩ (fun r4 m4 hq => ?_)
    obtain ⟨hme, hq⟩ := hq
    subst m4
    replace h := h r4 hq
    exact zx_lret hF hQ dX3_coinsOf_131 h
  by_cases q5 : x1 = 5
  · replace h := h.2.2.2.2 q5
    refine zx_tabIn (tgt := 132) h0 dX3_coinsOf_79 (by rw [q5]; decide) (by rw [q5]; decide) (by rw [q5]; rfl) (by decide) ?_
    refine zx_aload_n h0 0 dX3_coinsOf_132 rfl ?_
    refine zx_get hF ka0 (by decide) rfl zi_X3_coinsOf_3 5 (by decide) zn_X3_coinsOf_45 rfl rfl dX3_coinsOf_133 ?_
    exact zx_lret hF hQ dX3_coinsOf_136 h
  exact absurd (z_o1_5 q1 q2 q3 q4 q5) hout
theorem zn_X3_addLien_32 : Cond.fieldLink RX3 32 RX3 (TX3 1).2.1 (TX3 1).2.2.1 ∈ wsX3_addLien := List.mem_of_getElem? (i := 1) rfl
theorem zi_X3_addLien_3 : ∀ w ∈ u_ws RX3 TX3 11, w ∈ wsX3_addLien := fun _ h => List.mem_cons_of_mem _ (List.mem_append_right _ h)
theorem zn_X3_addLien_9 : Cond.fieldLink RX3 9 RX3 (TX3 6).2.1 (TX3 6).2.2.1 ∈ wsX3_addLien := List.mem_of_getElem? (i := 2) rfl
theorem zn_X3_addLien_15 : Cond.fieldLink RX3 15 RX3 (TX3 7).2.1 (TX3 7).2.2.1 ∈ wsX3_addLien := List.mem_of_getElem? (i := 3) rfl
set_option maxRecDepth 100000 in
set_option maxHeartbeats 4000000 in
theorem sg_X3_addLien_0 {C : zC} {G : zG} {Qc : Array Value → State → Outcome → State → Prop} (S : St_X3_addLien C G Qc) {a0 : Nat} {x1 : Int32} {l2 : Int64} {m : zM} (ka0 : zK G a0 = some (3, a0))
    (h : ((zI m 301 a0 0) < 4 → ((vp_in (zI m 301 a0 0) 4) ∧ (zRet C G Qc (some (.int (((zI m 301 a0 0) + 1) - 1))) (zsI (zsJ (zsI m 1306 a0 ((zI m 301 a0 0).toNatClampNeg) x1) 1307 a0 ((zI m 301 a0 0).toNatClampNeg) l2) 301 a0 0 ((zI m 301 a0 0) + 1))))) ∧ (¬ (zI m 301 a0 0) < 4 → (zRet C G Qc (some (.int (-1))) m))) : Pt_X3_addLien_0 C G a0 x1 l2 m := by
  obtain ⟨hF, hQ, hR⟩ := id S
  have h0 : zF0 C cX3_addLien 4 wsX3_addLien RX3 := hF.1
  have hL := hF.2.2.1
  unfold Pt_X3_addLien_0
  refine zx_aload_n h0 0 dX3_addLien_0 rfl ?_
  refine zx_get hF ka0 (by decide) rfl zi_X3_addLien_3 1 (by decide) zn_X3_addLien_32 rfl rfl dX3_addLien_1 ?_
  refine zx_iconst (v := 4) h0 dX3_addLien_4 (by decide) ?_
  refine zx_icmp_lt (tgt := 10) h0 dX3_addLien_5 (by decide) (fun q => ?_) (fun q => ?_)
  · replace h := h.1 q
    refine zx_aload_n h0 0 dX3_addLien_10 rfl ?_
    refine zx_get hF ka0 (by decide) rfl zi_X3_addLien_3 6 (by decide) zn_X3_addLien_9 rfl rfl dX3_addLien_11 ?_
    refine zx_aload_n h0 0 dX3_addLien_14 rfl ?_
    refine zx_get hF ka0 (by decide) rfl zi_X3_addLien_3 1 (by decide) zn_X3_addLien_32 rfl rfl dX3_addLien_15 ?_
    refine zx_iload_n h0 1 dX3_addLien_18 rfl ?_
    obtain ⟨ho1, h⟩ := h
    refine zx_iast (j := (zI m 301 a0 0).toNatClampNeg) hF (zL_3_1 hL ka0) (by decide) rfl rfl ho1 rfl rfl (z_fit rfl) dX3_addLien_19 ?_
    refine zx_aload_n h0 0 dX3_addLien_20 rfl ?_
    refine zx_get hF ka0 (by decide) rfl zi_X3_addLien_3 7 (by decide) zn_X3_addLien_15 rfl rfl dX3_addLien_21 ?_
    refine zx_aload_n h0 0 dX3_addLien_24 rfl ?_
    refine zx_get hF ka0 (by decide) rfl zi_X3_addLien_3 1 (by decide) zn_X3_addLien_32 rfl rfl dX3_addLien_25 ?_
    refine zx_topI (zI_n (by decide)) ?_
    refine zx_lload_n h0 2 dX3_addLien_28 rfl ?_
    refine zx_last (j := (zI m 301 a0 0).toNatClampNeg) hF (zL_3_2 hL ka0) (by decide) rfl rfl ho1 rfl dX3_addLien_29 ?_
    refine zx_aload_n h0 0 dX3_addLien_30 rfl ?_
    refine zx_dup h0 dX3_addLien_31 rfl ?_
    refine zx_get hF ka0 (by decide) rfl zi_X3_addLien_3 1 (by decide) zn_X3_addLien_32 rfl rfl dX3_addLien_32 ?_
    refine zx_topI ((zI_J).trans (zI_n (by decide))) ?_
    refine zx_iconst (v := 1) h0 dX3_addLien_35 (by decide) ?_
    refine zx_iadd h0 dX3_addLien_36 ?_
    refine zp_301 hF ka0 zi_X3_addLien_3 zn_X3_addLien_32 dX3_addLien_37 ?_
    refine zx_aload_n h0 0 dX3_addLien_40 rfl ?_
    refine zx_get hF ka0 (by decide) rfl zi_X3_addLien_3 1 (by decide) zn_X3_addLien_32 rfl rfl dX3_addLien_41 ?_
    refine zx_topI (zI_e) ?_
    refine zx_iconst (v := 1) h0 dX3_addLien_44 (by decide) ?_
    refine zx_isub h0 dX3_addLien_45 ?_
    exact zx_iret hF hQ dX3_addLien_46 h
  · replace h := h.2 q
    refine zx_iconst (v := (-1)) h0 dX3_addLien_8 (by decide) ?_
    exact zx_iret hF hQ dX3_addLien_9 h
theorem zn_X3_addHeir_35 : Cond.fieldLink RX3 35 RX3 (TX3 2).2.1 (TX3 2).2.2.1 ∈ wsX3_addHeir := List.mem_of_getElem? (i := 1) rfl
theorem zi_X3_addHeir_3 : ∀ w ∈ u_ws RX3 TX3 11, w ∈ wsX3_addHeir := fun _ h => List.mem_cons_of_mem _ (List.mem_append_right _ h)
theorem zn_X3_addHeir_22 : Cond.fieldLink RX3 22 RX3 (TX3 9).2.1 (TX3 9).2.2.1 ∈ wsX3_addHeir := List.mem_of_getElem? (i := 2) rfl
set_option maxRecDepth 100000 in
set_option maxHeartbeats 4000000 in
theorem sg_X3_addHeir_0 {C : zC} {G : zG} {Qc : Array Value → State → Outcome → State → Prop} (S : St_X3_addHeir C G Qc) {a0 : Nat} {x1 : Int32} {m : zM} (ka0 : zK G a0 = some (3, a0))
    (h : ((zI m 302 a0 0) < 4 → ((vp_in (zI m 302 a0 0) 4) ∧ (zRet C G Qc (some (.int (((zI m 302 a0 0) + 1) - 1))) (zsI (zsI m 1309 a0 ((zI m 302 a0 0).toNatClampNeg) x1) 302 a0 0 ((zI m 302 a0 0) + 1))))) ∧ (¬ (zI m 302 a0 0) < 4 → (zRet C G Qc (some (.int (-1))) m))) : Pt_X3_addHeir_0 C G a0 x1 m := by
  obtain ⟨hF, hQ, hR⟩ := id S
  have h0 : zF0 C cX3_addHeir 2 wsX3_addHeir RX3 := hF.1
  have hL := hF.2.2.1
  unfold Pt_X3_addHeir_0
  refine zx_aload_n h0 0 dX3_addHeir_0 rfl ?_
  refine zx_get hF ka0 (by decide) rfl zi_X3_addHeir_3 2 (by decide) zn_X3_addHeir_35 rfl rfl dX3_addHeir_1 ?_
  refine zx_iconst (v := 4) h0 dX3_addHeir_4 (by decide) ?_
  refine zx_icmp_lt (tgt := 10) h0 dX3_addHeir_5 (by decide) (fun q => ?_) (fun q => ?_)
  · replace h := h.1 q
    refine zx_aload_n h0 0 dX3_addHeir_10 rfl ?_
    refine zx_get hF ka0 (by decide) rfl zi_X3_addHeir_3 9 (by decide) zn_X3_addHeir_22 rfl rfl dX3_addHeir_11 ?_
    refine zx_aload_n h0 0 dX3_addHeir_14 rfl ?_
    refine zx_get hF ka0 (by decide) rfl zi_X3_addHeir_3 2 (by decide) zn_X3_addHeir_35 rfl rfl dX3_addHeir_15 ?_
    refine zx_iload_n h0 1 dX3_addHeir_18 rfl ?_
    obtain ⟨ho1, h⟩ := h
    refine zx_iast (j := (zI m 302 a0 0).toNatClampNeg) hF (zL_3_4 hL ka0) (by decide) rfl rfl ho1 rfl rfl (z_fit rfl) dX3_addHeir_19 ?_
    refine zx_aload_n h0 0 dX3_addHeir_20 rfl ?_
    refine zx_dup h0 dX3_addHeir_21 rfl ?_
    refine zx_get hF ka0 (by decide) rfl zi_X3_addHeir_3 2 (by decide) zn_X3_addHeir_35 rfl rfl dX3_addHeir_22 ?_
    refine zx_topI (zI_n (by decide)) ?_
    refine zx_iconst (v := 1) h0 dX3_addHeir_25 (by decide) ?_
    refine zx_iadd h0 dX3_addHeir_26 ?_
    refine zp_302 hF ka0 zi_X3_addHeir_3 zn_X3_addHeir_35 dX3_addHeir_27 ?_
    refine zx_aload_n h0 0 dX3_addHeir_30 rfl ?_
    refine zx_get hF ka0 (by decide) rfl zi_X3_addHeir_3 2 (by decide) zn_X3_addHeir_35 rfl rfl dX3_addHeir_31 ?_
    refine zx_topI (zI_e) ?_
    refine zx_iconst (v := 1) h0 dX3_addHeir_34 (by decide) ?_
    refine zx_isub h0 dX3_addHeir_35 ?_
    exact zx_iret hF hQ dX3_addHeir_36 h
  · replace h := h.2 q
    refine zx_iconst (v := (-1)) h0 dX3_addHeir_8 (by decide) ?_
    exact zx_iret hF hQ dX3_addHeir_9 h
theorem zn_X3_payLiens_32 : Cond.fieldLink RX3 32 RX3 (TX3 1).2.1 (TX3 1).2.2.1 ∈ wsX3_payLiens := List.mem_of_getElem? (i := 1) rfl
theorem zi_X3_payLiens_3 : ∀ w ∈ u_ws RX3 TX3 11, w ∈ wsX3_payLiens := fun _ h => List.mem_cons_of_mem _ (List.mem_append_right _ h)
theorem zn_X3_payLiens_9 : Cond.fieldLink RX3 9 RX3 (TX3 6).2.1 (TX3 6).2.2.1 ∈ wsX3_payLiens := List.mem_of_getElem? (i := 2) rfl
theorem zn_X3_payLiens_15 : Cond.fieldLink RX3 15 RX3 (TX3 7).2.1 (TX3 7).2.2.1 ∈ wsX3_payLiens := List.mem_of_getElem? (i := 3) rfl
theorem zn_X3_payLiens_19 : Cond.fieldLink RX3 19 RX3 (TX3 8).2.1 (TX3 8).2.2.1 ∈ wsX3_payLiens := List.mem_of_getElem? (i := 4) rfl
theorem zn_X3_payLiens_ml76 : Cond.methodLink RX3 76 Lib.MathLoose.min_long.x ∈ wsX3_payLiens := List.mem_of_getElem? (i := 5) rfl
theorem zn_X3_payLiens_ms76 : Cond.static Lib.MathLoose.min_long.x ∈ wsX3_payLiens := List.mem_of_getElem? (i := 6) rfl
theorem zn_X3_payLiens_mi : Cond.initialized "java/lang/Math" ∈ wsX3_payLiens := List.mem_of_getElem? (i := 7) rfl
theorem zn_X3_payLiens_mc76 : Cond.code Lib.MathLoose.min_long.x Lib.MathLoose.min_long.code 4 (some .long) ∈ wsX3_payLiens := List.mem_of_getElem? (i := 8) rfl
set_option maxRecDepth 100000 in
set_option maxHeartbeats 4000000 in
theorem sg_X3_payLiens_0 {C : zC} {G : zG} {Qc : Array Value → State → Outcome → State → Prop} (S : St_X3_payLiens C G Qc) {a0 : Nat} {l1 : Int64} {m : zM} (ka0 : zK G a0 = some (3, a0))
    (h : Pt_X3_payLiens_5 C G a0 l1 0 m) : Pt_X3_payLiens_0 C G a0 l1 m := by
  obtain ⟨hF, hQ, hR⟩ := id S
  have h0 : zF0 C cX3_payLiens 9 wsX3_payLiens RX3 := hF.1
  have hL := hF.2.2.1
  unfold Pt_X3_payLiens_0
  refine zx_lload_n h0 1 dX3_payLiens_0 rfl ?_
  refine zx_lstore_n (L' := [(3, .long l1), (0, .ref a0), (1, .long l1)]) h0 dX3_payLiens_1 (by decide) rfl ?_
  refine zx_iconst (v := 0) h0 dX3_payLiens_2 (by decide) ?_
  refine zx_istore (L' := [(5, .int 0), (3, .long l1), (0, .ref a0), (1, .long l1)]) h0 dX3_payLiens_3 (by decide) rfl ?_
  exact zx_sub [2, 1, 0] rfl h
set_option maxRecDepth 100000 in
set_option maxHeartbeats 4000000 in
theorem sg_X3_payLiens_5 {C : zC} {G : zG} {Qc : Array Value → State → Outcome → State → Prop} (S : St_X3_payLiens C G Qc) {a0 : Nat} {l3 : Int64} {x5 : Int32} {m : zM} (ka0 : zK G a0 = some (3, a0))
    (h : (9 < x5 → (zRet C G Qc (some (.long l3)) m)) ∧ (¬ 9 < x5 → (Pt_X3_payLiens_15 C G a0 l3 x5 0 m))) : Pt_X3_payLiens_5 C G a0 l3 x5 m := by
  obtain ⟨hF, hQ, hR⟩ := id S
  have h0 : zF0 C cX3_payLiens 9 wsX3_payLiens RX3 := hF.1
  have hL := hF.2.2.1
  unfold Pt_X3_payLiens_5
  refine zx_iload h0 2 dX3_payLiens_5 rfl ?_
  refine zx_bipush (v := 9) h0 dX3_payLiens_7 (by decide) ?_
  refine zx_icmp_gt (tgt := 92) h0 dX3_payLiens_9 (by decide) (fun q => ?_) (fun q => ?_)
  · replace h := h.1 q
    refine zx_lload_n h0 1 dX3_payLiens_92 rfl ?_
    exact zx_lret hF hQ dX3_payLiens_93 h
  · replace h := h.2 q
    refine zx_iconst (v := 0) h0 dX3_payLiens_12 (by decide) ?_
    refine zx_istore (L' := [(6, .int 0), (0, .ref a0), (3, .long l3), (5, .int x5)]) h0 dX3_payLiens_13 (by decide) rfl ?_
    exact zx_sub [1, 2, 3, 0] rfl h
set_option maxRecDepth 100000 in
set_option maxHeartbeats 4000000 in
theorem sg_X3_payLiens_15 {C : zC} {G : zG} {Qc : Array Value → State → Outcome → State → Prop} (S : St_X3_payLiens C G Qc) {a0 : Nat} {l3 : Int64} {x5 : Int32} {x6 : Int32} {m : zM} (ka0 : zK G a0 = some (3, a0))
    (h : ((zI m 301 a0 0) ≤ x6 → (Pt_X3_payLiens_5 C G a0 l3 (x5 + 1) m)) ∧ (¬ (zI m 301 a0 0) ≤ x6 → ((4 ≤ x6 → (Pt_X3_payLiens_5 C G a0 l3 (x5 + 1) m)) ∧ (¬ 4 ≤ x6 → ((vp_in x6 4) ∧ ((¬ (zI m 1306 a0 x6.toNatClampNeg) = x5 → (Pt_X3_payLiens_15 C G a0 l3 x5 (x6 + 1) m)) ∧ ((zI m 1306 a0 x6.toNatClampNeg) = x5 → (Pt_X3_payLiens_15 C G a0 (l3 - (if ((zJ m 1307 a0 x6.toNatClampNeg) - (zJ m 1308 a0 x6.toNatClampNeg)) < l3 then ((zJ m 1307 a0 x6.toNatClampNeg) - (zJ m 1308 a0 x6.toNatClampNeg)) else l3)) x5 (x6 + 1) (zsJ m 1308 a0 x6.toNatClampNeg ((zJ m 1308 a0 x6.toNatClampNeg) + (if ((zJ m 1307 a0 x6.toNatClampNeg) - (zJ m 1308 a0 x6.toNatClampNeg)) < l3 then ((zJ m 1307 a0 x6.toNatClampNeg) - (zJ m 1308 a0 x6.toNatClampNeg)) else l3))))))))))) : Pt_X3_payLiens_15 C G a0 l3 x5 x6 m := by
  obtain ⟨hF, hQ, hR⟩ := id S
  have h0 : zF0 C cX3_payLiens 9 wsX3_payLiens RX3 := hF.1
  have hL := hF.2.2.1
  unfold Pt_X3_payLiens_15
  refine zx_iload h0 3 dX3_payLiens_15 rfl ?_
  refine zx_aload_n h0 0 dX3_payLiens_17 rfl ?_
  refine zx_get hF ka0 (by decide) rfl zi_X3_payLiens_3 1 (by decide) zn_X3_payLiens_32 rfl rfl dX3_payLiens_18 ?_
  refine zx_icmp_ge (tgt := 86) h0 dX3_payLiens_21 (by decide) (fun q => ?_) (fun q => ?_)
  · replace h := h.1 q
    refine zx_iinc (v := (x5 + 1)) (L' := [(5, .int (x5 + 1)), (0, .ref a0), (3, .long l3), (6, .int x6)]) h0 2 dX3_payLiens_86 rfl rfl (by decide) rfl ?_
    refine zx_goto (tgt := 5) h0 dX3_payLiens_89 (by decide) ?_
    exact zx_sub [1, 2, 0] rfl h
  · replace h := h.2 q
    refine zx_iload h0 3 dX3_payLiens_24 rfl ?_
    refine zx_iconst (v := 4) h0 dX3_payLiens_26 (by decide) ?_
    refine zx_icmp_ge (tgt := 86) h0 dX3_payLiens_27 (by decide) (fun q => ?_) (fun q => ?_)
    · replace h := h.1 q
      refine zx_iinc (v := (x5 + 1)) (L' := [(5, .int (x5 + 1)), (0, .ref a0), (3, .long l3), (6, .int x6)]) h0 2 dX3_payLiens_86 rfl rfl (by decide) rfl ?_
      refine zx_goto (tgt := 5) h0 dX3_payLiens_89 (by decide) ?_
      exact zx_sub [1, 2, 0] rfl h
    · replace h := h.2 q
      refine zx_aload_n h0 0 dX3_payLiens_30 rfl ?_
      refine zx_get hF ka0 (by decide) rfl zi_X3_payLiens_3 6 (by decide) zn_X3_payLiens_9 rfl rfl dX3_payLiens_31 ?_
      refine zx_iload h0 3 dX3_payLiens_34 rfl ?_
      obtain ⟨ho1, h⟩ := h
      refine zx_iald (j := x6.toNatClampNeg) hF (zL_3_1 hL ka0) (by decide) rfl rfl ho1 rfl dX3_payLiens_36 ?_
      refine zx_iload h0 2 dX3_payLiens_37 rfl ?_
      refine zx_icmp_ne (tgt := 80) h0 dX3_payLiens_39 (by decide) (fun q => ?_) (fun q => ?_)
      · replace h := h.1 q
        refine zx_iinc (v := (x6 + 1)) (L' := [(6, .int (x6 + 1)), (0, .ref a0), (3, .long l3), (5, .int x5)]) h0 3 dX3_payLiens_80 rfl rfl (by decide) rfl ?_
        refine zx_goto (tgt := 15) h0 dX3_payLiens_83 (by decide) ?_
        exact zx_sub [1, 2, 3, 0] rfl h
      · replace h := h.2 q
        refine zx_lload_n h0 1 dX3_payLiens_42 rfl ?_
        refine zx_aload_n h0 0 dX3_payLiens_43 rfl ?_
        refine zx_get hF ka0 (by decide) rfl zi_X3_payLiens_3 7 (by decide) zn_X3_payLiens_15 rfl rfl dX3_payLiens_44 ?_
        refine zx_iload h0 3 dX3_payLiens_47 rfl ?_
        refine zx_lald (j := x6.toNatClampNeg) hF (zL_3_2 hL ka0) (by decide) rfl rfl ho1 rfl dX3_payLiens_49 ?_
        refine zx_aload_n h0 0 dX3_payLiens_50 rfl ?_
        refine zx_get hF ka0 (by decide) rfl zi_X3_payLiens_3 8 (by decide) zn_X3_payLiens_19 rfl rfl dX3_payLiens_51 ?_
        refine zx_iload h0 3 dX3_payLiens_54 rfl ?_
        refine zx_lald (j := x6.toNatClampNeg) hF (zL_3_3 hL ka0) (by decide) rfl rfl ho1 rfl dX3_payLiens_56 ?_
        refine zx_lsub h0 dX3_payLiens_57 ?_
        refine zx_mminl h0 zn_X3_payLiens_ml76 zn_X3_payLiens_ms76 zn_X3_payLiens_mi zn_X3_payLiens_mc76 (by rw [hR]; exact Nat.le_of_ble_eq_true rfl) (by rw [hR]; exact Nat.le_of_ble_eq_true rfl) (Nat.zero_le _) (Nat.zero_le _) dX3_payLiens_58 ?_
        refine zx_lstore (L' := [(7, .long (if ((zJ m 1307 a0 x6.toNatClampNeg) - (zJ m 1308 a0 x6.toNatClampNeg)) < l3 then ((zJ m 1307 a0 x6.toNatClampNeg) - (zJ m 1308 a0 x6.toNatClampNeg)) else l3)), (0, .ref a0), (3, .long l3), (5, .int x5), (6, .int x6)]) h0 dX3_payLiens_61 (by decide) rfl ?_
        refine zx_aload_n h0 1 dX3_payLiens_63 rfl ?_
        refine zx_get hF ka0 (by decide) rfl zi_X3_payLiens_3 8 (by decide) zn_X3_payLiens_19 rfl rfl dX3_payLiens_64 ?_
        refine zx_iload h0 4 dX3_payLiens_67 rfl ?_
        refine zx_dup2_11 h0 dX3_payLiens_69 rfl rfl ?_
        refine zx_lald (j := x6.toNatClampNeg) hF (zL_3_3 hL ka0) (by decide) rfl rfl ho1 rfl dX3_payLiens_70 ?_
        refine zx_lload h0 0 dX3_payLiens_71 rfl ?_
        refine zx_ladd h0 dX3_payLiens_73 ?_
        refine zx_last (j := x6.toNatClampNeg) hF (zL_3_3 hL ka0) (by decide) rfl rfl ho1 rfl dX3_payLiens_74 ?_
        refine zx_lload_n h0 2 dX3_payLiens_75 rfl ?_
        refine zx_lload h0 0 dX3_payLiens_76 rfl ?_
        refine zx_lsub h0 dX3_payLiens_78 ?_
        refine zx_lstore_n (L' := [(3, .long (l3 - (if ((zJ m 1307 a0 x6.toNatClampNeg) - (zJ m 1308 a0 x6.toNatClampNeg)) < l3 then ((zJ m 1307 a0 x6.toNatClampNeg) - (zJ m 1308 a0 x6.toNatClampNeg)) else l3))), (7, .long (if ((zJ m 1307 a0 x6.toNatClampNeg) - (zJ m 1308 a0 x6.toNatClampNeg)) < l3 then ((zJ m 1307 a0 x6.toNatClampNeg) - (zJ m 1308 a0 x6.toNatClampNeg)) else l3)), (0, .ref a0), (5, .int x5), (6, .int x6)]) h0 dX3_payLiens_79 (by decide) rfl ?_
        refine zx_iinc (v := (x6 + 1)) (L' := [(6, .int (x6 + 1)), (3, .long (l3 - (if ((zJ m 1307 a0 x6.toNatClampNeg) - (zJ m 1308 a0 x6.toNatClampNeg)) < l3 then ((zJ m 1307 a0 x6.toNatClampNeg) - (zJ m 1308 a0 x6.toNatClampNeg)) else l3))), (7, .long (if ((zJ m 1307 a0 x6.toNatClampNeg) - (zJ m 1308 a0 x6.toNatClampNeg)) < l3 then ((zJ m 1307 a0 x6.toNatClampNeg) - (zJ m 1308 a0 x6.toNatClampNeg)) else l3)), (0, .ref a0), (5, .int x5)]) h0 4 dX3_payLiens_80 rfl rfl (by decide) rfl ?_
        refine zx_goto (tgt := 15) h0 dX3_payLiens_83 (by decide) ?_
        exact zx_sub [3, 1, 4, 0] rfl h
theorem zn_X3_allParts_35 : Cond.fieldLink RX3 35 RX3 (TX3 2).2.1 (TX3 2).2.2.1 ∈ wsX3_allParts := List.mem_of_getElem? (i := 1) rfl
theorem zi_X3_allParts_3 : ∀ w ∈ u_ws RX3 TX3 11, w ∈ wsX3_allParts := fun _ h => List.mem_cons_of_mem _ (List.mem_append_right _ h)
theorem zn_X3_allParts_22 : Cond.fieldLink RX3 22 RX3 (TX3 9).2.1 (TX3 9).2.2.1 ∈ wsX3_allParts := List.mem_of_getElem? (i := 2) rfl
set_option maxRecDepth 100000 in
set_option maxHeartbeats 4000000 in
theorem sg_X3_allParts_0 {C : zC} {G : zG} {Qc : Array Value → State → Outcome → State → Prop} (S : St_X3_allParts C G Qc) {a0 : Nat} {m : zM} (ka0 : zK G a0 = some (3, a0))
    (h : Pt_X3_allParts_4 C G a0 0 0 m) : Pt_X3_allParts_0 C G a0 m := by
  obtain ⟨hF, hQ, hR⟩ := id S
  have h0 : zF0 C cX3_allParts 3 wsX3_allParts RX3 := hF.1
  have hL := hF.2.2.1
  unfold Pt_X3_allParts_0
  refine zx_iconst (v := 0) h0 dX3_allParts_0 (by decide) ?_
  refine zx_istore_n (L' := [(1, .int 0), (0, .ref a0)]) h0 dX3_allParts_1 (by decide) rfl ?_
  refine zx_iconst (v := 0) h0 dX3_allParts_2 (by decide) ?_
  refine zx_istore_n (L' := [(2, .int 0), (1, .int 0), (0, .ref a0)]) h0 dX3_allParts_3 (by decide) rfl ?_
  exact zx_sub [2, 1, 0] rfl h
set_option maxRecDepth 100000 in
set_option maxHeartbeats 4000000 in
theorem sg_X3_allParts_4 {C : zC} {G : zG} {Qc : Array Value → State → Outcome → State → Prop} (S : St_X3_allParts C G Qc) {a0 : Nat} {x1 : Int32} {x2 : Int32} {m : zM} (ka0 : zK G a0 = some (3, a0))
    (h : ((zI m 302 a0 0) ≤ x2 → (zRet C G Qc (some (.int x1)) m)) ∧ (¬ (zI m 302 a0 0) ≤ x2 → ((4 ≤ x2 → (zRet C G Qc (some (.int x1)) m)) ∧ (¬ 4 ≤ x2 → ((vp_in x2 4) ∧ (Pt_X3_allParts_4 C G a0 (x1 + (zI m 1309 a0 x2.toNatClampNeg)) (x2 + 1) m)))))) : Pt_X3_allParts_4 C G a0 x1 x2 m := by
  obtain ⟨hF, hQ, hR⟩ := id S
  have h0 : zF0 C cX3_allParts 3 wsX3_allParts RX3 := hF.1
  have hL := hF.2.2.1
  unfold Pt_X3_allParts_4
  refine zx_iload_n h0 2 dX3_allParts_4 rfl ?_
  refine zx_aload_n h0 0 dX3_allParts_5 rfl ?_
  refine zx_get hF ka0 (by decide) rfl zi_X3_allParts_3 2 (by decide) zn_X3_allParts_35 rfl rfl dX3_allParts_6 ?_
  refine zx_icmp_ge (tgt := 32) h0 dX3_allParts_9 (by decide) (fun q => ?_) (fun q => ?_)
  · replace h := h.1 q
    refine zx_iload_n h0 1 dX3_allParts_32 rfl ?_
    exact zx_iret hF hQ dX3_allParts_33 h
  · replace h := h.2 q
    refine zx_iload_n h0 2 dX3_allParts_12 rfl ?_
    refine zx_iconst (v := 4) h0 dX3_allParts_13 (by decide) ?_
    refine zx_icmp_ge (tgt := 32) h0 dX3_allParts_14 (by decide) (fun q => ?_) (fun q => ?_)
    · replace h := h.1 q
      refine zx_iload_n h0 1 dX3_allParts_32 rfl ?_
      exact zx_iret hF hQ dX3_allParts_33 h
    · replace h := h.2 q
      refine zx_iload_n h0 1 dX3_allParts_17 rfl ?_
      refine zx_aload_n h0 0 dX3_allParts_18 rfl ?_
      refine zx_get hF ka0 (by decide) rfl zi_X3_allParts_3 9 (by decide) zn_X3_allParts_22 rfl rfl dX3_allParts_19 ?_
      refine zx_iload_n h0 2 dX3_allParts_22 rfl ?_
      obtain ⟨ho1, h⟩ := h
      refine zx_iald (j := x2.toNatClampNeg) hF (zL_3_4 hL ka0) (by decide) rfl rfl ho1 rfl dX3_allParts_23 ?_
      refine zx_iadd h0 dX3_allParts_24 ?_
      refine zx_istore_n (L' := [(1, .int (x1 + (zI m 1309 a0 x2.toNatClampNeg))), (0, .ref a0), (2, .int x2)]) h0 dX3_allParts_25 (by decide) rfl ?_
      refine zx_iinc (v := (x2 + 1)) (L' := [(2, .int (x2 + 1)), (1, .int (x1 + (zI m 1309 a0 x2.toNatClampNeg))), (0, .ref a0)]) h0 2 dX3_allParts_26 rfl rfl (by decide) rfl ?_
      refine zx_goto (tgt := 4) h0 dX3_allParts_29 (by decide) ?_
      exact zx_sub [2, 1, 0] rfl h
theorem zn_X3_payHeirs_45 : Cond.fieldLink RX3 45 RX3 (TX3 5).2.1 (TX3 5).2.2.1 ∈ wsX3_payHeirs := List.mem_of_getElem? (i := 1) rfl
theorem zi_X3_payHeirs_3 : ∀ w ∈ u_ws RX3 TX3 11, w ∈ wsX3_payHeirs := fun _ h => List.mem_cons_of_mem _ (List.mem_append_right _ h)
theorem zn_X3_payHeirs_35 : Cond.fieldLink RX3 35 RX3 (TX3 2).2.1 (TX3 2).2.2.1 ∈ wsX3_payHeirs := List.mem_of_getElem? (i := 2) rfl
theorem zn_X3_payHeirs_22 : Cond.fieldLink RX3 22 RX3 (TX3 9).2.1 (TX3 9).2.2.1 ∈ wsX3_payHeirs := List.mem_of_getElem? (i := 3) rfl
theorem zn_X3_payHeirs_25 : Cond.fieldLink RX3 25 RX3 (TX3 10).2.1 (TX3 10).2.2.1 ∈ wsX3_payHeirs := List.mem_of_getElem? (i := 4) rfl
theorem zc_X3_payHeirs_X3_allParts {C : zC} {G : zG} {Qc : Array Value → State → Outcome → State → Prop} (S : St_X3_payHeirs C G Qc) : CallW (zRm C) (zs C) (zar C) RX3 RX3 82 yX3_allParts cX3_allParts 3 (some .int) wsX3_allParts rm_X3_allParts 0 0 0 := cwV 0 S.1.1.2.2.2.2 gX3_payHeirs_X3_allParts rfl rfl rfl (by decide +kernel) (by rw [S.2.2]; exact ⟨Nat.le_of_ble_eq_true rfl, Nat.le_of_ble_eq_true rfl⟩)
set_option maxRecDepth 100000 in
set_option maxHeartbeats 4000000 in
theorem sg_X3_payHeirs_0 {C : zC} {G : zG} {Qc : Array Value → State → Outcome → State → Prop} (S : St_X3_payHeirs C G Qc) {P_X3_allParts : Nat → zM → Prop} {Q_X3_allParts : Nat → zM → Int32 → Prop} (c_X3_allParts : Con_X3_allParts (zl C) G P_X3_allParts Q_X3_allParts) {a0 : Nat} {l1 : Int64} {m : zM} (ka0 : zK G a0 = some (3, a0))
    (h : (P_X3_allParts a0 m) ∧ (∀ (r2 : Int32), Q_X3_allParts a0 m r2 → ((¬ r2 = 0 → (Pt_X3_payHeirs_26 C G a0 l1 r2 l1 0 m)) ∧ (r2 = 0 → (zRet C G Qc none (zsJ m 305 a0 0 ((zJ m 305 a0 0) + l1))))))) : Pt_X3_payHeirs_0 C G a0 l1 m := by
  obtain ⟨hF, hQ, hR⟩ := id S
  have h0 : zF0 C cX3_payHeirs 9 wsX3_payHeirs RX3 := hF.1
  have hL := hF.2.2.1
  unfold Pt_X3_payHeirs_0
  refine zx_aload_n h0 0 dX3_payHeirs_0 rfl ?_
  obtain ⟨ho1, h⟩ := h
  refine zx_callVi (As := []) (rest := []) hF (c_X3_allParts a0 m ka0 ho1) (zc_X3_payHeirs_X3_allParts S) ka0 (by decide) rfl dX3_payHeirs_1 rfl rfl (Nat.le_of_ble_eq_true rfl) ⟨Nat.zero_le _, Nat.zero_le _⟩ (fun r2 m2 hq => ?_)
  obtain ⟨hme, hq⟩ := hq
  subst m2
  replace h := h r2 hq
  refine zx_istore_n (L' := [(3, .int r2), (0, .ref a0), (1, .long l1)]) h0 dX3_payHeirs_4 (by decide) rfl ?_
  refine zx_iload_n h0 0 dX3_payHeirs_5 rfl ?_
  refine zx_if_ne (tgt := 20) h0 dX3_payHeirs_6 (by decide) (fun q => ?_) (fun q => ?_)
  · replace h := h.1 q
    refine zx_lload_n h0 2 dX3_payHeirs_20 rfl ?_
    refine zx_lstore (L' := [(4, .long l1), (3, .int r2), (0, .ref a0), (1, .long l1)]) h0 dX3_payHeirs_21 (by decide) rfl ?_
    refine zx_iconst (v := 0) h0 dX3_payHeirs_23 (by decide) ?_
    refine zx_istore (L' := [(6, .int 0), (4, .long l1), (3, .int r2), (0, .ref a0), (1, .long l1)]) h0 dX3_payHeirs_24 (by decide) rfl ?_
    exact zx_sub [3, 4, 2, 1, 0] rfl h
  · replace h := h.2 q
    refine zx_aload_n h0 1 dX3_payHeirs_9 rfl ?_
    refine zx_dup h0 dX3_payHeirs_10 rfl ?_
    refine zx_get hF ka0 (by decide) rfl zi_X3_payHeirs_3 5 (by decide) zn_X3_payHeirs_45 rfl rfl dX3_payHeirs_11 ?_
    refine zx_lload_n h0 2 dX3_payHeirs_14 rfl ?_
    refine zx_ladd h0 dX3_payHeirs_15 ?_
    refine zp_305 hF ka0 zi_X3_payHeirs_3 zn_X3_payHeirs_45 dX3_payHeirs_16 ?_
    exact zx_vret hF hQ dX3_payHeirs_19 h
set_option maxRecDepth 100000 in
set_option maxHeartbeats 4000000 in
theorem sg_X3_payHeirs_26 {C : zC} {G : zG} {Qc : Array Value → State → Outcome → State → Prop} (S : St_X3_payHeirs C G Qc) {a0 : Nat} {l1 : Int64} {x3 : Int32} {l4 : Int64} {x6 : Int32} {m : zM} (ka0 : zK G a0 = some (3, a0))
    (h : ((zI m 302 a0 0) ≤ x6 → (Pt_X3_payHeirs_81 C G a0 l4 m)) ∧ (¬ (zI m 302 a0 0) ≤ x6 → ((4 ≤ x6 → (Pt_X3_payHeirs_81 C G a0 l4 m)) ∧ (¬ 4 ≤ x6 → ((vp_in x6 4) ∧ ((¬ ((x3 : Int32).toInt64) = 0) ∧ (Pt_X3_payHeirs_26 C G a0 l1 x3 (l4 - ((l1 * (((zI m 1309 a0 x6.toNatClampNeg) : Int32).toInt64)) / ((x3 : Int32).toInt64))) (x6 + 1) (zsJ m 1310 a0 x6.toNatClampNeg ((zJ m 1310 a0 x6.toNatClampNeg) + ((l1 * (((zI m 1309 a0 x6.toNatClampNeg) : Int32).toInt64)) / ((x3 : Int32).toInt64))))))))))) : Pt_X3_payHeirs_26 C G a0 l1 x3 l4 x6 m := by
  obtain ⟨hF, hQ, hR⟩ := id S
  have h0 : zF0 C cX3_payHeirs 9 wsX3_payHeirs RX3 := hF.1
  have hL := hF.2.2.1
  unfold Pt_X3_payHeirs_26
  refine zx_iload h0 4 dX3_payHeirs_26 rfl ?_
  refine zx_aload_n h0 0 dX3_payHeirs_28 rfl ?_
  refine zx_get hF ka0 (by decide) rfl zi_X3_payHeirs_3 2 (by decide) zn_X3_payHeirs_35 rfl rfl dX3_payHeirs_29 ?_
  refine zx_icmp_ge (tgt := 81) h0 dX3_payHeirs_32 (by decide) (fun q => ?_) (fun q => ?_)
  · replace h := h.1 q
    exact zx_sub [0, 3] rfl h
  · replace h := h.2 q
    refine zx_iload h0 4 dX3_payHeirs_35 rfl ?_
    refine zx_iconst (v := 4) h0 dX3_payHeirs_37 (by decide) ?_
    refine zx_icmp_ge (tgt := 81) h0 dX3_payHeirs_38 (by decide) (fun q => ?_) (fun q => ?_)
    · replace h := h.1 q
      exact zx_sub [0, 3] rfl h
    · replace h := h.2 q
      refine zx_lload_n h0 1 dX3_payHeirs_41 rfl ?_
      refine zx_aload_n h0 0 dX3_payHeirs_42 rfl ?_
      refine zx_get hF ka0 (by decide) rfl zi_X3_payHeirs_3 9 (by decide) zn_X3_payHeirs_22 rfl rfl dX3_payHeirs_43 ?_
      refine zx_iload h0 4 dX3_payHeirs_46 rfl ?_
      obtain ⟨ho1, h⟩ := h
      refine zx_iald (j := x6.toNatClampNeg) hF (zL_3_4 hL ka0) (by decide) rfl rfl ho1 rfl dX3_payHeirs_48 ?_
      refine zx_i2l (v := (((zI m 1309 a0 x6.toNatClampNeg) : Int32).toInt64)) h0 dX3_payHeirs_49 rfl ?_
      refine zx_lmul h0 dX3_payHeirs_50 ?_
      refine zx_iload_n h0 2 dX3_payHeirs_51 rfl ?_
      refine zx_i2l (v := ((x3 : Int32).toInt64)) h0 dX3_payHeirs_52 rfl ?_
      obtain ⟨ho2, h⟩ := h
      refine zx_ldiv h0 dX3_payHeirs_53 ho2 ?_
      refine zx_lstore (L' := [(7, .long ((l1 * (((zI m 1309 a0 x6.toNatClampNeg) : Int32).toInt64)) / ((x3 : Int32).toInt64))), (0, .ref a0), (1, .long l1), (3, .int x3), (4, .long l4), (6, .int x6)]) h0 dX3_payHeirs_54 (by decide) rfl ?_
      refine zx_aload_n h0 1 dX3_payHeirs_56 rfl ?_
      refine zx_get hF ka0 (by decide) rfl zi_X3_payHeirs_3 10 (by decide) zn_X3_payHeirs_25 rfl rfl dX3_payHeirs_57 ?_
      refine zx_iload h0 5 dX3_payHeirs_60 rfl ?_
      refine zx_dup2_11 h0 dX3_payHeirs_62 rfl rfl ?_
      refine zx_lald (j := x6.toNatClampNeg) hF (zL_3_5 hL ka0) (by decide) rfl rfl ho1 rfl dX3_payHeirs_63 ?_
      refine zx_lload h0 0 dX3_payHeirs_64 rfl ?_
      refine zx_ladd h0 dX3_payHeirs_66 ?_
      refine zx_last (j := x6.toNatClampNeg) hF (zL_3_5 hL ka0) (by decide) rfl rfl ho1 rfl dX3_payHeirs_67 ?_
      refine zx_lload h0 4 dX3_payHeirs_68 rfl ?_
      refine zx_lload h0 0 dX3_payHeirs_70 rfl ?_
      refine zx_lsub h0 dX3_payHeirs_72 ?_
      refine zx_lstore (L' := [(4, .long (l4 - ((l1 * (((zI m 1309 a0 x6.toNatClampNeg) : Int32).toInt64)) / ((x3 : Int32).toInt64)))), (7, .long ((l1 * (((zI m 1309 a0 x6.toNatClampNeg) : Int32).toInt64)) / ((x3 : Int32).toInt64))), (0, .ref a0), (1, .long l1), (3, .int x3), (6, .int x6)]) h0 dX3_payHeirs_73 (by decide) rfl ?_
      refine zx_iinc (v := (x6 + 1)) (L' := [(6, .int (x6 + 1)), (4, .long (l4 - ((l1 * (((zI m 1309 a0 x6.toNatClampNeg) : Int32).toInt64)) / ((x3 : Int32).toInt64)))), (7, .long ((l1 * (((zI m 1309 a0 x6.toNatClampNeg) : Int32).toInt64)) / ((x3 : Int32).toInt64))), (0, .ref a0), (1, .long l1), (3, .int x3)]) h0 5 dX3_payHeirs_75 rfl rfl (by decide) rfl ?_
      refine zx_goto (tgt := 26) h0 dX3_payHeirs_78 (by decide) ?_
      exact zx_sub [3, 4, 5, 1, 0] rfl h
set_option maxRecDepth 100000 in
set_option maxHeartbeats 4000000 in
theorem sg_X3_payHeirs_81 {C : zC} {G : zG} {Qc : Array Value → State → Outcome → State → Prop} (S : St_X3_payHeirs C G Qc) {a0 : Nat} {l4 : Int64} {m : zM} (ka0 : zK G a0 = some (3, a0))
    (h : zRet C G Qc none (zsJ m 1310 a0 0 ((zJ m 1310 a0 0) + l4))) : Pt_X3_payHeirs_81 C G a0 l4 m := by
  obtain ⟨hF, hQ, hR⟩ := id S
  have h0 : zF0 C cX3_payHeirs 9 wsX3_payHeirs RX3 := hF.1
  have hL := hF.2.2.1
  unfold Pt_X3_payHeirs_81
  refine zx_aload_n h0 0 dX3_payHeirs_81 rfl ?_
  refine zx_get hF ka0 (by decide) rfl zi_X3_payHeirs_3 10 (by decide) zn_X3_payHeirs_25 rfl rfl dX3_payHeirs_82 ?_
  refine zx_iconst (v := 0) h0 dX3_payHeirs_85 (by decide) ?_
  refine zx_dup2_11 h0 dX3_payHeirs_86 rfl rfl ?_
  refine zx_lald (j := 0) hF (zL_3_5 hL ka0) (by decide) rfl rfl (by unfold vp_in; decide) (by decide) dX3_payHeirs_87 ?_
  refine zx_lload h0 1 dX3_payHeirs_88 rfl ?_
  refine zx_ladd h0 dX3_payHeirs_90 ?_
  refine zx_last (j := 0) hF (zL_3_5 hL ka0) (by decide) rfl rfl (by unfold vp_in; decide) (by decide) dX3_payHeirs_91 ?_
  exact zx_vret hF hQ dX3_payHeirs_92 h
theorem zn_X3_pay_38 : Cond.fieldLink RX3 38 RX3 (TX3 3).2.1 (TX3 3).2.2.1 ∈ wsX3_pay := List.mem_of_getElem? (i := 1) rfl
theorem zi_X3_pay_3 : ∀ w ∈ u_ws RX3 TX3 11, w ∈ wsX3_pay := fun _ h => List.mem_cons_of_mem _ (List.mem_append_right _ h)
theorem zn_X3_pay_28 : Cond.fieldLink RX3 28 RX3 (TX3 0).2.1 (TX3 0).2.2.1 ∈ wsX3_pay := List.mem_of_getElem? (i := 2) rfl
theorem zn_X3_pay_k67 : Cond.constantLong RX3 67 100 ∈ wsX3_pay := List.mem_of_getElem? (i := 3) rfl
theorem zn_X3_pay_42 : Cond.fieldLink RX3 42 RX3 (TX3 4).2.1 (TX3 4).2.2.1 ∈ wsX3_pay := List.mem_of_getElem? (i := 4) rfl
theorem zc_X3_pay_X3_payLiens {C : zC} {G : zG} {Qc : Array Value → State → Outcome → State → Prop} (S : St_X3_pay C G Qc) : CallW (zRm C) (zs C) (zar C) RX3 RX3 69 yX3_payLiens cX3_payLiens 9 (some .long) wsX3_payLiens rm_X3_payLiens 0 0 1 := cwV 1 S.1.1.2.2.2.2 gX3_pay_X3_payLiens rfl rfl rfl (by decide +kernel) (by rw [S.2.2]; exact ⟨Nat.le_of_ble_eq_true rfl, Nat.le_of_ble_eq_true rfl⟩)
theorem zc_X3_pay_X3_payHeirs {C : zC} {G : zG} {Qc : Array Value → State → Outcome → State → Prop} (S : St_X3_pay C G Qc) : CallW (zRm C) (zs C) (zar C) RX3 RX3 73 yX3_payHeirs cX3_payHeirs 9 none wsX3_payHeirs rm_X3_payHeirs 0 0 1 := cwV 1 S.1.1.2.2.2.2 gX3_pay_X3_payHeirs rfl rfl rfl (by decide +kernel) (by rw [S.2.2]; exact ⟨Nat.le_of_ble_eq_true rfl, Nat.le_of_ble_eq_true rfl⟩)
set_option maxRecDepth 100000 in
set_option maxHeartbeats 4000000 in
theorem sg_X3_pay_0 {C : zC} {G : zG} {Qc : Array Value → State → Outcome → State → Prop} (S : St_X3_pay C G Qc) {P_X3_payLiens : Nat → Int64 → zM → Prop} {Q_X3_payLiens : Nat → Int64 → zM → Int64 → zM → Prop} (c_X3_payLiens : Con_X3_payLiens (zl C) G P_X3_payLiens Q_X3_payLiens) {P_X3_payHeirs : Nat → Int64 → zM → Prop} {Q_X3_payHeirs : Nat → Int64 → zM → zM → Prop} (c_X3_payHeirs : Con_X3_payHeirs (zl C) G P_X3_payHeirs Q_X3_payHeirs) {a0 : Nat} {l1 : Int64} {m : zM} (ka0 : zK G a0 = some (3, a0))
    (h : (P_X3_payLiens a0 (l1 - ((l1 * (((zI m 300 a0 0) : Int32).toInt64)) / 100)) (zsJ (zsJ m 303 a0 0 ((zJ m 303 a0 0) + l1)) 304 a0 0 ((zJ m 304 a0 0) + ((l1 * (((zI m 300 a0 0) : Int32).toInt64)) / 100)))) ∧ (∀ (r2 : Int64) (m2 : zM), Q_X3_payLiens a0 (l1 - ((l1 * (((zI m 300 a0 0) : Int32).toInt64)) / 100)) (zsJ (zsJ m 303 a0 0 ((zJ m 303 a0 0) + l1)) 304 a0 0 ((zJ m 304 a0 0) + ((l1 * (((zI m 300 a0 0) : Int32).toInt64)) / 100))) r2 m2 → ((P_X3_payHeirs a0 r2 m2) ∧ (∀ (m4 : zM), Q_X3_payHeirs a0 r2 m2 m4 → (zRet C G Qc none m4))))) : Pt_X3_pay_0 C G a0 l1 m := by
  obtain ⟨hF, hQ, hR⟩ := id S
  have h0 : zF0 C cX3_pay 5 wsX3_pay RX3 := hF.1
  have hL := hF.2.2.1
  unfold Pt_X3_pay_0
  refine zx_aload_n h0 0 dX3_pay_0 rfl ?_
  refine zx_dup h0 dX3_pay_1 rfl ?_
  refine zx_get hF ka0 (by decide) rfl zi_X3_pay_3 3 (by decide) zn_X3_pay_38 rfl rfl dX3_pay_2 ?_
  refine zx_lload_n h0 1 dX3_pay_5 rfl ?_
  refine zx_ladd h0 dX3_pay_6 ?_
  refine zp_303 hF ka0 zi_X3_pay_3 zn_X3_pay_38 dX3_pay_7 ?_
  refine zx_lload_n h0 1 dX3_pay_10 rfl ?_
  refine zx_aload_n h0 0 dX3_pay_11 rfl ?_
  refine zx_get hF ka0 (by decide) rfl zi_X3_pay_3 0 (by decide) zn_X3_pay_28 rfl rfl dX3_pay_12 ?_
  refine zx_topI (zI_J) ?_
  refine zx_i2l (v := (((zI m 300 a0 0) : Int32).toInt64)) h0 dX3_pay_15 rfl ?_
  refine zx_lmul h0 dX3_pay_16 ?_
  refine zx_ldc2 (v := 100) h0 zn_X3_pay_k67 dX3_pay_17 ?_
  refine zx_ldiv h0 dX3_pay_20 (by decide) ?_
  refine zx_lstore_n (L' := [(3, .long ((l1 * (((zI m 300 a0 0) : Int32).toInt64)) / 100)), (0, .ref a0), (1, .long l1)]) h0 dX3_pay_21 (by decide) rfl ?_
  refine zx_aload_n h0 1 dX3_pay_22 rfl ?_
  refine zx_dup h0 dX3_pay_23 rfl ?_
  refine zx_get hF ka0 (by decide) rfl zi_X3_pay_3 4 (by decide) zn_X3_pay_42 rfl rfl dX3_pay_24 ?_
  refine zx_topJ (zJ_n (by decide)) ?_
  refine zx_lload_n h0 0 dX3_pay_27 rfl ?_
  refine zx_ladd h0 dX3_pay_28 ?_
  refine zp_304 hF ka0 zi_X3_pay_3 zn_X3_pay_42 dX3_pay_29 ?_
  refine zx_aload_n h0 1 dX3_pay_32 rfl ?_
  refine zx_aload_n h0 1 dX3_pay_33 rfl ?_
  refine zx_lload_n h0 2 dX3_pay_34 rfl ?_
  refine zx_lload_n h0 0 dX3_pay_35 rfl ?_
  refine zx_lsub h0 dX3_pay_36 ?_
  obtain ⟨ho1, h⟩ := h
  refine zx_callVl (As := [.long (l1 - ((l1 * (((zI m 300 a0 0) : Int32).toInt64)) / 100))]) (rest := [.ref a0]) hF (c_X3_payLiens a0 (l1 - ((l1 * (((zI m 300 a0 0) : Int32).toInt64)) / 100)) (zsJ (zsJ m 303 a0 0 ((zJ m 303 a0 0) + l1)) 304 a0 0 ((zJ m 304 a0 0) + ((l1 * (((zI m 300 a0 0) : Int32).toInt64)) / 100))) ka0 ho1) (zc_X3_pay_X3_payLiens S) ka0 (by decide) rfl dX3_pay_37 rfl rfl (Nat.le_of_ble_eq_true rfl) ⟨Nat.zero_le _, Nat.zero_le _⟩ (fun r2 m2 hq => ?_)
  replace h := h r2 m2 hq
  obtain ⟨ho3, h⟩ := h
  refine zx_callVv (As := [.long r2]) (rest := []) hF (c_X3_payHeirs a0 r2 m2 ka0 ho3) (zc_X3_pay_X3_payHeirs S) ka0 (by decide) rfl dX3_pay_40 rfl rfl (Nat.le_of_ble_eq_true rfl) ⟨Nat.zero_le _, Nat.zero_le _⟩ (fun m4 hq => ?_)
  replace h := h m4 hq
  exact zx_vret hF hQ dX3_pay_43 h
theorem zn_X3_payUpTo_38 : Cond.fieldLink RX3 38 RX3 (TX3 3).2.1 (TX3 3).2.2.1 ∈ wsX3_payUpTo := List.mem_of_getElem? (i := 1) rfl
theorem zi_X3_payUpTo_3 : ∀ w ∈ u_ws RX3 TX3 11, w ∈ wsX3_payUpTo := fun _ h => List.mem_cons_of_mem _ (List.mem_append_right _ h)
theorem zc_X3_payUpTo_X3_pay {C : zC} {G : zG} {Qc : Array Value → State → Outcome → State → Prop} (S : St_X3_payUpTo C G Qc) : CallW (zRm C) (zs C) (zar C) RX3 RX3 63 yX3_pay cX3_pay 5 none wsX3_pay rm_X3_pay 0 0 1 := cwV 1 S.1.1.2.2.2.2 gX3_payUpTo_X3_pay rfl rfl rfl (by decide +kernel) (by rw [S.2.2]; exact ⟨Nat.le_of_ble_eq_true rfl, Nat.le_of_ble_eq_true rfl⟩)
set_option maxRecDepth 100000 in
set_option maxHeartbeats 4000000 in
theorem sg_X3_payUpTo_0 {C : zC} {G : zG} {Qc : Array Value → State → Outcome → State → Prop} (S : St_X3_payUpTo C G Qc) {P_X3_pay : Nat → Int64 → zM → Prop} {Q_X3_pay : Nat → Int64 → zM → zM → Prop} (c_X3_pay : Con_X3_pay (zl C) G P_X3_pay Q_X3_pay) {a0 : Nat} {l1 : Int64} {m : zM} (ka0 : zK G a0 = some (3, a0))
    (h : (l1 ≤ (zJ m 303 a0 0) → (zRet C G Qc none m)) ∧ (¬ l1 ≤ (zJ m 303 a0 0) → ((P_X3_pay a0 (l1 - (zJ m 303 a0 0)) m) ∧ (∀ (m2 : zM), Q_X3_pay a0 (l1 - (zJ m 303 a0 0)) m m2 → (zRet C G Qc none m2))))) : Pt_X3_payUpTo_0 C G a0 l1 m := by
  obtain ⟨hF, hQ, hR⟩ := id S
  have h0 : zF0 C cX3_payUpTo 3 wsX3_payUpTo RX3 := hF.1
  have hL := hF.2.2.1
  unfold Pt_X3_payUpTo_0
  refine zx_lload_n h0 1 dX3_payUpTo_0 rfl ?_
  refine zx_aload_n h0 0 dX3_payUpTo_1 rfl ?_
  refine zx_get hF ka0 (by decide) rfl zi_X3_payUpTo_3 3 (by decide) zn_X3_payUpTo_38 rfl rfl dX3_payUpTo_2 ?_
  refine zx_lcmp_le (tgt := 19) h0 dX3_payUpTo_5 dX3_payUpTo_6 (by decide) (fun q => ?_) (fun q => ?_)
  · replace h := h.1 q
    exact zx_vret hF hQ dX3_payUpTo_19 h
  · replace h := h.2 q
    refine zx_aload_n h0 0 dX3_payUpTo_9 rfl ?_
    refine zx_lload_n h0 1 dX3_payUpTo_10 rfl ?_
    refine zx_aload_n h0 0 dX3_payUpTo_11 rfl ?_
    refine zx_get hF ka0 (by decide) rfl zi_X3_payUpTo_3 3 (by decide) zn_X3_payUpTo_38 rfl rfl dX3_payUpTo_12 ?_
    refine zx_lsub h0 dX3_payUpTo_15 ?_
    obtain ⟨ho1, h⟩ := h
    refine zx_callVv (As := [.long (l1 - (zJ m 303 a0 0))]) (rest := []) hF (c_X3_pay a0 (l1 - (zJ m 303 a0 0)) m ka0 ho1) (zc_X3_payUpTo_X3_pay S) ka0 (by decide) rfl dX3_payUpTo_16 rfl rfl (Nat.le_of_ble_eq_true rfl) ⟨Nat.zero_le _, Nat.zero_le _⟩ (fun m2 hq => ?_)
    replace h := h m2 hq
    exact zx_vret hF hQ dX3_payUpTo_19 h
theorem zn_X3_copyFrom_28 : Cond.fieldLink RX3 28 RX3 (TX3 0).2.1 (TX3 0).2.2.1 ∈ wsX3_copyFrom := List.mem_of_getElem? (i := 1) rfl
theorem zi_X3_copyFrom_3 : ∀ w ∈ u_ws RX3 TX3 11, w ∈ wsX3_copyFrom := fun _ h => List.mem_cons_of_mem _ (List.mem_append_right _ h)
theorem zn_X3_copyFrom_32 : Cond.fieldLink RX3 32 RX3 (TX3 1).2.1 (TX3 1).2.2.1 ∈ wsX3_copyFrom := List.mem_of_getElem? (i := 2) rfl
theorem zn_X3_copyFrom_35 : Cond.fieldLink RX3 35 RX3 (TX3 2).2.1 (TX3 2).2.2.1 ∈ wsX3_copyFrom := List.mem_of_getElem? (i := 3) rfl
theorem zn_X3_copyFrom_38 : Cond.fieldLink RX3 38 RX3 (TX3 3).2.1 (TX3 3).2.2.1 ∈ wsX3_copyFrom := List.mem_of_getElem? (i := 4) rfl
theorem zn_X3_copyFrom_42 : Cond.fieldLink RX3 42 RX3 (TX3 4).2.1 (TX3 4).2.2.1 ∈ wsX3_copyFrom := List.mem_of_getElem? (i := 5) rfl
theorem zn_X3_copyFrom_45 : Cond.fieldLink RX3 45 RX3 (TX3 5).2.1 (TX3 5).2.2.1 ∈ wsX3_copyFrom := List.mem_of_getElem? (i := 6) rfl
theorem zn_X3_copyFrom_9 : Cond.fieldLink RX3 9 RX3 (TX3 6).2.1 (TX3 6).2.2.1 ∈ wsX3_copyFrom := List.mem_of_getElem? (i := 7) rfl
theorem zn_X3_copyFrom_ml48 : Cond.methodLink RX3 48 arraycopyName ∈ wsX3_copyFrom := List.mem_of_getElem? (i := 8) rfl
theorem zn_X3_copyFrom_mn : Cond.native arraycopyName ∈ wsX3_copyFrom := List.mem_of_getElem? (i := 9) rfl
theorem zn_X3_copyFrom_ms : Cond.static arraycopyName ∈ wsX3_copyFrom := List.mem_of_getElem? (i := 10) rfl
theorem zn_X3_copyFrom_mi : Cond.initialized "java/lang/System" ∈ wsX3_copyFrom := List.mem_of_getElem? (i := 11) rfl
theorem zn_X3_copyFrom_15 : Cond.fieldLink RX3 15 RX3 (TX3 7).2.1 (TX3 7).2.2.1 ∈ wsX3_copyFrom := List.mem_of_getElem? (i := 12) rfl
theorem zn_X3_copyFrom_19 : Cond.fieldLink RX3 19 RX3 (TX3 8).2.1 (TX3 8).2.2.1 ∈ wsX3_copyFrom := List.mem_of_getElem? (i := 13) rfl
theorem zn_X3_copyFrom_22 : Cond.fieldLink RX3 22 RX3 (TX3 9).2.1 (TX3 9).2.2.1 ∈ wsX3_copyFrom := List.mem_of_getElem? (i := 14) rfl
theorem zn_X3_copyFrom_25 : Cond.fieldLink RX3 25 RX3 (TX3 10).2.1 (TX3 10).2.2.1 ∈ wsX3_copyFrom := List.mem_of_getElem? (i := 15) rfl
set_option maxRecDepth 100000 in
set_option maxHeartbeats 4000000 in
theorem sg_X3_copyFrom_0 {C : zC} {G : zG} {Qc : Array Value → State → Outcome → State → Prop} (S : St_X3_copyFrom C G Qc) {a0 : Nat} {a1 : Nat} {m : zM} (ka0 : zK G a0 = some (3, a0)) (ka1 : zK G a1 = some (3, a1))
    (h : zRet C G Qc none (zcJ (zcI (zcJ (zcJ (zcI (zsJ (zsJ (zsJ (zsI (zsI (zsI m 300 a0 0 (zI m 300 a1 0)) 301 a0 0 (zI m 301 a1 0)) 302 a0 0 (zI m 302 a1 0)) 303 a0 0 (zJ m 303 a1 0)) 304 a0 0 (zJ m 304 a1 0)) 305 a0 0 (zJ m 305 a1 0)) 1306 a0 (zI m 1306 a1)) 1307 a0 (zJ m 1307 a1)) 1308 a0 (zJ m 1308 a1)) 1309 a0 (zI m 1309 a1)) 1310 a0 (zJ m 1310 a1))) : Pt_X3_copyFrom_0 C G a0 a1 m := by
  obtain ⟨hF, hQ, hR⟩ := id S
  have h0 : zF0 C cX3_copyFrom 2 wsX3_copyFrom RX3 := hF.1
  have hL := hF.2.2.1
  unfold Pt_X3_copyFrom_0
  refine zx_aload_n h0 0 dX3_copyFrom_0 rfl ?_
  refine zx_aload_n h0 1 dX3_copyFrom_1 rfl ?_
  refine zx_get hF ka1 (by decide) rfl zi_X3_copyFrom_3 0 (by decide) zn_X3_copyFrom_28 rfl rfl dX3_copyFrom_2 ?_
  refine zp_300 hF ka0 zi_X3_copyFrom_3 zn_X3_copyFrom_28 dX3_copyFrom_5 ?_
  refine zx_aload_n h0 0 dX3_copyFrom_8 rfl ?_
  refine zx_aload_n h0 1 dX3_copyFrom_9 rfl ?_
  refine zx_get hF ka1 (by decide) rfl zi_X3_copyFrom_3 1 (by decide) zn_X3_copyFrom_32 rfl rfl dX3_copyFrom_10 ?_
  refine zx_topI (zI_n (by decide)) ?_
  refine zp_301 hF ka0 zi_X3_copyFrom_3 zn_X3_copyFrom_32 dX3_copyFrom_13 ?_
  refine zx_aload_n h0 0 dX3_copyFrom_16 rfl ?_
  refine zx_aload_n h0 1 dX3_copyFrom_17 rfl ?_
  refine zx_get hF ka1 (by decide) rfl zi_X3_copyFrom_3 2 (by decide) zn_X3_copyFrom_35 rfl rfl dX3_copyFrom_18 ?_
  refine zx_topI ((zI_n (by decide)).trans (zI_n (by decide))) ?_
  refine zp_302 hF ka0 zi_X3_copyFrom_3 zn_X3_copyFrom_35 dX3_copyFrom_21 ?_
  refine zx_aload_n h0 0 dX3_copyFrom_24 rfl ?_
  refine zx_aload_n h0 1 dX3_copyFrom_25 rfl ?_
  refine zx_get hF ka1 (by decide) rfl zi_X3_copyFrom_3 3 (by decide) zn_X3_copyFrom_38 rfl rfl dX3_copyFrom_26 ?_
  refine zx_topJ ((zJ_I).trans ((zJ_I).trans (zJ_I))) ?_
  refine zp_303 hF ka0 zi_X3_copyFrom_3 zn_X3_copyFrom_38 dX3_copyFrom_29 ?_
  refine zx_aload_n h0 0 dX3_copyFrom_32 rfl ?_
  refine zx_aload_n h0 1 dX3_copyFrom_33 rfl ?_
  refine zx_get hF ka1 (by decide) rfl zi_X3_copyFrom_3 4 (by decide) zn_X3_copyFrom_42 rfl rfl dX3_copyFrom_34 ?_
  refine zx_topJ ((zJ_n (by decide)).trans ((zJ_I).trans ((zJ_I).trans (zJ_I)))) ?_
  refine zp_304 hF ka0 zi_X3_copyFrom_3 zn_X3_copyFrom_42 dX3_copyFrom_37 ?_
  refine zx_aload_n h0 0 dX3_copyFrom_40 rfl ?_
  refine zx_aload_n h0 1 dX3_copyFrom_41 rfl ?_
  refine zx_get hF ka1 (by decide) rfl zi_X3_copyFrom_3 5 (by decide) zn_X3_copyFrom_45 rfl rfl dX3_copyFrom_42 ?_
  refine zx_topJ ((zJ_n (by decide)).trans ((zJ_n (by decide)).trans ((zJ_I).trans ((zJ_I).trans (zJ_I))))) ?_
  refine zp_305 hF ka0 zi_X3_copyFrom_3 zn_X3_copyFrom_45 dX3_copyFrom_45 ?_
  refine zx_aload_n h0 1 dX3_copyFrom_48 rfl ?_
  refine zx_get hF ka1 (by decide) rfl zi_X3_copyFrom_3 6 (by decide) zn_X3_copyFrom_9 rfl rfl dX3_copyFrom_49 ?_
  refine zx_iconst (v := 0) h0 dX3_copyFrom_52 (by decide) ?_
  refine zx_aload_n h0 0 dX3_copyFrom_53 rfl ?_
  refine zx_get hF ka0 (by decide) rfl zi_X3_copyFrom_3 6 (by decide) zn_X3_copyFrom_9 rfl rfl dX3_copyFrom_54 ?_
  refine zx_iconst (v := 0) h0 dX3_copyFrom_57 (by decide) ?_
  refine zx_iconst (v := 4) h0 dX3_copyFrom_58 (by decide) ?_
  refine zx_copyI (g := (zI m 1306 a1)) hF (zL_3_1 hL ka1) (zL_3_1 hL ka0) zn_X3_copyFrom_ml48 zn_X3_copyFrom_mn zn_X3_copyFrom_ms zn_X3_copyFrom_mi (by decide) rfl rfl (by decide) (funext fun jj => (zI_J).trans ((zI_J).trans ((zI_J).trans ((zI_n (by decide)).trans ((zI_n (by decide)).trans (zI_n (by decide))))))) (by rw [hR]; exact Nat.le_of_ble_eq_true rfl) (by rw [hR]; exact Nat.le_of_ble_eq_true rfl) dX3_copyFrom_59 ?_
  refine zx_aload_n h0 1 dX3_copyFrom_62 rfl ?_
  refine zx_get hF ka1 (by decide) rfl zi_X3_copyFrom_3 7 (by decide) zn_X3_copyFrom_15 rfl rfl dX3_copyFrom_63 ?_
  refine zx_iconst (v := 0) h0 dX3_copyFrom_66 (by decide) ?_
  refine zx_aload_n h0 0 dX3_copyFrom_67 rfl ?_
  refine zx_get hF ka0 (by decide) rfl zi_X3_copyFrom_3 7 (by decide) zn_X3_copyFrom_15 rfl rfl dX3_copyFrom_68 ?_
  refine zx_iconst (v := 0) h0 dX3_copyFrom_71 (by decide) ?_
  refine zx_iconst (v := 4) h0 dX3_copyFrom_72 (by decide) ?_
  refine zx_copyJ (g := (zJ m 1307 a1)) hF (zL_3_2 hL ka1) (zL_3_2 hL ka0) zn_X3_copyFrom_ml48 zn_X3_copyFrom_mn zn_X3_copyFrom_ms zn_X3_copyFrom_mi (by decide) rfl rfl (by decide) (funext fun jj => (zJ_CI).trans ((zJ_n (by decide)).trans ((zJ_n (by decide)).trans ((zJ_n (by decide)).trans ((zJ_I).trans ((zJ_I).trans (zJ_I))))))) (by rw [hR]; exact Nat.le_of_ble_eq_true rfl) (by rw [hR]; exact Nat.le_of_ble_eq_true rfl) dX3_copyFrom_73 ?_
  refine zx_aload_n h0 1 dX3_copyFrom_76 rfl ?_
  refine zx_get hF ka1 (by decide) rfl zi_X3_copyFrom_3 8 (by decide) zn_X3_copyFrom_19 rfl rfl dX3_copyFrom_77 ?_
  refine zx_iconst (v := 0) h0 dX3_copyFrom_80 (by decide) ?_
  refine zx_aload_n h0 0 dX3_copyFrom_81 rfl ?_
  refine zx_get hF ka0 (by decide) rfl zi_X3_copyFrom_3 8 (by decide) zn_X3_copyFrom_19 rfl rfl dX3_copyFrom_82 ?_
  refine zx_iconst (v := 0) h0 dX3_copyFrom_85 (by decide) ?_
  refine zx_iconst (v := 4) h0 dX3_copyFrom_86 (by decide) ?_
  refine zx_copyJ (g := (zJ m 1308 a1)) hF (zL_3_3 hL ka1) (zL_3_3 hL ka0) zn_X3_copyFrom_ml48 zn_X3_copyFrom_mn zn_X3_copyFrom_ms zn_X3_copyFrom_mi (by decide) rfl rfl (by decide) (funext fun jj => (zJ_cn (by decide)).trans ((zJ_CI).trans ((zJ_n (by decide)).trans ((zJ_n (by decide)).trans ((zJ_n (by decide)).trans ((zJ_I).trans ((zJ_I).trans (zJ_I)))))))) (by rw [hR]; exact Nat.le_of_ble_eq_true rfl) (by rw [hR]; exact Nat.le_of_ble_eq_true rfl) dX3_copyFrom_87 ?_
  refine zx_aload_n h0 1 dX3_copyFrom_90 rfl ?_
  refine zx_get hF ka1 (by decide) rfl zi_X3_copyFrom_3 9 (by decide) zn_X3_copyFrom_22 rfl rfl dX3_copyFrom_91 ?_
  refine zx_iconst (v := 0) h0 dX3_copyFrom_94 (by decide) ?_
  refine zx_aload_n h0 0 dX3_copyFrom_95 rfl ?_
  refine zx_get hF ka0 (by decide) rfl zi_X3_copyFrom_3 9 (by decide) zn_X3_copyFrom_22 rfl rfl dX3_copyFrom_96 ?_
  refine zx_iconst (v := 0) h0 dX3_copyFrom_99 (by decide) ?_
  refine zx_iconst (v := 4) h0 dX3_copyFrom_100 (by decide) ?_
  refine zx_copyI (g := (zI m 1309 a1)) hF (zL_3_4 hL ka1) (zL_3_4 hL ka0) zn_X3_copyFrom_ml48 zn_X3_copyFrom_mn zn_X3_copyFrom_ms zn_X3_copyFrom_mi (by decide) rfl rfl (by decide) (funext fun jj => (zI_CJ).trans ((zI_CJ).trans ((zI_cn (by decide)).trans ((zI_J).trans ((zI_J).trans ((zI_J).trans ((zI_n (by decide)).trans ((zI_n (by decide)).trans (zI_n (by decide)))))))))) (by rw [hR]; exact Nat.le_of_ble_eq_true rfl) (by rw [hR]; exact Nat.le_of_ble_eq_true rfl) dX3_copyFrom_101 ?_
  refine zx_aload_n h0 1 dX3_copyFrom_104 rfl ?_
  refine zx_get hF ka1 (by decide) rfl zi_X3_copyFrom_3 10 (by decide) zn_X3_copyFrom_25 rfl rfl dX3_copyFrom_105 ?_
  refine zx_iconst (v := 0) h0 dX3_copyFrom_108 (by decide) ?_
  refine zx_aload_n h0 0 dX3_copyFrom_109 rfl ?_
  refine zx_get hF ka0 (by decide) rfl zi_X3_copyFrom_3 10 (by decide) zn_X3_copyFrom_25 rfl rfl dX3_copyFrom_110 ?_
  refine zx_iconst (v := 0) h0 dX3_copyFrom_113 (by decide) ?_
  refine zx_iconst (v := 4) h0 dX3_copyFrom_114 (by decide) ?_
  refine zx_copyJ (g := (zJ m 1310 a1)) hF (zL_3_5 hL ka1) (zL_3_5 hL ka0) zn_X3_copyFrom_ml48 zn_X3_copyFrom_mn zn_X3_copyFrom_ms zn_X3_copyFrom_mi (by decide) rfl rfl (by decide) (funext fun jj => (zJ_CI).trans ((zJ_cn (by decide)).trans ((zJ_cn (by decide)).trans ((zJ_CI).trans ((zJ_n (by decide)).trans ((zJ_n (by decide)).trans ((zJ_n (by decide)).trans ((zJ_I).trans ((zJ_I).trans (zJ_I)))))))))) (by rw [hR]; exact Nat.le_of_ble_eq_true rfl) (by rw [hR]; exact Nat.le_of_ble_eq_true rfl) dX3_copyFrom_115 ?_
  exact zx_vret hF hQ dX3_copyFrom_118 h
theorem zn_X1_begin_22 : Cond.fieldLink RX1 22 RX1 (TX1 0).2.1 (TX1 0).2.2.1 ∈ wsX1_begin := List.mem_of_getElem? (i := 1) rfl
theorem zi_X1_begin_1 : ∀ w ∈ u_ws RX1 TX1 9, w ∈ wsX1_begin := fun _ h => List.mem_cons_of_mem _ (List.mem_append_right _ h)
theorem zn_X1_begin_25 : Cond.fieldLink RX1 25 RX1 (TX1 1).2.1 (TX1 1).2.2.1 ∈ wsX1_begin := List.mem_of_getElem? (i := 2) rfl
theorem zn_X1_begin_28 : Cond.fieldLink RX1 28 RX1 (TX1 2).2.1 (TX1 2).2.2.1 ∈ wsX1_begin := List.mem_of_getElem? (i := 3) rfl
theorem zn_X1_begin_31 : Cond.fieldLink RX1 31 RX1 (TX1 3).2.1 (TX1 3).2.2.1 ∈ wsX1_begin := List.mem_of_getElem? (i := 4) rfl
theorem zn_X1_begin_34 : Cond.fieldLink RX1 34 RX1 (TX1 4).2.1 (TX1 4).2.2.1 ∈ wsX1_begin := List.mem_of_getElem? (i := 5) rfl
theorem zn_X1_begin_9 : Cond.fieldLink RX1 9 RX1 (TX1 5).2.1 (TX1 5).2.2.1 ∈ wsX1_begin := List.mem_of_getElem? (i := 6) rfl
set_option maxRecDepth 100000 in
set_option maxHeartbeats 4000000 in
theorem sg_X1_begin_0 {C : zC} {G : zG} {Qc : Array Value → State → Outcome → State → Prop} (S : St_X1_begin C G Qc) {a0 : Nat} {x1 : Int32} {x2 : Int32} {x3 : Int32} {x4 : Int32} {x5 : Int32} {m : zM} (ka0 : zK G a0 = some (1, a0))
    (h : zRet C G Qc none (zsI (zsI (zsI (zsI (zsI (zsI m 100 a0 0 x1) 101 a0 0 x2) 102 a0 0 x3) 103 a0 0 x4) 104 a0 0 x5) 105 a0 0 0)) : Pt_X1_begin_0 C G a0 x1 x2 x3 x4 x5 m := by
  obtain ⟨hF, hQ, hR⟩ := id S
  have h0 : zF0 C cX1_begin 6 wsX1_begin RX1 := hF.1
  have hL := hF.2.2.1
  unfold Pt_X1_begin_0
  refine zx_aload_n h0 0 dX1_begin_0 rfl ?_
  refine zx_iload_n h0 1 dX1_begin_1 rfl ?_
  refine zp_100 hF ka0 zi_X1_begin_1 zn_X1_begin_22 dX1_begin_2 ?_
  refine zx_aload_n h0 0 dX1_begin_5 rfl ?_
  refine zx_iload_n h0 2 dX1_begin_6 rfl ?_
  refine zp_101 hF ka0 zi_X1_begin_1 zn_X1_begin_25 dX1_begin_7 ?_
  refine zx_aload_n h0 0 dX1_begin_10 rfl ?_
  refine zx_iload_n h0 3 dX1_begin_11 rfl ?_
  refine zp_102 hF ka0 zi_X1_begin_1 zn_X1_begin_28 dX1_begin_12 ?_
  refine zx_aload_n h0 0 dX1_begin_15 rfl ?_
  refine zx_iload h0 4 dX1_begin_16 rfl ?_
  refine zp_103 hF ka0 zi_X1_begin_1 zn_X1_begin_31 dX1_begin_18 ?_
  refine zx_aload_n h0 0 dX1_begin_21 rfl ?_
  refine zx_iload h0 5 dX1_begin_22 rfl ?_
  refine zp_104 hF ka0 zi_X1_begin_1 zn_X1_begin_34 dX1_begin_24 ?_
  refine zx_aload_n h0 0 dX1_begin_27 rfl ?_
  refine zx_iconst (v := 0) h0 dX1_begin_28 (by decide) ?_
  refine zp_105 hF ka0 zi_X1_begin_1 zn_X1_begin_9 dX1_begin_29 ?_
  exact zx_vret hF hQ dX1_begin_32 h
