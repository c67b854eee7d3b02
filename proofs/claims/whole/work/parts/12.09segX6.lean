theorem zn_X6_lacks_129 : Cond.fieldLink RX6 129 RX6 (TX6 0).2.1 (TX6 0).2.2.1 ∈ wsX6_lacks := List.mem_of_getElem? (i := 1) rfl
theorem zi_X6_lacks_6 : ∀ w ∈ u_ws RX6 TX6 50, w ∈ wsX6_lacks := fun _ h => List.mem_cons_of_mem _ (List.mem_append_right _ h)
theorem zn_X6_lacks_k313 : Cond.constant RX6 313 (-10000000) ∈ wsX6_lacks := List.mem_of_getElem? (i := 2) rfl
theorem zc_X6_lacks_X6_is {C : zC} {G : zG} {Qc : Array Value → State → Outcome → State → Prop} (S : St_X6_lacks C G Qc) : CallW (zRm C) (zs C) (zar C) RX6 RX6 307 yX6_is cX6_is 3 (some .boolean) wsX6_is rm_X6_is 0 0 2 := cwV 2 S.1.1.2.2.2.2 gX6_lacks_X6_is rfl rfl rfl (by decide +kernel) (by rw [S.2.2]; exact ⟨Nat.le_of_ble_eq_true rfl, Nat.le_of_ble_eq_true rfl⟩)
theorem zc_X6_lacks_X6_in {C : zC} {G : zG} {Qc : Array Value → State → Outcome → State → Prop} (S : St_X6_lacks C G Qc) : CallB (zRm C) (zs C) (zar C) RX6 145 yX6_in cX6_in 3 (some .boolean) wsX6_in rm_X6_in 0 0 3 ∧ (Cond.static yX6_in).before (zar C) (zs C) = true := cwS 3 S.1.1.2.2.2.2 gX6_lacks_X6_in rfl rfl rfl (by decide +kernel) (by rw [S.2.2]; exact ⟨Nat.le_of_ble_eq_true rfl, Nat.le_of_ble_eq_true rfl⟩)
theorem zc_X6_lacks_X6_of {C : zC} {G : zG} {Qc : Array Value → State → Outcome → State → Prop} (S : St_X6_lacks C G Qc) : CallW (zRm C) (zs C) (zar C) RX6 RX6 153 yX6_of cX6_of 3 (some .int) wsX6_of rm_X6_of 0 0 2 := cwV 2 S.1.1.2.2.2.2 gX6_lacks_X6_of rfl rfl rfl (by decide +kernel) (by rw [S.2.2]; exact ⟨Nat.le_of_ble_eq_true rfl, Nat.le_of_ble_eq_true rfl⟩)
theorem zc_X6_lacks_X6_pointsNow {C : zC} {G : zG} {Qc : Array Value → State → Outcome → State → Prop} (S : St_X6_lacks C G Qc) : CallW (zRm C) (zs C) (zar C) RX6 RX6 287 yX6_pointsNow cX6_pointsNow 3 (some .int) wsX6_pointsNow rm_X6_pointsNow 0 0 2 := cwV 2 S.1.1.2.2.2.2 gX6_lacks_X6_pointsNow rfl rfl rfl (by decide +kernel) (by rw [S.2.2]; exact ⟨Nat.le_of_ble_eq_true rfl, Nat.le_of_ble_eq_true rfl⟩)
set_option maxRecDepth 100000 in
set_option maxHeartbeats 4000000 in
theorem sg_X6_lacks_0 {C : zC} {G : zG} {Qc : Array Value → State → Outcome → State → Prop} (S : St_X6_lacks C G Qc) {P_X6_is : Nat → Int32 → Int32 → zM → Prop} {Q_X6_is : Nat → Int32 → Int32 → zM → Int32 → Prop} (c_X6_is : Con_X6_is (zl C) G P_X6_is Q_X6_is) {P_X6_in : Int32 → Int32 → Int32 → zM → Prop} {Q_X6_in : Int32 → Int32 → Int32 → zM → Int32 → Prop} (c_X6_in : Con_X6_in (zl C) G P_X6_in Q_X6_in) {P_X6_of : Nat → Int32 → Int32 → zM → Prop} {Q_X6_of : Nat → Int32 → Int32 → zM → Int32 → Prop} (c_X6_of : Con_X6_of (zl C) G P_X6_of Q_X6_of) {P_X6_pointsNow : Nat → Int32 → Int32 → zM → Prop} {Q_X6_pointsNow : Nat → Int32 → Int32 → zM → Int32 → Prop} (c_X6_pointsNow : Con_X6_pointsNow (zl C) G P_X6_pointsNow Q_X6_pointsNow) {a0 : Nat} {x1 : Int32} {x2 : Int32} {m : zM} (ka0 : zK G a0 = some (6, a0))
    (h : (P_X6_is a0 x1 0 (zsI m 600 a0 0 0)) ∧ (∀ (r2 : Int32), Q_X6_is a0 x1 0 (zsI m 600 a0 0 0) r2 → ((r2 = 0 → (zRet C G Qc (some (.int (-10000000))) (zsI m 600 a0 0 0))) ∧ (¬ r2 = 0 → ((P_X6_in x2 0 5 (zsI m 600 a0 0 0)) ∧ (∀ (r4 : Int32), Q_X6_in x2 0 5 (zsI m 600 a0 0 0) r4 → ((r4 = 0 → (zRet C G Qc (some (.int (-10000000))) (zsI m 600 a0 0 0))) ∧ (¬ r4 = 0 → ((P_X6_of a0 x1 4 (zsI m 600 a0 0 0)) ∧ (∀ (r6 : Int32), Q_X6_of a0 x1 4 (zsI m 600 a0 0 0) r6 → ((((r6 >>> (x2 &&& 31)) &&& 1) = 0 → (∀ (r7 : Int32), Q_X6_of a0 x1 4 (zsI m 600 a0 0 0) r7 → ((P_X6_pointsNow a0 x1 (r7 ||| (1 <<< (x2 &&& 31))) (zsI m 600 a0 0 0)) ∧ (∀ (r9 : Int32), Q_X6_pointsNow a0 x1 (r7 ||| (1 <<< (x2 &&& 31))) (zsI m 600 a0 0 0) r9 → (∀ (r10 : Int32), Q_X6_of a0 x1 4 (zsI m 600 a0 0 0) r10 → ((P_X6_pointsNow a0 x1 r10 (zsI m 600 a0 0 0)) ∧ (∀ (r12 : Int32), Q_X6_pointsNow a0 x1 r10 (zsI m 600 a0 0 0) r12 → (zRet C G Qc (some (.int (r9 - r12))) (zsI m 600 a0 0 0))))))))) ∧ (¬ ((r6 >>> (x2 &&& 31)) &&& 1) = 0 → (zRet C G Qc (some (.int (-10000000))) (zsI m 600 a0 0 0)))))))))))))) : Pt_X6_lacks_0 C G a0 x1 x2 m := by
  obtain ⟨hF, hQ, hR⟩ := id S
  have h0 : zF0 C cX6_lacks 3 wsX6_lacks RX6 := hF.1
  have hL := hF.2.2.1
  unfold Pt_X6_lacks_0
  refine zx_aload_n h0 0 dX6_lacks_0 rfl ?_
  refine zx_iconst (v := 0) h0 dX6_lacks_1 (by decide) ?_
  refine zp_600 hF ka0 zi_X6_lacks_6 zn_X6_lacks_129 dX6_lacks_2 ?_
  refine zx_aload_n h0 0 dX6_lacks_5 rfl ?_
  refine zx_iload_n h0 1 dX6_lacks_6 rfl ?_
  refine zx_iconst (v := 0) h0 dX6_lacks_7 (by decide) ?_
  obtain ⟨ho1, h⟩ := h
  refine zx_callVi (As := [.int x1, .int 0]) (rest := []) hF (c_X6_is a0 x1 0 (zsI m 600 a0 0 0) ka0 ho1) (zc_X6_lacks_X6_is S) ka0 (by decide) rfl dX6_lacks_8 rfl rfl (Nat.le_of_ble_eq_true rfl) ⟨Nat.zero_le _, Nat.zero_le _⟩ (fun r2 m2 hq => ?_)
  obtain ⟨hme, hq⟩ := hq
  subst m2
  replace h := h r2 hq
  refine zx_if_eq (tgt := 36) h0 dX6_lacks_11 (by decide) (fun q => ?_) (fun q => ?_)
  · replace h := h.1 q
    refine zx_ldcw (v := (-10000000)) h0 zn_X6_lacks_k313 dX6_lacks_36 ?_
    exact zx_iret hF hQ dX6_lacks_39 h
  · replace h := h.2 q
    refine zx_iload_n h0 2 dX6_lacks_14 rfl ?_
    refine zx_iconst (v := 0) h0 dX6_lacks_15 (by decide) ?_
    refine zx_iconst (v := 5) h0 dX6_lacks_16 (by decide) ?_
    obtain ⟨ho3, h⟩ := h
    refine zx_callSi (As := [.int x2, .int 0, .int 5]) (rest := []) hF (c_X6_in x2 0 5 (zsI m 600 a0 0 0)  ho3) (zc_X6_lacks_X6_in S)  dX6_lacks_17 rfl rfl (Nat.le_of_ble_eq_true rfl) ⟨Nat.zero_le _, Nat.zero_le _⟩ (fun r4 m4 hq => ?_)
    obtain ⟨hme, hq⟩ := hq
    subst m4
    replace h := h r4 hq
    refine zx_if_eq (tgt := 36) h0 dX6_lacks_20 (by decide) (fun q => ?_) (fun q => ?_)
    · replace h := h.1 q
      refine zx_ldcw (v := (-10000000)) h0 zn_X6_lacks_k313 dX6_lacks_36 ?_
      exact zx_iret hF hQ dX6_lacks_39 h
    · replace h := h.2 q
      refine zx_aload_n h0 0 dX6_lacks_23 rfl ?_
      refine zx_iload_n h0 1 dX6_lacks_24 rfl ?_
      refine zx_iconst (v := 4) h0 dX6_lacks_25 (by decide) ?_
      obtain ⟨ho5, h⟩ := h
      refine zx_callVi (As := [.int x1, .int 4]) (rest := []) hF (c_X6_of a0 x1 4 (zsI m 600 a0 0 0) ka0 ho5) (zc_X6_lacks_X6_of S) ka0 (by decide) rfl dX6_lacks_26 rfl rfl (Nat.le_of_ble_eq_true rfl) ⟨Nat.zero_le _, Nat.zero_le _⟩ (fun r6 m6 hq => ?_)
      obtain ⟨hme, hq⟩ := hq
      subst m6
      replace h := h r6 hq
      refine zx_iload_n h0 2 dX6_lacks_29 rfl ?_
      refine zx_ishr h0 dX6_lacks_30 ?_
      refine zx_iconst (v := 1) h0 dX6_lacks_31 (by decide) ?_
      refine zx_iand h0 dX6_lacks_32 ?_
      refine zx_if_eq (tgt := 40) h0 dX6_lacks_33 (by decide) (fun q => ?_) (fun q => ?_)
      · replace h := h.1 q
        refine zx_aload_n h0 0 dX6_lacks_40 rfl ?_
        refine zx_iload_n h0 1 dX6_lacks_41 rfl ?_
        refine zx_aload_n h0 0 dX6_lacks_42 rfl ?_
        refine zx_iload_n h0 1 dX6_lacks_43 rfl ?_
        refine zx_iconst (v := 4) h0 dX6_lacks_44 (by decide) ?_
        refine zx_callVi (As := [.int x1, .int 4]) (rest := [.int x1, .ref a0]) hF (c_X6_of a0 x1 4 (zsI m 600 a0 0 0) ka0 ho5) (zc_X6_lacks_X6_of S) ka0 (by decide) rfl dX6_lacks_45 rfl rfl (Nat.le_of_ble_eq_true rfl) ⟨Nat.zero_le _, Nat.zero_le _⟩ (fun r7 m7 hq => ?_)
        obtain ⟨hme, hq⟩ := hq
        subst m7
        replace h := h r7 hq
        refine zx_iconst (v := 1) h0 dX6_lacks_48 (by decide) ?_
        refine zx_iload_n h0 2 dX6_lacks_49 rfl ?_
        refine zx_ishl h0 dX6_lacks_50 ?_
        refine zx_ior h0 dX6_lacks_51 ?_
        obtain ⟨ho8, h⟩ := h
        refine zx_callVi (As := [.int x1, .int (r7 ||| (1 <<< (x2 &&& 31)))]) (rest := []) hF (c_X6_pointsNow a0 x1 (r7 ||| (1 <<< (x2 &&& 31))) (zsI m 600 a0 0 0) ka0 ho8) (zc_X6_lacks_X6_pointsNow S) ka0 (by decide) rfl dX6_lacks_52 rfl rfl (Nat.le_of_ble_eq_true rfl) ⟨Nat.zero_le _, Nat.zero_le _⟩ (fun r9 m9 hq => ?_)
        obtain ⟨hme, hq⟩ := hq
        subst m9
        replace h := h r9 hq
        refine zx_aload_n h0 0 dX6_lacks_55 rfl ?_
        refine zx_iload_n h0 1 dX6_lacks_56 rfl ?_
        refine zx_aload_n h0 0 dX6_lacks_57 rfl ?_
        refine zx_iload_n h0 1 dX6_lacks_58 rfl ?_
        refine zx_iconst (v := 4) h0 dX6_lacks_59 (by decide) ?_
        refine zx_callVi (As := [.int x1, .int 4]) (rest := [.int x1, .ref a0, .int r9]) hF (c_X6_of a0 x1 4 (zsI m 600 a0 0 0) ka0 ho5) (zc_X6_lacks_X6_of S) ka0 (by decide) rfl dX6_lacks_60 rfl rfl (Nat.le_of_ble_eq_true rfl) ⟨Nat.zero_le _, Nat.zero_le _⟩ (fun r10 m10 hq => ?_)
        obtain ⟨hme, hq⟩ := hq
        subst m10
        replace h := h r10 hq
        obtain ⟨ho11, h⟩ := h
        refine zx_callVi (As := [.int x1, .int r10]) (rest := [.int r9]) hF (c_X6_pointsNow a0 x1 r10 (zsI m 600 a0 0 0) ka0 ho11) (zc_X6_lacks_X6_pointsNow S) ka0 (by decide) rfl dX6_lacks_63 rfl rfl (Nat.le_of_ble_eq_true rfl) ⟨Nat.zero_le _, Nat.zero_le _⟩ (fun r12 m12 hq => ?_)
        obtain ⟨hme, hq⟩ := hq
        subst m12
        replace h := h r12 hq
        refine zx_isub h0 dX6_lacks_66 ?_
        exact zx_iret hF hQ dX6_lacks_67 h
      · replace h := h.2 q
        refine zx_ldcw (v := (-10000000)) h0 zn_X6_lacks_k313 dX6_lacks_36 ?_
        exact zx_iret hF hQ dX6_lacks_39 h
theorem zn_X6_tell_129 : Cond.fieldLink RX6 129 RX6 (TX6 0).2.1 (TX6 0).2.2.1 ∈ wsX6_tell := List.mem_of_getElem? (i := 1) rfl
theorem zi_X6_tell_6 : ∀ w ∈ u_ws RX6 TX6 50, w ∈ wsX6_tell := fun _ h => List.mem_cons_of_mem _ (List.mem_append_right _ h)
theorem zc_X6_tell_X6_isClaim {C : zC} {G : zG} {Qc : Array Value → State → Outcome → State → Prop} (S : St_X6_tell C G Qc) : CallW (zRm C) (zs C) (zar C) RX6 RX6 149 yX6_isClaim cX6_isClaim 2 (some .boolean) wsX6_isClaim rm_X6_isClaim 0 0 1 := cwV 1 S.1.1.2.2.2.2 gX6_tell_X6_isClaim rfl rfl rfl (by decide +kernel) (by rw [S.2.2]; exact ⟨Nat.le_of_ble_eq_true rfl, Nat.le_of_ble_eq_true rfl⟩)
theorem zc_X6_tell_X6_of {C : zC} {G : zG} {Qc : Array Value → State → Outcome → State → Prop} (S : St_X6_tell C G Qc) : CallW (zRm C) (zs C) (zar C) RX6 RX6 153 yX6_of cX6_of 3 (some .int) wsX6_of rm_X6_of 0 0 2 := cwV 2 S.1.1.2.2.2.2 gX6_tell_X6_of rfl rfl rfl (by decide +kernel) (by rw [S.2.2]; exact ⟨Nat.le_of_ble_eq_true rfl, Nat.le_of_ble_eq_true rfl⟩)
theorem zc_X6_tell_X6_leastOf {C : zC} {G : zG} {Qc : Array Value → State → Outcome → State → Prop} (S : St_X6_tell C G Qc) : CallW (zRm C) (zs C) (zar C) RX6 RX6 293 yX6_leastOf cX6_leastOf 5 (some .int) wsX6_leastOf rm_X6_leastOf 0 0 1 := cwV 1 S.1.1.2.2.2.2 gX6_tell_X6_leastOf rfl rfl rfl (by decide +kernel) (by rw [S.2.2]; exact ⟨Nat.le_of_ble_eq_true rfl, Nat.le_of_ble_eq_true rfl⟩)
theorem zc_X6_tell_X6_mostOf {C : zC} {G : zG} {Qc : Array Value → State → Outcome → State → Prop} (S : St_X6_tell C G Qc) : CallW (zRm C) (zs C) (zar C) RX6 RX6 290 yX6_mostOf cX6_mostOf 5 (some .int) wsX6_mostOf rm_X6_mostOf 0 0 1 := cwV 1 S.1.1.2.2.2.2 gX6_tell_X6_mostOf rfl rfl rfl (by decide +kernel) (by rw [S.2.2]; exact ⟨Nat.le_of_ble_eq_true rfl, Nat.le_of_ble_eq_true rfl⟩)
theorem zc_X6_tell_X6_is {C : zC} {G : zG} {Qc : Array Value → State → Outcome → State → Prop} (S : St_X6_tell C G Qc) : CallW (zRm C) (zs C) (zar C) RX6 RX6 307 yX6_is cX6_is 3 (some .boolean) wsX6_is rm_X6_is 0 0 2 := cwV 2 S.1.1.2.2.2.2 gX6_tell_X6_is rfl rfl rfl (by decide +kernel) (by rw [S.2.2]; exact ⟨Nat.le_of_ble_eq_true rfl, Nat.le_of_ble_eq_true rfl⟩)
theorem zc_X6_tell_X6_twins {C : zC} {G : zG} {Qc : Array Value → State → Outcome → State → Prop} (S : St_X6_tell C G Qc) : CallW (zRm C) (zs C) (zar C) RX6 RX6 310 yX6_twins cX6_twins 5 (some .int) wsX6_twins rm_X6_twins 0 0 2 := cwV 2 S.1.1.2.2.2.2 gX6_tell_X6_twins rfl rfl rfl (by decide +kernel) (by rw [S.2.2]; exact ⟨Nat.le_of_ble_eq_true rfl, Nat.le_of_ble_eq_true rfl⟩)
set_option maxRecDepth 100000 in
set_option maxHeartbeats 4000000 in
theorem sg_X6_tell_0 {C : zC} {G : zG} {Qc : Array Value → State → Outcome → State → Prop} (S : St_X6_tell C G Qc) {P_X6_isClaim : Nat → Int32 → zM → Prop} {Q_X6_isClaim : Nat → Int32 → zM → Int32 → Prop} (c_X6_isClaim : Con_X6_isClaim (zl C) G P_X6_isClaim Q_X6_isClaim) {P_X6_of : Nat → Int32 → Int32 → zM → Prop} {Q_X6_of : Nat → Int32 → Int32 → zM → Int32 → Prop} (c_X6_of : Con_X6_of (zl C) G P_X6_of Q_X6_of) {P_X6_leastOf : Nat → Int32 → zM → Prop} {Q_X6_leastOf : Nat → Int32 → zM → Int32 → Prop} (c_X6_leastOf : Con_X6_leastOf (zl C) G P_X6_leastOf Q_X6_leastOf) {P_X6_mostOf : Nat → Int32 → zM → Prop} {Q_X6_mostOf : Nat → Int32 → zM → Int32 → Prop} (c_X6_mostOf : Con_X6_mostOf (zl C) G P_X6_mostOf Q_X6_mostOf) {P_X6_is : Nat → Int32 → Int32 → zM → Prop} {Q_X6_is : Nat → Int32 → Int32 → zM → Int32 → Prop} (c_X6_is : Con_X6_is (zl C) G P_X6_is Q_X6_is) {P_X6_twins : Nat → Int32 → Int32 → zM → Prop} {Q_X6_twins : Nat → Int32 → Int32 → zM → Int32 → Prop} (c_X6_twins : Con_X6_twins (zl C) G P_X6_twins Q_X6_twins) {a0 : Nat} {x1 : Int32} {x2 : Int32} {m : zM} (ka0 : zK G a0 = some (6, a0))
    (h : (P_X6_isClaim a0 x1 (zsI m 600 a0 0 0)) ∧ (∀ (r2 : Int32), Q_X6_isClaim a0 x1 (zsI m 600 a0 0 0) r2 → ((¬ r2 = 0 → (((x2).toInt < 0 ∨ 11 < (x2).toInt → (zRet C G Qc (some (.int (-1))) (zsI m 600 a0 0 0))) ∧ (x2 = 0 → ((P_X6_of a0 x1 x2 (zsI m 600 a0 0 0)) ∧ (∀ (r4 : Int32), Q_X6_of a0 x1 x2 (zsI m 600 a0 0 0) r4 → (zRet C G Qc (some (.int r4)) (zsI m 600 a0 0 0))))) ∧ (x2 = 1 → ((P_X6_of a0 x1 x2 (zsI m 600 a0 0 0)) ∧ (∀ (r6 : Int32), Q_X6_of a0 x1 x2 (zsI m 600 a0 0 0) r6 → (zRet C G Qc (some (.int r6)) (zsI m 600 a0 0 0))))) ∧ (x2 = 2 → ((P_X6_of a0 x1 x2 (zsI m 600 a0 0 0)) ∧ (∀ (r8 : Int32), Q_X6_of a0 x1 x2 (zsI m 600 a0 0 0) r8 → (zRet C G Qc (some (.int r8)) (zsI m 600 a0 0 0))))) ∧ (x2 = 3 → ((P_X6_of a0 x1 x2 (zsI m 600 a0 0 0)) ∧ (∀ (r10 : Int32), Q_X6_of a0 x1 x2 (zsI m 600 a0 0 0) r10 → (zRet C G Qc (some (.int r10)) (zsI m 600 a0 0 0))))) ∧ (x2 = 4 → ((P_X6_of a0 x1 x2 (zsI m 600 a0 0 0)) ∧ (∀ (r12 : Int32), Q_X6_of a0 x1 x2 (zsI m 600 a0 0 0) r12 → (zRet C G Qc (some (.int r12)) (zsI m 600 a0 0 0))))) ∧ (x2 = 5 → ((P_X6_of a0 x1 x2 (zsI m 600 a0 0 0)) ∧ (∀ (r14 : Int32), Q_X6_of a0 x1 x2 (zsI m 600 a0 0 0) r14 → (zRet C G Qc (some (.int r14)) (zsI m 600 a0 0 0))))) ∧ (x2 = 6 → ((P_X6_leastOf a0 x1 (zsI m 600 a0 0 0)) ∧ (∀ (r16 : Int32), Q_X6_leastOf a0 x1 (zsI m 600 a0 0 0) r16 → (zRet C G Qc (some (.int r16)) (zsI m 600 a0 0 0))))) ∧ (x2 = 7 → ((P_X6_mostOf a0 x1 (zsI m 600 a0 0 0)) ∧ (∀ (r18 : Int32), Q_X6_mostOf a0 x1 (zsI m 600 a0 0 0) r18 → (zRet C G Qc (some (.int r18)) (zsI m 600 a0 0 0))))) ∧ (x2 = 8 → ((P_X6_is a0 x1 2 (zsI m 600 a0 0 0)) ∧ (∀ (r20 : Int32), Q_X6_is a0 x1 2 (zsI m 600 a0 0 0) r20 → ((r20 = 0 → ((P_X6_twins a0 x1 (-1) (zsI m 600 a0 0 0)) ∧ (∀ (r22 : Int32), Q_X6_twins a0 x1 (-1) (zsI m 600 a0 0 0) r22 → (zRet C G Qc (some (.int r22)) (zsI m 600 a0 0 0))))) ∧ (¬ r20 = 0 → (zRet C G Qc (some (.int 0)) (zsI m 600 a0 0 0))))))) ∧ (x2 = 9 → ((P_X6_of a0 x1 7 (zsI m 600 a0 0 0)) ∧ (∀ (r24 : Int32), Q_X6_of a0 x1 7 (zsI m 600 a0 0 0) r24 → (zRet C G Qc (some (.int r24)) (zsI m 600 a0 0 0))))) ∧ (x2 = 10 → ((P_X6_of a0 x1 8 (zsI m 600 a0 0 0)) ∧ (∀ (r26 : Int32), Q_X6_of a0 x1 8 (zsI m 600 a0 0 0) r26 → (zRet C G Qc (some (.int r26)) (zsI m 600 a0 0 0))))) ∧ (x2 = 11 → ((P_X6_of a0 x1 9 (zsI m 600 a0 0 0)) ∧ (∀ (r28 : Int32), Q_X6_of a0 x1 9 (zsI m 600 a0 0 0) r28 → (zRet C G Qc (some (.int r28)) (zsI m 600 a0 0 0))))))) ∧ (r2 = 0 → (zRet C G Qc (some (.int (-1))) (zsI m 600 a0 0 0)))))) : Pt_X6_tell_0 C G a0 x1 x2 m := by
  obtain ⟨hF, hQ, hR⟩ := id S
  have h0 : zF0 C cX6_tell 3 wsX6_tell RX6 := hF.1
  have hL := hF.2.2.1
  unfold Pt_X6_tell_0
  refine zx_aload_n h0 0 dX6_tell_0 rfl ?_
  refine zx_iconst (v := 0) h0 dX6_tell_1 (by decide) ?_
  refine zp_600 hF ka0 zi_X6_tell_6 zn_X6_tell_129 dX6_tell_2 ?_
  refine zx_aload_n h0 0 dX6_tell_5 rfl ?_
  refine zx_iload_n h0 1 dX6_tell_6 rfl ?_
  obtain ⟨ho1, h⟩ := h
  refine zx_callVi (As := [.int x1]) (rest := []) hF (c_X6_isClaim a0 x1 (zsI m 600 a0 0 0) ka0 ho1) (zc_X6_tell_X6_isClaim S) ka0 (by decide) rfl dX6_tell_7 rfl rfl (Nat.le_of_ble_eq_true rfl) ⟨Nat.zero_le _, Nat.zero_le _⟩ (fun r2 m2 hq => ?_)
  obtain ⟨hme, hq⟩ := hq
  subst m2
  replace h := h r2 hq
  refine zx_if_ne (tgt := 15) h0 dX6_tell_10 (by decide) (fun q => ?_) (fun q => ?_)
  · replace h := h.1 q
    refine zx_iload_n h0 2 dX6_tell_15 rfl ?_
    by_cases hout : (x2).toInt < 0 ∨ 11 < (x2).toInt
    · replace h := h.1 hout
      refine zx_tabOut (tgt := 143) h0 dX6_tell_16 hout (by decide) ?_
      refine zx_iconst (v := (-1)) h0 dX6_tell_143 (by decide) ?_
      exact zx_iret hF hQ dX6_tell_144 h
    replace h := h.2
    by_cases q0 : x2 = 0
    · replace h := h.1 q0
      refine zx_tabIn (tgt := 80) h0 dX6_tell_16 (by rw [q0]; decide) (by rw [q0]; decide) (by rw [q0]; rfl) (by decide) ?_
      refine zx_aload_n h0 0 dX6_tell_80 rfl ?_
      refine zx_iload_n h0 1 dX6_tell_81 rfl ?_
      refine zx_iload_n h0 2 dX6_tell_82 rfl ?_
      obtain ⟨ho3, h⟩ := h
      refine zx_callVi (As := [.int x1, .int x2]) (rest := []) hF (c_X6_of a0 x1 x2 (zsI m 600 a0 0 0) ka0 ho3) (zc_X6_tell_X6_of S) ka0 (by decide) rfl dX6_tell_83 rfl rfl (Nat.le_of_ble_eq_true rfl) ⟨Nat.zero_le _, Nat.zero_le _⟩ (fun r4 m4 hq => ?_)
      obtain ⟨hme, hq⟩ := hq
      subst m4
      replace h := h r4 hq
      exact zx_iret hF hQ dX6_tell_86 h
    by_cases q1 : x2 = 1
    · replace h := h.2.1 q1
      refine zx_tabIn (tgt := 80) h0 dX6_tell_16 (by rw [q1]; decide) (by rw [q1]; decide) (by rw [q1]; rfl) (by decide) ?_
      refine zx_aload_n h0 0 dX6_tell_80 rfl ?_
      refine zx_iload_n h0 1 dX6_tell_81 rfl ?_
      refine zx_iload_n h0 2 dX6_tell_82 rfl ?_
      obtain ⟨ho5, h⟩ := h
      refine zx_callVi (As := [.int x1, .int x2]) (rest := []) hF (c_X6_of a0 x1 x2 (zsI m 600 a0 0 0) ka0 ho5) (zc_X6_tell_X6_of S) ka0 (by decide) rfl dX6_tell_83 rfl rfl (Nat.le_of_ble_eq_true rfl) ⟨Nat.zero_le _, Nat.zero_le _⟩ (fun r6 m6 hq => ?_)
      obtain ⟨hme, hq⟩ := hq
      subst m6
      replace h := h r6 hq
      exact zx_iret hF hQ dX6_tell_86 h
    by_cases q2 : x2 = 2
    · replace h := h.2.2.1 q2
      refine zx_tabIn (tgt := 80) h0 dX6_tell_16 (by rw [q2]; decide) (by rw [q2]; decide) (by rw [q2]; rfl) (by decide) ?_
      refine zx_aload_n h0 0 dX6_tell_80 rfl ?_
      refine zx_iload_n h0 1 dX6_tell_81 rfl ?_
      refine zx_iload_n h0 2 dX6_tell_82 rfl ?_
      obtain ⟨ho7, h⟩ := h
      refine zx_callVi (As := [.int x1, .int x2]) (rest := []) hF (c_X6_of a0 x1 x2 (zsI m 600 a0 0 0) ka0 ho7) (zc_X6_tell_X6_of S) ka0 (by decide) rfl dX6_tell_83 rfl rfl (Nat.le_of_ble_eq_true rfl) ⟨Nat.zero_le _, Nat.zero_le _⟩ (fun r8 m8 hq => ?_)
      obtain ⟨hme, hq⟩ := hq
      subst m8
      replace h := h r8 hq
      exact zx_iret hF hQ dX6_tell_86 h
    by_cases q3 : x2 = 3
    · replace h := h.2.2.2.1 q3
      refine zx_tabIn (tgt := 80) h0 dX6_tell_16 (by rw [q3]; decide) (by rw [q3]; decide) (by rw [q3]; rfl) (by decide) ?_
      refine zx_aload_n h0 0 dX6_tell_80 rfl ?_
      refine zx_iload_n h0 1 dX6_tell_81 rfl ?_
      refine zx_iload_n h0 2 dX6_tell_82 rfl ?_
      obtain ⟨ho9, h⟩ := h
      refine zx_callVi (As := [.int x1, .int x2]) (rest := []) hF (c_X6_of a0 x1 x2 (zsI m 600 a0 0 0) ka0 ho9) (zc_X6_tell_X6_of S) ka0 (by decide) rfl dX6_tell_83 rfl rfl (Nat.le_of_ble_eq_true rfl) ⟨Nat.zero_le _, Nat.zero_le _⟩ (fun r10 m10 hq => ?_)
      obtain ⟨hme, hq⟩ := hq
      subst m10
      replace h := h r10 hq
      exact zx_iret hF hQ dX6_tell_86 h
    by_cases q4 : x2 = 4
    · replace h := h.2.2.2.2.1 q4
      refine zx_tabIn (tgt := 80) h0 dX6_tell_16 (by rw [q4]; decide) (by rw [q4]; decide) (by rw [q4]; rfl) (by decide) ?_
      refine zx_aload_n h0 0 dX6_tell_80 rfl ?_
      refine zx_iload_n h0 1 dX6_tell_81 rfl ?_
      refine zx_iload_n h0 2 dX6_tell_82 rfl ?_
      obtain ⟨ho11, h⟩ := h
      refine zx_callVi (As := [.int x1, .int x2]) (rest := []) hF (c_X6_of a0 x1 x2 (zsI m 600 a0 0 0) ka0 ho11) (zc_X6_tell_X6_of S) ka0 (by decide) rfl dX6_tell_83 rfl rfl (Nat.le_of_ble_eq_true rfl) ⟨Nat.zero_le _, Nat.zero_le _⟩ (fun r12 m12 hq => ?_)
      obtain ⟨hme, hq⟩ := hq
      subst m12
      replace h := h r12 hq
      exact zx_iret hF hQ dX6_tell_86 h
    by_cases q5 : x2 = 5
    · replace h := h.2.2.2.2.2.1 q5
      refine zx_tabIn (tgt := 80) h0 dX6_tell_16 (by rw [q5]; decide) (by rw [q5]; decide) (by rw [q5]; rfl) (by decide) ?_
      refine zx_aload_n h0 0 dX6_tell_80 rfl ?_
      refine zx_iload_n h0 1 dX6_tell_81 rfl ?_
      refine zx_iload_n h0 2 dX6_tell_82 rfl ?_
      obtain ⟨ho13, h⟩ := h
      refine zx_callVi (As := [.int x1, .int x2]) (rest := []) hF (c_X6_of a0 x1 x2 (zsI m 600 a0 0 0) ka0 ho13) (zc_X6_tell_X6_of S) ka0 (by decide) rfl dX6_tell_83 rfl rfl (Nat.le_of_ble_eq_true rfl) ⟨Nat.zero_le _, Nat.zero_le _⟩ (fun r14 m14 hq => ?_)
      obtain ⟨hme, hq⟩ := hq
      subst m14
      replace h := h r14 hq
      exact zx_iret hF hQ dX6_tell_86 h
    by_cases q6 : x2 = 6
    · replace h := h.2.2.2.2.2.2.1 q6
      refine zx_tabIn (tgt := 87) h0 dX6_tell_16 (by rw [q6]; decide) (by rw [q6]; decide) (by rw [q6]; rfl) (by decide) ?_
      refine zx_aload_n h0 0 dX6_tell_87 rfl ?_
      refine zx_iload_n h0 1 dX6_tell_88 rfl ?_
      obtain ⟨ho15, h⟩ := h
      refine zx_callVi (As := [.int x1]) (rest := []) hF (c_X6_leastOf a0 x1 (zsI m 600 a0 0 0) ka0 ho15) (zc_X6_tell_X6_leastOf S) ka0 (by decide) rfl dX6_tell_89 rfl rfl (Nat.le_of_ble_eq_true rfl) ⟨Nat.zero_le _, Nat.zero_le _⟩ (fun r16 m16 hq => ?_)
      obtain ⟨hme, hq⟩ := hq
      subst m16
      replace h := h r16 hq
      exact zx_iret hF hQ dX6_tell_92 h
    by_cases q7 : x2 = 7
    · replace h := h.2.2.2.2.2.2.2.1 q7
      refine zx_tabIn (tgt := 93) h0 dX6_tell_16 (by rw [q7]; decide) (by rw [q7]; decide) (by rw [q7]; rfl) (by decide) ?_
      refine zx_aload_n h0 0 dX6_tell_93 rfl ?_
      refine zx_iload_n h0 1 dX6_tell_94 rfl ?_
      obtain ⟨ho17, h⟩ := h
      refine zx_callVi (As := [.int x1]) (rest := []) hF (c_X6_mostOf a0 x1 (zsI m 600 a0 0 0) ka0 ho17) (zc_X6_tell_X6_mostOf S) ka0 (by decide) rfl dX6_tell_95 rfl rfl (Nat.le_of_ble_eq_true rfl) ⟨Nat.zero_le _, Nat.zero_le _⟩ (fun r18 m18 hq => ?_)
      obtain ⟨hme, hq⟩ := hq
      subst m18
      replace h := h r18 hq
      exact zx_iret hF hQ dX6_tell_98 h
    by_cases q8 : x2 = 8
    · replace h := h.2.2.2.2.2.2.2.2.1 q8
      refine zx_tabIn (tgt := 99) h0 dX6_tell_16 (by rw [q8]; decide) (by rw [q8]; decide) (by rw [q8]; rfl) (by decide) ?_
      refine zx_aload_n h0 0 dX6_tell_99 rfl ?_
      refine zx_iload_n h0 1 dX6_tell_100 rfl ?_
      refine zx_iconst (v := 2) h0 dX6_tell_101 (by decide) ?_
      obtain ⟨ho19, h⟩ := h
      refine zx_callVi (As := [.int x1, .int 2]) (rest := []) hF (c_X6_is a0 x1 2 (zsI m 600 a0 0 0) ka0 ho19) (zc_X6_tell_X6_is S) ka0 (by decide) rfl dX6_tell_102 rfl rfl (Nat.le_of_ble_eq_true rfl) ⟨Nat.zero_le _, Nat.zero_le _⟩ (fun r20 m20 hq => ?_)
      obtain ⟨hme, hq⟩ := hq
      subst m20
      replace h := h r20 hq
      refine zx_if_eq (tgt := 112) h0 dX6_tell_105 (by decide) (fun q => ?_) (fun q => ?_)
      · replace h := h.1 q
        refine zx_aload_n h0 0 dX6_tell_112 rfl ?_
        refine zx_iload_n h0 1 dX6_tell_113 rfl ?_
        refine zx_iconst (v := (-1)) h0 dX6_tell_114 (by decide) ?_
        obtain ⟨ho21, h⟩ := h
        refine zx_callVi (As := [.int x1, .int (-1)]) (rest := []) hF (c_X6_twins a0 x1 (-1) (zsI m 600 a0 0 0) ka0 ho21) (zc_X6_tell_X6_twins S) ka0 (by decide) rfl dX6_tell_115 rfl rfl (Nat.le_of_ble_eq_true rfl) ⟨Nat.zero_le _, Nat.zero_le _⟩ (fun r22 m22 hq => ?_)
        obtain ⟨hme, hq⟩ := hq
        subst m22
        replace h := h r22 hq
        exact zx_iret hF hQ dX6_tell_118 h
      · replace h := h.2 q
        refine zx_iconst (v := 0) h0 dX6_tell_108 (by decide) ?_
        refine zx_goto (tgt := 118) h0 dX6_tell_109 (by decide) ?_
        exact zx_iret hF hQ dX6_tell_118 h
    by_cases q9 : x2 = 9
    · replace h := h.2.2.2.2.2.2.2.2.2.1 q9
      refine zx_tabIn (tgt := 119) h0 dX6_tell_16 (by rw [q9]; decide) (by rw [q9]; decide) (by rw [q9]; rfl) (by decide) ?_
      refine zx_aload_n h0 0 dX6_tell_119 rfl ?_
      refine zx_iload_n h0 1 dX6_tell_120 rfl ?_
      refine zx_bipush (v := 7) h0 dX6_tell_121 (by decide) ?_
      obtain ⟨ho23, h⟩ := h
      refine zx_callVi (As := [.int x1, .int 7]) (rest := []) hF (c_X6_of a0 x1 7 (zsI m 600 a0 0 0) ka0 ho23) (zc_X6_tell_X6_of S) ka0 (by decide) rfl dX6_tell_123 rfl rfl (Nat.le_of_ble_eq_true rfl) ⟨Nat.zero_le _, Nat.zero_le _⟩ (fun r24 m24 hq => ?_)
      obtain ⟨hme, hq⟩ := hq
      subst m24
      replace h := h r24 hq
      exact zx_iret hF hQ dX6_tell_126 h
    by_cases q10 : x2 = 10
    · replace h := h.2.2.2.2.2.2.2.2.2.2.1 q10
      refine zx_tabIn (tgt := 127) h0 dX6_tell_16 (by rw [q10]; decide) (by rw [q10]; decide) (by rw [q10]; rfl) (by decide) ?_
      refine zx_aload_n h0 0 dX6_tell_127 rfl ?_
      refine zx_iload_n h0 1 dX6_tell_128 rfl ?_
      refine zx_bipush (v := 8) h0 dX6_tell_129 (by decide) ?_
      obtain ⟨ho25, h⟩ := h
      refine zx_callVi (As := [.int x1, .int 8]) (rest := []) hF (c_X6_of a0 x1 8 (zsI m 600 a0 0 0) ka0 ho25) (zc_X6_tell_X6_of S) ka0 (by decide) rfl dX6_tell_131 rfl rfl (Nat.le_of_ble_eq_true rfl) ⟨Nat.zero_le _, Nat.zero_le _⟩ (fun r26 m26 hq => ?_)
      obtain ⟨hme, hq⟩ := hq
      subst m26
      replace h := h r26 hq
      exact zx_iret hF hQ dX6_tell_134 h
    by_cases q11 : x2 = 11
    · replace h := h.2.2.2.2.2.2.2.2.2.2.2 q11
      refine zx_tabIn (tgt := 135) h0 dX6_tell_16 (by rw [q11]; decide) (by rw [q11]; decide) (by rw [q11]; rfl) (by decide) ?_
      refine zx_aload_n h0 0 dX6_tell_135 rfl ?_
      refine zx_iload_n h0 1 dX6_tell_136 rfl ?_
      refine zx_bipush (v := 9) h0 dX6_tell_137 (by decide) ?_
      obtain ⟨ho27, h⟩ := h
      refine zx_callVi (As := [.int x1, .int 9]) (rest := []) hF (c_X6_of a0 x1 9 (zsI m 600 a0 0 0) ka0 ho27) (zc_X6_tell_X6_of S) ka0 (by decide) rfl dX6_tell_139 rfl rfl (Nat.le_of_ble_eq_true rfl) ⟨Nat.zero_le _, Nat.zero_le _⟩ (fun r28 m28 hq => ?_)
      obtain ⟨hme, hq⟩ := hq
      subst m28
      replace h := h r28 hq
      exact zx_iret hF hQ dX6_tell_142 h
    exact absurd (z_out11 q0 q1 q2 q3 q4 q5 q6 q7 q8 q9 q10 q11) hout
  · replace h := h.2 q
    refine zx_iconst (v := (-1)) h0 dX6_tell_13 (by decide) ?_
    exact zx_iret hF hQ dX6_tell_14 h
theorem zn_X6_sumOf_61 : Cond.fieldLink RX6 61 RX6 (TX6 17).2.1 (TX6 17).2.2.1 ∈ wsX6_sumOf := List.mem_of_getElem? (i := 2) rfl
theorem zi_X6_sumOf_6 : ∀ w ∈ u_ws RX6 TX6 50, w ∈ wsX6_sumOf := fun _ h => List.mem_cons_of_mem _ (List.mem_append_right _ h)
theorem zn_X6_sumOf_55 : Cond.fieldLink RX6 55 RX6 (TX6 15).2.1 (TX6 15).2.2.1 ∈ wsX6_sumOf := List.mem_of_getElem? (i := 1) rfl
theorem zc_X6_sumOf_X6_of {C : zC} {G : zG} {Qc : Array Value → State → Outcome → State → Prop} (S : St_X6_sumOf C G Qc) : CallW (zRm C) (zs C) (zar C) RX6 RX6 153 yX6_of cX6_of 3 (some .int) wsX6_of rm_X6_of 0 0 2 := cwV 2 S.1.1.2.2.2.2 gX6_sumOf_X6_of rfl rfl rfl (by decide +kernel) (by rw [S.2.2]; exact ⟨Nat.le_of_ble_eq_true rfl, Nat.le_of_ble_eq_true rfl⟩)
set_option maxRecDepth 100000 in
set_option maxHeartbeats 4000000 in
theorem sg_X6_sumOf_0 {C : zC} {G : zG} {Qc : Array Value → State → Outcome → State → Prop} (S : St_X6_sumOf C G Qc) {a0 : Nat} {x1 : Int32} {x2 : Int32} {m : zM} (ka0 : zK G a0 = some (6, a0))
    (h : Pt_X6_sumOf_5 C G a0 x1 x2 0 0 m) : Pt_X6_sumOf_0 C G a0 x1 x2 m := by
  obtain ⟨hF, hQ, hR⟩ := id S
  have h0 : zF0 C cX6_sumOf 6 wsX6_sumOf RX6 := hF.1
  have hL := hF.2.2.1
  unfold Pt_X6_sumOf_0
  refine zx_lconst (v := 0) h0 dX6_sumOf_0 (by decide) ?_
  refine zx_lstore_n (L' := [(3, .long 0), (0, .ref a0), (1, .int x1), (2, .int x2)]) h0 dX6_sumOf_1 (by decide) rfl ?_
  refine zx_iconst (v := 0) h0 dX6_sumOf_2 (by decide) ?_
  refine zx_istore (L' := [(5, .int 0), (3, .long 0), (0, .ref a0), (1, .int x1), (2, .int x2)]) h0 dX6_sumOf_3 (by decide) rfl ?_
  exact zx_sub [2, 3, 4, 1, 0] rfl h
set_option maxRecDepth 100000 in
set_option maxHeartbeats 4000000 in
theorem sg_X6_sumOf_5 {C : zC} {G : zG} {Qc : Array Value → State → Outcome → State → Prop} (S : St_X6_sumOf C G Qc) {P_X6_of : Nat → Int32 → Int32 → zM → Prop} {Q_X6_of : Nat → Int32 → Int32 → zM → Int32 → Prop} (c_X6_of : Con_X6_of (zl C) G P_X6_of Q_X6_of) {a0 : Nat} {x1 : Int32} {x2 : Int32} {l3 : Int64} {x5 : Int32} {m : zM} (ka0 : zK G a0 = some (6, a0))
    (h : (¬ x2 = 3 → ((P_X6_of a0 x1 9 m) ∧ (∀ (r2 : Int32), Q_X6_of a0 x1 9 m r2 → (Pt_X6_sumOf_29 C G a0 x1 x2 l3 x5 r2 x5 m)))) ∧ (x2 = 3 → ((P_X6_of a0 x1 8 m) ∧ (∀ (r4 : Int32), Q_X6_of a0 x1 8 m r4 → (Pt_X6_sumOf_29 C G a0 x1 x2 l3 x5 r4 x5 m))))) : Pt_X6_sumOf_5 C G a0 x1 x2 l3 x5 m := by
  obtain ⟨hF, hQ, hR⟩ := id S
  have h0 : zF0 C cX6_sumOf 6 wsX6_sumOf RX6 := hF.1
  have hL := hF.2.2.1
  unfold Pt_X6_sumOf_5
  refine zx_iload h0 4 dX6_sumOf_5 rfl ?_
  refine zx_iload_n h0 2 dX6_sumOf_7 rfl ?_
  refine zx_iconst (v := 3) h0 dX6_sumOf_8 (by decide) ?_
  refine zx_icmp_ne (tgt := 22) h0 dX6_sumOf_9 (by decide) (fun q => ?_) (fun q => ?_)
  · replace h := h.1 q
    refine zx_aload_n h0 0 dX6_sumOf_22 rfl ?_
    refine zx_iload_n h0 1 dX6_sumOf_23 rfl ?_
    refine zx_bipush (v := 9) h0 dX6_sumOf_24 (by decide) ?_
    obtain ⟨ho1, h⟩ := h
    refine zx_callVi (As := [.int x1, .int 9]) (rest := [.int x5]) hF (c_X6_of a0 x1 9 m ka0 ho1) (zc_X6_sumOf_X6_of S) ka0 (by decide) rfl dX6_sumOf_26 rfl rfl (Nat.le_of_ble_eq_true rfl) ⟨Nat.zero_le _, Nat.zero_le _⟩ (fun r2 m2 hq => ?_)
    obtain ⟨hme, hq⟩ := hq
    subst m2
    replace h := h r2 hq
    exact zx_sub [0, 1, 2, 3, 4] rfl h
  · replace h := h.2 q
    refine zx_aload_n h0 0 dX6_sumOf_12 rfl ?_
    refine zx_iload_n h0 1 dX6_sumOf_13 rfl ?_
    refine zx_bipush (v := 8) h0 dX6_sumOf_14 (by decide) ?_
    obtain ⟨ho3, h⟩ := h
    refine zx_callVi (As := [.int x1, .int 8]) (rest := [.int x5]) hF (c_X6_of a0 x1 8 m ka0 ho3) (zc_X6_sumOf_X6_of S) ka0 (by decide) rfl dX6_sumOf_16 rfl rfl (Nat.le_of_ble_eq_true rfl) ⟨Nat.zero_le _, Nat.zero_le _⟩ (fun r4 m4 hq => ?_)
    obtain ⟨hme, hq⟩ := hq
    subst m4
    replace h := h r4 hq
    refine zx_goto (tgt := 29) h0 dX6_sumOf_19 (by decide) ?_
    exact zx_sub [0, 1, 2, 3, 4] rfl h
set_option maxRecDepth 100000 in
set_option maxHeartbeats 4000000 in
theorem sg_X6_sumOf_29 {C : zC} {G : zG} {Qc : Array Value → State → Outcome → State → Prop} (S : St_X6_sumOf C G Qc) {a0 : Nat} {x1 : Int32} {x2 : Int32} {l3 : Int64} {x5 : Int32} {s0 : Int32} {s1 : Int32} {m : zM} (ka0 : zK G a0 = some (6, a0))
    (h : (s0 ≤ s1 → (zRet C G Qc (some (.long l3)) m)) ∧ (¬ s0 ≤ s1 → ((¬ x2 = 3 → ((vp_in ((4 * x1) + x5) 256) ∧ (Pt_X6_sumOf_5 C G a0 x1 x2 (l3 + (zJ m 1617 a0 (((4 * x1) + x5).toNatClampNeg))) (x5 + 1) m))) ∧ (x2 = 3 → ((vp_in ((4 * x1) + x5) 256) ∧ (Pt_X6_sumOf_5 C G a0 x1 x2 (l3 + (zJ m 1615 a0 (((4 * x1) + x5).toNatClampNeg))) (x5 + 1) m)))))) : Pt_X6_sumOf_29 C G a0 x1 x2 l3 x5 s0 s1 m := by
  obtain ⟨hF, hQ, hR⟩ := id S
  have h0 : zF0 C cX6_sumOf 6 wsX6_sumOf RX6 := hF.1
  have hL := hF.2.2.1
  unfold Pt_X6_sumOf_29
  refine zx_icmp_ge (tgt := 71) h0 dX6_sumOf_29 (by decide) (fun q => ?_) (fun q => ?_)
  · replace h := h.1 q
    refine zx_lload_n h0 3 dX6_sumOf_71 rfl ?_
    exact zx_lret hF hQ dX6_sumOf_72 h
  · replace h := h.2 q
    refine zx_lload_n h0 3 dX6_sumOf_32 rfl ?_
    refine zx_iload_n h0 2 dX6_sumOf_33 rfl ?_
    refine zx_iconst (v := 3) h0 dX6_sumOf_34 (by decide) ?_
    refine zx_icmp_ne (tgt := 52) h0 dX6_sumOf_35 (by decide) (fun q => ?_) (fun q => ?_)
    · replace h := h.1 q
      refine zx_aload_n h0 0 dX6_sumOf_52 rfl ?_
      refine zx_get hF ka0 (by decide) rfl zi_X6_sumOf_6 17 (by decide) zn_X6_sumOf_61 rfl rfl dX6_sumOf_53 ?_
      refine zx_iconst (v := 4) h0 dX6_sumOf_56 (by decide) ?_
      refine zx_iload_n h0 1 dX6_sumOf_57 rfl ?_
      refine zx_imul h0 dX6_sumOf_58 ?_
      refine zx_iload h0 4 dX6_sumOf_59 rfl ?_
      refine zx_iadd h0 dX6_sumOf_61 ?_
      obtain ⟨ho1, h⟩ := h
      refine zx_lald (j := ((4 * x1) + x5).toNatClampNeg) hF (zL_6_17 hL ka0) (by decide) rfl rfl ho1 rfl dX6_sumOf_62 ?_
      refine zx_ladd h0 dX6_sumOf_63 ?_
      refine zx_lstore_n (L' := [(3, .long (l3 + (zJ m 1617 a0 (((4 * x1) + x5).toNatClampNeg)))), (0, .ref a0), (1, .int x1), (2, .int x2), (5, .int x5)]) h0 dX6_sumOf_64 (by decide) rfl ?_
      refine zx_iinc (v := (x5 + 1)) (L' := [(5, .int (x5 + 1)), (3, .long (l3 + (zJ m 1617 a0 (((4 * x1) + x5).toNatClampNeg)))), (0, .ref a0), (1, .int x1), (2, .int x2)]) h0 4 dX6_sumOf_65 rfl rfl (by decide) rfl ?_
      refine zx_goto (tgt := 5) h0 dX6_sumOf_68 (by decide) ?_
      exact zx_sub [2, 3, 4, 1, 0] rfl h
    · replace h := h.2 q
      refine zx_aload_n h0 0 dX6_sumOf_38 rfl ?_
      refine zx_get hF ka0 (by decide) rfl zi_X6_sumOf_6 15 (by decide) zn_X6_sumOf_55 rfl rfl dX6_sumOf_39 ?_
      refine zx_iconst (v := 4) h0 dX6_sumOf_42 (by decide) ?_
      refine zx_iload_n h0 1 dX6_sumOf_43 rfl ?_
      refine zx_imul h0 dX6_sumOf_44 ?_
      refine zx_iload h0 4 dX6_sumOf_45 rfl ?_
      refine zx_iadd h0 dX6_sumOf_47 ?_
      obtain ⟨ho2, h⟩ := h
      refine zx_lald (j := ((4 * x1) + x5).toNatClampNeg) hF (zL_6_15 hL ka0) (by decide) rfl rfl ho2 rfl dX6_sumOf_48 ?_
      refine zx_goto (tgt := 63) h0 dX6_sumOf_49 (by decide) ?_
      refine zx_ladd h0 dX6_sumOf_63 ?_
      refine zx_lstore_n (L' := [(3, .long (l3 + (zJ m 1615 a0 (((4 * x1) + x5).toNatClampNeg)))), (0, .ref a0), (1, .int x1), (2, .int x2), (5, .int x5)]) h0 dX6_sumOf_64 (by decide) rfl ?_
      refine zx_iinc (v := (x5 + 1)) (L' := [(5, .int (x5 + 1)), (3, .long (l3 + (zJ m 1615 a0 (((4 * x1) + x5).toNatClampNeg)))), (0, .ref a0), (1, .int x1), (2, .int x2)]) h0 4 dX6_sumOf_65 rfl rfl (by decide) rfl ?_
      refine zx_goto (tgt := 5) h0 dX6_sumOf_68 (by decide) ?_
      exact zx_sub [2, 3, 4, 1, 0] rfl h
theorem zn_X6_money_129 : Cond.fieldLink RX6 129 RX6 (TX6 0).2.1 (TX6 0).2.2.1 ∈ wsX6_money := List.mem_of_getElem? (i := 1) rfl
theorem zi_X6_money_6 : ∀ w ∈ u_ws RX6 TX6 50, w ∈ wsX6_money := fun _ h => List.mem_cons_of_mem _ (List.mem_append_right _ h)
theorem zn_X6_money_k314 : Cond.constantLong RX6 314 (-1) ∈ wsX6_money := List.mem_of_getElem? (i := 2) rfl
theorem zn_X6_money_61 : Cond.fieldLink RX6 61 RX6 (TX6 17).2.1 (TX6 17).2.2.1 ∈ wsX6_money := List.mem_of_getElem? (i := 7) rfl
theorem zn_X6_money_55 : Cond.fieldLink RX6 55 RX6 (TX6 15).2.1 (TX6 15).2.2.1 ∈ wsX6_money := List.mem_of_getElem? (i := 6) rfl
theorem zn_X6_money_40 : Cond.fieldLink RX6 40 RX6 (TX6 10).2.1 (TX6 10).2.2.1 ∈ wsX6_money := List.mem_of_getElem? (i := 3) rfl
theorem zn_X6_money_43 : Cond.fieldLink RX6 43 RX6 (TX6 11).2.1 (TX6 11).2.2.1 ∈ wsX6_money := List.mem_of_getElem? (i := 4) rfl
theorem zn_X6_money_46 : Cond.fieldLink RX6 46 RX6 (TX6 12).2.1 (TX6 12).2.2.1 ∈ wsX6_money := List.mem_of_getElem? (i := 5) rfl
theorem zc_X6_money_X6_isClaim {C : zC} {G : zG} {Qc : Array Value → State → Outcome → State → Prop} (S : St_X6_money C G Qc) : CallW (zRm C) (zs C) (zar C) RX6 RX6 149 yX6_isClaim cX6_isClaim 2 (some .boolean) wsX6_isClaim rm_X6_isClaim 0 0 1 := cwV 1 S.1.1.2.2.2.2 gX6_money_X6_isClaim rfl rfl rfl (by decide +kernel) (by rw [S.2.2]; exact ⟨Nat.le_of_ble_eq_true rfl, Nat.le_of_ble_eq_true rfl⟩)
theorem zc_X6_money_X6_of {C : zC} {G : zG} {Qc : Array Value → State → Outcome → State → Prop} (S : St_X6_money C G Qc) : CallW (zRm C) (zs C) (zar C) RX6 RX6 153 yX6_of cX6_of 3 (some .int) wsX6_of rm_X6_of 0 0 2 := cwV 2 S.1.1.2.2.2.2 gX6_money_X6_of rfl rfl rfl (by decide +kernel) (by rw [S.2.2]; exact ⟨Nat.le_of_ble_eq_true rfl, Nat.le_of_ble_eq_true rfl⟩)
theorem zc_X6_money_X6_in {C : zC} {G : zG} {Qc : Array Value → State → Outcome → State → Prop} (S : St_X6_money C G Qc) : CallB (zRm C) (zs C) (zar C) RX6 145 yX6_in cX6_in 3 (some .boolean) wsX6_in rm_X6_in 0 0 3 ∧ (Cond.static yX6_in).before (zar C) (zs C) = true := cwS 3 S.1.1.2.2.2.2 gX6_money_X6_in rfl rfl rfl (by decide +kernel) (by rw [S.2.2]; exact ⟨Nat.le_of_ble_eq_true rfl, Nat.le_of_ble_eq_true rfl⟩)
theorem zc_X6_money_X6_all {C : zC} {G : zG} {Qc : Array Value → State → Outcome → State → Prop} (S : St_X6_money C G Qc) : CallW (zRm C) (zs C) (zar C) RX6 RX6 296 yX6_all cX6_all 4 (some .long) wsX6_all rm_X6_all 0 0 0 := cwV 0 S.1.1.2.2.2.2 gX6_money_X6_all rfl rfl rfl (by decide +kernel) (by rw [S.2.2]; exact ⟨Nat.le_of_ble_eq_true rfl, Nat.le_of_ble_eq_true rfl⟩)
theorem zc_X6_money_X6_worst {C : zC} {G : zG} {Qc : Array Value → State → Outcome → State → Prop} (S : St_X6_money C G Qc) : CallW (zRm C) (zs C) (zar C) RX6 RX6 299 yX6_worst cX6_worst 4 (some .long) wsX6_worst rm_X6_worst 0 0 2 := cwV 2 S.1.1.2.2.2.2 gX6_money_X6_worst rfl rfl rfl (by decide +kernel) (by rw [S.2.2]; exact ⟨Nat.le_of_ble_eq_true rfl, Nat.le_of_ble_eq_true rfl⟩)
theorem zc_X6_money_X6_sumOf {C : zC} {G : zG} {Qc : Array Value → State → Outcome → State → Prop} (S : St_X6_money C G Qc) : CallW (zRm C) (zs C) (zar C) RX6 RX6 316 yX6_sumOf cX6_sumOf 6 (some .long) wsX6_sumOf rm_X6_sumOf 0 0 2 := cwV 2 S.1.1.2.2.2.2 gX6_money_X6_sumOf rfl rfl rfl (by decide +kernel) (by rw [S.2.2]; exact ⟨Nat.le_of_ble_eq_true rfl, Nat.le_of_ble_eq_true rfl⟩)
set_option maxRecDepth 100000 in
set_option maxHeartbeats 4000000 in
theorem sg_X6_money_0 {C : zC} {G : zG} {Qc : Array Value → State → Outcome → State → Prop} (S : St_X6_money C G Qc) {P_X6_isClaim : Nat → Int32 → zM → Prop} {Q_X6_isClaim : Nat → Int32 → zM → Int32 → Prop} (c_X6_isClaim : Con_X6_isClaim (zl C) G P_X6_isClaim Q_X6_isClaim) {P_X6_of : Nat → Int32 → Int32 → zM → Prop} {Q_X6_of : Nat → Int32 → Int32 → zM → Int32 → Prop} (c_X6_of : Con_X6_of (zl C) G P_X6_of Q_X6_of) {P_X6_in : Int32 → Int32 → Int32 → zM → Prop} {Q_X6_in : Int32 → Int32 → Int32 → zM → Int32 → Prop} (c_X6_in : Con_X6_in (zl C) G P_X6_in Q_X6_in) {P_X6_all : Nat → zM → Prop} {Q_X6_all : Nat → zM → Int64 → Prop} (c_X6_all : Con_X6_all (zl C) G P_X6_all Q_X6_all) {P_X6_worst : Nat → Int32 → Int64 → zM → Prop} {Q_X6_worst : Nat → Int32 → Int64 → zM → Int64 → Prop} (c_X6_worst : Con_X6_worst (zl C) G P_X6_worst Q_X6_worst) {P_X6_sumOf : Nat → Int32 → Int32 → zM → Prop} {Q_X6_sumOf : Nat → Int32 → Int32 → zM → Int64 → Prop} (c_X6_sumOf : Con_X6_sumOf (zl C) G P_X6_sumOf Q_X6_sumOf) {a0 : Nat} {x1 : Int32} {x2 : Int32} {m : zM} (ka0 : zK G a0 = some (6, a0))
    (h : (P_X6_isClaim a0 x1 (zsI m 600 a0 0 0)) ∧ (∀ (r2 : Int32), Q_X6_isClaim a0 x1 (zsI m 600 a0 0 0) r2 → ((¬ r2 = 0 → (((x2).toInt < 0 ∨ 5 < (x2).toInt → ((P_X6_of a0 x1 8 (zsI m 600 a0 0 0)) ∧ (∀ (r4 : Int32), Q_X6_of a0 x1 8 (zsI m 600 a0 0 0) r4 → ((P_X6_in x2 10 (9 + r4) (zsI m 600 a0 0 0)) ∧ (∀ (r6 : Int32), Q_X6_in x2 10 (9 + r4) (zsI m 600 a0 0 0) r6 → ((r6 = 0 → ((P_X6_of a0 x1 9 (zsI m 600 a0 0 0)) ∧ (∀ (r8 : Int32), Q_X6_of a0 x1 9 (zsI m 600 a0 0 0) r8 → ((P_X6_in x2 20 (19 + r8) (zsI m 600 a0 0 0)) ∧ (∀ (r10 : Int32), Q_X6_in x2 20 (19 + r8) (zsI m 600 a0 0 0) r10 → ((r10 = 0 → (zRet C G Qc (some (.long (-1))) (zsI m 600 a0 0 0))) ∧ (¬ r10 = 0 → ((vp_in (((4 * x1) + x2) - 20) 256) ∧ (zRet C G Qc (some (.long (zJ m 1617 a0 ((((4 * x1) + x2) - 20).toNatClampNeg)))) (zsI m 600 a0 0 0)))))))))) ∧ (¬ r6 = 0 → ((vp_in (((4 * x1) + x2) - 10) 256) ∧ (zRet C G Qc (some (.long (zJ m 1615 a0 ((((4 * x1) + x2) - 10).toNatClampNeg)))) (zsI m 600 a0 0 0)))))))))) ∧ (x2 = 0 → ((P_X6_all a0 (zsI m 600 a0 0 0)) ∧ (∀ (r14 : Int64), Q_X6_all a0 (zsI m 600 a0 0 0) r14 → ((P_X6_worst a0 x1 r14 (zsI m 600 a0 0 0)) ∧ (∀ (r16 : Int64), Q_X6_worst a0 x1 r14 (zsI m 600 a0 0 0) r16 → (zRet C G Qc (some (.long r16)) (zsI m 600 a0 0 0))))))) ∧ (x2 = 1 → ((vp_in x1 64) ∧ (zRet C G Qc (some (.long (zJ m 1610 a0 x1.toNatClampNeg))) (zsI m 600 a0 0 0)))) ∧ (x2 = 2 → ((vp_in x1 64) ∧ (zRet C G Qc (some (.long (zJ m 1611 a0 x1.toNatClampNeg))) (zsI m 600 a0 0 0)))) ∧ (x2 = 3 → ((P_X6_sumOf a0 x1 x2 (zsI m 600 a0 0 0)) ∧ (∀ (r20 : Int64), Q_X6_sumOf a0 x1 x2 (zsI m 600 a0 0 0) r20 → (zRet C G Qc (some (.long r20)) (zsI m 600 a0 0 0))))) ∧ (x2 = 4 → ((P_X6_sumOf a0 x1 x2 (zsI m 600 a0 0 0)) ∧ (∀ (r22 : Int64), Q_X6_sumOf a0 x1 x2 (zsI m 600 a0 0 0) r22 → (zRet C G Qc (some (.long r22)) (zsI m 600 a0 0 0))))) ∧ (x2 = 5 → ((vp_in x1 64) ∧ (zRet C G Qc (some (.long (zJ m 1612 a0 x1.toNatClampNeg))) (zsI m 600 a0 0 0)))))) ∧ (r2 = 0 → (zRet C G Qc (some (.long (-1))) (zsI m 600 a0 0 0)))))) : Pt_X6_money_0 C G a0 x1 x2 m := by
  obtain ⟨hF, hQ, hR⟩ := id S
  have h0 : zF0 C cX6_money 3 wsX6_money RX6 := hF.1
  have hL := hF.2.2.1
  unfold Pt_X6_money_0
  refine zx_aload_n h0 0 dX6_money_0 rfl ?_
  refine zx_iconst (v := 0) h0 dX6_money_1 (by decide) ?_
  refine zp_600 hF ka0 zi_X6_money_6 zn_X6_money_129 dX6_money_2 ?_
  refine zx_aload_n h0 0 dX6_money_5 rfl ?_
  refine zx_iload_n h0 1 dX6_money_6 rfl ?_
  obtain ⟨ho1, h⟩ := h
  refine zx_callVi (As := [.int x1]) (rest := []) hF (c_X6_isClaim a0 x1 (zsI m 600 a0 0 0) ka0 ho1) (zc_X6_money_X6_isClaim S) ka0 (by decide) rfl dX6_money_7 rfl rfl (Nat.le_of_ble_eq_true rfl) ⟨Nat.zero_le _, Nat.zero_le _⟩ (fun r2 m2 hq => ?_)
  obtain ⟨hme, hq⟩ := hq
  subst m2
  replace h := h r2 hq
  refine zx_if_ne (tgt := 17) h0 dX6_money_10 (by decide) (fun q => ?_) (fun q => ?_)
  · replace h := h.1 q
    refine zx_iload_n h0 2 dX6_money_17 rfl ?_
    by_cases hout : (x2).toInt < 0 ∨ 5 < (x2).toInt
    · replace h := h.1 hout
      refine zx_tabOut (tgt := 94) h0 dX6_money_18 hout (by decide) ?_
      refine zx_iload_n h0 2 dX6_money_94 rfl ?_
      refine zx_bipush (v := 10) h0 dX6_money_95 (by decide) ?_
      refine zx_bipush (v := 9) h0 dX6_money_97 (by decide) ?_
      refine zx_aload_n h0 0 dX6_money_99 rfl ?_
      refine zx_iload_n h0 1 dX6_money_100 rfl ?_
      refine zx_bipush (v := 8) h0 dX6_money_101 (by decide) ?_
      obtain ⟨ho3, h⟩ := h
      refine zx_callVi (As := [.int x1, .int 8]) (rest := [.int 9, .int 10, .int x2]) hF (c_X6_of a0 x1 8 (zsI m 600 a0 0 0) ka0 ho3) (zc_X6_money_X6_of S) ka0 (by decide) rfl dX6_money_103 rfl rfl (Nat.le_of_ble_eq_true rfl) ⟨Nat.zero_le _, Nat.zero_le _⟩ (fun r4 m4 hq => ?_)
      obtain ⟨hme, hq⟩ := hq
      subst m4
      replace h := h r4 hq
      refine zx_iadd h0 dX6_money_106 ?_
      obtain ⟨ho5, h⟩ := h
      refine zx_callSi (As := [.int x2, .int 10, .int (9 + r4)]) (rest := []) hF (c_X6_in x2 10 (9 + r4) (zsI m 600 a0 0 0)  ho5) (zc_X6_money_X6_in S)  dX6_money_107 rfl rfl (Nat.le_of_ble_eq_true rfl) ⟨Nat.zero_le _, Nat.zero_le _⟩ (fun r6 m6 hq => ?_)
      obtain ⟨hme, hq⟩ := hq
      subst m6
      replace h := h r6 hq
      refine zx_if_eq (tgt := 127) h0 dX6_money_110 (by decide) (fun q => ?_) (fun q => ?_)
      · replace h := h.1 q
        refine zx_iload_n h0 2 dX6_money_127 rfl ?_
        refine zx_bipush (v := 20) h0 dX6_money_128 (by decide) ?_
        refine zx_bipush (v := 19) h0 dX6_money_130 (by decide) ?_
        refine zx_aload_n h0 0 dX6_money_132 rfl ?_
        refine zx_iload_n h0 1 dX6_money_133 rfl ?_
        refine zx_bipush (v := 9) h0 dX6_money_134 (by decide) ?_
        obtain ⟨ho7, h⟩ := h
        refine zx_callVi (As := [.int x1, .int 9]) (rest := [.int 19, .int 20, .int x2]) hF (c_X6_of a0 x1 9 (zsI m 600 a0 0 0) ka0 ho7) (zc_X6_money_X6_of S) ka0 (by decide) rfl dX6_money_136 rfl rfl (Nat.le_of_ble_eq_true rfl) ⟨Nat.zero_le _, Nat.zero_le _⟩ (fun r8 m8 hq => ?_)
        obtain ⟨hme, hq⟩ := hq
        subst m8
        replace h := h r8 hq
        refine zx_iadd h0 dX6_money_139 ?_
        obtain ⟨ho9, h⟩ := h
        refine zx_callSi (As := [.int x2, .int 20, .int (19 + r8)]) (rest := []) hF (c_X6_in x2 20 (19 + r8) (zsI m 600 a0 0 0)  ho9) (zc_X6_money_X6_in S)  dX6_money_140 rfl rfl (Nat.le_of_ble_eq_true rfl) ⟨Nat.zero_le _, Nat.zero_le _⟩ (fun r10 m10 hq => ?_)
        obtain ⟨hme, hq⟩ := hq
        subst m10
        replace h := h r10 hq
        refine zx_if_eq (tgt := 162) h0 dX6_money_143 (by decide) (fun q => ?_) (fun q => ?_)
        · replace h := h.1 q
          refine zx_ldc2 (v := (-1)) h0 zn_X6_money_k314 dX6_money_162 ?_
          exact zx_lret hF hQ dX6_money_165 h
        · replace h := h.2 q
          refine zx_aload_n h0 0 dX6_money_146 rfl ?_
          refine zx_get hF ka0 (by decide) rfl zi_X6_money_6 17 (by decide) zn_X6_money_61 rfl rfl dX6_money_147 ?_
          refine zx_iconst (v := 4) h0 dX6_money_150 (by decide) ?_
          refine zx_iload_n h0 1 dX6_money_151 rfl ?_
          refine zx_imul h0 dX6_money_152 ?_
          refine zx_iload_n h0 2 dX6_money_153 rfl ?_
          refine zx_iadd h0 dX6_money_154 ?_
          refine zx_bipush (v := 20) h0 dX6_money_155 (by decide) ?_
          refine zx_isub h0 dX6_money_157 ?_
          obtain ⟨ho11, h⟩ := h
          refine zx_lald (j := (((4 * x1) + x2) - 20).toNatClampNeg) hF (zL_6_17 hL ka0) (by decide) rfl rfl ho11 rfl dX6_money_158 ?_
          refine zx_topJ (zJ_I) ?_
          refine zx_goto (tgt := 165) h0 dX6_money_159 (by decide) ?_
          exact zx_lret hF hQ dX6_money_165 h
      · replace h := h.2 q
        refine zx_aload_n h0 0 dX6_money_113 rfl ?_
        refine zx_get hF ka0 (by decide) rfl zi_X6_money_6 15 (by decide) zn_X6_money_55 rfl rfl dX6_money_114 ?_
        refine zx_iconst (v := 4) h0 dX6_money_117 (by decide) ?_
        refine zx_iload_n h0 1 dX6_money_118 rfl ?_
        refine zx_imul h0 dX6_money_119 ?_
        refine zx_iload_n h0 2 dX6_money_120 rfl ?_
        refine zx_iadd h0 dX6_money_121 ?_
        refine zx_bipush (v := 10) h0 dX6_money_122 (by decide) ?_
        refine zx_isub h0 dX6_money_124 ?_
        obtain ⟨ho12, h⟩ := h
        refine zx_lald (j := (((4 * x1) + x2) - 10).toNatClampNeg) hF (zL_6_15 hL ka0) (by decide) rfl rfl ho12 rfl dX6_money_125 ?_
        refine zx_topJ (zJ_I) ?_
        exact zx_lret hF hQ dX6_money_126 h
    replace h := h.2
    by_cases q0 : x2 = 0
    · replace h := h.1 q0
      refine zx_tabIn (tgt := 56) h0 dX6_money_18 (by rw [q0]; decide) (by rw [q0]; decide) (by rw [q0]; rfl) (by decide) ?_
      refine zx_aload_n h0 0 dX6_money_56 rfl ?_
      refine zx_iload_n h0 1 dX6_money_57 rfl ?_
      refine zx_aload_n h0 0 dX6_money_58 rfl ?_
      obtain ⟨ho13, h⟩ := h
      refine zx_callVl (As := []) (rest := [.int x1, .ref a0]) hF (c_X6_all a0 (zsI m 600 a0 0 0) ka0 ho13) (zc_X6_money_X6_all S) ka0 (by decide) rfl dX6_money_59 rfl rfl (Nat.le_of_ble_eq_true rfl) ⟨Nat.zero_le _, Nat.zero_le _⟩ (fun r14 m14 hq => ?_)
      obtain ⟨hme, hq⟩ := hq
      subst m14
      replace h := h r14 hq
      obtain ⟨ho15, h⟩ := h
      refine zx_callVl (As := [.int x1, .long r14]) (rest := []) hF (c_X6_worst a0 x1 r14 (zsI m 600 a0 0 0) ka0 ho15) (zc_X6_money_X6_worst S) ka0 (by decide) rfl dX6_money_62 rfl rfl (Nat.le_of_ble_eq_true rfl) ⟨Nat.zero_le _, Nat.zero_le _⟩ (fun r16 m16 hq => ?_)
      obtain ⟨hme, hq⟩ := hq
      subst m16
      replace h := h r16 hq
      exact zx_lret hF hQ dX6_money_65 h
    by_cases q1 : x2 = 1
    · replace h := h.2.1 q1
      refine zx_tabIn (tgt := 66) h0 dX6_money_18 (by rw [q1]; decide) (by rw [q1]; decide) (by rw [q1]; rfl) (by decide) ?_
      refine zx_aload_n h0 0 dX6_money_66 rfl ?_
      refine zx_get hF ka0 (by decide) rfl zi_X6_money_6 10 (by decide) zn_X6_money_40 rfl rfl dX6_money_67 ?_
      refine zx_iload_n h0 1 dX6_money_70 rfl ?_
      obtain ⟨ho17, h⟩ := h
      refine zx_lald (j := x1.toNatClampNeg) hF (zL_6_10 hL ka0) (by decide) rfl rfl ho17 rfl dX6_money_71 ?_
      refine zx_topJ (zJ_I) ?_
      exact zx_lret hF hQ dX6_money_72 h
    by_cases q2 : x2 = 2
    · replace h := h.2.2.1 q2
      refine zx_tabIn (tgt := 73) h0 dX6_money_18 (by rw [q2]; decide) (by rw [q2]; decide) (by rw [q2]; rfl) (by decide) ?_
      refine zx_aload_n h0 0 dX6_money_73 rfl ?_
      refine zx_get hF ka0 (by decide) rfl zi_X6_money_6 11 (by decide) zn_X6_money_43 rfl rfl dX6_money_74 ?_
      refine zx_iload_n h0 1 dX6_money_77 rfl ?_
      obtain ⟨ho18, h⟩ := h
      refine zx_lald (j := x1.toNatClampNeg) hF (zL_6_11 hL ka0) (by decide) rfl rfl ho18 rfl dX6_money_78 ?_
      refine zx_topJ (zJ_I) ?_
      exact zx_lret hF hQ dX6_money_79 h
    by_cases q3 : x2 = 3
    · replace h := h.2.2.2.1 q3
      refine zx_tabIn (tgt := 80) h0 dX6_money_18 (by rw [q3]; decide) (by rw [q3]; decide) (by rw [q3]; rfl) (by decide) ?_
      refine zx_aload_n h0 0 dX6_money_80 rfl ?_
      refine zx_iload_n h0 1 dX6_money_81 rfl ?_
      refine zx_iload_n h0 2 dX6_money_82 rfl ?_
      obtain ⟨ho19, h⟩ := h
      refine zx_callVl (As := [.int x1, .int x2]) (rest := []) hF (c_X6_sumOf a0 x1 x2 (zsI m 600 a0 0 0) ka0 ho19) (zc_X6_money_X6_sumOf S) ka0 (by decide) rfl dX6_money_83 rfl rfl (Nat.le_of_ble_eq_true rfl) ⟨Nat.zero_le _, Nat.zero_le _⟩ (fun r20 m20 hq => ?_)
      obtain ⟨hme, hq⟩ := hq
      subst m20
      replace h := h r20 hq
      exact zx_lret hF hQ dX6_money_86 h
    by_cases q4 : x2 = 4
    · replace h := h.2.2.2.2.1 q4
      refine zx_tabIn (tgt := 80) h0 dX6_money_18 (by rw [q4]; decide) (by rw [q4]; decide) (by rw [q4]; rfl) (by decide) ?_
      refine zx_aload_n h0 0 dX6_money_80 rfl ?_
      refine zx_iload_n h0 1 dX6_money_81 rfl ?_
      refine zx_iload_n h0 2 dX6_money_82 rfl ?_
      obtain ⟨ho21, h⟩ := h
      refine zx_callVl (As := [.int x1, .int x2]) (rest := []) hF (c_X6_sumOf a0 x1 x2 (zsI m 600 a0 0 0) ka0 ho21) (zc_X6_money_X6_sumOf S) ka0 (by decide) rfl dX6_money_83 rfl rfl (Nat.le_of_ble_eq_true rfl) ⟨Nat.zero_le _, Nat.zero_le _⟩ (fun r22 m22 hq => ?_)
      obtain ⟨hme, hq⟩ := hq
      subst m22
      replace h := h r22 hq
      exact zx_lret hF hQ dX6_money_86 h
    by_cases q5 : x2 = 5
    · replace h := h.2.2.2.2.2 q5
      refine zx_tabIn (tgt := 87) h0 dX6_money_18 (by rw [q5]; decide) (by rw [q5]; decide) (by rw [q5]; rfl) (by decide) ?_
      refine zx_aload_n h0 0 dX6_money_87 rfl ?_
      refine zx_get hF ka0 (by decide) rfl zi_X6_money_6 12 (by decide) zn_X6_money_46 rfl rfl dX6_money_88 ?_
      refine zx_iload_n h0 1 dX6_money_91 rfl ?_
      obtain ⟨ho23, h⟩ := h
      refine zx_lald (j := x1.toNatClampNeg) hF (zL_6_12 hL ka0) (by decide) rfl rfl ho23 rfl dX6_money_92 ?_
      refine zx_topJ (zJ_I) ?_
      exact zx_lret hF hQ dX6_money_93 h
    exact absurd (z_out5 q0 q1 q2 q3 q4 q5) hout
  · replace h := h.2 q
    refine zx_ldc2 (v := (-1)) h0 zn_X6_money_k314 dX6_money_13 ?_
    exact zx_lret hF hQ dX6_money_16 h
theorem zn_X6_fee_129 : Cond.fieldLink RX6 129 RX6 (TX6 0).2.1 (TX6 0).2.2.1 ∈ wsX6_fee := List.mem_of_getElem? (i := 1) rfl
theorem zi_X6_fee_6 : ∀ w ∈ u_ws RX6 TX6 50, w ∈ wsX6_fee := fun _ h => List.mem_cons_of_mem _ (List.mem_append_right _ h)
theorem zn_X6_fee_33 : Cond.fieldLink RX6 33 RX6 (TX6 8).2.1 (TX6 8).2.2.1 ∈ wsX6_fee := List.mem_of_getElem? (i := 2) rfl
theorem zn_X6_fee_37 : Cond.fieldLink RX6 37 RX6 (TX6 9).2.1 (TX6 9).2.2.1 ∈ wsX6_fee := List.mem_of_getElem? (i := 3) rfl
theorem zc_X6_fee_X6_isClaim {C : zC} {G : zG} {Qc : Array Value → State → Outcome → State → Prop} (S : St_X6_fee C G Qc) : CallW (zRm C) (zs C) (zar C) RX6 RX6 149 yX6_isClaim cX6_isClaim 2 (some .boolean) wsX6_isClaim rm_X6_isClaim 0 0 1 := cwV 1 S.1.1.2.2.2.2 gX6_fee_X6_isClaim rfl rfl rfl (by decide +kernel) (by rw [S.2.2]; exact ⟨Nat.le_of_ble_eq_true rfl, Nat.le_of_ble_eq_true rfl⟩)
theorem zc_X6_fee_X6_in {C : zC} {G : zG} {Qc : Array Value → State → Outcome → State → Prop} (S : St_X6_fee C G Qc) : CallB (zRm C) (zs C) (zar C) RX6 145 yX6_in cX6_in 3 (some .boolean) wsX6_in rm_X6_in 0 0 3 ∧ (Cond.static yX6_in).before (zar C) (zs C) = true := cwS 3 S.1.1.2.2.2.2 gX6_fee_X6_in rfl rfl rfl (by decide +kernel) (by rw [S.2.2]; exact ⟨Nat.le_of_ble_eq_true rfl, Nat.le_of_ble_eq_true rfl⟩)
set_option maxRecDepth 100000 in
set_option maxHeartbeats 4000000 in
theorem sg_X6_fee_0 {C : zC} {G : zG} {Qc : Array Value → State → Outcome → State → Prop} (S : St_X6_fee C G Qc) {P_X6_isClaim : Nat → Int32 → zM → Prop} {Q_X6_isClaim : Nat → Int32 → zM → Int32 → Prop} (c_X6_isClaim : Con_X6_isClaim (zl C) G P_X6_isClaim Q_X6_isClaim) {P_X6_in : Int32 → Int32 → Int32 → zM → Prop} {Q_X6_in : Int32 → Int32 → Int32 → zM → Int32 → Prop} (c_X6_in : Con_X6_in (zl C) G P_X6_in Q_X6_in) {a0 : Nat} {x1 : Int32} {x2 : Int32} {m : zM} (ka0 : zK G a0 = some (6, a0))
    (h : (P_X6_isClaim a0 x1 (zsI m 600 a0 0 0)) ∧ (∀ (r2 : Int32), Q_X6_isClaim a0 x1 (zsI m 600 a0 0 0) r2 → ((r2 = 0 → (zRet C G Qc (some (.int 0)) (zsI m 600 a0 0 0))) ∧ (¬ r2 = 0 → ((P_X6_in x2 0 40 (zsI m 600 a0 0 0)) ∧ (∀ (r4 : Int32), Q_X6_in x2 0 40 (zsI m 600 a0 0 0) r4 → ((r4 = 0 → (zRet C G Qc (some (.int 0)) (zsI m 600 a0 0 0))) ∧ (¬ r4 = 0 → (((zI m 1608 a0 0) = 0 → ((vp_in ((10 * x1) + 7) 640) ∧ (zRet C G Qc (some (.int 1)) (zsI (zsI m 600 a0 0 0) 1609 a0 (((10 * x1) + 7).toNatClampNeg) x2)))) ∧ (¬ (zI m 1608 a0 0) = 0 → (zRet C G Qc (some (.int 0)) (zsI m 600 a0 0 0)))))))))))) : Pt_X6_fee_0 C G a0 x1 x2 m := by
  obtain ⟨hF, hQ, hR⟩ := id S
  have h0 : zF0 C cX6_fee 3 wsX6_fee RX6 := hF.1
  have hL := hF.2.2.1
  unfold Pt_X6_fee_0
  refine zx_aload_n h0 0 dX6_fee_0 rfl ?_
  refine zx_iconst (v := 0) h0 dX6_fee_1 (by decide) ?_
  refine zp_600 hF ka0 zi_X6_fee_6 zn_X6_fee_129 dX6_fee_2 ?_
  refine zx_aload_n h0 0 dX6_fee_5 rfl ?_
  refine zx_iload_n h0 1 dX6_fee_6 rfl ?_
  obtain ⟨ho1, h⟩ := h
  refine zx_callVi (As := [.int x1]) (rest := []) hF (c_X6_isClaim a0 x1 (zsI m 600 a0 0 0) ka0 ho1) (zc_X6_fee_X6_isClaim S) ka0 (by decide) rfl dX6_fee_7 rfl rfl (Nat.le_of_ble_eq_true rfl) ⟨Nat.zero_le _, Nat.zero_le _⟩ (fun r2 m2 hq => ?_)
  obtain ⟨hme, hq⟩ := hq
  subst m2
  replace h := h r2 hq
  refine zx_if_eq (tgt := 32) h0 dX6_fee_10 (by decide) (fun q => ?_) (fun q => ?_)
  · replace h := h.1 q
    refine zx_iconst (v := 0) h0 dX6_fee_32 (by decide) ?_
    exact zx_zret hF hQ rfl dX6_fee_33 h
  · replace h := h.2 q
    refine zx_iload_n h0 2 dX6_fee_13 rfl ?_
    refine zx_iconst (v := 0) h0 dX6_fee_14 (by decide) ?_
    refine zx_bipush (v := 40) h0 dX6_fee_15 (by decide) ?_
    obtain ⟨ho3, h⟩ := h
    refine zx_callSi (As := [.int x2, .int 0, .int 40]) (rest := []) hF (c_X6_in x2 0 40 (zsI m 600 a0 0 0)  ho3) (zc_X6_fee_X6_in S)  dX6_fee_17 rfl rfl (Nat.le_of_ble_eq_true rfl) ⟨Nat.zero_le _, Nat.zero_le _⟩ (fun r4 m4 hq => ?_)
    obtain ⟨hme, hq⟩ := hq
    subst m4
    replace h := h r4 hq
    refine zx_if_eq (tgt := 32) h0 dX6_fee_20 (by decide) (fun q => ?_) (fun q => ?_)
    · replace h := h.1 q
      refine zx_iconst (v := 0) h0 dX6_fee_32 (by decide) ?_
      exact zx_zret hF hQ rfl dX6_fee_33 h
    · replace h := h.2 q
      refine zx_aload_n h0 0 dX6_fee_23 rfl ?_
      refine zx_get hF ka0 (by decide) rfl zi_X6_fee_6 8 (by decide) zn_X6_fee_33 rfl rfl dX6_fee_24 ?_
      refine zx_iconst (v := 0) h0 dX6_fee_27 (by decide) ?_
      refine zx_zald (j := 0) hF (zL_6_8 hL ka0) (by decide) rfl rfl (by unfold vp_in; decide) (by decide) dX6_fee_28 ?_
      refine zx_topI (zI_n (by decide)) ?_
      refine zx_if_eq (tgt := 34) h0 dX6_fee_29 (by decide) (fun q => ?_) (fun q => ?_)
      · replace h := h.1 q
        refine zx_aload_n h0 0 dX6_fee_34 rfl ?_
        refine zx_get hF ka0 (by decide) rfl zi_X6_fee_6 9 (by decide) zn_X6_fee_37 rfl rfl dX6_fee_35 ?_
        refine zx_bipush (v := 10) h0 dX6_fee_38 (by decide) ?_
        refine zx_iload_n h0 1 dX6_fee_40 rfl ?_
        refine zx_imul h0 dX6_fee_41 ?_
        refine zx_bipush (v := 7) h0 dX6_fee_42 (by decide) ?_
        refine zx_iadd h0 dX6_fee_44 ?_
        refine zx_iload_n h0 2 dX6_fee_45 rfl ?_
        obtain ⟨ho5, h⟩ := h
        refine zx_iast (j := ((10 * x1) + 7).toNatClampNeg) hF (zL_6_9 hL ka0) (by decide) rfl rfl ho5 rfl rfl (z_fit rfl) dX6_fee_46 ?_
        refine zx_iconst (v := 1) h0 dX6_fee_47 (by decide) ?_
        exact zx_zret hF hQ rfl dX6_fee_48 h
      · replace h := h.2 q
        refine zx_iconst (v := 0) h0 dX6_fee_32 (by decide) ?_
        exact zx_zret hF hQ rfl dX6_fee_33 h
theorem zn_X6_lien_129 : Cond.fieldLink RX6 129 RX6 (TX6 0).2.1 (TX6 0).2.2.1 ∈ wsX6_lien := List.mem_of_getElem? (i := 1) rfl
theorem zi_X6_lien_6 : ∀ w ∈ u_ws RX6 TX6 50, w ∈ wsX6_lien := fun _ h => List.mem_cons_of_mem _ (List.mem_append_right _ h)
theorem zn_X6_lien_k320 : Cond.constantLong RX6 320 1000000000 ∈ wsX6_lien := List.mem_of_getElem? (i := 2) rfl
theorem zn_X6_lien_33 : Cond.fieldLink RX6 33 RX6 (TX6 8).2.1 (TX6 8).2.2.1 ∈ wsX6_lien := List.mem_of_getElem? (i := 3) rfl
theorem zn_X6_lien_49 : Cond.fieldLink RX6 49 RX6 (TX6 13).2.1 (TX6 13).2.2.1 ∈ wsX6_lien := List.mem_of_getElem? (i := 4) rfl
theorem zn_X6_lien_52 : Cond.fieldLink RX6 52 RX6 (TX6 14).2.1 (TX6 14).2.2.1 ∈ wsX6_lien := List.mem_of_getElem? (i := 5) rfl
theorem zn_X6_lien_55 : Cond.fieldLink RX6 55 RX6 (TX6 15).2.1 (TX6 15).2.2.1 ∈ wsX6_lien := List.mem_of_getElem? (i := 6) rfl
theorem zn_X6_lien_37 : Cond.fieldLink RX6 37 RX6 (TX6 9).2.1 (TX6 9).2.2.1 ∈ wsX6_lien := List.mem_of_getElem? (i := 7) rfl
theorem zc_X6_lien_X6_isClaim {C : zC} {G : zG} {Qc : Array Value → State → Outcome → State → Prop} (S : St_X6_lien C G Qc) : CallW (zRm C) (zs C) (zar C) RX6 RX6 149 yX6_isClaim cX6_isClaim 2 (some .boolean) wsX6_isClaim rm_X6_isClaim 0 0 1 := cwV 1 S.1.1.2.2.2.2 gX6_lien_X6_isClaim rfl rfl rfl (by decide +kernel) (by rw [S.2.2]; exact ⟨Nat.le_of_ble_eq_true rfl, Nat.le_of_ble_eq_true rfl⟩)
theorem zc_X6_lien_X6_of {C : zC} {G : zG} {Qc : Array Value → State → Outcome → State → Prop} (S : St_X6_lien C G Qc) : CallW (zRm C) (zs C) (zar C) RX6 RX6 153 yX6_of cX6_of 3 (some .int) wsX6_of rm_X6_of 0 0 2 := cwV 2 S.1.1.2.2.2.2 gX6_lien_X6_of rfl rfl rfl (by decide +kernel) (by rw [S.2.2]; exact ⟨Nat.le_of_ble_eq_true rfl, Nat.le_of_ble_eq_true rfl⟩)
theorem zc_X6_lien_X6_in {C : zC} {G : zG} {Qc : Array Value → State → Outcome → State → Prop} (S : St_X6_lien C G Qc) : CallB (zRm C) (zs C) (zar C) RX6 145 yX6_in cX6_in 3 (some .boolean) wsX6_in rm_X6_in 0 0 3 ∧ (Cond.static yX6_in).before (zar C) (zs C) = true := cwS 3 S.1.1.2.2.2.2 gX6_lien_X6_in rfl rfl rfl (by decide +kernel) (by rw [S.2.2]; exact ⟨Nat.le_of_ble_eq_true rfl, Nat.le_of_ble_eq_true rfl⟩)
set_option maxRecDepth 100000 in
set_option maxHeartbeats 4000000 in
theorem sg_X6_lien_0 {C : zC} {G : zG} {Qc : Array Value → State → Outcome → State → Prop} (S : St_X6_lien C G Qc) {P_X6_isClaim : Nat → Int32 → zM → Prop} {Q_X6_isClaim : Nat → Int32 → zM → Int32 → Prop} (c_X6_isClaim : Con_X6_isClaim (zl C) G P_X6_isClaim Q_X6_isClaim) {P_X6_of : Nat → Int32 → Int32 → zM → Prop} {Q_X6_of : Nat → Int32 → Int32 → zM → Int32 → Prop} (c_X6_of : Con_X6_of (zl C) G P_X6_of Q_X6_of) {P_X6_in : Int32 → Int32 → Int32 → zM → Prop} {Q_X6_in : Int32 → Int32 → Int32 → zM → Int32 → Prop} (c_X6_in : Con_X6_in (zl C) G P_X6_in Q_X6_in) {a0 : Nat} {x1 : Int32} {x2 : Int32} {l3 : Int64} {m : zM} (ka0 : zK G a0 = some (6, a0))
    (h : (P_X6_isClaim a0 x1 (zsI m 600 a0 0 0)) ∧ (∀ (r2 : Int32), Q_X6_isClaim a0 x1 (zsI m 600 a0 0 0) r2 → ((r2 = 0 → (zRet C G Qc (some (.int (-1))) (zsI m 600 a0 0 0))) ∧ (¬ r2 = 0 → ((P_X6_of a0 x1 8 (zsI m 600 a0 0 0)) ∧ (∀ (r4 : Int32), Q_X6_of a0 x1 8 (zsI m 600 a0 0 0) r4 → ((r4 = 4 → (zRet C G Qc (some (.int (-1))) (zsI m 600 a0 0 0))) ∧ (¬ r4 = 4 → ((P_X6_in x2 0 9 (zsI m 600 a0 0 0)) ∧ (∀ (r6 : Int32), Q_X6_in x2 0 9 (zsI m 600 a0 0 0) r6 → ((r6 = 0 → (zRet C G Qc (some (.int (-1))) (zsI m 600 a0 0 0))) ∧ (¬ r6 = 0 → ((l3 < 1 → (zRet C G Qc (some (.int (-1))) (zsI m 600 a0 0 0))) ∧ (¬ l3 < 1 → ((1000000000 < l3 → (zRet C G Qc (some (.int (-1))) (zsI m 600 a0 0 0))) ∧ (¬ 1000000000 < l3 → (((zI m 1608 a0 0) = 0 → (∀ (r7 : Int32), Q_X6_of a0 x1 8 (zsI m 600 a0 0 0) r7 → ((vp_in ((4 * x1) + r7) 256) ∧ ((vp_in ((10 * x1) + 8) 640) ∧ (zRet C G Qc (some (.int r7)) (zsI (zsJ (zsJ (zsI (zsI m 600 a0 0 0) 1613 a0 (((4 * x1) + r7).toNatClampNeg) x2) 1614 a0 (((4 * x1) + r7).toNatClampNeg) l3) 1615 a0 (((4 * x1) + r7).toNatClampNeg) 0) 1609 a0 (((10 * x1) + 8).toNatClampNeg) ((zI m 1609 a0 (((10 * x1) + 8).toNatClampNeg)) + 1))))))) ∧ (¬ (zI m 1608 a0 0) = 0 → (zRet C G Qc (some (.int (-1))) (zsI m 600 a0 0 0)))))))))))))))))))) : Pt_X6_lien_0 C G a0 x1 x2 l3 m := by
  obtain ⟨hF, hQ, hR⟩ := id S
  have h0 : zF0 C cX6_lien 6 wsX6_lien RX6 := hF.1
  have hL := hF.2.2.1
  unfold Pt_X6_lien_0
  refine zx_aload_n h0 0 dX6_lien_0 rfl ?_
  refine zx_iconst (v := 0) h0 dX6_lien_1 (by decide) ?_
  refine zp_600 hF ka0 zi_X6_lien_6 zn_X6_lien_129 dX6_lien_2 ?_
  refine zx_aload_n h0 0 dX6_lien_5 rfl ?_
  refine zx_iload_n h0 1 dX6_lien_6 rfl ?_
  obtain ⟨ho1, h⟩ := h
  refine zx_callVi (As := [.int x1]) (rest := []) hF (c_X6_isClaim a0 x1 (zsI m 600 a0 0 0) ka0 ho1) (zc_X6_lien_X6_isClaim S) ka0 (by decide) rfl dX6_lien_7 rfl rfl (Nat.le_of_ble_eq_true rfl) ⟨Nat.zero_le _, Nat.zero_le _⟩ (fun r2 m2 hq => ?_)
  obtain ⟨hme, hq⟩ := hq
  subst m2
  replace h := h r2 hq
  refine zx_if_eq (tgt := 57) h0 dX6_lien_10 (by decide) (fun q => ?_) (fun q => ?_)
  · replace h := h.1 q
    refine zx_iconst (v := (-1)) h0 dX6_lien_57 (by decide) ?_
    exact zx_iret hF hQ dX6_lien_58 h
  · replace h := h.2 q
    refine zx_aload_n h0 0 dX6_lien_13 rfl ?_
    refine zx_iload_n h0 1 dX6_lien_14 rfl ?_
    refine zx_bipush (v := 8) h0 dX6_lien_15 (by decide) ?_
    obtain ⟨ho3, h⟩ := h
    refine zx_callVi (As := [.int x1, .int 8]) (rest := []) hF (c_X6_of a0 x1 8 (zsI m 600 a0 0 0) ka0 ho3) (zc_X6_lien_X6_of S) ka0 (by decide) rfl dX6_lien_17 rfl rfl (Nat.le_of_ble_eq_true rfl) ⟨Nat.zero_le _, Nat.zero_le _⟩ (fun r4 m4 hq => ?_)
    obtain ⟨hme, hq⟩ := hq
    subst m4
    replace h := h r4 hq
    refine zx_iconst (v := 4) h0 dX6_lien_20 (by decide) ?_
    refine zx_icmp_eq (tgt := 57) h0 dX6_lien_21 (by decide) (fun q => ?_) (fun q => ?_)
    · replace h := h.1 q
      refine zx_iconst (v := (-1)) h0 dX6_lien_57 (by decide) ?_
      exact zx_iret hF hQ dX6_lien_58 h
    · replace h := h.2 q
      refine zx_iload_n h0 2 dX6_lien_24 rfl ?_
      refine zx_iconst (v := 0) h0 dX6_lien_25 (by decide) ?_
      refine zx_bipush (v := 9) h0 dX6_lien_26 (by decide) ?_
      obtain ⟨ho5, h⟩ := h
      refine zx_callSi (As := [.int x2, .int 0, .int 9]) (rest := []) hF (c_X6_in x2 0 9 (zsI m 600 a0 0 0)  ho5) (zc_X6_lien_X6_in S)  dX6_lien_28 rfl rfl (Nat.le_of_ble_eq_true rfl) ⟨Nat.zero_le _, Nat.zero_le _⟩ (fun r6 m6 hq => ?_)
      obtain ⟨hme, hq⟩ := hq
      subst m6
      replace h := h r6 hq
      refine zx_if_eq (tgt := 57) h0 dX6_lien_31 (by decide) (fun q => ?_) (fun q => ?_)
      · replace h := h.1 q
        refine zx_iconst (v := (-1)) h0 dX6_lien_57 (by decide) ?_
        exact zx_iret hF hQ dX6_lien_58 h
      · replace h := h.2 q
        refine zx_lload_n h0 3 dX6_lien_34 rfl ?_
        refine zx_lconst (v := 1) h0 dX6_lien_35 (by decide) ?_
        refine zx_lcmp_lt (tgt := 57) h0 dX6_lien_36 dX6_lien_37 (by decide) (fun q => ?_) (fun q => ?_)
        · replace h := h.1 q
          refine zx_iconst (v := (-1)) h0 dX6_lien_57 (by decide) ?_
          exact zx_iret hF hQ dX6_lien_58 h
        · replace h := h.2 q
          refine zx_lload_n h0 3 dX6_lien_40 rfl ?_
          refine zx_ldc2 (v := 1000000000) h0 zn_X6_lien_k320 dX6_lien_41 ?_
          refine zx_lcmp_gt (tgt := 57) h0 dX6_lien_44 dX6_lien_45 (by decide) (fun q => ?_) (fun q => ?_)
          · replace h := h.1 q
            refine zx_iconst (v := (-1)) h0 dX6_lien_57 (by decide) ?_
            exact zx_iret hF hQ dX6_lien_58 h
          · replace h := h.2 q
            refine zx_aload_n h0 0 dX6_lien_48 rfl ?_
            refine zx_get hF ka0 (by decide) rfl zi_X6_lien_6 8 (by decide) zn_X6_lien_33 rfl rfl dX6_lien_49 ?_
            refine zx_iconst (v := 0) h0 dX6_lien_52 (by decide) ?_
            refine zx_zald (j := 0) hF (zL_6_8 hL ka0) (by decide) rfl rfl (by unfold vp_in; decide) (by decide) dX6_lien_53 ?_
            refine zx_topI (zI_n (by decide)) ?_
            refine zx_if_eq (tgt := 59) h0 dX6_lien_54 (by decide) (fun q => ?_) (fun q => ?_)
            · replace h := h.1 q
              refine zx_aload_n h0 0 dX6_lien_59 rfl ?_
              refine zx_iload_n h0 1 dX6_lien_60 rfl ?_
              refine zx_bipush (v := 8) h0 dX6_lien_61 (by decide) ?_
              refine zx_callVi (As := [.int x1, .int 8]) (rest := []) hF (c_X6_of a0 x1 8 (zsI m 600 a0 0 0) ka0 ho3) (zc_X6_lien_X6_of S) ka0 (by decide) rfl dX6_lien_63 rfl rfl (Nat.le_of_ble_eq_true rfl) ⟨Nat.zero_le _, Nat.zero_le _⟩ (fun r7 m7 hq => ?_)
              obtain ⟨hme, hq⟩ := hq
              subst m7
              replace h := h r7 hq
              refine zx_istore (L' := [(5, .int r7), (0, .ref a0), (1, .int x1), (2, .int x2), (3, .long l3)]) h0 dX6_lien_66 (by decide) rfl ?_
              refine zx_aload_n h0 1 dX6_lien_68 rfl ?_
              refine zx_get hF ka0 (by decide) rfl zi_X6_lien_6 13 (by decide) zn_X6_lien_49 rfl rfl dX6_lien_69 ?_
              refine zx_iconst (v := 4) h0 dX6_lien_72 (by decide) ?_
              refine zx_iload_n h0 2 dX6_lien_73 rfl ?_
              refine zx_imul h0 dX6_lien_74 ?_
              refine zx_iload h0 0 dX6_lien_75 rfl ?_
              refine zx_iadd h0 dX6_lien_77 ?_
              refine zx_iload_n h0 3 dX6_lien_78 rfl ?_
              obtain ⟨ho8, h⟩ := h
              refine zx_iast (j := ((4 * x1) + r7).toNatClampNeg) hF (zL_6_13 hL ka0) (by decide) rfl rfl ho8 rfl rfl (z_fit rfl) dX6_lien_79 ?_
              refine zx_aload_n h0 1 dX6_lien_80 rfl ?_
              refine zx_get hF ka0 (by decide) rfl zi_X6_lien_6 14 (by decide) zn_X6_lien_52 rfl rfl dX6_lien_81 ?_
              refine zx_iconst (v := 4) h0 dX6_lien_84 (by decide) ?_
              refine zx_iload_n h0 2 dX6_lien_85 rfl ?_
              refine zx_imul h0 dX6_lien_86 ?_
              refine zx_iload h0 0 dX6_lien_87 rfl ?_
              refine zx_iadd h0 dX6_lien_89 ?_
              refine zx_lload_n h0 4 dX6_lien_90 rfl ?_
              refine zx_last (j := ((4 * x1) + r7).toNatClampNeg) hF (zL_6_14 hL ka0) (by decide) rfl rfl ho8 rfl dX6_lien_91 ?_
              refine zx_aload_n h0 1 dX6_lien_92 rfl ?_
              refine zx_get hF ka0 (by decide) rfl zi_X6_lien_6 15 (by decide) zn_X6_lien_55 rfl rfl dX6_lien_93 ?_
              refine zx_iconst (v := 4) h0 dX6_lien_96 (by decide) ?_
              refine zx_iload_n h0 2 dX6_lien_97 rfl ?_
              refine zx_imul h0 dX6_lien_98 ?_
              refine zx_iload h0 0 dX6_lien_99 rfl ?_
              refine zx_iadd h0 dX6_lien_101 ?_
              refine zx_lconst (v := 0) h0 dX6_lien_102 (by decide) ?_
              refine zx_last (j := ((4 * x1) + r7).toNatClampNeg) hF (zL_6_15 hL ka0) (by decide) rfl rfl ho8 rfl dX6_lien_103 ?_
              refine zx_aload_n h0 1 dX6_lien_104 rfl ?_
              refine zx_get hF ka0 (by decide) rfl zi_X6_lien_6 9 (by decide) zn_X6_lien_37 rfl rfl dX6_lien_105 ?_
              refine zx_bipush (v := 10) h0 dX6_lien_108 (by decide) ?_
              refine zx_iload_n h0 2 dX6_lien_110 rfl ?_
              refine zx_imul h0 dX6_lien_111 ?_
              refine zx_bipush (v := 8) h0 dX6_lien_112 (by decide) ?_
              refine zx_iadd h0 dX6_lien_114 ?_
              refine zx_dup2_11 h0 dX6_lien_115 rfl rfl ?_
              obtain ⟨ho9, h⟩ := h
              refine zx_iald (j := ((10 * x1) + 8).toNatClampNeg) hF (zL_6_9 hL ka0) (by decide) rfl rfl ho9 rfl dX6_lien_116 ?_
              refine zx_topI ((zI_J).trans ((zI_J).trans ((zI_n (by decide)).trans (zI_n (by decide))))) ?_
              refine zx_iconst (v := 1) h0 dX6_lien_117 (by decide) ?_
              refine zx_iadd h0 dX6_lien_118 ?_
              refine zx_iast (j := ((10 * x1) + 8).toNatClampNeg) hF (zL_6_9 hL ka0) (by decide) rfl rfl ho9 rfl rfl (z_fit rfl) dX6_lien_119 ?_
              refine zx_iload h0 0 dX6_lien_120 rfl ?_
              exact zx_iret hF hQ dX6_lien_122 h
            · replace h := h.2 q
              refine zx_iconst (v := (-1)) h0 dX6_lien_57 (by decide) ?_
              exact zx_iret hF hQ dX6_lien_58 h
theorem zn_X6_heir_129 : Cond.fieldLink RX6 129 RX6 (TX6 0).2.1 (TX6 0).2.2.1 ∈ wsX6_heir := List.mem_of_getElem? (i := 1) rfl
theorem zi_X6_heir_6 : ∀ w ∈ u_ws RX6 TX6 50, w ∈ wsX6_heir := fun _ h => List.mem_cons_of_mem _ (List.mem_append_right _ h)
theorem zn_X6_heir_33 : Cond.fieldLink RX6 33 RX6 (TX6 8).2.1 (TX6 8).2.2.1 ∈ wsX6_heir := List.mem_of_getElem? (i := 2) rfl
theorem zn_X6_heir_58 : Cond.fieldLink RX6 58 RX6 (TX6 16).2.1 (TX6 16).2.2.1 ∈ wsX6_heir := List.mem_of_getElem? (i := 3) rfl
theorem zn_X6_heir_61 : Cond.fieldLink RX6 61 RX6 (TX6 17).2.1 (TX6 17).2.2.1 ∈ wsX6_heir := List.mem_of_getElem? (i := 4) rfl
theorem zn_X6_heir_37 : Cond.fieldLink RX6 37 RX6 (TX6 9).2.1 (TX6 9).2.2.1 ∈ wsX6_heir := List.mem_of_getElem? (i := 5) rfl
theorem zc_X6_heir_X6_isClaim {C : zC} {G : zG} {Qc : Array Value → State → Outcome → State → Prop} (S : St_X6_heir C G Qc) : CallW (zRm C) (zs C) (zar C) RX6 RX6 149 yX6_isClaim cX6_isClaim 2 (some .boolean) wsX6_isClaim rm_X6_isClaim 0 0 1 := cwV 1 S.1.1.2.2.2.2 gX6_heir_X6_isClaim rfl rfl rfl (by decide +kernel) (by rw [S.2.2]; exact ⟨Nat.le_of_ble_eq_true rfl, Nat.le_of_ble_eq_true rfl⟩)
theorem zc_X6_heir_X6_of {C : zC} {G : zG} {Qc : Array Value → State → Outcome → State → Prop} (S : St_X6_heir C G Qc) : CallW (zRm C) (zs C) (zar C) RX6 RX6 153 yX6_of cX6_of 3 (some .int) wsX6_of rm_X6_of 0 0 2 := cwV 2 S.1.1.2.2.2.2 gX6_heir_X6_of rfl rfl rfl (by decide +kernel) (by rw [S.2.2]; exact ⟨Nat.le_of_ble_eq_true rfl, Nat.le_of_ble_eq_true rfl⟩)
theorem zc_X6_heir_X6_in {C : zC} {G : zG} {Qc : Array Value → State → Outcome → State → Prop} (S : St_X6_heir C G Qc) : CallB (zRm C) (zs C) (zar C) RX6 145 yX6_in cX6_in 3 (some .boolean) wsX6_in rm_X6_in 0 0 3 ∧ (Cond.static yX6_in).before (zar C) (zs C) = true := cwS 3 S.1.1.2.2.2.2 gX6_heir_X6_in rfl rfl rfl (by decide +kernel) (by rw [S.2.2]; exact ⟨Nat.le_of_ble_eq_true rfl, Nat.le_of_ble_eq_true rfl⟩)
set_option maxRecDepth 100000 in
set_option maxHeartbeats 4000000 in
theorem sg_X6_heir_0 {C : zC} {G : zG} {Qc : Array Value → State → Outcome → State → Prop} (S : St_X6_heir C G Qc) {P_X6_isClaim : Nat → Int32 → zM → Prop} {Q_X6_isClaim : Nat → Int32 → zM → Int32 → Prop} (c_X6_isClaim : Con_X6_isClaim (zl C) G P_X6_isClaim Q_X6_isClaim) {P_X6_of : Nat → Int32 → Int32 → zM → Prop} {Q_X6_of : Nat → Int32 → Int32 → zM → Int32 → Prop} (c_X6_of : Con_X6_of (zl C) G P_X6_of Q_X6_of) {P_X6_in : Int32 → Int32 → Int32 → zM → Prop} {Q_X6_in : Int32 → Int32 → Int32 → zM → Int32 → Prop} (c_X6_in : Con_X6_in (zl C) G P_X6_in Q_X6_in) {a0 : Nat} {x1 : Int32} {x2 : Int32} {m : zM} (ka0 : zK G a0 = some (6, a0))
    (h : (P_X6_isClaim a0 x1 (zsI m 600 a0 0 0)) ∧ (∀ (r2 : Int32), Q_X6_isClaim a0 x1 (zsI m 600 a0 0 0) r2 → ((r2 = 0 → (zRet C G Qc (some (.int (-1))) (zsI m 600 a0 0 0))) ∧ (¬ r2 = 0 → ((P_X6_of a0 x1 9 (zsI m 600 a0 0 0)) ∧ (∀ (r4 : Int32), Q_X6_of a0 x1 9 (zsI m 600 a0 0 0) r4 → ((r4 = 4 → (zRet C G Qc (some (.int (-1))) (zsI m 600 a0 0 0))) ∧ (¬ r4 = 4 → ((P_X6_in x2 1 9 (zsI m 600 a0 0 0)) ∧ (∀ (r6 : Int32), Q_X6_in x2 1 9 (zsI m 600 a0 0 0) r6 → ((r6 = 0 → (zRet C G Qc (some (.int (-1))) (zsI m 600 a0 0 0))) ∧ (¬ r6 = 0 → (((zI m 1608 a0 0) = 0 → (∀ (r7 : Int32), Q_X6_of a0 x1 9 (zsI m 600 a0 0 0) r7 → ((vp_in ((4 * x1) + r7) 256) ∧ ((vp_in ((10 * x1) + 9) 640) ∧ (zRet C G Qc (some (.int r7)) (zsI (zsJ (zsI (zsI m 600 a0 0 0) 1616 a0 (((4 * x1) + r7).toNatClampNeg) x2) 1617 a0 (((4 * x1) + r7).toNatClampNeg) 0) 1609 a0 (((10 * x1) + 9).toNatClampNeg) ((zI m 1609 a0 (((10 * x1) + 9).toNatClampNeg)) + 1))))))) ∧ (¬ (zI m 1608 a0 0) = 0 → (zRet C G Qc (some (.int (-1))) (zsI m 600 a0 0 0)))))))))))))))) : Pt_X6_heir_0 C G a0 x1 x2 m := by
  obtain ⟨hF, hQ, hR⟩ := id S
  have h0 : zF0 C cX6_heir 4 wsX6_heir RX6 := hF.1
  have hL := hF.2.2.1
  unfold Pt_X6_heir_0
  refine zx_aload_n h0 0 dX6_heir_0 rfl ?_
  refine zx_iconst (v := 0) h0 dX6_heir_1 (by decide) ?_
  refine zp_600 hF ka0 zi_X6_heir_6 zn_X6_heir_129 dX6_heir_2 ?_
  refine zx_aload_n h0 0 dX6_heir_5 rfl ?_
  refine zx_iload_n h0 1 dX6_heir_6 rfl ?_
  obtain ⟨ho1, h⟩ := h
  refine zx_callVi (As := [.int x1]) (rest := []) hF (c_X6_isClaim a0 x1 (zsI m 600 a0 0 0) ka0 ho1) (zc_X6_heir_X6_isClaim S) ka0 (by decide) rfl dX6_heir_7 rfl rfl (Nat.le_of_ble_eq_true rfl) ⟨Nat.zero_le _, Nat.zero_le _⟩ (fun r2 m2 hq => ?_)
  obtain ⟨hme, hq⟩ := hq
  subst m2
  replace h := h r2 hq
  refine zx_if_eq (tgt := 43) h0 dX6_heir_10 (by decide) (fun q => ?_) (fun q => ?_)
  · replace h := h.1 q
    refine zx_iconst (v := (-1)) h0 dX6_heir_43 (by decide) ?_
    exact zx_iret hF hQ dX6_heir_44 h
  · replace h := h.2 q
    refine zx_aload_n h0 0 dX6_heir_13 rfl ?_
    refine zx_iload_n h0 1 dX6_heir_14 rfl ?_
    refine zx_bipush (v := 9) h0 dX6_heir_15 (by decide) ?_
    obtain ⟨ho3, h⟩ := h
    refine zx_callVi (As := [.int x1, .int 9]) (rest := []) hF (c_X6_of a0 x1 9 (zsI m 600 a0 0 0) ka0 ho3) (zc_X6_heir_X6_of S) ka0 (by decide) rfl dX6_heir_17 rfl rfl (Nat.le_of_ble_eq_true rfl) ⟨Nat.zero_le _, Nat.zero_le _⟩ (fun r4 m4 hq => ?_)
    obtain ⟨hme, hq⟩ := hq
    subst m4
    replace h := h r4 hq
    refine zx_iconst (v := 4) h0 dX6_heir_20 (by decide) ?_
    refine zx_icmp_eq (tgt := 43) h0 dX6_heir_21 (by decide) (fun q => ?_) (fun q => ?_)
    · replace h := h.1 q
      refine zx_iconst (v := (-1)) h0 dX6_heir_43 (by decide) ?_
      exact zx_iret hF hQ dX6_heir_44 h
    · replace h := h.2 q
      refine zx_iload_n h0 2 dX6_heir_24 rfl ?_
      refine zx_iconst (v := 1) h0 dX6_heir_25 (by decide) ?_
      refine zx_bipush (v := 9) h0 dX6_heir_26 (by decide) ?_
      obtain ⟨ho5, h⟩ := h
      refine zx_callSi (As := [.int x2, .int 1, .int 9]) (rest := []) hF (c_X6_in x2 1 9 (zsI m 600 a0 0 0)  ho5) (zc_X6_heir_X6_in S)  dX6_heir_28 rfl rfl (Nat.le_of_ble_eq_true rfl) ⟨Nat.zero_le _, Nat.zero_le _⟩ (fun r6 m6 hq => ?_)
      obtain ⟨hme, hq⟩ := hq
      subst m6
      replace h := h r6 hq
      refine zx_if_eq (tgt := 43) h0 dX6_heir_31 (by decide) (fun q => ?_) (fun q => ?_)
      · replace h := h.1 q
        refine zx_iconst (v := (-1)) h0 dX6_heir_43 (by decide) ?_
        exact zx_iret hF hQ dX6_heir_44 h
      · replace h := h.2 q
        refine zx_aload_n h0 0 dX6_heir_34 rfl ?_
        refine zx_get hF ka0 (by decide) rfl zi_X6_heir_6 8 (by decide) zn_X6_heir_33 rfl rfl dX6_heir_35 ?_
        refine zx_iconst (v := 0) h0 dX6_heir_38 (by decide) ?_
        refine zx_zald (j := 0) hF (zL_6_8 hL ka0) (by decide) rfl rfl (by unfold vp_in; decide) (by decide) dX6_heir_39 ?_
        refine zx_topI (zI_n (by decide)) ?_
        refine zx_if_eq (tgt := 45) h0 dX6_heir_40 (by decide) (fun q => ?_) (fun q => ?_)
        · replace h := h.1 q
          refine zx_aload_n h0 0 dX6_heir_45 rfl ?_
          refine zx_iload_n h0 1 dX6_heir_46 rfl ?_
          refine zx_bipush (v := 9) h0 dX6_heir_47 (by decide) ?_
          refine zx_callVi (As := [.int x1, .int 9]) (rest := []) hF (c_X6_of a0 x1 9 (zsI m 600 a0 0 0) ka0 ho3) (zc_X6_heir_X6_of S) ka0 (by decide) rfl dX6_heir_49 rfl rfl (Nat.le_of_ble_eq_true rfl) ⟨Nat.zero_le _, Nat.zero_le _⟩ (fun r7 m7 hq => ?_)
          obtain ⟨hme, hq⟩ := hq
          subst m7
          replace h := h r7 hq
          refine zx_istore_n (L' := [(3, .int r7), (0, .ref a0), (1, .int x1), (2, .int x2)]) h0 dX6_heir_52 (by decide) rfl ?_
          refine zx_aload_n h0 1 dX6_heir_53 rfl ?_
          refine zx_get hF ka0 (by decide) rfl zi_X6_heir_6 16 (by decide) zn_X6_heir_58 rfl rfl dX6_heir_54 ?_
          refine zx_iconst (v := 4) h0 dX6_heir_57 (by decide) ?_
          refine zx_iload_n h0 2 dX6_heir_58 rfl ?_
          refine zx_imul h0 dX6_heir_59 ?_
          refine zx_iload_n h0 0 dX6_heir_60 rfl ?_
          refine zx_iadd h0 dX6_heir_61 ?_
          refine zx_iload_n h0 3 dX6_heir_62 rfl ?_
          obtain ⟨ho8, h⟩ := h
          refine zx_iast (j := ((4 * x1) + r7).toNatClampNeg) hF (zL_6_16 hL ka0) (by decide) rfl rfl ho8 rfl rfl (z_fit rfl) dX6_heir_63 ?_
          refine zx_aload_n h0 1 dX6_heir_64 rfl ?_
          refine zx_get hF ka0 (by decide) rfl zi_X6_heir_6 17 (by decide) zn_X6_heir_61 rfl rfl dX6_heir_65 ?_
          refine zx_iconst (v := 4) h0 dX6_heir_68 (by decide) ?_
          refine zx_iload_n h0 2 dX6_heir_69 rfl ?_
          refine zx_imul h0 dX6_heir_70 ?_
          refine zx_iload_n h0 0 dX6_heir_71 rfl ?_
          refine zx_iadd h0 dX6_heir_72 ?_
          refine zx_lconst (v := 0) h0 dX6_heir_73 (by decide) ?_
          refine zx_last (j := ((4 * x1) + r7).toNatClampNeg) hF (zL_6_17 hL ka0) (by decide) rfl rfl ho8 rfl dX6_heir_74 ?_
          refine zx_aload_n h0 1 dX6_heir_75 rfl ?_
          refine zx_get hF ka0 (by decide) rfl zi_X6_heir_6 9 (by decide) zn_X6_heir_37 rfl rfl dX6_heir_76 ?_
          refine zx_bipush (v := 10) h0 dX6_heir_79 (by decide) ?_
          refine zx_iload_n h0 2 dX6_heir_81 rfl ?_
          refine zx_imul h0 dX6_heir_82 ?_
          refine zx_bipush (v := 9) h0 dX6_heir_83 (by decide) ?_
          refine zx_iadd h0 dX6_heir_85 ?_
          refine zx_dup2_11 h0 dX6_heir_86 rfl rfl ?_
          obtain ⟨ho9, h⟩ := h
          refine zx_iald (j := ((10 * x1) + 9).toNatClampNeg) hF (zL_6_9 hL ka0) (by decide) rfl rfl ho9 rfl dX6_heir_87 ?_
          refine zx_topI ((zI_J).trans ((zI_n (by decide)).trans (zI_n (by decide)))) ?_
          refine zx_iconst (v := 1) h0 dX6_heir_88 (by decide) ?_
          refine zx_iadd h0 dX6_heir_89 ?_
          refine zx_iast (j := ((10 * x1) + 9).toNatClampNeg) hF (zL_6_9 hL ka0) (by decide) rfl rfl ho9 rfl rfl (z_fit rfl) dX6_heir_90 ?_
          refine zx_iload_n h0 0 dX6_heir_91 rfl ?_
          exact zx_iret hF hQ dX6_heir_92 h
        · replace h := h.2 q
          refine zx_iconst (v := (-1)) h0 dX6_heir_43 (by decide) ?_
          exact zx_iret hF hQ dX6_heir_44 h
theorem zn_X6_pay_40 : Cond.fieldLink RX6 40 RX6 (TX6 10).2.1 (TX6 10).2.2.1 ∈ wsX6_pay := List.mem_of_getElem? (i := 1) rfl
theorem zi_X6_pay_6 : ∀ w ∈ u_ws RX6 TX6 50, w ∈ wsX6_pay := fun _ h => List.mem_cons_of_mem _ (List.mem_append_right _ h)
theorem zn_X6_pay_k278 : Cond.constantLong RX6 278 100 ∈ wsX6_pay := List.mem_of_getElem? (i := 2) rfl
theorem zn_X6_pay_43 : Cond.fieldLink RX6 43 RX6 (TX6 11).2.1 (TX6 11).2.2.1 ∈ wsX6_pay := List.mem_of_getElem? (i := 3) rfl
theorem zn_X6_pay_58 : Cond.fieldLink RX6 58 RX6 (TX6 16).2.1 (TX6 16).2.2.1 ∈ wsX6_pay := List.mem_of_getElem? (i := 7) rfl
theorem zn_X6_pay_49 : Cond.fieldLink RX6 49 RX6 (TX6 13).2.1 (TX6 13).2.2.1 ∈ wsX6_pay := List.mem_of_getElem? (i := 4) rfl
theorem zn_X6_pay_52 : Cond.fieldLink RX6 52 RX6 (TX6 14).2.1 (TX6 14).2.2.1 ∈ wsX6_pay := List.mem_of_getElem? (i := 5) rfl
theorem zn_X6_pay_55 : Cond.fieldLink RX6 55 RX6 (TX6 15).2.1 (TX6 15).2.2.1 ∈ wsX6_pay := List.mem_of_getElem? (i := 6) rfl
theorem zn_X6_pay_46 : Cond.fieldLink RX6 46 RX6 (TX6 12).2.1 (TX6 12).2.2.1 ∈ wsX6_pay := List.mem_of_getElem? (i := 9) rfl
theorem zn_X6_pay_61 : Cond.fieldLink RX6 61 RX6 (TX6 17).2.1 (TX6 17).2.2.1 ∈ wsX6_pay := List.mem_of_getElem? (i := 8) rfl
theorem zc_X6_pay_X6_of {C : zC} {G : zG} {Qc : Array Value → State → Outcome → State → Prop} (S : St_X6_pay C G Qc) : CallW (zRm C) (zs C) (zar C) RX6 RX6 153 yX6_of cX6_of 3 (some .int) wsX6_of rm_X6_of 0 0 2 := cwV 2 S.1.1.2.2.2.2 gX6_pay_X6_of rfl rfl rfl (by decide +kernel) (by rw [S.2.2]; exact ⟨Nat.le_of_ble_eq_true rfl, Nat.le_of_ble_eq_true rfl⟩)
set_option maxRecDepth 100000 in
set_option maxHeartbeats 4000000 in
theorem sg_X6_pay_0 {C : zC} {G : zG} {Qc : Array Value → State → Outcome → State → Prop} (S : St_X6_pay C G Qc) {P_X6_of : Nat → Int32 → Int32 → zM → Prop} {Q_X6_of : Nat → Int32 → Int32 → zM → Int32 → Prop} (c_X6_of : Con_X6_of (zl C) G P_X6_of Q_X6_of) {a0 : Nat} {x1 : Int32} {l2 : Int64} {m : zM} (ka0 : zK G a0 = some (6, a0))
    (h : (0 < l2 → ((vp_in x1 64) ∧ ((P_X6_of a0 x1 7 (zsJ m 1610 a0 x1.toNatClampNeg ((zJ m 1610 a0 x1.toNatClampNeg) + l2))) ∧ (∀ (r3 : Int32), Q_X6_of a0 x1 7 (zsJ m 1610 a0 x1.toNatClampNeg ((zJ m 1610 a0 x1.toNatClampNeg) + l2)) r3 → (Pt_X6_pay_53 C G a0 x1 (l2 - ((l2 * ((r3 : Int32).toInt64)) / 100)) 0 (zsJ (zsJ m 1610 a0 x1.toNatClampNeg ((zJ m 1610 a0 x1.toNatClampNeg) + l2)) 1611 a0 x1.toNatClampNeg ((zJ m 1611 a0 x1.toNatClampNeg) + ((l2 * ((r3 : Int32).toInt64)) / 100)))))))) ∧ (¬ 0 < l2 → (zRet C G Qc none m))) : Pt_X6_pay_0 C G a0 x1 l2 m := by
  obtain ⟨hF, hQ, hR⟩ := id S
  have h0 : zF0 C cX6_pay 14 wsX6_pay RX6 := hF.1
  have hL := hF.2.2.1
  unfold Pt_X6_pay_0
  refine zx_lload_n h0 2 dX6_pay_0 rfl ?_
  refine zx_lconst (v := 0) h0 dX6_pay_1 (by decide) ?_
  refine zx_lcmp_gt (tgt := 7) h0 dX6_pay_2 dX6_pay_3 (by decide) (fun q => ?_) (fun q => ?_)
  · replace h := h.1 q
    refine zx_aload_n h0 0 dX6_pay_7 rfl ?_
    refine zx_get hF ka0 (by decide) rfl zi_X6_pay_6 10 (by decide) zn_X6_pay_40 rfl rfl dX6_pay_8 ?_
    refine zx_iload_n h0 1 dX6_pay_11 rfl ?_
    refine zx_dup2_11 h0 dX6_pay_12 rfl rfl ?_
    obtain ⟨ho1, h⟩ := h
    refine zx_lald (j := x1.toNatClampNeg) hF (zL_6_10 hL ka0) (by decide) rfl rfl ho1 rfl dX6_pay_13 ?_
    refine zx_lload_n h0 2 dX6_pay_14 rfl ?_
    refine zx_ladd h0 dX6_pay_15 ?_
    refine zx_last (j := x1.toNatClampNeg) hF (zL_6_10 hL ka0) (by decide) rfl rfl ho1 rfl dX6_pay_16 ?_
    refine zx_lload_n h0 2 dX6_pay_17 rfl ?_
    refine zx_aload_n h0 0 dX6_pay_18 rfl ?_
    refine zx_iload_n h0 1 dX6_pay_19 rfl ?_
    refine zx_bipush (v := 7) h0 dX6_pay_20 (by decide) ?_
    obtain ⟨ho2, h⟩ := h
    refine zx_callVi (As := [.int x1, .int 7]) (rest := [.long l2]) hF (c_X6_of a0 x1 7 (zsJ m 1610 a0 x1.toNatClampNeg ((zJ m 1610 a0 x1.toNatClampNeg) + l2)) ka0 ho2) (zc_X6_pay_X6_of S) ka0 (by decide) rfl dX6_pay_22 rfl rfl (Nat.le_of_ble_eq_true rfl) ⟨Nat.zero_le _, Nat.zero_le _⟩ (fun r3 m3 hq => ?_)
    obtain ⟨hme, hq⟩ := hq
    subst m3
    replace h := h r3 hq
    refine zx_i2l (v := ((r3 : Int32).toInt64)) h0 dX6_pay_25 rfl ?_
    refine zx_lmul h0 dX6_pay_26 ?_
    refine zx_ldc2 (v := 100) h0 zn_X6_pay_k278 dX6_pay_27 ?_
    refine zx_ldiv h0 dX6_pay_30 (by decide) ?_
    refine zx_lstore (L' := [(4, .long ((l2 * ((r3 : Int32).toInt64)) / 100)), (0, .ref a0), (1, .int x1), (2, .long l2)]) h0 dX6_pay_31 (by decide) rfl ?_
    refine zx_aload_n h0 1 dX6_pay_33 rfl ?_
    refine zx_get hF ka0 (by decide) rfl zi_X6_pay_6 11 (by decide) zn_X6_pay_43 rfl rfl dX6_pay_34 ?_
    refine zx_iload_n h0 2 dX6_pay_37 rfl ?_
    refine zx_dup2_11 h0 dX6_pay_38 rfl rfl ?_
    refine zx_lald (j := x1.toNatClampNeg) hF (zL_6_11 hL ka0) (by decide) rfl rfl ho1 rfl dX6_pay_39 ?_
    refine zx_topJ (zJ_n (by decide)) ?_
    refine zx_lload h0 0 dX6_pay_40 rfl ?_
    refine zx_ladd h0 dX6_pay_42 ?_
    refine zx_last (j := x1.toNatClampNeg) hF (zL_6_11 hL ka0) (by decide) rfl rfl ho1 rfl dX6_pay_43 ?_
    refine zx_lload_n h0 3 dX6_pay_44 rfl ?_
    refine zx_lload h0 0 dX6_pay_45 rfl ?_
    refine zx_lsub h0 dX6_pay_47 ?_
    refine zx_lstore (L' := [(6, .long (l2 - ((l2 * ((r3 : Int32).toInt64)) / 100))), (4, .long ((l2 * ((r3 : Int32).toInt64)) / 100)), (0, .ref a0), (1, .int x1), (2, .long l2)]) h0 dX6_pay_48 (by decide) rfl ?_
    refine zx_iconst (v := 0) h0 dX6_pay_50 (by decide) ?_
    refine zx_istore (L' := [(8, .int 0), (6, .long (l2 - ((l2 * ((r3 : Int32).toInt64)) / 100))), (4, .long ((l2 * ((r3 : Int32).toInt64)) / 100)), (0, .ref a0), (1, .int x1), (2, .long l2)]) h0 dX6_pay_51 (by decide) rfl ?_
    exact zx_sub [3, 4, 1, 0] rfl h
  · replace h := h.2 q
    exact zx_vret hF hQ dX6_pay_6 h
set_option maxRecDepth 100000 in
set_option maxHeartbeats 4000000 in
theorem sg_X6_pay_53 {C : zC} {G : zG} {Qc : Array Value → State → Outcome → State → Prop} (S : St_X6_pay C G Qc) {a0 : Nat} {x1 : Int32} {l6 : Int64} {x8 : Int32} {m : zM} (ka0 : zK G a0 = some (6, a0))
    (h : (10 ≤ x8 → (Pt_X6_pay_175 C G a0 x1 l6 0 0 m)) ∧ (¬ 10 ≤ x8 → (Pt_X6_pay_63 C G a0 x1 l6 x8 0 m))) : Pt_X6_pay_53 C G a0 x1 l6 x8 m := by
  obtain ⟨hF, hQ, hR⟩ := id S
  have h0 : zF0 C cX6_pay 14 wsX6_pay RX6 := hF.1
  have hL := hF.2.2.1
  unfold Pt_X6_pay_53
  refine zx_iload h0 3 dX6_pay_53 rfl ?_
  refine zx_bipush (v := 10) h0 dX6_pay_55 (by decide) ?_
  refine zx_icmp_ge (tgt := 169) h0 dX6_pay_57 (by decide) (fun q => ?_) (fun q => ?_)
  · replace h := h.1 q
    refine zx_iconst (v := 0) h0 dX6_pay_169 (by decide) ?_
    refine zx_istore (L' := [(8, .int 0), (0, .ref a0), (1, .int x1), (6, .long l6)]) h0 dX6_pay_170 (by decide) rfl ?_
    refine zx_iconst (v := 0) h0 dX6_pay_172 (by decide) ?_
    refine zx_istore (L' := [(9, .int 0), (8, .int 0), (0, .ref a0), (1, .int x1), (6, .long l6)]) h0 dX6_pay_173 (by decide) rfl ?_
    exact zx_sub [2, 3, 4, 1, 0] rfl h
  · replace h := h.2 q
    refine zx_iconst (v := 0) h0 dX6_pay_60 (by decide) ?_
    refine zx_istore (L' := [(9, .int 0), (0, .ref a0), (1, .int x1), (6, .long l6), (8, .int x8)]) h0 dX6_pay_61 (by decide) rfl ?_
    exact zx_sub [1, 2, 3, 4, 0] rfl h
set_option maxRecDepth 100000 in
set_option maxHeartbeats 4000000 in
theorem sg_X6_pay_63 {C : zC} {G : zG} {Qc : Array Value → State → Outcome → State → Prop} (S : St_X6_pay C G Qc) {P_X6_of : Nat → Int32 → Int32 → zM → Prop} {Q_X6_of : Nat → Int32 → Int32 → zM → Int32 → Prop} (c_X6_of : Con_X6_of (zl C) G P_X6_of Q_X6_of) {a0 : Nat} {x1 : Int32} {l6 : Int64} {x8 : Int32} {x9 : Int32} {m : zM} (ka0 : zK G a0 = some (6, a0))
    (h : (P_X6_of a0 x1 8 m) ∧ (∀ (r2 : Int32), Q_X6_of a0 x1 8 m r2 → ((r2 ≤ x9 → (Pt_X6_pay_53 C G a0 x1 l6 (x8 + 1) m)) ∧ (¬ r2 ≤ x9 → ((vp_in ((4 * x1) + x9) 256) ∧ ((¬ (zI m 1613 a0 (((4 * x1) + x9).toNatClampNeg)) = x8 → (Pt_X6_pay_63 C G a0 x1 l6 x8 (x9 + 1) m)) ∧ ((zI m 1613 a0 (((4 * x1) + x9).toNatClampNeg)) = x8 → ((l6 ≤ ((zJ m 1614 a0 (((4 * x1) + x9).toNatClampNeg)) - (zJ m 1615 a0 (((4 * x1) + x9).toNatClampNeg))) → (Pt_X6_pay_136 C G a0 x1 l6 x8 x9 ((4 * x1) + x9) l6 m)) ∧ (¬ l6 ≤ ((zJ m 1614 a0 (((4 * x1) + x9).toNatClampNeg)) - (zJ m 1615 a0 (((4 * x1) + x9).toNatClampNeg))) → (Pt_X6_pay_136 C G a0 x1 l6 x8 x9 ((4 * x1) + x9) ((zJ m 1614 a0 (((4 * x1) + x9).toNatClampNeg)) - (zJ m 1615 a0 (((4 * x1) + x9).toNatClampNeg))) m)))))))))) : Pt_X6_pay_63 C G a0 x1 l6 x8 x9 m := by
  obtain ⟨hF, hQ, hR⟩ := id S
  have h0 : zF0 C cX6_pay 14 wsX6_pay RX6 := hF.1
  have hL := hF.2.2.1
  unfold Pt_X6_pay_63
  refine zx_iload h0 4 dX6_pay_63 rfl ?_
  refine zx_aload_n h0 0 dX6_pay_65 rfl ?_
  refine zx_iload_n h0 1 dX6_pay_66 rfl ?_
  refine zx_bipush (v := 8) h0 dX6_pay_67 (by decide) ?_
  obtain ⟨ho1, h⟩ := h
  refine zx_callVi (As := [.int x1, .int 8]) (rest := [.int x9]) hF (c_X6_of a0 x1 8 m ka0 ho1) (zc_X6_pay_X6_of S) ka0 (by decide) rfl dX6_pay_69 rfl rfl (Nat.le_of_ble_eq_true rfl) ⟨Nat.zero_le _, Nat.zero_le _⟩ (fun r2 m2 hq => ?_)
  obtain ⟨hme, hq⟩ := hq
  subst m2
  replace h := h r2 hq
  refine zx_icmp_ge (tgt := 163) h0 dX6_pay_72 (by decide) (fun q => ?_) (fun q => ?_)
  · replace h := h.1 q
    refine zx_iinc (v := (x8 + 1)) (L' := [(8, .int (x8 + 1)), (0, .ref a0), (1, .int x1), (6, .long l6), (9, .int x9)]) h0 3 dX6_pay_163 rfl rfl (by decide) rfl ?_
    refine zx_goto (tgt := 53) h0 dX6_pay_166 (by decide) ?_
    exact zx_sub [1, 2, 3, 0] rfl h
  · replace h := h.2 q
    refine zx_iconst (v := 4) h0 dX6_pay_75 (by decide) ?_
    refine zx_iload_n h0 1 dX6_pay_76 rfl ?_
    refine zx_imul h0 dX6_pay_77 ?_
    refine zx_iload h0 4 dX6_pay_78 rfl ?_
    refine zx_iadd h0 dX6_pay_80 ?_
    refine zx_istore (L' := [(10, .int ((4 * x1) + x9)), (0, .ref a0), (1, .int x1), (6, .long l6), (8, .int x8), (9, .int x9)]) h0 dX6_pay_81 (by decide) rfl ?_
    refine zx_aload_n h0 1 dX6_pay_83 rfl ?_
    refine zx_get hF ka0 (by decide) rfl zi_X6_pay_6 13 (by decide) zn_X6_pay_49 rfl rfl dX6_pay_84 ?_
    refine zx_iload h0 0 dX6_pay_87 rfl ?_
    obtain ⟨ho3, h⟩ := h
    refine zx_iald (j := ((4 * x1) + x9).toNatClampNeg) hF (zL_6_13 hL ka0) (by decide) rfl rfl ho3 rfl dX6_pay_89 ?_
    refine zx_iload h0 4 dX6_pay_90 rfl ?_
    refine zx_icmp_ne (tgt := 157) h0 dX6_pay_92 (by decide) (fun q => ?_) (fun q => ?_)
    · replace h := h.1 q
      refine zx_iinc (v := (x9 + 1)) (L' := [(9, .int (x9 + 1)), (10, .int ((4 * x1) + x9)), (0, .ref a0), (1, .int x1), (6, .long l6), (8, .int x8)]) h0 5 dX6_pay_157 rfl rfl (by decide) rfl ?_
      refine zx_goto (tgt := 63) h0 dX6_pay_160 (by decide) ?_
      exact zx_sub [2, 3, 4, 5, 0] rfl h
    · replace h := h.2 q
      refine zx_aload_n h0 1 dX6_pay_95 rfl ?_
      refine zx_get hF ka0 (by decide) rfl zi_X6_pay_6 14 (by decide) zn_X6_pay_52 rfl rfl dX6_pay_96 ?_
      refine zx_iload h0 0 dX6_pay_99 rfl ?_
      refine zx_lald (j := ((4 * x1) + x9).toNatClampNeg) hF (zL_6_14 hL ka0) (by decide) rfl rfl ho3 rfl dX6_pay_101 ?_
      refine zx_aload_n h0 1 dX6_pay_102 rfl ?_
      refine zx_get hF ka0 (by decide) rfl zi_X6_pay_6 15 (by decide) zn_X6_pay_55 rfl rfl dX6_pay_103 ?_
      refine zx_iload h0 0 dX6_pay_106 rfl ?_
      refine zx_lald (j := ((4 * x1) + x9).toNatClampNeg) hF (zL_6_15 hL ka0) (by decide) rfl rfl ho3 rfl dX6_pay_108 ?_
      refine zx_lsub h0 dX6_pay_109 ?_
      refine zx_lload h0 3 dX6_pay_110 rfl ?_
      refine zx_lcmp_ge (tgt := 134) h0 dX6_pay_112 dX6_pay_113 (by decide) (fun q => ?_) (fun q => ?_)
      · replace h := h.1 q
        refine zx_lload h0 3 dX6_pay_134 rfl ?_
        exact zx_sub [1, 2, 3, 4, 5, 0] rfl h
      · replace h := h.2 q
        refine zx_aload_n h0 1 dX6_pay_116 rfl ?_
        refine zx_get hF ka0 (by decide) rfl zi_X6_pay_6 14 (by decide) zn_X6_pay_52 rfl rfl dX6_pay_117 ?_
        refine zx_iload h0 0 dX6_pay_120 rfl ?_
        refine zx_lald (j := ((4 * x1) + x9).toNatClampNeg) hF (zL_6_14 hL ka0) (by decide) rfl rfl ho3 rfl dX6_pay_122 ?_
        refine zx_aload_n h0 1 dX6_pay_123 rfl ?_
        refine zx_get hF ka0 (by decide) rfl zi_X6_pay_6 15 (by decide) zn_X6_pay_55 rfl rfl dX6_pay_124 ?_
        refine zx_iload h0 0 dX6_pay_127 rfl ?_
        refine zx_lald (j := ((4 * x1) + x9).toNatClampNeg) hF (zL_6_15 hL ka0) (by decide) rfl rfl ho3 rfl dX6_pay_129 ?_
        refine zx_lsub h0 dX6_pay_130 ?_
        refine zx_goto (tgt := 136) h0 dX6_pay_131 (by decide) ?_
        exact zx_sub [1, 2, 3, 4, 5, 0] rfl h
set_option maxRecDepth 100000 in
set_option maxHeartbeats 4000000 in
theorem sg_X6_pay_136 {C : zC} {G : zG} {Qc : Array Value → State → Outcome → State → Prop} (S : St_X6_pay C G Qc) {a0 : Nat} {x1 : Int32} {l6 : Int64} {x8 : Int32} {x9 : Int32} {x10 : Int32} {s0 : Int64} {m : zM} (ka0 : zK G a0 = some (6, a0))
    (h : (vp_in x10 256) ∧ (Pt_X6_pay_63 C G a0 x1 (l6 - s0) x8 (x9 + 1) (zsJ m 1615 a0 x10.toNatClampNeg ((zJ m 1615 a0 x10.toNatClampNeg) + s0)))) : Pt_X6_pay_136 C G a0 x1 l6 x8 x9 x10 s0 m := by
  obtain ⟨hF, hQ, hR⟩ := id S
  have h0 : zF0 C cX6_pay 14 wsX6_pay RX6 := hF.1
  have hL := hF.2.2.1
  unfold Pt_X6_pay_136
  refine zx_lstore (L' := [(11, .long s0), (0, .ref a0), (1, .int x1), (6, .long l6), (8, .int x8), (9, .int x9), (10, .int x10)]) h0 dX6_pay_136 (by decide) rfl ?_
  refine zx_aload_n h0 1 dX6_pay_138 rfl ?_
  refine zx_get hF ka0 (by decide) rfl zi_X6_pay_6 15 (by decide) zn_X6_pay_55 rfl rfl dX6_pay_139 ?_
  refine zx_iload h0 6 dX6_pay_142 rfl ?_
  refine zx_dup2_11 h0 dX6_pay_144 rfl rfl ?_
  obtain ⟨ho1, h⟩ := h
  refine zx_lald (j := x10.toNatClampNeg) hF (zL_6_15 hL ka0) (by decide) rfl rfl ho1 rfl dX6_pay_145 ?_
  refine zx_lload h0 0 dX6_pay_146 rfl ?_
  refine zx_ladd h0 dX6_pay_148 ?_
  refine zx_last (j := x10.toNatClampNeg) hF (zL_6_15 hL ka0) (by decide) rfl rfl ho1 rfl dX6_pay_149 ?_
  refine zx_lload h0 3 dX6_pay_150 rfl ?_
  refine zx_lload h0 0 dX6_pay_152 rfl ?_
  refine zx_lsub h0 dX6_pay_154 ?_
  refine zx_lstore (L' := [(6, .long (l6 - s0)), (11, .long s0), (0, .ref a0), (1, .int x1), (8, .int x8), (9, .int x9), (10, .int x10)]) h0 dX6_pay_155 (by decide) rfl ?_
  refine zx_iinc (v := (x9 + 1)) (L' := [(9, .int (x9 + 1)), (6, .long (l6 - s0)), (11, .long s0), (0, .ref a0), (1, .int x1), (8, .int x8), (10, .int x10)]) h0 5 dX6_pay_157 rfl rfl (by decide) rfl ?_
  refine zx_goto (tgt := 63) h0 dX6_pay_160 (by decide) ?_
  exact zx_sub [3, 4, 1, 5, 0] rfl h
set_option maxRecDepth 100000 in
set_option maxHeartbeats 4000000 in
theorem sg_X6_pay_175 {C : zC} {G : zG} {Qc : Array Value → State → Outcome → State → Prop} (S : St_X6_pay C G Qc) {P_X6_of : Nat → Int32 → Int32 → zM → Prop} {Q_X6_of : Nat → Int32 → Int32 → zM → Int32 → Prop} (c_X6_of : Con_X6_of (zl C) G P_X6_of Q_X6_of) {a0 : Nat} {x1 : Int32} {l6 : Int64} {x8 : Int32} {x9 : Int32} {m : zM} (ka0 : zK G a0 = some (6, a0))
    (h : (P_X6_of a0 x1 9 m) ∧ (∀ (r2 : Int32), Q_X6_of a0 x1 9 m r2 → ((r2 ≤ x9 → (Pt_X6_pay_216 C G a0 x1 l6 x8 l6 0 m)) ∧ (¬ r2 ≤ x9 → ((vp_in ((4 * x1) + x9) 256) ∧ (Pt_X6_pay_175 C G a0 x1 l6 (x8 + (zI m 1616 a0 (((4 * x1) + x9).toNatClampNeg))) (x9 + 1) m)))))) : Pt_X6_pay_175 C G a0 x1 l6 x8 x9 m := by
  obtain ⟨hF, hQ, hR⟩ := id S
  have h0 : zF0 C cX6_pay 14 wsX6_pay RX6 := hF.1
  have hL := hF.2.2.1
  unfold Pt_X6_pay_175
  refine zx_iload h0 4 dX6_pay_175 rfl ?_
  refine zx_aload_n h0 0 dX6_pay_177 rfl ?_
  refine zx_iload_n h0 1 dX6_pay_178 rfl ?_
  refine zx_bipush (v := 9) h0 dX6_pay_179 (by decide) ?_
  obtain ⟨ho1, h⟩ := h
  refine zx_callVi (As := [.int x1, .int 9]) (rest := [.int x9]) hF (c_X6_of a0 x1 9 m ka0 ho1) (zc_X6_pay_X6_of S) ka0 (by decide) rfl dX6_pay_181 rfl rfl (Nat.le_of_ble_eq_true rfl) ⟨Nat.zero_le _, Nat.zero_le _⟩ (fun r2 m2 hq => ?_)
  obtain ⟨hme, hq⟩ := hq
  subst m2
  replace h := h r2 hq
  refine zx_icmp_ge (tgt := 209) h0 dX6_pay_184 (by decide) (fun q => ?_) (fun q => ?_)
  · replace h := h.1 q
    refine zx_lload h0 2 dX6_pay_209 rfl ?_
    refine zx_lstore (L' := [(9, .long l6), (0, .ref a0), (1, .int x1), (6, .long l6), (8, .int x8)]) h0 dX6_pay_211 (by decide) rfl ?_
    refine zx_iconst (v := 0) h0 dX6_pay_213 (by decide) ?_
    refine zx_istore (L' := [(11, .int 0), (9, .long l6), (0, .ref a0), (1, .int x1), (6, .long l6), (8, .int x8)]) h0 dX6_pay_214 (by decide) rfl ?_
    exact zx_sub [2, 3, 4, 5, 1, 0] rfl h
  · replace h := h.2 q
    refine zx_iload h0 3 dX6_pay_187 rfl ?_
    refine zx_aload_n h0 0 dX6_pay_189 rfl ?_
    refine zx_get hF ka0 (by decide) rfl zi_X6_pay_6 16 (by decide) zn_X6_pay_58 rfl rfl dX6_pay_190 ?_
    refine zx_iconst (v := 4) h0 dX6_pay_193 (by decide) ?_
    refine zx_iload_n h0 1 dX6_pay_194 rfl ?_
    refine zx_imul h0 dX6_pay_195 ?_
    refine zx_iload h0 4 dX6_pay_196 rfl ?_
    refine zx_iadd h0 dX6_pay_198 ?_
    obtain ⟨ho3, h⟩ := h
    refine zx_iald (j := ((4 * x1) + x9).toNatClampNeg) hF (zL_6_16 hL ka0) (by decide) rfl rfl ho3 rfl dX6_pay_199 ?_
    refine zx_iadd h0 dX6_pay_200 ?_
    refine zx_istore (L' := [(8, .int (x8 + (zI m 1616 a0 (((4 * x1) + x9).toNatClampNeg)))), (0, .ref a0), (1, .int x1), (6, .long l6), (9, .int x9)]) h0 dX6_pay_201 (by decide) rfl ?_
    refine zx_iinc (v := (x9 + 1)) (L' := [(9, .int (x9 + 1)), (8, .int (x8 + (zI m 1616 a0 (((4 * x1) + x9).toNatClampNeg)))), (0, .ref a0), (1, .int x1), (6, .long l6)]) h0 4 dX6_pay_203 rfl rfl (by decide) rfl ?_
    refine zx_goto (tgt := 175) h0 dX6_pay_206 (by decide) ?_
    exact zx_sub [2, 3, 4, 1, 0] rfl h
set_option maxRecDepth 100000 in
set_option maxHeartbeats 4000000 in
theorem sg_X6_pay_216 {C : zC} {G : zG} {Qc : Array Value → State → Outcome → State → Prop} (S : St_X6_pay C G Qc) {P_X6_of : Nat → Int32 → Int32 → zM → Prop} {Q_X6_of : Nat → Int32 → Int32 → zM → Int32 → Prop} (c_X6_of : Con_X6_of (zl C) G P_X6_of Q_X6_of) {a0 : Nat} {x1 : Int32} {l6 : Int64} {x8 : Int32} {l9 : Int64} {x11 : Int32} {m : zM} (ka0 : zK G a0 = some (6, a0))
    (h : (P_X6_of a0 x1 9 m) ∧ (∀ (r2 : Int32), Q_X6_of a0 x1 9 m r2 → ((r2 ≤ x11 → ((x8 ≤ 0 → ((vp_in x1 64) ∧ (zRet C G Qc none (zsJ m 1612 a0 x1.toNatClampNeg ((zJ m 1612 a0 x1.toNatClampNeg) + l9))))) ∧ (¬ x8 ≤ 0 → ((vp_in (4 * x1) 256) ∧ (zRet C G Qc none (zsJ m 1617 a0 ((4 * x1).toNatClampNeg) ((zJ m 1617 a0 ((4 * x1).toNatClampNeg)) + l9))))))) ∧ (¬ r2 ≤ x11 → ((vp_in ((4 * x1) + x11) 256) ∧ ((¬ ((x8 : Int32).toInt64) = 0) ∧ (Pt_X6_pay_216 C G a0 x1 l6 x8 (l9 - ((l6 * (((zI m 1616 a0 (((4 * x1) + x11).toNatClampNeg)) : Int32).toInt64)) / ((x8 : Int32).toInt64))) (x11 + 1) (zsJ m 1617 a0 (((4 * x1) + x11).toNatClampNeg) ((zJ m 1617 a0 (((4 * x1) + x11).toNatClampNeg)) + ((l6 * (((zI m 1616 a0 (((4 * x1) + x11).toNatClampNeg)) : Int32).toInt64)) / ((x8 : Int32).toInt64))))))))))) : Pt_X6_pay_216 C G a0 x1 l6 x8 l9 x11 m := by
  obtain ⟨hF, hQ, hR⟩ := id S
  have h0 : zF0 C cX6_pay 14 wsX6_pay RX6 := hF.1
  have hL := hF.2.2.1
  unfold Pt_X6_pay_216
  refine zx_iload h0 5 dX6_pay_216 rfl ?_
  refine zx_aload_n h0 0 dX6_pay_218 rfl ?_
  refine zx_iload_n h0 1 dX6_pay_219 rfl ?_
  refine zx_bipush (v := 9) h0 dX6_pay_220 (by decide) ?_
  obtain ⟨ho1, h⟩ := h
  refine zx_callVi (As := [.int x1, .int 9]) (rest := [.int x11]) hF (c_X6_of a0 x1 9 m ka0 ho1) (zc_X6_pay_X6_of S) ka0 (by decide) rfl dX6_pay_222 rfl rfl (Nat.le_of_ble_eq_true rfl) ⟨Nat.zero_le _, Nat.zero_le _⟩ (fun r2 m2 hq => ?_)
  obtain ⟨hme, hq⟩ := hq
  subst m2
  replace h := h r2 hq
  refine zx_icmp_ge (tgt := 278) h0 dX6_pay_225 (by decide) (fun q => ?_) (fun q => ?_)
  · replace h := h.1 q
    refine zx_iload h0 3 dX6_pay_278 rfl ?_
    refine zx_if_le (tgt := 299) h0 dX6_pay_280 (by decide) (fun q => ?_) (fun q => ?_)
    · replace h := h.1 q
      refine zx_aload_n h0 0 dX6_pay_299 rfl ?_
      refine zx_get hF ka0 (by decide) rfl zi_X6_pay_6 12 (by decide) zn_X6_pay_46 rfl rfl dX6_pay_300 ?_
      refine zx_iload_n h0 1 dX6_pay_303 rfl ?_
      refine zx_dup2_11 h0 dX6_pay_304 rfl rfl ?_
      obtain ⟨ho3, h⟩ := h
      refine zx_lald (j := x1.toNatClampNeg) hF (zL_6_12 hL ka0) (by decide) rfl rfl ho3 rfl dX6_pay_305 ?_
      refine zx_lload h0 4 dX6_pay_306 rfl ?_
      refine zx_ladd h0 dX6_pay_308 ?_
      refine zx_last (j := x1.toNatClampNeg) hF (zL_6_12 hL ka0) (by decide) rfl rfl ho3 rfl dX6_pay_309 ?_
      exact zx_vret hF hQ dX6_pay_310 h
    · replace h := h.2 q
      refine zx_aload_n h0 0 dX6_pay_283 rfl ?_
      refine zx_get hF ka0 (by decide) rfl zi_X6_pay_6 17 (by decide) zn_X6_pay_61 rfl rfl dX6_pay_284 ?_
      refine zx_iconst (v := 4) h0 dX6_pay_287 (by decide) ?_
      refine zx_iload_n h0 1 dX6_pay_288 rfl ?_
      refine zx_imul h0 dX6_pay_289 ?_
      refine zx_dup2_11 h0 dX6_pay_290 rfl rfl ?_
      obtain ⟨ho4, h⟩ := h
      refine zx_lald (j := (4 * x1).toNatClampNeg) hF (zL_6_17 hL ka0) (by decide) rfl rfl ho4 rfl dX6_pay_291 ?_
      refine zx_lload h0 4 dX6_pay_292 rfl ?_
      refine zx_ladd h0 dX6_pay_294 ?_
      refine zx_last (j := (4 * x1).toNatClampNeg) hF (zL_6_17 hL ka0) (by decide) rfl rfl ho4 rfl dX6_pay_295 ?_
      refine zx_goto (tgt := 310) h0 dX6_pay_296 (by decide) ?_
      exact zx_vret hF hQ dX6_pay_310 h
  · replace h := h.2 q
    refine zx_lload h0 2 dX6_pay_228 rfl ?_
    refine zx_aload_n h0 0 dX6_pay_230 rfl ?_
    refine zx_get hF ka0 (by decide) rfl zi_X6_pay_6 16 (by decide) zn_X6_pay_58 rfl rfl dX6_pay_231 ?_
    refine zx_iconst (v := 4) h0 dX6_pay_234 (by decide) ?_
    refine zx_iload_n h0 1 dX6_pay_235 rfl ?_
    refine zx_imul h0 dX6_pay_236 ?_
    refine zx_iload h0 5 dX6_pay_237 rfl ?_
    refine zx_iadd h0 dX6_pay_239 ?_
    obtain ⟨ho5, h⟩ := h
    refine zx_iald (j := ((4 * x1) + x11).toNatClampNeg) hF (zL_6_16 hL ka0) (by decide) rfl rfl ho5 rfl dX6_pay_240 ?_
    refine zx_i2l (v := (((zI m 1616 a0 (((4 * x1) + x11).toNatClampNeg)) : Int32).toInt64)) h0 dX6_pay_241 rfl ?_
    refine zx_lmul h0 dX6_pay_242 ?_
    refine zx_iload h0 3 dX6_pay_243 rfl ?_
    refine zx_i2l (v := ((x8 : Int32).toInt64)) h0 dX6_pay_245 rfl ?_
    obtain ⟨ho6, h⟩ := h
    refine zx_ldiv h0 dX6_pay_246 ho6 ?_
    refine zx_lstore (L' := [(12, .long ((l6 * (((zI m 1616 a0 (((4 * x1) + x11).toNatClampNeg)) : Int32).toInt64)) / ((x8 : Int32).toInt64))), (0, .ref a0), (1, .int x1), (6, .long l6), (8, .int x8), (9, .long l9), (11, .int x11)]) h0 dX6_pay_247 (by decide) rfl ?_
    refine zx_aload_n h0 1 dX6_pay_249 rfl ?_
    refine zx_get hF ka0 (by decide) rfl zi_X6_pay_6 17 (by decide) zn_X6_pay_61 rfl rfl dX6_pay_250 ?_
    refine zx_iconst (v := 4) h0 dX6_pay_253 (by decide) ?_
    refine zx_iload_n h0 2 dX6_pay_254 rfl ?_
    refine zx_imul h0 dX6_pay_255 ?_
    refine zx_iload h0 6 dX6_pay_256 rfl ?_
    refine zx_iadd h0 dX6_pay_258 ?_
    refine zx_dup2_11 h0 dX6_pay_259 rfl rfl ?_
    refine zx_lald (j := ((4 * x1) + x11).toNatClampNeg) hF (zL_6_17 hL ka0) (by decide) rfl rfl ho5 rfl dX6_pay_260 ?_
    refine zx_lload h0 0 dX6_pay_261 rfl ?_
    refine zx_ladd h0 dX6_pay_263 ?_
    refine zx_last (j := ((4 * x1) + x11).toNatClampNeg) hF (zL_6_17 hL ka0) (by decide) rfl rfl ho5 rfl dX6_pay_264 ?_
    refine zx_lload h0 5 dX6_pay_265 rfl ?_
    refine zx_lload h0 0 dX6_pay_267 rfl ?_
    refine zx_lsub h0 dX6_pay_269 ?_
    refine zx_lstore (L' := [(9, .long (l9 - ((l6 * (((zI m 1616 a0 (((4 * x1) + x11).toNatClampNeg)) : Int32).toInt64)) / ((x8 : Int32).toInt64)))), (12, .long ((l6 * (((zI m 1616 a0 (((4 * x1) + x11).toNatClampNeg)) : Int32).toInt64)) / ((x8 : Int32).toInt64))), (0, .ref a0), (1, .int x1), (6, .long l6), (8, .int x8), (11, .int x11)]) h0 dX6_pay_270 (by decide) rfl ?_
    refine zx_iinc (v := (x11 + 1)) (L' := [(11, .int (x11 + 1)), (9, .long (l9 - ((l6 * (((zI m 1616 a0 (((4 * x1) + x11).toNatClampNeg)) : Int32).toInt64)) / ((x8 : Int32).toInt64)))), (12, .long ((l6 * (((zI m 1616 a0 (((4 * x1) + x11).toNatClampNeg)) : Int32).toInt64)) / ((x8 : Int32).toInt64))), (0, .ref a0), (1, .int x1), (6, .long l6), (8, .int x8)]) h0 6 dX6_pay_272 rfl rfl (by decide) rfl ?_
    refine zx_goto (tgt := 216) h0 dX6_pay_275 (by decide) ?_
    exact zx_sub [3, 4, 5, 6, 1, 0] rfl h
theorem zn_X6_wave_129 : Cond.fieldLink RX6 129 RX6 (TX6 0).2.1 (TX6 0).2.2.1 ∈ wsX6_wave := List.mem_of_getElem? (i := 1) rfl
theorem zi_X6_wave_6 : ∀ w ∈ u_ws RX6 TX6 50, w ∈ wsX6_wave := fun _ h => List.mem_cons_of_mem _ (List.mem_append_right _ h)
theorem zn_X6_wave_k314 : Cond.constantLong RX6 314 (-1) ∈ wsX6_wave := List.mem_of_getElem? (i := 3) rfl
theorem zn_X6_wave_33 : Cond.fieldLink RX6 33 RX6 (TX6 8).2.1 (TX6 8).2.2.1 ∈ wsX6_wave := List.mem_of_getElem? (i := 2) rfl
theorem zn_X6_wave_27 : Cond.fieldLink RX6 27 RX6 (TX6 6).2.1 (TX6 6).2.2.1 ∈ wsX6_wave := List.mem_of_getElem? (i := 4) rfl
theorem zn_X6_wave_30 : Cond.fieldLink RX6 30 RX6 (TX6 7).2.1 (TX6 7).2.2.1 ∈ wsX6_wave := List.mem_of_getElem? (i := 7) rfl
theorem zn_X6_wave_k278 : Cond.constantLong RX6 278 100 ∈ wsX6_wave := List.mem_of_getElem? (i := 5) rfl
theorem zn_X6_wave_40 : Cond.fieldLink RX6 40 RX6 (TX6 10).2.1 (TX6 10).2.2.1 ∈ wsX6_wave := List.mem_of_getElem? (i := 6) rfl
theorem zc_X6_wave_X6_in {C : zC} {G : zG} {Qc : Array Value → State → Outcome → State → Prop} (S : St_X6_wave C G Qc) : CallB (zRm C) (zs C) (zar C) RX6 145 yX6_in cX6_in 3 (some .boolean) wsX6_in rm_X6_in 0 0 3 ∧ (Cond.static yX6_in).before (zar C) (zs C) = true := cwS 3 S.1.1.2.2.2.2 gX6_wave_X6_in rfl rfl rfl (by decide +kernel) (by rw [S.2.2]; exact ⟨Nat.le_of_ble_eq_true rfl, Nat.le_of_ble_eq_true rfl⟩)
theorem zc_X6_wave_X6_paidAll {C : zC} {G : zG} {Qc : Array Value → State → Outcome → State → Prop} (S : St_X6_wave C G Qc) : CallW (zRm C) (zs C) (zar C) RX6 RX6 159 yX6_paidAll cX6_paidAll 4 (some .long) wsX6_paidAll rm_X6_paidAll 0 0 0 := cwV 0 S.1.1.2.2.2.2 gX6_wave_X6_paidAll rfl rfl rfl (by decide +kernel) (by rw [S.2.2]; exact ⟨Nat.le_of_ble_eq_true rfl, Nat.le_of_ble_eq_true rfl⟩)
theorem zc_X6_wave_X6_all {C : zC} {G : zG} {Qc : Array Value → State → Outcome → State → Prop} (S : St_X6_wave C G Qc) : CallW (zRm C) (zs C) (zar C) RX6 RX6 296 yX6_all cX6_all 4 (some .long) wsX6_all rm_X6_all 0 0 0 := cwV 0 S.1.1.2.2.2.2 gX6_wave_X6_all rfl rfl rfl (by decide +kernel) (by rw [S.2.2]; exact ⟨Nat.le_of_ble_eq_true rfl, Nat.le_of_ble_eq_true rfl⟩)
theorem zc_X6_wave_X6_is {C : zC} {G : zG} {Qc : Array Value → State → Outcome → State → Prop} (S : St_X6_wave C G Qc) : CallW (zRm C) (zs C) (zar C) RX6 RX6 307 yX6_is cX6_is 3 (some .boolean) wsX6_is rm_X6_is 0 0 2 := cwV 2 S.1.1.2.2.2.2 gX6_wave_X6_is rfl rfl rfl (by decide +kernel) (by rw [S.2.2]; exact ⟨Nat.le_of_ble_eq_true rfl, Nat.le_of_ble_eq_true rfl⟩)
theorem zc_X6_wave_X6_worst {C : zC} {G : zG} {Qc : Array Value → State → Outcome → State → Prop} (S : St_X6_wave C G Qc) : CallW (zRm C) (zs C) (zar C) RX6 RX6 299 yX6_worst cX6_worst 4 (some .long) wsX6_worst rm_X6_worst 0 0 2 := cwV 2 S.1.1.2.2.2.2 gX6_wave_X6_worst rfl rfl rfl (by decide +kernel) (by rw [S.2.2]; exact ⟨Nat.le_of_ble_eq_true rfl, Nat.le_of_ble_eq_true rfl⟩)
theorem zc_X6_wave_X6_pay {C : zC} {G : zG} {Qc : Array Value → State → Outcome → State → Prop} (S : St_X6_wave C G Qc) : CallW (zRm C) (zs C) (zar C) RX6 RX6 322 yX6_pay cX6_pay 14 none wsX6_pay rm_X6_pay 0 0 2 := cwV 2 S.1.1.2.2.2.2 gX6_wave_X6_pay rfl rfl rfl (by decide +kernel) (by rw [S.2.2]; exact ⟨Nat.le_of_ble_eq_true rfl, Nat.le_of_ble_eq_true rfl⟩)
set_option maxRecDepth 100000 in
set_option maxHeartbeats 4000000 in
theorem sg_X6_wave_0 {C : zC} {G : zG} {Qc : Array Value → State → Outcome → State → Prop} (S : St_X6_wave C G Qc) {P_X6_in : Int32 → Int32 → Int32 → zM → Prop} {Q_X6_in : Int32 → Int32 → Int32 → zM → Int32 → Prop} (c_X6_in : Con_X6_in (zl C) G P_X6_in Q_X6_in) {P_X6_paidAll : Nat → zM → Prop} {Q_X6_paidAll : Nat → zM → Int64 → Prop} (c_X6_paidAll : Con_X6_paidAll (zl C) G P_X6_paidAll Q_X6_paidAll) {P_X6_all : Nat → zM → Prop} {Q_X6_all : Nat → zM → Int64 → Prop} (c_X6_all : Con_X6_all (zl C) G P_X6_all Q_X6_all) {a0 : Nat} {x1 : Int32} {m : zM} (ka0 : zK G a0 = some (6, a0))
    (h : (P_X6_in x1 1 100 (zsI m 600 a0 0 0)) ∧ (∀ (r2 : Int32), Q_X6_in x1 1 100 (zsI m 600 a0 0 0) r2 → ((r2 = 0 → (zRet C G Qc (some (.long (-1))) (zsI m 600 a0 0 0))) ∧ (¬ r2 = 0 → (((zI m 1608 a0 0) = 0 → ((P_X6_paidAll a0 (zsI m 600 a0 0 0)) ∧ (∀ (r4 : Int64), Q_X6_paidAll a0 (zsI m 600 a0 0 0) r4 → ((P_X6_all a0 (zsI m 600 a0 0 0)) ∧ (∀ (r6 : Int64), Q_X6_all a0 (zsI m 600 a0 0 0) r6 → (Pt_X6_wave_42 C G a0 x1 r4 r6 0 (zsI m 600 a0 0 0))))))) ∧ (¬ (zI m 1608 a0 0) = 0 → (zRet C G Qc (some (.long (-1))) (zsI m 600 a0 0 0)))))))) : Pt_X6_wave_0 C G a0 x1 m := by
  obtain ⟨hF, hQ, hR⟩ := id S
  have h0 : zF0 C cX6_wave 7 wsX6_wave RX6 := hF.1
  have hL := hF.2.2.1
  unfold Pt_X6_wave_0
  refine zx_aload_n h0 0 dX6_wave_0 rfl ?_
  refine zx_iconst (v := 0) h0 dX6_wave_1 (by decide) ?_
  refine zp_600 hF ka0 zi_X6_wave_6 zn_X6_wave_129 dX6_wave_2 ?_
  refine zx_iload_n h0 1 dX6_wave_5 rfl ?_
  refine zx_iconst (v := 1) h0 dX6_wave_6 (by decide) ?_
  refine zx_bipush (v := 100) h0 dX6_wave_7 (by decide) ?_
  obtain ⟨ho1, h⟩ := h
  refine zx_callSi (As := [.int x1, .int 1, .int 100]) (rest := []) hF (c_X6_in x1 1 100 (zsI m 600 a0 0 0)  ho1) (zc_X6_wave_X6_in S)  dX6_wave_9 rfl rfl (Nat.le_of_ble_eq_true rfl) ⟨Nat.zero_le _, Nat.zero_le _⟩ (fun r2 m2 hq => ?_)
  obtain ⟨hme, hq⟩ := hq
  subst m2
  replace h := h r2 hq
  refine zx_if_eq (tgt := 24) h0 dX6_wave_12 (by decide) (fun q => ?_) (fun q => ?_)
  · replace h := h.1 q
    refine zx_ldc2 (v := (-1)) h0 zn_X6_wave_k314 dX6_wave_24 ?_
    exact zx_lret hF hQ dX6_wave_27 h
  · replace h := h.2 q
    refine zx_aload_n h0 0 dX6_wave_15 rfl ?_
    refine zx_get hF ka0 (by decide) rfl zi_X6_wave_6 8 (by decide) zn_X6_wave_33 rfl rfl dX6_wave_16 ?_
    refine zx_iconst (v := 0) h0 dX6_wave_19 (by decide) ?_
    refine zx_zald (j := 0) hF (zL_6_8 hL ka0) (by decide) rfl rfl (by unfold vp_in; decide) (by decide) dX6_wave_20 ?_
    refine zx_topI (zI_n (by decide)) ?_
    refine zx_if_eq (tgt := 28) h0 dX6_wave_21 (by decide) (fun q => ?_) (fun q => ?_)
    · replace h := h.1 q
      refine zx_aload_n h0 0 dX6_wave_28 rfl ?_
      obtain ⟨ho3, h⟩ := h
      refine zx_callVl (As := []) (rest := []) hF (c_X6_paidAll a0 (zsI m 600 a0 0 0) ka0 ho3) (zc_X6_wave_X6_paidAll S) ka0 (by decide) rfl dX6_wave_29 rfl rfl (Nat.le_of_ble_eq_true rfl) ⟨Nat.zero_le _, Nat.zero_le _⟩ (fun r4 m4 hq => ?_)
      obtain ⟨hme, hq⟩ := hq
      subst m4
      replace h := h r4 hq
      refine zx_lstore_n (L' := [(2, .long r4), (0, .ref a0), (1, .int x1)]) h0 dX6_wave_32 (by decide) rfl ?_
      refine zx_aload_n h0 1 dX6_wave_33 rfl ?_
      obtain ⟨ho5, h⟩ := h
      refine zx_callVl (As := []) (rest := []) hF (c_X6_all a0 (zsI m 600 a0 0 0) ka0 ho5) (zc_X6_wave_X6_all S) ka0 (by decide) rfl dX6_wave_34 rfl rfl (Nat.le_of_ble_eq_true rfl) ⟨Nat.zero_le _, Nat.zero_le _⟩ (fun r6 m6 hq => ?_)
      obtain ⟨hme, hq⟩ := hq
      subst m6
      replace h := h r6 hq
      refine zx_lstore (L' := [(4, .long r6), (2, .long r4), (0, .ref a0), (1, .int x1)]) h0 dX6_wave_37 (by decide) rfl ?_
      refine zx_iconst (v := 0) h0 dX6_wave_39 (by decide) ?_
      refine zx_istore (L' := [(6, .int 0), (4, .long r6), (2, .long r4), (0, .ref a0), (1, .int x1)]) h0 dX6_wave_40 (by decide) rfl ?_
      exact zx_sub [3, 4, 2, 1, 0] rfl h
    · replace h := h.2 q
      refine zx_ldc2 (v := (-1)) h0 zn_X6_wave_k314 dX6_wave_24 ?_
      exact zx_lret hF hQ dX6_wave_27 h
set_option maxRecDepth 100000 in
set_option maxHeartbeats 4000000 in
theorem sg_X6_wave_42 {C : zC} {G : zG} {Qc : Array Value → State → Outcome → State → Prop} (S : St_X6_wave C G Qc) {P_X6_paidAll : Nat → zM → Prop} {Q_X6_paidAll : Nat → zM → Int64 → Prop} (c_X6_paidAll : Con_X6_paidAll (zl C) G P_X6_paidAll Q_X6_paidAll) {P_X6_is : Nat → Int32 → Int32 → zM → Prop} {Q_X6_is : Nat → Int32 → Int32 → zM → Int32 → Prop} (c_X6_is : Con_X6_is (zl C) G P_X6_is Q_X6_is) {P_X6_worst : Nat → Int32 → Int64 → zM → Prop} {Q_X6_worst : Nat → Int32 → Int64 → zM → Int64 → Prop} (c_X6_worst : Con_X6_worst (zl C) G P_X6_worst Q_X6_worst) {P_X6_pay : Nat → Int32 → Int64 → zM → Prop} {Q_X6_pay : Nat → Int32 → Int64 → zM → zM → Prop} (c_X6_pay : Con_X6_pay (zl C) G P_X6_pay Q_X6_pay) {a0 : Nat} {x1 : Int32} {l2 : Int64} {l4 : Int64} {x6 : Int32} {m : zM} (ka0 : zK G a0 = some (6, a0))
    (h : ((zI m 1606 a0 0) ≤ x6 → ((P_X6_paidAll a0 (zsI m 1607 a0 0 ((zI m 1607 a0 0) + 1))) ∧ (∀ (r2 : Int64), Q_X6_paidAll a0 (zsI m 1607 a0 0 ((zI m 1607 a0 0) + 1)) r2 → (zRet C G Qc (some (.long (r2 - l2))) (zsI m 1607 a0 0 ((zI m 1607 a0 0) + 1)))))) ∧ (¬ (zI m 1606 a0 0) ≤ x6 → ((P_X6_is a0 x6 1 m) ∧ (∀ (r4 : Int32), Q_X6_is a0 x6 1 m r4 → ((r4 = 0 → (Pt_X6_wave_42 C G a0 x1 l2 l4 (x6 + 1) m)) ∧ (¬ r4 = 0 → ((P_X6_worst a0 x6 l4 m) ∧ (∀ (r6 : Int64), Q_X6_worst a0 x6 l4 m r6 → ((vp_in x6 64) ∧ ((P_X6_pay a0 x6 (((r6 * ((x1 : Int32).toInt64)) / 100) - (zJ m 1610 a0 x6.toNatClampNeg)) m) ∧ (∀ (m9 : zM), Q_X6_pay a0 x6 (((r6 * ((x1 : Int32).toInt64)) / 100) - (zJ m 1610 a0 x6.toNatClampNeg)) m m9 → (Pt_X6_wave_42 C G a0 x1 l2 l4 (x6 + 1) m9)))))))))))) : Pt_X6_wave_42 C G a0 x1 l2 l4 x6 m := by
  obtain ⟨hF, hQ, hR⟩ := id S
  have h0 : zF0 C cX6_wave 7 wsX6_wave RX6 := hF.1
  have hL := hF.2.2.1
  unfold Pt_X6_wave_42
  refine zx_iload h0 4 dX6_wave_42 rfl ?_
  refine zx_aload_n h0 0 dX6_wave_44 rfl ?_
  refine zx_get hF ka0 (by decide) rfl zi_X6_wave_6 6 (by decide) zn_X6_wave_27 rfl rfl dX6_wave_45 ?_
  refine zx_iconst (v := 0) h0 dX6_wave_48 (by decide) ?_
  refine zx_iald (j := 0) hF (zL_6_6 hL ka0) (by decide) rfl rfl (by unfold vp_in; decide) (by decide) dX6_wave_49 ?_
  refine zx_icmp_ge (tgt := 98) h0 dX6_wave_50 (by decide) (fun q => ?_) (fun q => ?_)
  · replace h := h.1 q
    refine zx_aload_n h0 0 dX6_wave_98 rfl ?_
    refine zx_get hF ka0 (by decide) rfl zi_X6_wave_6 7 (by decide) zn_X6_wave_30 rfl rfl dX6_wave_99 ?_
    refine zx_iconst (v := 0) h0 dX6_wave_102 (by decide) ?_
    refine zx_dup2_11 h0 dX6_wave_103 rfl rfl ?_
    refine zx_iald (j := 0) hF (zL_6_7 hL ka0) (by decide) rfl rfl (by unfold vp_in; decide) (by decide) dX6_wave_104 ?_
    refine zx_iconst (v := 1) h0 dX6_wave_105 (by decide) ?_
    refine zx_iadd h0 dX6_wave_106 ?_
    refine zx_iast (j := 0) hF (zL_6_7 hL ka0) (by decide) rfl rfl (by unfold vp_in; decide) (by decide) rfl (z_fit rfl) dX6_wave_107 ?_
    refine zx_aload_n h0 0 dX6_wave_108 rfl ?_
    obtain ⟨ho1, h⟩ := h
    refine zx_callVl (As := []) (rest := []) hF (c_X6_paidAll a0 (zsI m 1607 a0 0 ((zI m 1607 a0 0) + 1)) ka0 ho1) (zc_X6_wave_X6_paidAll S) ka0 (by decide) rfl dX6_wave_109 rfl rfl (Nat.le_of_ble_eq_true rfl) ⟨Nat.zero_le _, Nat.zero_le _⟩ (fun r2 m2 hq => ?_)
    obtain ⟨hme, hq⟩ := hq
    subst m2
    replace h := h r2 hq
    refine zx_lload_n h0 2 dX6_wave_112 rfl ?_
    refine zx_lsub h0 dX6_wave_113 ?_
    exact zx_lret hF hQ dX6_wave_114 h
  · replace h := h.2 q
    refine zx_aload_n h0 0 dX6_wave_53 rfl ?_
    refine zx_iload h0 4 dX6_wave_54 rfl ?_
    refine zx_iconst (v := 1) h0 dX6_wave_56 (by decide) ?_
    obtain ⟨ho3, h⟩ := h
    refine zx_callVi (As := [.int x6, .int 1]) (rest := []) hF (c_X6_is a0 x6 1 m ka0 ho3) (zc_X6_wave_X6_is S) ka0 (by decide) rfl dX6_wave_57 rfl rfl (Nat.le_of_ble_eq_true rfl) ⟨Nat.zero_le _, Nat.zero_le _⟩ (fun r4 m4 hq => ?_)
    obtain ⟨hme, hq⟩ := hq
    subst m4
    replace h := h r4 hq
    refine zx_if_eq (tgt := 92) h0 dX6_wave_60 (by decide) (fun q => ?_) (fun q => ?_)
    · replace h := h.1 q
      refine zx_iinc (v := (x6 + 1)) (L' := [(6, .int (x6 + 1)), (0, .ref a0), (1, .int x1), (2, .long l2), (4, .long l4)]) h0 4 dX6_wave_92 rfl rfl (by decide) rfl ?_
      refine zx_goto (tgt := 42) h0 dX6_wave_95 (by decide) ?_
      exact zx_sub [1, 2, 3, 4, 0] rfl h
    · replace h := h.2 q
      refine zx_aload_n h0 0 dX6_wave_63 rfl ?_
      refine zx_iload h0 4 dX6_wave_64 rfl ?_
      refine zx_aload_n h0 0 dX6_wave_66 rfl ?_
      refine zx_iload h0 4 dX6_wave_67 rfl ?_
      refine zx_lload h0 3 dX6_wave_69 rfl ?_
      obtain ⟨ho5, h⟩ := h
      refine zx_callVl (As := [.int x6, .long l4]) (rest := [.int x6, .ref a0]) hF (c_X6_worst a0 x6 l4 m ka0 ho5) (zc_X6_wave_X6_worst S) ka0 (by decide) rfl dX6_wave_71 rfl rfl (Nat.le_of_ble_eq_true rfl) ⟨Nat.zero_le _, Nat.zero_le _⟩ (fun r6 m6 hq => ?_)
      obtain ⟨hme, hq⟩ := hq
      subst m6
      replace h := h r6 hq
      refine zx_iload_n h0 1 dX6_wave_74 rfl ?_
      refine zx_i2l (v := ((x1 : Int32).toInt64)) h0 dX6_wave_75 rfl ?_
      refine zx_lmul h0 dX6_wave_76 ?_
      refine zx_ldc2 (v := 100) h0 zn_X6_wave_k278 dX6_wave_77 ?_
      refine zx_ldiv h0 dX6_wave_80 (by decide) ?_
      refine zx_aload_n h0 0 dX6_wave_81 rfl ?_
      refine zx_get hF ka0 (by decide) rfl zi_X6_wave_6 10 (by decide) zn_X6_wave_40 rfl rfl dX6_wave_82 ?_
      refine zx_iload h0 4 dX6_wave_85 rfl ?_
      obtain ⟨ho7, h⟩ := h
      refine zx_lald (j := x6.toNatClampNeg) hF (zL_6_10 hL ka0) (by decide) rfl rfl ho7 rfl dX6_wave_87 ?_
      refine zx_lsub h0 dX6_wave_88 ?_
      obtain ⟨ho8, h⟩ := h
      refine zx_callVv (As := [.int x6, .long (((r6 * ((x1 : Int32).toInt64)) / 100) - (zJ m 1610 a0 x6.toNatClampNeg))]) (rest := []) hF (c_X6_pay a0 x6 (((r6 * ((x1 : Int32).toInt64)) / 100) - (zJ m 1610 a0 x6.toNatClampNeg)) m ka0 ho8) (zc_X6_wave_X6_pay S) ka0 (by decide) rfl dX6_wave_89 rfl rfl (Nat.le_of_ble_eq_true rfl) ⟨Nat.zero_le _, Nat.zero_le _⟩ (fun m9 hq => ?_)
      replace h := h m9 hq
      refine zx_iinc (v := (x6 + 1)) (L' := [(6, .int (x6 + 1)), (0, .ref a0), (1, .int x1), (2, .long l2), (4, .long l4)]) h0 4 dX6_wave_92 rfl rfl (by decide) rfl ?_
      refine zx_goto (tgt := 42) h0 dX6_wave_95 (by decide) ?_
      exact zx_sub [1, 2, 3, 4, 0] rfl h
theorem zn_X6_states_27 : Cond.fieldLink RX6 27 RX6 (TX6 6).2.1 (TX6 6).2.2.1 ∈ wsX6_states := List.mem_of_getElem? (i := 1) rfl
theorem zi_X6_states_6 : ∀ w ∈ u_ws RX6 TX6 50, w ∈ wsX6_states := fun _ h => List.mem_cons_of_mem _ (List.mem_append_right _ h)
theorem zc_X6_states_X6_of {C : zC} {G : zG} {Qc : Array Value → State → Outcome → State → Prop} (S : St_X6_states C G Qc) : CallW (zRm C) (zs C) (zar C) RX6 RX6 153 yX6_of cX6_of 3 (some .int) wsX6_of rm_X6_of 0 0 2 := cwV 2 S.1.1.2.2.2.2 gX6_states_X6_of rfl rfl rfl (by decide +kernel) (by rw [S.2.2]; exact ⟨Nat.le_of_ble_eq_true rfl, Nat.le_of_ble_eq_true rfl⟩)
set_option maxRecDepth 100000 in
set_option maxHeartbeats 4000000 in
theorem sg_X6_states_0 {C : zC} {G : zG} {Qc : Array Value → State → Outcome → State → Prop} (S : St_X6_states C G Qc) {a0 : Nat} {x1 : Int32} {m : zM} (ka0 : zK G a0 = some (6, a0))
    (h : Pt_X6_states_4 C G a0 x1 0 0 m) : Pt_X6_states_0 C G a0 x1 m := by
  obtain ⟨hF, hQ, hR⟩ := id S
  have h0 : zF0 C cX6_states 4 wsX6_states RX6 := hF.1
  have hL := hF.2.2.1
  unfold Pt_X6_states_0
  refine zx_iconst (v := 0) h0 dX6_states_0 (by decide) ?_
  refine zx_istore_n (L' := [(2, .int 0), (0, .ref a0), (1, .int x1)]) h0 dX6_states_1 (by decide) rfl ?_
  refine zx_iconst (v := 0) h0 dX6_states_2 (by decide) ?_
  refine zx_istore_n (L' := [(3, .int 0), (2, .int 0), (0, .ref a0), (1, .int x1)]) h0 dX6_states_3 (by decide) rfl ?_
  exact zx_sub [2, 3, 1, 0] rfl h
set_option maxRecDepth 100000 in
set_option maxHeartbeats 4000000 in
theorem sg_X6_states_4 {C : zC} {G : zG} {Qc : Array Value → State → Outcome → State → Prop} (S : St_X6_states C G Qc) {P_X6_of : Nat → Int32 → Int32 → zM → Prop} {Q_X6_of : Nat → Int32 → Int32 → zM → Int32 → Prop} (c_X6_of : Con_X6_of (zl C) G P_X6_of Q_X6_of) {a0 : Nat} {x1 : Int32} {x2 : Int32} {x3 : Int32} {m : zM} (ka0 : zK G a0 = some (6, a0))
    (h : ((zI m 1606 a0 0) ≤ x3 → (zRet C G Qc (some (.int x2)) m)) ∧ (¬ (zI m 1606 a0 0) ≤ x3 → ((P_X6_of a0 x3 5 m) ∧ (∀ (r2 : Int32), Q_X6_of a0 x3 5 m r2 → ((¬ r2 = x1 → (Pt_X6_states_4 C G a0 x1 (x2 + 0) (x3 + 1) m)) ∧ (r2 = x1 → (Pt_X6_states_4 C G a0 x1 (x2 + 1) (x3 + 1) m))))))) : Pt_X6_states_4 C G a0 x1 x2 x3 m := by
  obtain ⟨hF, hQ, hR⟩ := id S
  have h0 : zF0 C cX6_states 4 wsX6_states RX6 := hF.1
  have hL := hF.2.2.1
  unfold Pt_X6_states_4
  refine zx_iload_n h0 3 dX6_states_4 rfl ?_
  refine zx_aload_n h0 0 dX6_states_5 rfl ?_
  refine zx_get hF ka0 (by decide) rfl zi_X6_states_6 6 (by decide) zn_X6_states_27 rfl rfl dX6_states_6 ?_
  refine zx_iconst (v := 0) h0 dX6_states_9 (by decide) ?_
  refine zx_iald (j := 0) hF (zL_6_6 hL ka0) (by decide) rfl rfl (by unfold vp_in; decide) (by decide) dX6_states_10 ?_
  refine zx_icmp_ge (tgt := 38) h0 dX6_states_11 (by decide) (fun q => ?_) (fun q => ?_)
  · replace h := h.1 q
    refine zx_iload_n h0 2 dX6_states_38 rfl ?_
    exact zx_iret hF hQ dX6_states_39 h
  · replace h := h.2 q
    refine zx_iload_n h0 2 dX6_states_14 rfl ?_
    refine zx_aload_n h0 0 dX6_states_15 rfl ?_
    refine zx_iload_n h0 3 dX6_states_16 rfl ?_
    refine zx_iconst (v := 5) h0 dX6_states_17 (by decide) ?_
    obtain ⟨ho1, h⟩ := h
    refine zx_callVi (As := [.int x3, .int 5]) (rest := [.int x2]) hF (c_X6_of a0 x3 5 m ka0 ho1) (zc_X6_states_X6_of S) ka0 (by decide) rfl dX6_states_18 rfl rfl (Nat.le_of_ble_eq_true rfl) ⟨Nat.zero_le _, Nat.zero_le _⟩ (fun r2 m2 hq => ?_)
    obtain ⟨hme, hq⟩ := hq
    subst m2
    replace h := h r2 hq
    refine zx_iload_n h0 1 dX6_states_21 rfl ?_
    refine zx_icmp_ne (tgt := 29) h0 dX6_states_22 (by decide) (fun q => ?_) (fun q => ?_)
    · replace h := h.1 q
      refine zx_iconst (v := 0) h0 dX6_states_29 (by decide) ?_
      refine zx_iadd h0 dX6_states_30 ?_
      refine zx_istore_n (L' := [(2, .int (x2 + 0)), (0, .ref a0), (1, .int x1), (3, .int x3)]) h0 dX6_states_31 (by decide) rfl ?_
      refine zx_iinc (v := (x3 + 1)) (L' := [(3, .int (x3 + 1)), (2, .int (x2 + 0)), (0, .ref a0), (1, .int x1)]) h0 3 dX6_states_32 rfl rfl (by decide) rfl ?_
      refine zx_goto (tgt := 4) h0 dX6_states_35 (by decide) ?_
      exact zx_sub [2, 3, 1, 0] rfl h
    · replace h := h.2 q
      refine zx_iconst (v := 1) h0 dX6_states_25 (by decide) ?_
      refine zx_goto (tgt := 30) h0 dX6_states_26 (by decide) ?_
      refine zx_iadd h0 dX6_states_30 ?_
      refine zx_istore_n (L' := [(2, .int (x2 + 1)), (0, .ref a0), (1, .int x1), (3, .int x3)]) h0 dX6_states_31 (by decide) rfl ?_
      refine zx_iinc (v := (x3 + 1)) (L' := [(3, .int (x3 + 1)), (2, .int (x2 + 1)), (0, .ref a0), (1, .int x1)]) h0 3 dX6_states_32 rfl rfl (by decide) rfl ?_
      refine zx_goto (tgt := 4) h0 dX6_states_35 (by decide) ?_
      exact zx_sub [2, 3, 1, 0] rfl h
