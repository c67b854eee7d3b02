theorem zn_X6_test_k238 : Cond.constantLong RX6 238 7237492 ∈ wsX6_test := List.mem_of_getElem? (i := 2) rfl
theorem zn_X6_test_177 : Cond.fieldLink RX6 177 RX6 (TX6 27).2.1 (TX6 27).2.2.1 ∈ wsX6_test := List.mem_of_getElem? (i := 1) rfl
theorem zi_X6_test_6 : ∀ w ∈ u_ws RX6 TX6 50, w ∈ wsX6_test := fun _ h => List.mem_cons_of_mem _ (List.mem_append_right _ h)
theorem zn_X6_test_k240 : Cond.constantLong RX6 240 1802071652 ∈ wsX6_test := List.mem_of_getElem? (i := 3) rfl
theorem zn_X6_test_k242 : Cond.constantLong RX6 242 521391927923 ∈ wsX6_test := List.mem_of_getElem? (i := 4) rfl
theorem zn_X6_test_k244 : Cond.constantLong RX6 244 1818326117 ∈ wsX6_test := List.mem_of_getElem? (i := 5) rfl
theorem zn_X6_test_k246 : Cond.constantLong RX6 246 123563799835251 ∈ wsX6_test := List.mem_of_getElem? (i := 6) rfl
theorem zn_X6_test_k248 : Cond.constantLong RX6 248 7566701 ∈ wsX6_test := List.mem_of_getElem? (i := 7) rfl
theorem zn_X6_test_k250 : Cond.constantLong RX6 250 482671093106 ∈ wsX6_test := List.mem_of_getElem? (i := 8) rfl
theorem zn_X6_test_180 : Cond.fieldLink RX6 180 RX6 (TX6 29).2.1 (TX6 29).2.2.1 ∈ wsX6_test := List.mem_of_getElem? (i := 9) rfl
theorem zn_X6_test_187 : Cond.fieldLink RX6 187 RX6 (TX6 28).2.1 (TX6 28).2.2.1 ∈ wsX6_test := List.mem_of_getElem? (i := 10) rfl
theorem zn_X6_test_88 : Cond.fieldLink RX6 88 RX6 (TX6 36).2.1 (TX6 36).2.2.1 ∈ wsX6_test := List.mem_of_getElem? (i := 11) rfl
theorem zn_X6_test_91 : Cond.fieldLink RX6 91 RX6 (TX6 37).2.1 (TX6 37).2.2.1 ∈ wsX6_test := List.mem_of_getElem? (i := 12) rfl
theorem zn_X6_test_94 : Cond.fieldLink RX6 94 RX6 (TX6 38).2.1 (TX6 38).2.2.1 ∈ wsX6_test := List.mem_of_getElem? (i := 13) rfl
theorem zn_X6_test_85 : Cond.fieldLink RX6 85 RX6 (TX6 35).2.1 (TX6 35).2.2.1 ∈ wsX6_test := List.mem_of_getElem? (i := 14) rfl
theorem zc_X6_test_X6_isWord {C : zC} {G : zG} {Qc : Array Value → State → Outcome → State → Prop} (S : St_X6_test C G Qc) : CallW (zRm C) (zs C) (zar C) RX6 RX6 217 yX6_isWord cX6_isWord 3 (some .boolean) wsX6_isWord rm_X6_isWord 0 0 1 := cwV 1 S.1.1.2.2.2.2 gX6_test_X6_isWord rfl rfl rfl (by decide +kernel) (by rw [S.2.2]; exact ⟨Nat.le_of_ble_eq_true rfl, Nat.le_of_ble_eq_true rfl⟩)
theorem zc_X6_test_X6_next {C : zC} {G : zG} {Qc : Array Value → State → Outcome → State → Prop} (S : St_X6_test C G Qc) : CallW (zRm C) (zs C) (zar C) RX6 RX6 206 yX6_next cX6_next 3 none wsX6_next rm_X6_next 0 0 0 := cwV 0 S.1.1.2.2.2.2 gX6_test_X6_next rfl rfl rfl (by decide +kernel) (by rw [S.2.2]; exact ⟨Nat.le_of_ble_eq_true rfl, Nat.le_of_ble_eq_true rfl⟩)
theorem zc_X6_test_X6_later {C : zC} {G : zG} {Qc : Array Value → State → Outcome → State → Prop} (S : St_X6_test C G Qc) : CallW (zRm C) (zs C) (zar C) RX6 RX6 212 yX6_later cX6_later 3 none wsX6_later rm_X6_later 0 0 2 := cwV 2 S.1.1.2.2.2.2 gX6_test_X6_later rfl rfl rfl (by decide +kernel) (by rw [S.2.2]; exact ⟨Nat.le_of_ble_eq_true rfl, Nat.le_of_ble_eq_true rfl⟩)
theorem zc_X6_test_X6_wrong {C : zC} {G : zG} {Qc : Array Value → State → Outcome → State → Prop} (S : St_X6_test C G Qc) : CallW (zRm C) (zs C) (zar C) RX6 RX6 202 yX6_wrong cX6_wrong 1 (some .boolean) wsX6_wrong rm_X6_wrong 0 0 0 := cwV 0 S.1.1.2.2.2.2 gX6_test_X6_wrong rfl rfl rfl (by decide +kernel) (by rw [S.2.2]; exact ⟨Nat.le_of_ble_eq_true rfl, Nat.le_of_ble_eq_true rfl⟩)
set_option maxRecDepth 100000 in
set_option maxHeartbeats 4000000 in
theorem sg_X6_test_0 {C : zC} {G : zG} {Qc : Array Value → State → Outcome → State → Prop} (S : St_X6_test C G Qc) {P_X6_isWord : Nat → Int64 → zM → Prop} {Q_X6_isWord : Nat → Int64 → zM → Int32 → Prop} (c_X6_isWord : Con_X6_isWord (zl C) G P_X6_isWord Q_X6_isWord) {P_X6_next : Nat → zM → Prop} {Q_X6_next : Nat → zM → zM → Prop} (c_X6_next : Con_X6_next (zl C) G P_X6_next Q_X6_next) {P_X6_later : Nat → Int32 → Int32 → zM → Prop} {Q_X6_later : Nat → Int32 → Int32 → zM → zM → Prop} (c_X6_later : Con_X6_later (zl C) G P_X6_later Q_X6_later) {a0 : Nat} {x1 : Int32} {x2 : Int32} {m : zM} (ka0 : zK G a0 = some (6, a0))
    (h : (¬ x2 = 4 → ((P_X6_isWord a0 7237492 m) ∧ (∀ (r2 : Int32), Q_X6_isWord a0 7237492 m r2 → ((r2 = 0 → (Pt_X6_test_30 C G a0 x1 x2 r2 m)) ∧ (¬ r2 = 0 → ((P_X6_next a0 m) ∧ (∀ (m4 : zM), Q_X6_next a0 m m4 → (Pt_X6_test_30 C G a0 x1 x2 r2 m4)))))))) ∧ (x2 = 4 → ((P_X6_later a0 3 (zI m 627 a0 0) m) ∧ (∀ (m6 : zM), Q_X6_later a0 3 (zI m 627 a0 0) m m6 → ((P_X6_isWord a0 7237492 m6) ∧ (∀ (r8 : Int32), Q_X6_isWord a0 7237492 m6 r8 → ((r8 = 0 → (Pt_X6_test_30 C G a0 x1 x2 r8 m6)) ∧ (¬ r8 = 0 → ((P_X6_next a0 m6) ∧ (∀ (m10 : zM), Q_X6_next a0 m6 m10 → (Pt_X6_test_30 C G a0 x1 x2 r8 m10))))))))))) : Pt_X6_test_0 C G a0 x1 x2 m := by
  obtain ⟨hF, hQ, hR⟩ := id S
  have h0 : zF0 C cX6_test 8 wsX6_test RX6 := hF.1
  have hL := hF.2.2.1
  unfold Pt_X6_test_0
  refine zx_iload_n h0 2 dX6_test_0 rfl ?_
  refine zx_iconst (v := 4) h0 dX6_test_1 (by decide) ?_
  refine zx_icmp_ne (tgt := 14) h0 dX6_test_2 (by decide) (fun q => ?_) (fun q => ?_)
  · replace h := h.1 q
    refine zx_aload_n h0 0 dX6_test_14 rfl ?_
    refine zx_ldc2 (v := 7237492) h0 zn_X6_test_k238 dX6_test_15 ?_
    obtain ⟨ho1, h⟩ := h
    refine zx_callVi (As := [.long 7237492]) (rest := []) hF (c_X6_isWord a0 7237492 m ka0 ho1) (zc_X6_test_X6_isWord S) ka0 (by decide) rfl dX6_test_18 rfl rfl (Nat.le_of_ble_eq_true rfl) ⟨Nat.zero_le _, Nat.zero_le _⟩ (fun r2 m2 hq => ?_)
    obtain ⟨hme, hq⟩ := hq
    subst m2
    replace h := h r2 hq
    refine zx_istore_n (L' := [(3, .int r2), (0, .ref a0), (1, .int x1), (2, .int x2)]) h0 dX6_test_21 (by decide) rfl ?_
    refine zx_iload_n h0 0 dX6_test_22 rfl ?_
    refine zx_if_eq (tgt := 30) h0 dX6_test_23 (by decide) (fun q => ?_) (fun q => ?_)
    · replace h := h.1 q
      exact zx_sub [1, 2, 3, 0] rfl h
    · replace h := h.2 q
      refine zx_aload_n h0 1 dX6_test_26 rfl ?_
      obtain ⟨ho3, h⟩ := h
      refine zx_callVv (As := []) (rest := []) hF (c_X6_next a0 m ka0 ho3) (zc_X6_test_X6_next S) ka0 (by decide) rfl dX6_test_27 rfl rfl (Nat.le_of_ble_eq_true rfl) ⟨Nat.zero_le _, Nat.zero_le _⟩ (fun m4 hq => ?_)
      replace h := h m4 hq
      exact zx_sub [1, 2, 3, 0] rfl h
  · replace h := h.2 q
    refine zx_aload_n h0 0 dX6_test_5 rfl ?_
    refine zx_iconst (v := 3) h0 dX6_test_6 (by decide) ?_
    refine zx_aload_n h0 0 dX6_test_7 rfl ?_
    refine zx_get hF ka0 (by decide) rfl zi_X6_test_6 27 (by decide) zn_X6_test_177 rfl rfl dX6_test_8 ?_
    obtain ⟨ho5, h⟩ := h
    refine zx_callVv (As := [.int 3, .int (zI m 627 a0 0)]) (rest := []) hF (c_X6_later a0 3 (zI m 627 a0 0) m ka0 ho5) (zc_X6_test_X6_later S) ka0 (by decide) rfl dX6_test_11 rfl rfl (Nat.le_of_ble_eq_true rfl) ⟨Nat.zero_le _, Nat.zero_le _⟩ (fun m6 hq => ?_)
    replace h := h m6 hq
    refine zx_aload_n h0 0 dX6_test_14 rfl ?_
    refine zx_ldc2 (v := 7237492) h0 zn_X6_test_k238 dX6_test_15 ?_
    obtain ⟨ho7, h⟩ := h
    refine zx_callVi (As := [.long 7237492]) (rest := []) hF (c_X6_isWord a0 7237492 m6 ka0 ho7) (zc_X6_test_X6_isWord S) ka0 (by decide) rfl dX6_test_18 rfl rfl (Nat.le_of_ble_eq_true rfl) ⟨Nat.zero_le _, Nat.zero_le _⟩ (fun r8 m8 hq => ?_)
    obtain ⟨hme, hq⟩ := hq
    subst m8
    replace h := h r8 hq
    refine zx_istore_n (L' := [(3, .int r8), (0, .ref a0), (1, .int x1), (2, .int x2)]) h0 dX6_test_21 (by decide) rfl ?_
    refine zx_iload_n h0 0 dX6_test_22 rfl ?_
    refine zx_if_eq (tgt := 30) h0 dX6_test_23 (by decide) (fun q => ?_) (fun q => ?_)
    · replace h := h.1 q
      exact zx_sub [1, 2, 3, 0] rfl h
    · replace h := h.2 q
      refine zx_aload_n h0 1 dX6_test_26 rfl ?_
      obtain ⟨ho9, h⟩ := h
      refine zx_callVv (As := []) (rest := []) hF (c_X6_next a0 m6 ka0 ho9) (zc_X6_test_X6_next S) ka0 (by decide) rfl dX6_test_27 rfl rfl (Nat.le_of_ble_eq_true rfl) ⟨Nat.zero_le _, Nat.zero_le _⟩ (fun m10 hq => ?_)
      replace h := h m10 hq
      exact zx_sub [1, 2, 3, 0] rfl h
set_option maxRecDepth 100000 in
set_option maxHeartbeats 4000000 in
theorem sg_X6_test_30 {C : zC} {G : zG} {Qc : Array Value → State → Outcome → State → Prop} (S : St_X6_test C G Qc) {P_X6_isWord : Nat → Int64 → zM → Prop} {Q_X6_isWord : Nat → Int64 → zM → Int32 → Prop} (c_X6_isWord : Con_X6_isWord (zl C) G P_X6_isWord Q_X6_isWord) {a0 : Nat} {x1 : Int32} {x2 : Int32} {x3 : Int32} {m : zM} (ka0 : zK G a0 = some (6, a0))
    (h : (P_X6_isWord a0 1802071652 m) ∧ (∀ (r2 : Int32), Q_X6_isWord a0 1802071652 m r2 → ((r2 = 0 → ((P_X6_isWord a0 521391927923 m) ∧ (∀ (r4 : Int32), Q_X6_isWord a0 521391927923 m r4 → ((r4 = 0 → ((P_X6_isWord a0 1818326117 m) ∧ (∀ (r6 : Int32), Q_X6_isWord a0 1818326117 m r6 → ((r6 = 0 → ((P_X6_isWord a0 123563799835251 m) ∧ (∀ (r8 : Int32), Q_X6_isWord a0 123563799835251 m r8 → ((r8 = 0 → ((P_X6_isWord a0 7566701 m) ∧ (∀ (r10 : Int32), Q_X6_isWord a0 7566701 m r10 → ((r10 = 0 → ((P_X6_isWord a0 482671093106 m) ∧ (∀ (r12 : Int32), Q_X6_isWord a0 482671093106 m r12 → ((r12 = 0 → (Pt_X6_test_115 C G a0 x1 x2 x3 (-1) m)) ∧ (¬ r12 = 0 → (Pt_X6_test_115 C G a0 x1 x2 x3 5 m)))))) ∧ (¬ r10 = 0 → (Pt_X6_test_115 C G a0 x1 x2 x3 4 m)))))) ∧ (¬ r8 = 0 → (Pt_X6_test_115 C G a0 x1 x2 x3 3 m)))))) ∧ (¬ r6 = 0 → (Pt_X6_test_115 C G a0 x1 x2 x3 2 m)))))) ∧ (¬ r4 = 0 → (Pt_X6_test_115 C G a0 x1 x2 x3 1 m)))))) ∧ (¬ r2 = 0 → (Pt_X6_test_115 C G a0 x1 x2 x3 0 m))))) : Pt_X6_test_30 C G a0 x1 x2 x3 m := by
  obtain ⟨hF, hQ, hR⟩ := id S
  have h0 : zF0 C cX6_test 8 wsX6_test RX6 := hF.1
  have hL := hF.2.2.1
  unfold Pt_X6_test_30
  refine zx_aload_n h0 0 dX6_test_30 rfl ?_
  refine zx_ldc2 (v := 1802071652) h0 zn_X6_test_k240 dX6_test_31 ?_
  obtain ⟨ho1, h⟩ := h
  refine zx_callVi (As := [.long 1802071652]) (rest := []) hF (c_X6_isWord a0 1802071652 m ka0 ho1) (zc_X6_test_X6_isWord S) ka0 (by decide) rfl dX6_test_34 rfl rfl (Nat.le_of_ble_eq_true rfl) ⟨Nat.zero_le _, Nat.zero_le _⟩ (fun r2 m2 hq => ?_)
  obtain ⟨hme, hq⟩ := hq
  subst m2
  replace h := h r2 hq
  refine zx_if_eq (tgt := 44) h0 dX6_test_37 (by decide) (fun q => ?_) (fun q => ?_)
  · replace h := h.1 q
    refine zx_aload_n h0 0 dX6_test_44 rfl ?_
    refine zx_ldc2 (v := 521391927923) h0 zn_X6_test_k242 dX6_test_45 ?_
    obtain ⟨ho3, h⟩ := h
    refine zx_callVi (As := [.long 521391927923]) (rest := []) hF (c_X6_isWord a0 521391927923 m ka0 ho3) (zc_X6_test_X6_isWord S) ka0 (by decide) rfl dX6_test_48 rfl rfl (Nat.le_of_ble_eq_true rfl) ⟨Nat.zero_le _, Nat.zero_le _⟩ (fun r4 m4 hq => ?_)
    obtain ⟨hme, hq⟩ := hq
    subst m4
    replace h := h r4 hq
    refine zx_if_eq (tgt := 58) h0 dX6_test_51 (by decide) (fun q => ?_) (fun q => ?_)
    · replace h := h.1 q
      refine zx_aload_n h0 0 dX6_test_58 rfl ?_
      refine zx_ldc2 (v := 1818326117) h0 zn_X6_test_k244 dX6_test_59 ?_
      obtain ⟨ho5, h⟩ := h
      refine zx_callVi (As := [.long 1818326117]) (rest := []) hF (c_X6_isWord a0 1818326117 m ka0 ho5) (zc_X6_test_X6_isWord S) ka0 (by decide) rfl dX6_test_62 rfl rfl (Nat.le_of_ble_eq_true rfl) ⟨Nat.zero_le _, Nat.zero_le _⟩ (fun r6 m6 hq => ?_)
      obtain ⟨hme, hq⟩ := hq
      subst m6
      replace h := h r6 hq
      refine zx_if_eq (tgt := 72) h0 dX6_test_65 (by decide) (fun q => ?_) (fun q => ?_)
      · replace h := h.1 q
        refine zx_aload_n h0 0 dX6_test_72 rfl ?_
        refine zx_ldc2 (v := 123563799835251) h0 zn_X6_test_k246 dX6_test_73 ?_
        obtain ⟨ho7, h⟩ := h
        refine zx_callVi (As := [.long 123563799835251]) (rest := []) hF (c_X6_isWord a0 123563799835251 m ka0 ho7) (zc_X6_test_X6_isWord S) ka0 (by decide) rfl dX6_test_76 rfl rfl (Nat.le_of_ble_eq_true rfl) ⟨Nat.zero_le _, Nat.zero_le _⟩ (fun r8 m8 hq => ?_)
        obtain ⟨hme, hq⟩ := hq
        subst m8
        replace h := h r8 hq
        refine zx_if_eq (tgt := 86) h0 dX6_test_79 (by decide) (fun q => ?_) (fun q => ?_)
        · replace h := h.1 q
          refine zx_aload_n h0 0 dX6_test_86 rfl ?_
          refine zx_ldc2 (v := 7566701) h0 zn_X6_test_k248 dX6_test_87 ?_
          obtain ⟨ho9, h⟩ := h
          refine zx_callVi (As := [.long 7566701]) (rest := []) hF (c_X6_isWord a0 7566701 m ka0 ho9) (zc_X6_test_X6_isWord S) ka0 (by decide) rfl dX6_test_90 rfl rfl (Nat.le_of_ble_eq_true rfl) ⟨Nat.zero_le _, Nat.zero_le _⟩ (fun r10 m10 hq => ?_)
          obtain ⟨hme, hq⟩ := hq
          subst m10
          replace h := h r10 hq
          refine zx_if_eq (tgt := 100) h0 dX6_test_93 (by decide) (fun q => ?_) (fun q => ?_)
          · replace h := h.1 q
            refine zx_aload_n h0 0 dX6_test_100 rfl ?_
            refine zx_ldc2 (v := 482671093106) h0 zn_X6_test_k250 dX6_test_101 ?_
            obtain ⟨ho11, h⟩ := h
            refine zx_callVi (As := [.long 482671093106]) (rest := []) hF (c_X6_isWord a0 482671093106 m ka0 ho11) (zc_X6_test_X6_isWord S) ka0 (by decide) rfl dX6_test_104 rfl rfl (Nat.le_of_ble_eq_true rfl) ⟨Nat.zero_le _, Nat.zero_le _⟩ (fun r12 m12 hq => ?_)
            obtain ⟨hme, hq⟩ := hq
            subst m12
            replace h := h r12 hq
            refine zx_if_eq (tgt := 114) h0 dX6_test_107 (by decide) (fun q => ?_) (fun q => ?_)
            · replace h := h.1 q
              refine zx_iconst (v := (-1)) h0 dX6_test_114 (by decide) ?_
              exact zx_sub [0, 1, 2, 3] rfl h
            · replace h := h.2 q
              refine zx_iconst (v := 5) h0 dX6_test_110 (by decide) ?_
              refine zx_goto (tgt := 115) h0 dX6_test_111 (by decide) ?_
              exact zx_sub [0, 1, 2, 3] rfl h
          · replace h := h.2 q
            refine zx_iconst (v := 4) h0 dX6_test_96 (by decide) ?_
            refine zx_goto (tgt := 115) h0 dX6_test_97 (by decide) ?_
            exact zx_sub [0, 1, 2, 3] rfl h
        · replace h := h.2 q
          refine zx_iconst (v := 3) h0 dX6_test_82 (by decide) ?_
          refine zx_goto (tgt := 115) h0 dX6_test_83 (by decide) ?_
          exact zx_sub [0, 1, 2, 3] rfl h
      · replace h := h.2 q
        refine zx_iconst (v := 2) h0 dX6_test_68 (by decide) ?_
        refine zx_goto (tgt := 115) h0 dX6_test_69 (by decide) ?_
        exact zx_sub [0, 1, 2, 3] rfl h
    · replace h := h.2 q
      refine zx_iconst (v := 1) h0 dX6_test_54 (by decide) ?_
      refine zx_goto (tgt := 115) h0 dX6_test_55 (by decide) ?_
      exact zx_sub [0, 1, 2, 3] rfl h
  · replace h := h.2 q
    refine zx_iconst (v := 0) h0 dX6_test_40 (by decide) ?_
    refine zx_goto (tgt := 115) h0 dX6_test_41 (by decide) ?_
    exact zx_sub [0, 1, 2, 3] rfl h
set_option maxRecDepth 100000 in
set_option maxHeartbeats 4000000 in
theorem sg_X6_test_115 {C : zC} {G : zG} {Qc : Array Value → State → Outcome → State → Prop} (S : St_X6_test C G Qc) {P_X6_next : Nat → zM → Prop} {Q_X6_next : Nat → zM → zM → Prop} (c_X6_next : Con_X6_next (zl C) G P_X6_next Q_X6_next) {P_X6_wrong : Nat → zM → Prop} {Q_X6_wrong : Nat → zM → Int32 → zM → Prop} (c_X6_wrong : Con_X6_wrong (zl C) G P_X6_wrong Q_X6_wrong) {a0 : Nat} {x1 : Int32} {x2 : Int32} {x3 : Int32} {s0 : Int32} {m : zM} (ka0 : zK G a0 = some (6, a0))
    (h : (¬ s0 = (-1) → ((P_X6_next a0 m) ∧ (∀ (m2 : zM), Q_X6_next a0 m m2 → ((5 ≤ s0 → (Pt_X6_test_186 C G a0 x1 x2 x3 s0 61 m2)) ∧ (¬ 5 ≤ s0 → ((¬ (zI m2 628 a0 0) = 4 → ((P_X6_wrong a0 m2) ∧ (∀ (r4 : Int32) (m4 : zM), Q_X6_wrong a0 m2 r4 m4 → ((r4 = 0 ∨ r4 = 1) ∧ (zRet C G Qc (some (.int r4)) m4))))) ∧ ((zI m2 628 a0 0) = 4 → (((zI m2 629 a0 0) = 60 → ((P_X6_next a0 m2) ∧ (∀ (m7 : zM), Q_X6_next a0 m2 m7 → (Pt_X6_test_186 C G a0 x1 x2 x3 s0 (zI m2 629 a0 0) m7)))) ∧ (¬ (zI m2 629 a0 0) = 60 → (((zI m2 629 a0 0) = 62 → ((P_X6_next a0 m2) ∧ (∀ (m9 : zM), Q_X6_next a0 m2 m9 → (Pt_X6_test_186 C G a0 x1 x2 x3 s0 (zI m2 629 a0 0) m9)))) ∧ (¬ (zI m2 629 a0 0) = 62 → (((zI m2 629 a0 0) = 61 → ((P_X6_next a0 m2) ∧ (∀ (m11 : zM), Q_X6_next a0 m2 m11 → (Pt_X6_test_186 C G a0 x1 x2 x3 s0 (zI m2 629 a0 0) m11)))) ∧ (¬ (zI m2 629 a0 0) = 61 → ((P_X6_wrong a0 m2) ∧ (∀ (r13 : Int32) (m13 : zM), Q_X6_wrong a0 m2 r13 m13 → ((r13 = 0 ∨ r13 = 1) ∧ (zRet C G Qc (some (.int r13)) m13))))))))))))))))) ∧ (s0 = (-1) → ((P_X6_wrong a0 m) ∧ (∀ (r16 : Int32) (m16 : zM), Q_X6_wrong a0 m r16 m16 → ((r16 = 0 ∨ r16 = 1) ∧ (zRet C G Qc (some (.int r16)) m16)))))) : Pt_X6_test_115 C G a0 x1 x2 x3 s0 m := by
  obtain ⟨hF, hQ, hR⟩ := id S
  have h0 : zF0 C cX6_test 8 wsX6_test RX6 := hF.1
  have hL := hF.2.2.1
  unfold Pt_X6_test_115
  refine zx_istore (L' := [(4, .int s0), (0, .ref a0), (1, .int x1), (2, .int x2), (3, .int x3)]) h0 dX6_test_115 (by decide) rfl ?_
  refine zx_iload h0 0 dX6_test_117 rfl ?_
  refine zx_iconst (v := (-1)) h0 dX6_test_119 (by decide) ?_
  refine zx_icmp_ne (tgt := 128) h0 dX6_test_120 (by decide) (fun q => ?_) (fun q => ?_)
  · replace h := h.1 q
    refine zx_aload_n h0 1 dX6_test_128 rfl ?_
    obtain ⟨ho1, h⟩ := h
    refine zx_callVv (As := []) (rest := []) hF (c_X6_next a0 m ka0 ho1) (zc_X6_test_X6_next S) ka0 (by decide) rfl dX6_test_129 rfl rfl (Nat.le_of_ble_eq_true rfl) ⟨Nat.zero_le _, Nat.zero_le _⟩ (fun m2 hq => ?_)
    replace h := h m2 hq
    refine zx_bipush (v := 61) h0 dX6_test_132 (by decide) ?_
    refine zx_istore (L' := [(5, .int 61), (4, .int s0), (0, .ref a0), (1, .int x1), (2, .int x2), (3, .int x3)]) h0 dX6_test_134 (by decide) rfl ?_
    refine zx_iload h0 1 dX6_test_136 rfl ?_
    refine zx_iconst (v := 5) h0 dX6_test_138 (by decide) ?_
    refine zx_icmp_ge (tgt := 186) h0 dX6_test_139 (by decide) (fun q => ?_) (fun q => ?_)
    · replace h := h.1 q
      exact zx_sub [2, 3, 4, 5, 1, 0] rfl h
    · replace h := h.2 q
      refine zx_aload_n h0 2 dX6_test_142 rfl ?_
      refine zx_get hF ka0 (by decide) rfl zi_X6_test_6 29 (by decide) zn_X6_test_180 rfl rfl dX6_test_143 ?_
      refine zx_istore (L' := [(5, .int (zI m2 629 a0 0)), (4, .int s0), (0, .ref a0), (1, .int x1), (2, .int x2), (3, .int x3)]) h0 dX6_test_146 (by decide) rfl ?_
      refine zx_aload_n h0 2 dX6_test_148 rfl ?_
      refine zx_get hF ka0 (by decide) rfl zi_X6_test_6 28 (by decide) zn_X6_test_187 rfl rfl dX6_test_149 ?_
      refine zx_iconst (v := 4) h0 dX6_test_152 (by decide) ?_
      refine zx_icmp_ne (tgt := 177) h0 dX6_test_153 (by decide) (fun q => ?_) (fun q => ?_)
      · replace h := h.1 q
        refine zx_aload_n h0 2 dX6_test_177 rfl ?_
        obtain ⟨ho3, h⟩ := h
        refine zx_callVi (As := []) (rest := []) hF (c_X6_wrong a0 m2 ka0 ho3) (zc_X6_test_X6_wrong S) ka0 (by decide) rfl dX6_test_178 rfl rfl (Nat.le_of_ble_eq_true rfl) ⟨Nat.zero_le _, Nat.zero_le _⟩ (fun r4 m4 hq => ?_)
        replace h := h r4 m4 hq
        obtain ⟨ho5, h⟩ := h
        exact zx_zret hF hQ (z_nb ho5) dX6_test_181 h
      · replace h := h.2 q
        refine zx_iload h0 0 dX6_test_156 rfl ?_
        refine zx_bipush (v := 60) h0 dX6_test_158 (by decide) ?_
        refine zx_icmp_eq (tgt := 182) h0 dX6_test_160 (by decide) (fun q => ?_) (fun q => ?_)
        · replace h := h.1 q
          refine zx_aload_n h0 2 dX6_test_182 rfl ?_
          obtain ⟨ho6, h⟩ := h
          refine zx_callVv (As := []) (rest := []) hF (c_X6_next a0 m2 ka0 ho6) (zc_X6_test_X6_next S) ka0 (by decide) rfl dX6_test_183 rfl rfl (Nat.le_of_ble_eq_true rfl) ⟨Nat.zero_le _, Nat.zero_le _⟩ (fun m7 hq => ?_)
          replace h := h m7 hq
          exact zx_sub [2, 3, 4, 5, 1, 0] rfl h
        · replace h := h.2 q
          refine zx_iload h0 0 dX6_test_163 rfl ?_
          refine zx_bipush (v := 62) h0 dX6_test_165 (by decide) ?_
          refine zx_icmp_eq (tgt := 182) h0 dX6_test_167 (by decide) (fun q => ?_) (fun q => ?_)
          · replace h := h.1 q
            refine zx_aload_n h0 2 dX6_test_182 rfl ?_
            obtain ⟨ho8, h⟩ := h
            refine zx_callVv (As := []) (rest := []) hF (c_X6_next a0 m2 ka0 ho8) (zc_X6_test_X6_next S) ka0 (by decide) rfl dX6_test_183 rfl rfl (Nat.le_of_ble_eq_true rfl) ⟨Nat.zero_le _, Nat.zero_le _⟩ (fun m9 hq => ?_)
            replace h := h m9 hq
            exact zx_sub [2, 3, 4, 5, 1, 0] rfl h
          · replace h := h.2 q
            refine zx_iload h0 0 dX6_test_170 rfl ?_
            refine zx_bipush (v := 61) h0 dX6_test_172 (by decide) ?_
            refine zx_icmp_eq (tgt := 182) h0 dX6_test_174 (by decide) (fun q => ?_) (fun q => ?_)
            · replace h := h.1 q
              refine zx_aload_n h0 2 dX6_test_182 rfl ?_
              obtain ⟨ho10, h⟩ := h
              refine zx_callVv (As := []) (rest := []) hF (c_X6_next a0 m2 ka0 ho10) (zc_X6_test_X6_next S) ka0 (by decide) rfl dX6_test_183 rfl rfl (Nat.le_of_ble_eq_true rfl) ⟨Nat.zero_le _, Nat.zero_le _⟩ (fun m11 hq => ?_)
              replace h := h m11 hq
              exact zx_sub [2, 3, 4, 5, 1, 0] rfl h
            · replace h := h.2 q
              refine zx_aload_n h0 2 dX6_test_177 rfl ?_
              obtain ⟨ho12, h⟩ := h
              refine zx_callVi (As := []) (rest := []) hF (c_X6_wrong a0 m2 ka0 ho12) (zc_X6_test_X6_wrong S) ka0 (by decide) rfl dX6_test_178 rfl rfl (Nat.le_of_ble_eq_true rfl) ⟨Nat.zero_le _, Nat.zero_le _⟩ (fun r13 m13 hq => ?_)
              replace h := h r13 m13 hq
              obtain ⟨ho14, h⟩ := h
              exact zx_zret hF hQ (z_nb ho14) dX6_test_181 h
  · replace h := h.2 q
    refine zx_aload_n h0 1 dX6_test_123 rfl ?_
    obtain ⟨ho15, h⟩ := h
    refine zx_callVi (As := []) (rest := []) hF (c_X6_wrong a0 m ka0 ho15) (zc_X6_test_X6_wrong S) ka0 (by decide) rfl dX6_test_124 rfl rfl (Nat.le_of_ble_eq_true rfl) ⟨Nat.zero_le _, Nat.zero_le _⟩ (fun r16 m16 hq => ?_)
    replace h := h r16 m16 hq
    obtain ⟨ho17, h⟩ := h
    exact zx_zret hF hQ (z_nb ho17) dX6_test_127 h
set_option maxRecDepth 100000 in
set_option maxHeartbeats 4000000 in
theorem sg_X6_test_186 {C : zC} {G : zG} {Qc : Array Value → State → Outcome → State → Prop} (S : St_X6_test C G Qc) {P_X6_later : Nat → Int32 → Int32 → zM → Prop} {Q_X6_later : Nat → Int32 → Int32 → zM → zM → Prop} (c_X6_later : Con_X6_later (zl C) G P_X6_later Q_X6_later) {P_X6_wrong : Nat → zM → Prop} {Q_X6_wrong : Nat → zM → Int32 → zM → Prop} (c_X6_wrong : Con_X6_wrong (zl C) G P_X6_wrong Q_X6_wrong) {a0 : Nat} {x1 : Int32} {x2 : Int32} {x3 : Int32} {x4 : Int32} {x5 : Int32} {m : zM} (ka0 : zK G a0 = some (6, a0))
    (h : ((zI m 628 a0 0) = 3 → ((¬ x4 = 5 → (Pt_X6_test_227 C G a0 x1 x2 x3 x4 x5 (zI m 629 a0 0) m)) ∧ (x4 = 5 → (((zI m 629 a0 0) < 6 → (Pt_X6_test_227 C G a0 x1 x2 x3 x4 x5 (zI m 629 a0 0) m)) ∧ (¬ (zI m 629 a0 0) < 6 → ((P_X6_later a0 2 (zI m 627 a0 0) m) ∧ (∀ (m2 : zM), Q_X6_later a0 2 (zI m 627 a0 0) m m2 → (Pt_X6_test_227 C G a0 x1 x2 x3 x4 x5 (zI m 629 a0 0) m2)))))))) ∧ (¬ (zI m 628 a0 0) = 3 → ((P_X6_wrong a0 m) ∧ (∀ (r4 : Int32) (m4 : zM), Q_X6_wrong a0 m r4 m4 → ((r4 = 0 ∨ r4 = 1) ∧ (zRet C G Qc (some (.int r4)) m4)))))) : Pt_X6_test_186 C G a0 x1 x2 x3 x4 x5 m := by
  obtain ⟨hF, hQ, hR⟩ := id S
  have h0 : zF0 C cX6_test 8 wsX6_test RX6 := hF.1
  have hL := hF.2.2.1
  unfold Pt_X6_test_186
  refine zx_aload_n h0 0 dX6_test_186 rfl ?_
  refine zx_get hF ka0 (by decide) rfl zi_X6_test_6 28 (by decide) zn_X6_test_187 rfl rfl dX6_test_187 ?_
  refine zx_iconst (v := 3) h0 dX6_test_190 (by decide) ?_
  refine zx_icmp_eq (tgt := 199) h0 dX6_test_191 (by decide) (fun q => ?_) (fun q => ?_)
  · replace h := h.1 q
    refine zx_aload_n h0 0 dX6_test_199 rfl ?_
    refine zx_get hF ka0 (by decide) rfl zi_X6_test_6 29 (by decide) zn_X6_test_180 rfl rfl dX6_test_200 ?_
    refine zx_istore (L' := [(6, .int (zI m 629 a0 0)), (0, .ref a0), (1, .int x1), (2, .int x2), (3, .int x3), (4, .int x4), (5, .int x5)]) h0 dX6_test_203 (by decide) rfl ?_
    refine zx_iload h0 5 dX6_test_205 rfl ?_
    refine zx_iconst (v := 5) h0 dX6_test_207 (by decide) ?_
    refine zx_icmp_ne (tgt := 227) h0 dX6_test_208 (by decide) (fun q => ?_) (fun q => ?_)
    · replace h := h.1 q
      exact zx_sub [1, 2, 3, 4, 5, 6, 0] rfl h
    · replace h := h.2 q
      refine zx_iload h0 0 dX6_test_211 rfl ?_
      refine zx_bipush (v := 6) h0 dX6_test_213 (by decide) ?_
      refine zx_icmp_lt (tgt := 227) h0 dX6_test_215 (by decide) (fun q => ?_) (fun q => ?_)
      · replace h := h.1 q
        exact zx_sub [1, 2, 3, 4, 5, 6, 0] rfl h
      · replace h := h.2 q
        refine zx_aload_n h0 1 dX6_test_218 rfl ?_
        refine zx_iconst (v := 2) h0 dX6_test_219 (by decide) ?_
        refine zx_aload_n h0 1 dX6_test_220 rfl ?_
        refine zx_get hF ka0 (by decide) rfl zi_X6_test_6 27 (by decide) zn_X6_test_177 rfl rfl dX6_test_221 ?_
        obtain ⟨ho1, h⟩ := h
        refine zx_callVv (As := [.int 2, .int (zI m 627 a0 0)]) (rest := []) hF (c_X6_later a0 2 (zI m 627 a0 0) m ka0 ho1) (zc_X6_test_X6_later S) ka0 (by decide) rfl dX6_test_224 rfl rfl (Nat.le_of_ble_eq_true rfl) ⟨Nat.zero_le _, Nat.zero_le _⟩ (fun m2 hq => ?_)
        replace h := h m2 hq
        exact zx_sub [1, 2, 3, 4, 5, 6, 0] rfl h
  · replace h := h.2 q
    refine zx_aload_n h0 0 dX6_test_194 rfl ?_
    obtain ⟨ho3, h⟩ := h
    refine zx_callVi (As := []) (rest := []) hF (c_X6_wrong a0 m ka0 ho3) (zc_X6_test_X6_wrong S) ka0 (by decide) rfl dX6_test_195 rfl rfl (Nat.le_of_ble_eq_true rfl) ⟨Nat.zero_le _, Nat.zero_le _⟩ (fun r4 m4 hq => ?_)
    replace h := h r4 m4 hq
    obtain ⟨ho5, h⟩ := h
    exact zx_zret hF hQ (z_nb ho5) dX6_test_198 h
set_option maxRecDepth 100000 in
set_option maxHeartbeats 4000000 in
theorem sg_X6_test_227 {C : zC} {G : zG} {Qc : Array Value → State → Outcome → State → Prop} (S : St_X6_test C G Qc) {P_X6_next : Nat → zM → Prop} {Q_X6_next : Nat → zM → zM → Prop} (c_X6_next : Con_X6_next (zl C) G P_X6_next Q_X6_next) {a0 : Nat} {x1 : Int32} {x2 : Int32} {x3 : Int32} {x4 : Int32} {x5 : Int32} {x6 : Int32} {m : zM} (ka0 : zK G a0 = some (6, a0))
    (h : (P_X6_next a0 m) ∧ (∀ (m2 : zM), Q_X6_next a0 m m2 → ((4 ≤ x2 → (zRet C G Qc (some (.int 1)) m2)) ∧ (¬ 4 ≤ x2 → ((16 ≤ x1 → (zRet C G Qc (some (.int 1)) m2)) ∧ (¬ 16 ≤ x1 → ((x3 = 0 → (Pt_X6_test_269 C G a0 x1 x2 x5 x6 ((4 * x1) + x2) x4 ((4 * x1) + x2) m2)) ∧ (¬ x3 = 0 → (Pt_X6_test_269 C G a0 x1 x2 x5 x6 ((4 * x1) + x2) (x4 + 8) ((4 * x1) + x2) m2))))))))) : Pt_X6_test_227 C G a0 x1 x2 x3 x4 x5 x6 m := by
  obtain ⟨hF, hQ, hR⟩ := id S
  have h0 : zF0 C cX6_test 8 wsX6_test RX6 := hF.1
  have hL := hF.2.2.1
  unfold Pt_X6_test_227
  refine zx_aload_n h0 0 dX6_test_227 rfl ?_
  obtain ⟨ho1, h⟩ := h
  refine zx_callVv (As := []) (rest := []) hF (c_X6_next a0 m ka0 ho1) (zc_X6_test_X6_next S) ka0 (by decide) rfl dX6_test_228 rfl rfl (Nat.le_of_ble_eq_true rfl) ⟨Nat.zero_le _, Nat.zero_le _⟩ (fun m2 hq => ?_)
  replace h := h m2 hq
  refine zx_iload_n h0 2 dX6_test_231 rfl ?_
  refine zx_iconst (v := 4) h0 dX6_test_232 (by decide) ?_
  refine zx_icmp_ge (tgt := 297) h0 dX6_test_233 (by decide) (fun q => ?_) (fun q => ?_)
  · replace h := h.1 q
    refine zx_iconst (v := 1) h0 dX6_test_297 (by decide) ?_
    exact zx_zret hF hQ rfl dX6_test_298 h
  · replace h := h.2 q
    refine zx_iload_n h0 1 dX6_test_236 rfl ?_
    refine zx_bipush (v := 16) h0 dX6_test_237 (by decide) ?_
    refine zx_icmp_ge (tgt := 297) h0 dX6_test_239 (by decide) (fun q => ?_) (fun q => ?_)
    · replace h := h.1 q
      refine zx_iconst (v := 1) h0 dX6_test_297 (by decide) ?_
      exact zx_zret hF hQ rfl dX6_test_298 h
    · replace h := h.2 q
      refine zx_iconst (v := 4) h0 dX6_test_242 (by decide) ?_
      refine zx_iload_n h0 1 dX6_test_243 rfl ?_
      refine zx_imul h0 dX6_test_244 ?_
      refine zx_iload_n h0 2 dX6_test_245 rfl ?_
      refine zx_iadd h0 dX6_test_246 ?_
      refine zx_istore (L' := [(7, .int ((4 * x1) + x2)), (0, .ref a0), (1, .int x1), (2, .int x2), (3, .int x3), (4, .int x4), (5, .int x5), (6, .int x6)]) h0 dX6_test_247 (by decide) rfl ?_
      refine zx_aload_n h0 1 dX6_test_249 rfl ?_
      refine zx_get hF ka0 (by decide) rfl zi_X6_test_6 36 (by decide) zn_X6_test_88 rfl rfl dX6_test_250 ?_
      refine zx_iload h0 0 dX6_test_253 rfl ?_
      refine zx_iload_n h0 4 dX6_test_255 rfl ?_
      refine zx_if_eq (tgt := 267) h0 dX6_test_256 (by decide) (fun q => ?_) (fun q => ?_)
      · replace h := h.1 q
        refine zx_iload h0 5 dX6_test_267 rfl ?_
        exact zx_sub [1, 2, 3, 6, 7, 0] rfl h
      · replace h := h.2 q
        refine zx_iload h0 5 dX6_test_259 rfl ?_
        refine zx_bipush (v := 8) h0 dX6_test_261 (by decide) ?_
        refine zx_iadd h0 dX6_test_263 ?_
        refine zx_goto (tgt := 269) h0 dX6_test_264 (by decide) ?_
        exact zx_sub [1, 2, 3, 6, 7, 0] rfl h
set_option maxRecDepth 100000 in
set_option maxHeartbeats 4000000 in
theorem sg_X6_test_269 {C : zC} {G : zG} {Qc : Array Value → State → Outcome → State → Prop} (S : St_X6_test C G Qc) {a0 : Nat} {x1 : Int32} {x2 : Int32} {x5 : Int32} {x6 : Int32} {x7 : Int32} {s0 : Int32} {s1 : Int32} {m : zM} (ka0 : zK G a0 = some (6, a0))
    (h : (vp_in s1 64) ∧ ((vp_in x7 64) ∧ ((vp_in x1 17) ∧ (zRet C G Qc (some (.int 1)) (zsI (zsI (zsI (zsI m 1636 a0 s1.toNatClampNeg s0) 1637 a0 x7.toNatClampNeg x5) 1638 a0 x7.toNatClampNeg x6) 1635 a0 x1.toNatClampNeg (x2 + 1)))))) : Pt_X6_test_269 C G a0 x1 x2 x5 x6 x7 s0 s1 m := by
  obtain ⟨hF, hQ, hR⟩ := id S
  have h0 : zF0 C cX6_test 8 wsX6_test RX6 := hF.1
  have hL := hF.2.2.1
  unfold Pt_X6_test_269
  obtain ⟨ho1, h⟩ := h
  refine zx_iast (j := s1.toNatClampNeg) hF (zL_6_26 hL ka0) (by decide) rfl rfl ho1 rfl rfl (z_fit rfl) dX6_test_269 ?_
  refine zx_aload_n h0 0 dX6_test_270 rfl ?_
  refine zx_get hF ka0 (by decide) rfl zi_X6_test_6 37 (by decide) zn_X6_test_91 rfl rfl dX6_test_271 ?_
  refine zx_iload h0 5 dX6_test_274 rfl ?_
  refine zx_iload h0 3 dX6_test_276 rfl ?_
  obtain ⟨ho2, h⟩ := h
  refine zx_iast (j := x7.toNatClampNeg) hF (zL_6_27 hL ka0) (by decide) rfl rfl ho2 rfl rfl (z_fit rfl) dX6_test_278 ?_
  refine zx_aload_n h0 0 dX6_test_279 rfl ?_
  refine zx_get hF ka0 (by decide) rfl zi_X6_test_6 38 (by decide) zn_X6_test_94 rfl rfl dX6_test_280 ?_
  refine zx_iload h0 5 dX6_test_283 rfl ?_
  refine zx_iload h0 4 dX6_test_285 rfl ?_
  refine zx_iast (j := x7.toNatClampNeg) hF (zL_6_28 hL ka0) (by decide) rfl rfl ho2 rfl rfl (z_fit rfl) dX6_test_287 ?_
  refine zx_aload_n h0 0 dX6_test_288 rfl ?_
  refine zx_get hF ka0 (by decide) rfl zi_X6_test_6 35 (by decide) zn_X6_test_85 rfl rfl dX6_test_289 ?_
  refine zx_iload_n h0 1 dX6_test_292 rfl ?_
  refine zx_iload_n h0 2 dX6_test_293 rfl ?_
  refine zx_iconst (v := 1) h0 dX6_test_294 (by decide) ?_
  refine zx_iadd h0 dX6_test_295 ?_
  obtain ⟨ho3, h⟩ := h
  refine zx_iast (j := x1.toNatClampNeg) hF (zL_6_25 hL ka0) (by decide) rfl rfl ho3 rfl rfl (z_fit rfl) dX6_test_296 ?_
  refine zx_iconst (v := 1) h0 dX6_test_297 (by decide) ?_
  exact zx_zret hF hQ rfl dX6_test_298 h
theorem zn_X6_oneLine_209 : Cond.fieldLink RX6 209 RX6 (TX6 34).2.1 (TX6 34).2.2.1 ∈ wsX6_oneLine := List.mem_of_getElem? (i := 1) rfl
theorem zi_X6_oneLine_6 : ∀ w ∈ u_ws RX6 TX6 50, w ∈ wsX6_oneLine := fun _ h => List.mem_cons_of_mem _ (List.mem_append_right _ h)
theorem zn_X6_oneLine_177 : Cond.fieldLink RX6 177 RX6 (TX6 27).2.1 (TX6 27).2.2.1 ∈ wsX6_oneLine := List.mem_of_getElem? (i := 2) rfl
theorem zn_X6_oneLine_85 : Cond.fieldLink RX6 85 RX6 (TX6 35).2.1 (TX6 35).2.2.1 ∈ wsX6_oneLine := List.mem_of_getElem? (i := 3) rfl
theorem zn_X6_oneLine_k215 : Cond.constantLong RX6 215 2003330414 ∈ wsX6_oneLine := List.mem_of_getElem? (i := 4) rfl
theorem zn_X6_oneLine_97 : Cond.fieldLink RX6 97 RX6 (TX6 39).2.1 (TX6 39).2.2.1 ∈ wsX6_oneLine := List.mem_of_getElem? (i := 6) rfl
theorem zn_X6_oneLine_k230 : Cond.constantLong RX6 230 123623812527219 ∈ wsX6_oneLine := List.mem_of_getElem? (i := 7) rfl
theorem zn_X6_oneLine_k232 : Cond.constantLong RX6 232 1836020325 ∈ wsX6_oneLine := List.mem_of_getElem? (i := 8) rfl
theorem zn_X6_oneLine_k234 : Cond.constantLong RX6 234 499984983411 ∈ wsX6_oneLine := List.mem_of_getElem? (i := 9) rfl
theorem zn_X6_oneLine_k236 : Cond.constantLong RX6 236 1852796517 ∈ wsX6_oneLine := List.mem_of_getElem? (i := 10) rfl
theorem zn_X6_oneLine_k225 : Cond.constantLong RX6 225 6385252 ∈ wsX6_oneLine := List.mem_of_getElem? (i := 5) rfl
theorem zn_X6_oneLine_100 : Cond.fieldLink RX6 100 RX6 (TX6 40).2.1 (TX6 40).2.2.1 ∈ wsX6_oneLine := List.mem_of_getElem? (i := 11) rfl
theorem zn_X6_oneLine_187 : Cond.fieldLink RX6 187 RX6 (TX6 28).2.1 (TX6 28).2.2.1 ∈ wsX6_oneLine := List.mem_of_getElem? (i := 12) rfl
theorem zn_X6_oneLine_180 : Cond.fieldLink RX6 180 RX6 (TX6 29).2.1 (TX6 29).2.2.1 ∈ wsX6_oneLine := List.mem_of_getElem? (i := 13) rfl
theorem zc_X6_oneLine_X6_later {C : zC} {G : zG} {Qc : Array Value → State → Outcome → State → Prop} (S : St_X6_oneLine C G Qc) : CallW (zRm C) (zs C) (zar C) RX6 RX6 212 yX6_later cX6_later 3 none wsX6_later rm_X6_later 0 0 2 := cwV 2 S.1.1.2.2.2.2 gX6_oneLine_X6_later rfl rfl rfl (by decide +kernel) (by rw [S.2.2]; exact ⟨Nat.le_of_ble_eq_true rfl, Nat.le_of_ble_eq_true rfl⟩)
theorem zc_X6_oneLine_X6_isWord {C : zC} {G : zG} {Qc : Array Value → State → Outcome → State → Prop} (S : St_X6_oneLine C G Qc) : CallW (zRm C) (zs C) (zar C) RX6 RX6 217 yX6_isWord cX6_isWord 3 (some .boolean) wsX6_isWord rm_X6_isWord 0 0 1 := cwV 1 S.1.1.2.2.2.2 gX6_oneLine_X6_isWord rfl rfl rfl (by decide +kernel) (by rw [S.2.2]; exact ⟨Nat.le_of_ble_eq_true rfl, Nat.le_of_ble_eq_true rfl⟩)
theorem zc_X6_oneLine_X6_need {C : zC} {G : zG} {Qc : Array Value → State → Outcome → State → Prop} (S : St_X6_oneLine C G Qc) : CallW (zRm C) (zs C) (zar C) RX6 RX6 227 yX6_need cX6_need 2 (some .boolean) wsX6_need rm_X6_need 0 0 1 := cwV 1 S.1.1.2.2.2.2 gX6_oneLine_X6_need rfl rfl rfl (by decide +kernel) (by rw [S.2.2]; exact ⟨Nat.le_of_ble_eq_true rfl, Nat.le_of_ble_eq_true rfl⟩)
theorem zc_X6_oneLine_X6_next {C : zC} {G : zG} {Qc : Array Value → State → Outcome → State → Prop} (S : St_X6_oneLine C G Qc) : CallW (zRm C) (zs C) (zar C) RX6 RX6 206 yX6_next cX6_next 3 none wsX6_next rm_X6_next 0 0 0 := cwV 0 S.1.1.2.2.2.2 gX6_oneLine_X6_next rfl rfl rfl (by decide +kernel) (by rw [S.2.2]; exact ⟨Nat.le_of_ble_eq_true rfl, Nat.le_of_ble_eq_true rfl⟩)
theorem zc_X6_oneLine_X6_test {C : zC} {G : zG} {Qc : Array Value → State → Outcome → State → Prop} (S : St_X6_oneLine C G Qc) : CallW (zRm C) (zs C) (zar C) RX6 RX6 221 yX6_test cX6_test 8 (some .boolean) wsX6_test rm_X6_test 0 0 2 := cwV 2 S.1.1.2.2.2.2 gX6_oneLine_X6_test rfl rfl rfl (by decide +kernel) (by rw [S.2.2]; exact ⟨Nat.le_of_ble_eq_true rfl, Nat.le_of_ble_eq_true rfl⟩)
theorem zc_X6_oneLine_X6_wrong {C : zC} {G : zG} {Qc : Array Value → State → Outcome → State → Prop} (S : St_X6_oneLine C G Qc) : CallW (zRm C) (zs C) (zar C) RX6 RX6 202 yX6_wrong cX6_wrong 1 (some .boolean) wsX6_wrong rm_X6_wrong 0 0 0 := cwV 0 S.1.1.2.2.2.2 gX6_oneLine_X6_wrong rfl rfl rfl (by decide +kernel) (by rw [S.2.2]; exact ⟨Nat.le_of_ble_eq_true rfl, Nat.le_of_ble_eq_true rfl⟩)
set_option maxRecDepth 100000 in
set_option maxHeartbeats 4000000 in
theorem sg_X6_oneLine_0 {C : zC} {G : zG} {Qc : Array Value → State → Outcome → State → Prop} (S : St_X6_oneLine C G Qc) {a0 : Nat} {m : zM} (ka0 : zK G a0 = some (6, a0))
    (h : (16 ≤ (zI m 634 a0 0) → (Pt_X6_oneLine_18 C G a0 16 m)) ∧ (¬ 16 ≤ (zI m 634 a0 0) → (Pt_X6_oneLine_18 C G a0 (zI m 634 a0 0) m))) : Pt_X6_oneLine_0 C G a0 m := by
  obtain ⟨hF, hQ, hR⟩ := id S
  have h0 : zF0 C cX6_oneLine 4 wsX6_oneLine RX6 := hF.1
  have hL := hF.2.2.1
  unfold Pt_X6_oneLine_0
  refine zx_aload_n h0 0 dX6_oneLine_0 rfl ?_
  refine zx_get hF ka0 (by decide) rfl zi_X6_oneLine_6 34 (by decide) zn_X6_oneLine_209 rfl rfl dX6_oneLine_1 ?_
  refine zx_bipush (v := 16) h0 dX6_oneLine_4 (by decide) ?_
  refine zx_icmp_ge (tgt := 16) h0 dX6_oneLine_6 (by decide) (fun q => ?_) (fun q => ?_)
  · replace h := h.1 q
    refine zx_bipush (v := 16) h0 dX6_oneLine_16 (by decide) ?_
    exact zx_sub [0] rfl h
  · replace h := h.2 q
    refine zx_aload_n h0 0 dX6_oneLine_9 rfl ?_
    refine zx_get hF ka0 (by decide) rfl zi_X6_oneLine_6 34 (by decide) zn_X6_oneLine_209 rfl rfl dX6_oneLine_10 ?_
    refine zx_goto (tgt := 18) h0 dX6_oneLine_13 (by decide) ?_
    exact zx_sub [0] rfl h
set_option maxRecDepth 100000 in
set_option maxHeartbeats 4000000 in
theorem sg_X6_oneLine_18 {C : zC} {G : zG} {Qc : Array Value → State → Outcome → State → Prop} (S : St_X6_oneLine C G Qc) {P_X6_later : Nat → Int32 → Int32 → zM → Prop} {Q_X6_later : Nat → Int32 → Int32 → zM → zM → Prop} (c_X6_later : Con_X6_later (zl C) G P_X6_later Q_X6_later) {a0 : Nat} {s0 : Int32} {m : zM} (ka0 : zK G a0 = some (6, a0))
    (h : (¬ (zI m 634 a0 0) = 16 → (Pt_X6_oneLine_37 C G a0 s0 m)) ∧ ((zI m 634 a0 0) = 16 → ((P_X6_later a0 3 (zI m 627 a0 0) m) ∧ (∀ (m2 : zM), Q_X6_later a0 3 (zI m 627 a0 0) m m2 → (Pt_X6_oneLine_37 C G a0 s0 m2))))) : Pt_X6_oneLine_18 C G a0 s0 m := by
  obtain ⟨hF, hQ, hR⟩ := id S
  have h0 : zF0 C cX6_oneLine 4 wsX6_oneLine RX6 := hF.1
  have hL := hF.2.2.1
  unfold Pt_X6_oneLine_18
  refine zx_istore_n (L' := [(1, .int s0), (0, .ref a0)]) h0 dX6_oneLine_18 (by decide) rfl ?_
  refine zx_aload_n h0 1 dX6_oneLine_19 rfl ?_
  refine zx_get hF ka0 (by decide) rfl zi_X6_oneLine_6 34 (by decide) zn_X6_oneLine_209 rfl rfl dX6_oneLine_20 ?_
  refine zx_bipush (v := 16) h0 dX6_oneLine_23 (by decide) ?_
  refine zx_icmp_ne (tgt := 37) h0 dX6_oneLine_25 (by decide) (fun q => ?_) (fun q => ?_)
  · replace h := h.1 q
    exact zx_sub [1, 0] rfl h
  · replace h := h.2 q
    refine zx_aload_n h0 1 dX6_oneLine_28 rfl ?_
    refine zx_iconst (v := 3) h0 dX6_oneLine_29 (by decide) ?_
    refine zx_aload_n h0 1 dX6_oneLine_30 rfl ?_
    refine zx_get hF ka0 (by decide) rfl zi_X6_oneLine_6 27 (by decide) zn_X6_oneLine_177 rfl rfl dX6_oneLine_31 ?_
    obtain ⟨ho1, h⟩ := h
    refine zx_callVv (As := [.int 3, .int (zI m 627 a0 0)]) (rest := []) hF (c_X6_later a0 3 (zI m 627 a0 0) m ka0 ho1) (zc_X6_oneLine_X6_later S) ka0 (by decide) rfl dX6_oneLine_34 rfl rfl (Nat.le_of_ble_eq_true rfl) ⟨Nat.zero_le _, Nat.zero_le _⟩ (fun m2 hq => ?_)
    replace h := h m2 hq
    exact zx_sub [1, 0] rfl h
set_option maxRecDepth 100000 in
set_option maxHeartbeats 4000000 in
theorem sg_X6_oneLine_37 {C : zC} {G : zG} {Qc : Array Value → State → Outcome → State → Prop} (S : St_X6_oneLine C G Qc) {P_X6_isWord : Nat → Int64 → zM → Prop} {Q_X6_isWord : Nat → Int64 → zM → Int32 → Prop} (c_X6_isWord : Con_X6_isWord (zl C) G P_X6_isWord Q_X6_isWord) {a0 : Nat} {x1 : Int32} {m : zM} (ka0 : zK G a0 = some (6, a0))
    (h : (vp_in x1 17) ∧ ((P_X6_isWord a0 2003330414 (zsI m 1635 a0 x1.toNatClampNeg 0)) ∧ (∀ (r3 : Int32), Q_X6_isWord a0 2003330414 (zsI m 1635 a0 x1.toNatClampNeg 0) r3 → ((r3 = 0 → (Pt_X6_oneLine_102 C G a0 x1 (zsI m 1635 a0 x1.toNatClampNeg 0))) ∧ (¬ r3 = 0 → (Pt_X6_oneLine_58 C G a0 x1 1 0 (zsI m 1635 a0 x1.toNatClampNeg 0))))))) : Pt_X6_oneLine_37 C G a0 x1 m := by
  obtain ⟨hF, hQ, hR⟩ := id S
  have h0 : zF0 C cX6_oneLine 4 wsX6_oneLine RX6 := hF.1
  have hL := hF.2.2.1
  unfold Pt_X6_oneLine_37
  refine zx_aload_n h0 0 dX6_oneLine_37 rfl ?_
  refine zx_get hF ka0 (by decide) rfl zi_X6_oneLine_6 35 (by decide) zn_X6_oneLine_85 rfl rfl dX6_oneLine_38 ?_
  refine zx_iload_n h0 1 dX6_oneLine_41 rfl ?_
  refine zx_iconst (v := 0) h0 dX6_oneLine_42 (by decide) ?_
  obtain ⟨ho1, h⟩ := h
  refine zx_iast (j := x1.toNatClampNeg) hF (zL_6_25 hL ka0) (by decide) rfl rfl ho1 rfl rfl (z_fit rfl) dX6_oneLine_43 ?_
  refine zx_aload_n h0 0 dX6_oneLine_44 rfl ?_
  refine zx_ldc2 (v := 2003330414) h0 zn_X6_oneLine_k215 dX6_oneLine_45 ?_
  obtain ⟨ho2, h⟩ := h
  refine zx_callVi (As := [.long 2003330414]) (rest := []) hF (c_X6_isWord a0 2003330414 (zsI m 1635 a0 x1.toNatClampNeg 0) ka0 ho2) (zc_X6_oneLine_X6_isWord S) ka0 (by decide) rfl dX6_oneLine_48 rfl rfl (Nat.le_of_ble_eq_true rfl) ⟨Nat.zero_le _, Nat.zero_le _⟩ (fun r3 m3 hq => ?_)
  obtain ⟨hme, hq⟩ := hq
  subst m3
  replace h := h r3 hq
  refine zx_if_eq (tgt := 102) h0 dX6_oneLine_51 (by decide) (fun q => ?_) (fun q => ?_)
  · replace h := h.1 q
    exact zx_sub [0, 1] rfl h
  · replace h := h.2 q
    refine zx_iconst (v := 1) h0 dX6_oneLine_54 (by decide) ?_
    refine zx_istore_n (L' := [(2, .int 1), (0, .ref a0), (1, .int x1)]) h0 dX6_oneLine_55 (by decide) rfl ?_
    refine zx_iconst (v := 0) h0 dX6_oneLine_56 (by decide) ?_
    refine zx_istore_n (L' := [(3, .int 0), (2, .int 1), (0, .ref a0), (1, .int x1)]) h0 dX6_oneLine_57 (by decide) rfl ?_
    exact zx_sub [2, 3, 1, 0] rfl h
set_option maxRecDepth 100000 in
set_option maxHeartbeats 4000000 in
theorem sg_X6_oneLine_58 {C : zC} {G : zG} {Qc : Array Value → State → Outcome → State → Prop} (S : St_X6_oneLine C G Qc) {P_X6_need : Nat → Int32 → zM → Prop} {Q_X6_need : Nat → Int32 → zM → Int32 → zM → Prop} (c_X6_need : Con_X6_need (zl C) G P_X6_need Q_X6_need) {P_X6_next : Nat → zM → Prop} {Q_X6_next : Nat → zM → zM → Prop} (c_X6_next : Con_X6_next (zl C) G P_X6_next Q_X6_next) {P_X6_test : Nat → Int32 → Int32 → zM → Prop} {Q_X6_test : Nat → Int32 → Int32 → zM → Int32 → zM → Prop} (c_X6_test : Con_X6_test (zl C) G P_X6_test Q_X6_test) {P_X6_isWord : Nat → Int64 → zM → Prop} {Q_X6_isWord : Nat → Int64 → zM → Int32 → Prop} (c_X6_isWord : Con_X6_isWord (zl C) G P_X6_isWord Q_X6_isWord) {a0 : Nat} {x1 : Int32} {x2 : Int32} {x3 : Int32} {m : zM} (ka0 : zK G a0 = some (6, a0))
    (h : (x2 = 0 → ((P_X6_need a0 58 m) ∧ (∀ (r2 : Int32) (m2 : zM), Q_X6_need a0 58 m r2 m2 → ((¬ r2 = 0 → (Pt_X6_oneLine_102 C G a0 x1 m2)) ∧ (r2 = 0 → (zRet C G Qc (some (.int 0)) m2)))))) ∧ (¬ x2 = 0 → ((P_X6_next a0 m) ∧ (∀ (m4 : zM), Q_X6_next a0 m m4 → ((P_X6_test a0 x1 x3 m4) ∧ (∀ (r6 : Int32) (m6 : zM), Q_X6_test a0 x1 x3 m4 r6 m6 → ((¬ r6 = 0 → ((P_X6_isWord a0 6385252 m6) ∧ (∀ (r8 : Int32), Q_X6_isWord a0 6385252 m6 r8 → (Pt_X6_oneLine_58 C G a0 x1 r8 (x3 + 1) m6)))) ∧ (r6 = 0 → (zRet C G Qc (some (.int 0)) m6))))))))) : Pt_X6_oneLine_58 C G a0 x1 x2 x3 m := by
  obtain ⟨hF, hQ, hR⟩ := id S
  have h0 : zF0 C cX6_oneLine 4 wsX6_oneLine RX6 := hF.1
  have hL := hF.2.2.1
  unfold Pt_X6_oneLine_58
  refine zx_iload_n h0 2 dX6_oneLine_58 rfl ?_
  refine zx_if_eq (tgt := 91) h0 dX6_oneLine_59 (by decide) (fun q => ?_) (fun q => ?_)
  · replace h := h.1 q
    refine zx_aload_n h0 0 dX6_oneLine_91 rfl ?_
    refine zx_bipush (v := 58) h0 dX6_oneLine_92 (by decide) ?_
    obtain ⟨ho1, h⟩ := h
    refine zx_callVi (As := [.int 58]) (rest := []) hF (c_X6_need a0 58 m ka0 ho1) (zc_X6_oneLine_X6_need S) ka0 (by decide) rfl dX6_oneLine_94 rfl rfl (Nat.le_of_ble_eq_true rfl) ⟨Nat.zero_le _, Nat.zero_le _⟩ (fun r2 m2 hq => ?_)
    replace h := h r2 m2 hq
    refine zx_if_ne (tgt := 102) h0 dX6_oneLine_97 (by decide) (fun q => ?_) (fun q => ?_)
    · replace h := h.1 q
      exact zx_sub [0, 1] rfl h
    · replace h := h.2 q
      refine zx_iconst (v := 0) h0 dX6_oneLine_100 (by decide) ?_
      exact zx_zret hF hQ rfl dX6_oneLine_101 h
  · replace h := h.2 q
    refine zx_aload_n h0 0 dX6_oneLine_62 rfl ?_
    obtain ⟨ho3, h⟩ := h
    refine zx_callVv (As := []) (rest := []) hF (c_X6_next a0 m ka0 ho3) (zc_X6_oneLine_X6_next S) ka0 (by decide) rfl dX6_oneLine_63 rfl rfl (Nat.le_of_ble_eq_true rfl) ⟨Nat.zero_le _, Nat.zero_le _⟩ (fun m4 hq => ?_)
    replace h := h m4 hq
    refine zx_aload_n h0 0 dX6_oneLine_66 rfl ?_
    refine zx_iload_n h0 1 dX6_oneLine_67 rfl ?_
    refine zx_iload_n h0 3 dX6_oneLine_68 rfl ?_
    obtain ⟨ho5, h⟩ := h
    refine zx_callVi (As := [.int x1, .int x3]) (rest := []) hF (c_X6_test a0 x1 x3 m4 ka0 ho5) (zc_X6_oneLine_X6_test S) ka0 (by decide) rfl dX6_oneLine_69 rfl rfl (Nat.le_of_ble_eq_true rfl) ⟨Nat.zero_le _, Nat.zero_le _⟩ (fun r6 m6 hq => ?_)
    replace h := h r6 m6 hq
    refine zx_if_ne (tgt := 77) h0 dX6_oneLine_72 (by decide) (fun q => ?_) (fun q => ?_)
    · replace h := h.1 q
      refine zx_aload_n h0 0 dX6_oneLine_77 rfl ?_
      refine zx_ldc2 (v := 6385252) h0 zn_X6_oneLine_k225 dX6_oneLine_78 ?_
      obtain ⟨ho7, h⟩ := h
      refine zx_callVi (As := [.long 6385252]) (rest := []) hF (c_X6_isWord a0 6385252 m6 ka0 ho7) (zc_X6_oneLine_X6_isWord S) ka0 (by decide) rfl dX6_oneLine_81 rfl rfl (Nat.le_of_ble_eq_true rfl) ⟨Nat.zero_le _, Nat.zero_le _⟩ (fun r8 m8 hq => ?_)
      obtain ⟨hme, hq⟩ := hq
      subst m8
      replace h := h r8 hq
      refine zx_istore_n (L' := [(2, .int r8), (0, .ref a0), (1, .int x1), (3, .int x3)]) h0 dX6_oneLine_84 (by decide) rfl ?_
      refine zx_iinc (v := (x3 + 1)) (L' := [(3, .int (x3 + 1)), (2, .int r8), (0, .ref a0), (1, .int x1)]) h0 3 dX6_oneLine_85 rfl rfl (by decide) rfl ?_
      refine zx_goto (tgt := 58) h0 dX6_oneLine_88 (by decide) ?_
      exact zx_sub [2, 3, 1, 0] rfl h
    · replace h := h.2 q
      refine zx_iconst (v := 0) h0 dX6_oneLine_75 (by decide) ?_
      exact zx_zret hF hQ rfl dX6_oneLine_76 h
set_option maxRecDepth 100000 in
set_option maxHeartbeats 4000000 in
theorem sg_X6_oneLine_102 {C : zC} {G : zG} {Qc : Array Value → State → Outcome → State → Prop} (S : St_X6_oneLine C G Qc) {P_X6_isWord : Nat → Int64 → zM → Prop} {Q_X6_isWord : Nat → Int64 → zM → Int32 → Prop} (c_X6_isWord : Con_X6_isWord (zl C) G P_X6_isWord Q_X6_isWord) {a0 : Nat} {x1 : Int32} {m : zM} (ka0 : zK G a0 = some (6, a0))
    (h : (P_X6_isWord a0 123623812527219 m) ∧ (∀ (r2 : Int32), Q_X6_isWord a0 123623812527219 m r2 → ((r2 = 0 → ((P_X6_isWord a0 1836020325 m) ∧ (∀ (r4 : Int32), Q_X6_isWord a0 1836020325 m r4 → ((r4 = 0 → ((P_X6_isWord a0 499984983411 m) ∧ (∀ (r6 : Int32), Q_X6_isWord a0 499984983411 m r6 → ((r6 = 0 → ((P_X6_isWord a0 1852796517 m) ∧ (∀ (r8 : Int32), Q_X6_isWord a0 1852796517 m r8 → ((r8 = 0 → (Pt_X6_oneLine_164 C G a0 x1 (-1) x1 m)) ∧ (¬ r8 = 0 → (Pt_X6_oneLine_164 C G a0 x1 3 x1 m)))))) ∧ (¬ r6 = 0 → (Pt_X6_oneLine_164 C G a0 x1 2 x1 m)))))) ∧ (¬ r4 = 0 → (Pt_X6_oneLine_164 C G a0 x1 1 x1 m)))))) ∧ (¬ r2 = 0 → (Pt_X6_oneLine_164 C G a0 x1 0 x1 m))))) : Pt_X6_oneLine_102 C G a0 x1 m := by
  obtain ⟨hF, hQ, hR⟩ := id S
  have h0 : zF0 C cX6_oneLine 4 wsX6_oneLine RX6 := hF.1
  have hL := hF.2.2.1
  unfold Pt_X6_oneLine_102
  refine zx_aload_n h0 0 dX6_oneLine_102 rfl ?_
  refine zx_get hF ka0 (by decide) rfl zi_X6_oneLine_6 39 (by decide) zn_X6_oneLine_97 rfl rfl dX6_oneLine_103 ?_
  refine zx_iload_n h0 1 dX6_oneLine_106 rfl ?_
  refine zx_aload_n h0 0 dX6_oneLine_107 rfl ?_
  refine zx_ldc2 (v := 123623812527219) h0 zn_X6_oneLine_k230 dX6_oneLine_108 ?_
  obtain ⟨ho1, h⟩ := h
  refine zx_callVi (As := [.long 123623812527219]) (rest := [.int x1, .ref (a0 + 29)]) hF (c_X6_isWord a0 123623812527219 m ka0 ho1) (zc_X6_oneLine_X6_isWord S) ka0 (by decide) rfl dX6_oneLine_111 rfl rfl (Nat.le_of_ble_eq_true rfl) ⟨Nat.zero_le _, Nat.zero_le _⟩ (fun r2 m2 hq => ?_)
  obtain ⟨hme, hq⟩ := hq
  subst m2
  replace h := h r2 hq
  refine zx_if_eq (tgt := 121) h0 dX6_oneLine_114 (by decide) (fun q => ?_) (fun q => ?_)
  · replace h := h.1 q
    refine zx_aload_n h0 0 dX6_oneLine_121 rfl ?_
    refine zx_ldc2 (v := 1836020325) h0 zn_X6_oneLine_k232 dX6_oneLine_122 ?_
    obtain ⟨ho3, h⟩ := h
    refine zx_callVi (As := [.long 1836020325]) (rest := [.int x1, .ref (a0 + 29)]) hF (c_X6_isWord a0 1836020325 m ka0 ho3) (zc_X6_oneLine_X6_isWord S) ka0 (by decide) rfl dX6_oneLine_125 rfl rfl (Nat.le_of_ble_eq_true rfl) ⟨Nat.zero_le _, Nat.zero_le _⟩ (fun r4 m4 hq => ?_)
    obtain ⟨hme, hq⟩ := hq
    subst m4
    replace h := h r4 hq
    refine zx_if_eq (tgt := 135) h0 dX6_oneLine_128 (by decide) (fun q => ?_) (fun q => ?_)
    · replace h := h.1 q
      refine zx_aload_n h0 0 dX6_oneLine_135 rfl ?_
      refine zx_ldc2 (v := 499984983411) h0 zn_X6_oneLine_k234 dX6_oneLine_136 ?_
      obtain ⟨ho5, h⟩ := h
      refine zx_callVi (As := [.long 499984983411]) (rest := [.int x1, .ref (a0 + 29)]) hF (c_X6_isWord a0 499984983411 m ka0 ho5) (zc_X6_oneLine_X6_isWord S) ka0 (by decide) rfl dX6_oneLine_139 rfl rfl (Nat.le_of_ble_eq_true rfl) ⟨Nat.zero_le _, Nat.zero_le _⟩ (fun r6 m6 hq => ?_)
      obtain ⟨hme, hq⟩ := hq
      subst m6
      replace h := h r6 hq
      refine zx_if_eq (tgt := 149) h0 dX6_oneLine_142 (by decide) (fun q => ?_) (fun q => ?_)
      · replace h := h.1 q
        refine zx_aload_n h0 0 dX6_oneLine_149 rfl ?_
        refine zx_ldc2 (v := 1852796517) h0 zn_X6_oneLine_k236 dX6_oneLine_150 ?_
        obtain ⟨ho7, h⟩ := h
        refine zx_callVi (As := [.long 1852796517]) (rest := [.int x1, .ref (a0 + 29)]) hF (c_X6_isWord a0 1852796517 m ka0 ho7) (zc_X6_oneLine_X6_isWord S) ka0 (by decide) rfl dX6_oneLine_153 rfl rfl (Nat.le_of_ble_eq_true rfl) ⟨Nat.zero_le _, Nat.zero_le _⟩ (fun r8 m8 hq => ?_)
        obtain ⟨hme, hq⟩ := hq
        subst m8
        replace h := h r8 hq
        refine zx_if_eq (tgt := 163) h0 dX6_oneLine_156 (by decide) (fun q => ?_) (fun q => ?_)
        · replace h := h.1 q
          refine zx_iconst (v := (-1)) h0 dX6_oneLine_163 (by decide) ?_
          exact zx_sub [0, 1] rfl h
        · replace h := h.2 q
          refine zx_iconst (v := 3) h0 dX6_oneLine_159 (by decide) ?_
          refine zx_goto (tgt := 164) h0 dX6_oneLine_160 (by decide) ?_
          exact zx_sub [0, 1] rfl h
      · replace h := h.2 q
        refine zx_iconst (v := 2) h0 dX6_oneLine_145 (by decide) ?_
        refine zx_goto (tgt := 164) h0 dX6_oneLine_146 (by decide) ?_
        exact zx_sub [0, 1] rfl h
    · replace h := h.2 q
      refine zx_iconst (v := 1) h0 dX6_oneLine_131 (by decide) ?_
      refine zx_goto (tgt := 164) h0 dX6_oneLine_132 (by decide) ?_
      exact zx_sub [0, 1] rfl h
  · replace h := h.2 q
    refine zx_iconst (v := 0) h0 dX6_oneLine_117 (by decide) ?_
    refine zx_goto (tgt := 164) h0 dX6_oneLine_118 (by decide) ?_
    exact zx_sub [0, 1] rfl h
set_option maxRecDepth 100000 in
set_option maxHeartbeats 4000000 in
theorem sg_X6_oneLine_164 {C : zC} {G : zG} {Qc : Array Value → State → Outcome → State → Prop} (S : St_X6_oneLine C G Qc) {P_X6_next : Nat → zM → Prop} {Q_X6_next : Nat → zM → zM → Prop} (c_X6_next : Con_X6_next (zl C) G P_X6_next Q_X6_next) {P_X6_wrong : Nat → zM → Prop} {Q_X6_wrong : Nat → zM → Int32 → zM → Prop} (c_X6_wrong : Con_X6_wrong (zl C) G P_X6_wrong Q_X6_wrong) {a0 : Nat} {x1 : Int32} {s0 : Int32} {s1 : Int32} {m : zM} (ka0 : zK G a0 = some (6, a0))
    (h : (vp_in s1 17) ∧ ((vp_in x1 17) ∧ ((¬ (zI (zsI m 1639 a0 s1.toNatClampNeg s0) 1639 a0 x1.toNatClampNeg) = (-1) → ((P_X6_next a0 (zsI m 1639 a0 s1.toNatClampNeg s0)) ∧ (∀ (m4 : zM), Q_X6_next a0 (zsI m 1639 a0 s1.toNatClampNeg s0) m4 → ((3 ≤ (zI m4 1639 a0 x1.toNatClampNeg) → (Pt_X6_oneLine_228 C G a0 (zsI m4 1640 a0 x1.toNatClampNeg 0))) ∧ (¬ 3 ≤ (zI m4 1639 a0 x1.toNatClampNeg) → (((zI m4 628 a0 0) = 3 → ((P_X6_next a0 (zsI (zsI m4 1640 a0 x1.toNatClampNeg 0) 1640 a0 x1.toNatClampNeg (zI m4 629 a0 0))) ∧ (∀ (m6 : zM), Q_X6_next a0 (zsI (zsI m4 1640 a0 x1.toNatClampNeg 0) 1640 a0 x1.toNatClampNeg (zI m4 629 a0 0)) m6 → (Pt_X6_oneLine_228 C G a0 m6)))) ∧ (¬ (zI m4 628 a0 0) = 3 → ((P_X6_wrong a0 (zsI m4 1640 a0 x1.toNatClampNeg 0)) ∧ (∀ (r8 : Int32) (m8 : zM), Q_X6_wrong a0 (zsI m4 1640 a0 x1.toNatClampNeg 0) r8 m8 → ((r8 = 0 ∨ r8 = 1) ∧ (zRet C G Qc (some (.int r8)) m8))))))))))) ∧ ((zI (zsI m 1639 a0 s1.toNatClampNeg s0) 1639 a0 x1.toNatClampNeg) = (-1) → ((P_X6_wrong a0 (zsI m 1639 a0 s1.toNatClampNeg s0)) ∧ (∀ (r11 : Int32) (m11 : zM), Q_X6_wrong a0 (zsI m 1639 a0 s1.toNatClampNeg s0) r11 m11 → ((r11 = 0 ∨ r11 = 1) ∧ (zRet C G Qc (some (.int r11)) m11)))))))) : Pt_X6_oneLine_164 C G a0 x1 s0 s1 m := by
  obtain ⟨hF, hQ, hR⟩ := id S
  have h0 : zF0 C cX6_oneLine 4 wsX6_oneLine RX6 := hF.1
  have hL := hF.2.2.1
  unfold Pt_X6_oneLine_164
  obtain ⟨ho1, h⟩ := h
  refine zx_iast (j := s1.toNatClampNeg) hF (zL_6_29 hL ka0) (by decide) rfl rfl ho1 rfl rfl (z_fit rfl) dX6_oneLine_164 ?_
  refine zx_aload_n h0 0 dX6_oneLine_165 rfl ?_
  refine zx_get hF ka0 (by decide) rfl zi_X6_oneLine_6 39 (by decide) zn_X6_oneLine_97 rfl rfl dX6_oneLine_166 ?_
  refine zx_iload_n h0 1 dX6_oneLine_169 rfl ?_
  obtain ⟨ho2, h⟩ := h
  refine zx_iald (j := x1.toNatClampNeg) hF (zL_6_29 hL ka0) (by decide) rfl rfl ho2 rfl dX6_oneLine_170 ?_
  refine zx_iconst (v := (-1)) h0 dX6_oneLine_171 (by decide) ?_
  refine zx_icmp_ne (tgt := 180) h0 dX6_oneLine_172 (by decide) (fun q => ?_) (fun q => ?_)
  · replace h := h.1 q
    refine zx_aload_n h0 0 dX6_oneLine_180 rfl ?_
    obtain ⟨ho3, h⟩ := h
    refine zx_callVv (As := []) (rest := []) hF (c_X6_next a0 (zsI m 1639 a0 s1.toNatClampNeg s0) ka0 ho3) (zc_X6_oneLine_X6_next S) ka0 (by decide) rfl dX6_oneLine_181 rfl rfl (Nat.le_of_ble_eq_true rfl) ⟨Nat.zero_le _, Nat.zero_le _⟩ (fun m4 hq => ?_)
    replace h := h m4 hq
    refine zx_aload_n h0 0 dX6_oneLine_184 rfl ?_
    refine zx_get hF ka0 (by decide) rfl zi_X6_oneLine_6 40 (by decide) zn_X6_oneLine_100 rfl rfl dX6_oneLine_185 ?_
    refine zx_iload_n h0 1 dX6_oneLine_188 rfl ?_
    refine zx_iconst (v := 0) h0 dX6_oneLine_189 (by decide) ?_
    refine zx_iast (j := x1.toNatClampNeg) hF (zL_6_30 hL ka0) (by decide) rfl rfl ho2 rfl rfl (z_fit rfl) dX6_oneLine_190 ?_
    refine zx_aload_n h0 0 dX6_oneLine_191 rfl ?_
    refine zx_get hF ka0 (by decide) rfl zi_X6_oneLine_6 39 (by decide) zn_X6_oneLine_97 rfl rfl dX6_oneLine_192 ?_
    refine zx_iload_n h0 1 dX6_oneLine_195 rfl ?_
    refine zx_iald (j := x1.toNatClampNeg) hF (zL_6_29 hL ka0) (by decide) rfl rfl ho2 rfl dX6_oneLine_196 ?_
    refine zx_topI (zI_n (by decide)) ?_
    refine zx_iconst (v := 3) h0 dX6_oneLine_197 (by decide) ?_
    refine zx_icmp_ge (tgt := 228) h0 dX6_oneLine_198 (by decide) (fun q => ?_) (fun q => ?_)
    · replace h := h.1 q
      exact zx_sub [0] rfl h
    · replace h := h.2 q
      refine zx_aload_n h0 0 dX6_oneLine_201 rfl ?_
      refine zx_get hF ka0 (by decide) rfl zi_X6_oneLine_6 28 (by decide) zn_X6_oneLine_187 rfl rfl dX6_oneLine_202 ?_
      refine zx_topI (zI_n (by decide)) ?_
      refine zx_iconst (v := 3) h0 dX6_oneLine_205 (by decide) ?_
      refine zx_icmp_eq (tgt := 214) h0 dX6_oneLine_206 (by decide) (fun q => ?_) (fun q => ?_)
      · replace h := h.1 q
        refine zx_aload_n h0 0 dX6_oneLine_214 rfl ?_
        refine zx_get hF ka0 (by decide) rfl zi_X6_oneLine_6 40 (by decide) zn_X6_oneLine_100 rfl rfl dX6_oneLine_215 ?_
        refine zx_iload_n h0 1 dX6_oneLine_218 rfl ?_
        refine zx_aload_n h0 0 dX6_oneLine_219 rfl ?_
        refine zx_get hF ka0 (by decide) rfl zi_X6_oneLine_6 29 (by decide) zn_X6_oneLine_180 rfl rfl dX6_oneLine_220 ?_
        refine zx_topI (zI_n (by decide)) ?_
        refine zx_iast (j := x1.toNatClampNeg) hF (zL_6_30 hL ka0) (by decide) rfl rfl ho2 rfl rfl (z_fit rfl) dX6_oneLine_223 ?_
        refine zx_aload_n h0 0 dX6_oneLine_224 rfl ?_
        obtain ⟨ho5, h⟩ := h
        refine zx_callVv (As := []) (rest := []) hF (c_X6_next a0 (zsI (zsI m4 1640 a0 x1.toNatClampNeg 0) 1640 a0 x1.toNatClampNeg (zI m4 629 a0 0)) ka0 ho5) (zc_X6_oneLine_X6_next S) ka0 (by decide) rfl dX6_oneLine_225 rfl rfl (Nat.le_of_ble_eq_true rfl) ⟨Nat.zero_le _, Nat.zero_le _⟩ (fun m6 hq => ?_)
        replace h := h m6 hq
        exact zx_sub [0] rfl h
      · replace h := h.2 q
        refine zx_aload_n h0 0 dX6_oneLine_209 rfl ?_
        obtain ⟨ho7, h⟩ := h
        refine zx_callVi (As := []) (rest := []) hF (c_X6_wrong a0 (zsI m4 1640 a0 x1.toNatClampNeg 0) ka0 ho7) (zc_X6_oneLine_X6_wrong S) ka0 (by decide) rfl dX6_oneLine_210 rfl rfl (Nat.le_of_ble_eq_true rfl) ⟨Nat.zero_le _, Nat.zero_le _⟩ (fun r8 m8 hq => ?_)
        replace h := h r8 m8 hq
        obtain ⟨ho9, h⟩ := h
        exact zx_zret hF hQ (z_nb ho9) dX6_oneLine_213 h
  · replace h := h.2 q
    refine zx_aload_n h0 0 dX6_oneLine_175 rfl ?_
    obtain ⟨ho10, h⟩ := h
    refine zx_callVi (As := []) (rest := []) hF (c_X6_wrong a0 (zsI m 1639 a0 s1.toNatClampNeg s0) ka0 ho10) (zc_X6_oneLine_X6_wrong S) ka0 (by decide) rfl dX6_oneLine_176 rfl rfl (Nat.le_of_ble_eq_true rfl) ⟨Nat.zero_le _, Nat.zero_le _⟩ (fun r11 m11 hq => ?_)
    replace h := h r11 m11 hq
    obtain ⟨ho12, h⟩ := h
    exact zx_zret hF hQ (z_nb ho12) dX6_oneLine_179 h
set_option maxRecDepth 100000 in
set_option maxHeartbeats 4000000 in
theorem sg_X6_oneLine_228 {C : zC} {G : zG} {Qc : Array Value → State → Outcome → State → Prop} (S : St_X6_oneLine C G Qc) {P_X6_need : Nat → Int32 → zM → Prop} {Q_X6_need : Nat → Int32 → zM → Int32 → zM → Prop} (c_X6_need : Con_X6_need (zl C) G P_X6_need Q_X6_need) {a0 : Nat} {m : zM} (ka0 : zK G a0 = some (6, a0))
    (h : (P_X6_need a0 59 (zsI m 634 a0 0 ((zI m 634 a0 0) + 1))) ∧ (∀ (r2 : Int32) (m2 : zM), Q_X6_need a0 59 (zsI m 634 a0 0 ((zI m 634 a0 0) + 1)) r2 m2 → ((r2 = 0 ∨ r2 = 1) ∧ (zRet C G Qc (some (.int r2)) m2)))) : Pt_X6_oneLine_228 C G a0 m := by
  obtain ⟨hF, hQ, hR⟩ := id S
  have h0 : zF0 C cX6_oneLine 4 wsX6_oneLine RX6 := hF.1
  have hL := hF.2.2.1
  unfold Pt_X6_oneLine_228
  refine zx_aload_n h0 0 dX6_oneLine_228 rfl ?_
  refine zx_dup h0 dX6_oneLine_229 rfl ?_
  refine zx_get hF ka0 (by decide) rfl zi_X6_oneLine_6 34 (by decide) zn_X6_oneLine_209 rfl rfl dX6_oneLine_230 ?_
  refine zx_iconst (v := 1) h0 dX6_oneLine_233 (by decide) ?_
  refine zx_iadd h0 dX6_oneLine_234 ?_
  refine zp_634 hF ka0 zi_X6_oneLine_6 zn_X6_oneLine_209 dX6_oneLine_235 ?_
  refine zx_aload_n h0 0 dX6_oneLine_238 rfl ?_
  refine zx_bipush (v := 59) h0 dX6_oneLine_239 (by decide) ?_
  obtain ⟨ho1, h⟩ := h
  refine zx_callVi (As := [.int 59]) (rest := []) hF (c_X6_need a0 59 (zsI m 634 a0 0 ((zI m 634 a0 0) + 1)) ka0 ho1) (zc_X6_oneLine_X6_need S) ka0 (by decide) rfl dX6_oneLine_241 rfl rfl (Nat.le_of_ble_eq_true rfl) ⟨Nat.zero_le _, Nat.zero_le _⟩ (fun r2 m2 hq => ?_)
  replace h := h r2 m2 hq
  obtain ⟨ho3, h⟩ := h
  exact zx_zret hF hQ (z_nb ho3) dX6_oneLine_244 h
theorem zn_X6_keepGrid_64 : Cond.fieldLink RX6 64 RX6 (TX6 18).2.1 (TX6 18).2.2.1 ∈ wsX6_keepGrid := List.mem_of_getElem? (i := 1) rfl
theorem zi_X6_keepGrid_6 : ∀ w ∈ u_ws RX6 TX6 50, w ∈ wsX6_keepGrid := fun _ h => List.mem_cons_of_mem _ (List.mem_append_right _ h)
theorem zn_X6_keepGrid_267 : Cond.fieldLink RX6 267 RX6 (TX6 41).2.1 (TX6 41).2.2.1 ∈ wsX6_keepGrid := List.mem_of_getElem? (i := 2) rfl
theorem zn_X6_keepGrid_103 : Cond.fieldLink RX6 103 RX6 (TX6 42).2.1 (TX6 42).2.2.1 ∈ wsX6_keepGrid := List.mem_of_getElem? (i := 3) rfl
theorem zn_X6_keepGrid_67 : Cond.fieldLink RX6 67 RX6 (TX6 19).2.1 (TX6 19).2.2.1 ∈ wsX6_keepGrid := List.mem_of_getElem? (i := 4) rfl
theorem zn_X6_keepGrid_115 : Cond.fieldLink RX6 115 RX6 (TX6 46).2.1 (TX6 46).2.2.1 ∈ wsX6_keepGrid := List.mem_of_getElem? (i := 5) rfl
theorem zn_X6_keepGrid_79 : Cond.fieldLink RX6 79 RX6 (TX6 23).2.1 (TX6 23).2.2.1 ∈ wsX6_keepGrid := List.mem_of_getElem? (i := 6) rfl
theorem zn_X6_keepGrid_118 : Cond.fieldLink RX6 118 RX6 (TX6 47).2.1 (TX6 47).2.2.1 ∈ wsX6_keepGrid := List.mem_of_getElem? (i := 7) rfl
theorem zn_X6_keepGrid_82 : Cond.fieldLink RX6 82 RX6 (TX6 24).2.1 (TX6 24).2.2.1 ∈ wsX6_keepGrid := List.mem_of_getElem? (i := 8) rfl
theorem zn_X6_keepGrid_106 : Cond.fieldLink RX6 106 RX6 (TX6 43).2.1 (TX6 43).2.2.1 ∈ wsX6_keepGrid := List.mem_of_getElem? (i := 9) rfl
theorem zn_X6_keepGrid_70 : Cond.fieldLink RX6 70 RX6 (TX6 20).2.1 (TX6 20).2.2.1 ∈ wsX6_keepGrid := List.mem_of_getElem? (i := 10) rfl
theorem zn_X6_keepGrid_109 : Cond.fieldLink RX6 109 RX6 (TX6 44).2.1 (TX6 44).2.2.1 ∈ wsX6_keepGrid := List.mem_of_getElem? (i := 11) rfl
theorem zn_X6_keepGrid_73 : Cond.fieldLink RX6 73 RX6 (TX6 21).2.1 (TX6 21).2.2.1 ∈ wsX6_keepGrid := List.mem_of_getElem? (i := 12) rfl
theorem zn_X6_keepGrid_112 : Cond.fieldLink RX6 112 RX6 (TX6 45).2.1 (TX6 45).2.2.1 ∈ wsX6_keepGrid := List.mem_of_getElem? (i := 13) rfl
theorem zn_X6_keepGrid_76 : Cond.fieldLink RX6 76 RX6 (TX6 22).2.1 (TX6 22).2.2.1 ∈ wsX6_keepGrid := List.mem_of_getElem? (i := 14) rfl
set_option maxRecDepth 100000 in
set_option maxHeartbeats 4000000 in
theorem sg_X6_keepGrid_0 {C : zC} {G : zG} {Qc : Array Value → State → Outcome → State → Prop} (S : St_X6_keepGrid C G Qc) {a0 : Nat} {m : zM} (ka0 : zK G a0 = some (6, a0))
    (h : Pt_X6_keepGrid_12 C G a0 0 (zsI m 641 a0 0 (zI m 1618 a0 0))) : Pt_X6_keepGrid_0 C G a0 m := by
  obtain ⟨hF, hQ, hR⟩ := id S
  have h0 : zF0 C cX6_keepGrid 2 wsX6_keepGrid RX6 := hF.1
  have hL := hF.2.2.1
  unfold Pt_X6_keepGrid_0
  refine zx_aload_n h0 0 dX6_keepGrid_0 rfl ?_
  refine zx_aload_n h0 0 dX6_keepGrid_1 rfl ?_
  refine zx_get hF ka0 (by decide) rfl zi_X6_keepGrid_6 18 (by decide) zn_X6_keepGrid_64 rfl rfl dX6_keepGrid_2 ?_
  refine zx_iconst (v := 0) h0 dX6_keepGrid_5 (by decide) ?_
  refine zx_iald (j := 0) hF (zL_6_18 hL ka0) (by decide) rfl rfl (by unfold vp_in; decide) (by decide) dX6_keepGrid_6 ?_
  refine zp_641 hF ka0 zi_X6_keepGrid_6 zn_X6_keepGrid_267 dX6_keepGrid_7 ?_
  refine zx_iconst (v := 0) h0 dX6_keepGrid_10 (by decide) ?_
  refine zx_istore_n (L' := [(1, .int 0), (0, .ref a0)]) h0 dX6_keepGrid_11 (by decide) rfl ?_
  exact zx_sub [1, 0] rfl h
set_option maxRecDepth 100000 in
set_option maxHeartbeats 4000000 in
theorem sg_X6_keepGrid_12 {C : zC} {G : zG} {Qc : Array Value → State → Outcome → State → Prop} (S : St_X6_keepGrid C G Qc) {a0 : Nat} {x1 : Int32} {m : zM} (ka0 : zK G a0 = some (6, a0))
    (h : (16 ≤ x1 → (Pt_X6_keepGrid_62 C G a0 0 m)) ∧ (¬ 16 ≤ x1 → ((vp_in x1 64) ∧ ((vp_in x1 16) ∧ (Pt_X6_keepGrid_12 C G a0 (x1 + 1) (zsI (zsI (zsI m 1642 a0 x1.toNatClampNeg (zI m 1619 a0 x1.toNatClampNeg)) 1646 a0 x1.toNatClampNeg (zI m 1623 a0 x1.toNatClampNeg)) 1647 a0 x1.toNatClampNeg (zI m 1624 a0 x1.toNatClampNeg))))))) : Pt_X6_keepGrid_12 C G a0 x1 m := by
  obtain ⟨hF, hQ, hR⟩ := id S
  have h0 : zF0 C cX6_keepGrid 2 wsX6_keepGrid RX6 := hF.1
  have hL := hF.2.2.1
  unfold Pt_X6_keepGrid_12
  refine zx_iload_n h0 1 dX6_keepGrid_12 rfl ?_
  refine zx_bipush (v := 16) h0 dX6_keepGrid_13 (by decide) ?_
  refine zx_icmp_ge (tgt := 60) h0 dX6_keepGrid_15 (by decide) (fun q => ?_) (fun q => ?_)
  · replace h := h.1 q
    refine zx_iconst (v := 0) h0 dX6_keepGrid_60 (by decide) ?_
    refine zx_istore_n (L' := [(1, .int 0), (0, .ref a0)]) h0 dX6_keepGrid_61 (by decide) rfl ?_
    exact zx_sub [1, 0] rfl h
  · replace h := h.2 q
    refine zx_aload_n h0 0 dX6_keepGrid_18 rfl ?_
    refine zx_get hF ka0 (by decide) rfl zi_X6_keepGrid_6 42 (by decide) zn_X6_keepGrid_103 rfl rfl dX6_keepGrid_19 ?_
    refine zx_iload_n h0 1 dX6_keepGrid_22 rfl ?_
    refine zx_aload_n h0 0 dX6_keepGrid_23 rfl ?_
    refine zx_get hF ka0 (by decide) rfl zi_X6_keepGrid_6 19 (by decide) zn_X6_keepGrid_67 rfl rfl dX6_keepGrid_24 ?_
    refine zx_iload_n h0 1 dX6_keepGrid_27 rfl ?_
    obtain ⟨ho1, h⟩ := h
    refine zx_iald (j := x1.toNatClampNeg) hF (zL_6_19 hL ka0) (by decide) rfl rfl ho1 rfl dX6_keepGrid_28 ?_
    obtain ⟨ho2, h⟩ := h
    refine zx_iast (j := x1.toNatClampNeg) hF (zL_6_31 hL ka0) (by decide) rfl rfl ho2 rfl rfl (z_fit rfl) dX6_keepGrid_29 ?_
    refine zx_aload_n h0 0 dX6_keepGrid_30 rfl ?_
    refine zx_get hF ka0 (by decide) rfl zi_X6_keepGrid_6 46 (by decide) zn_X6_keepGrid_115 rfl rfl dX6_keepGrid_31 ?_
    refine zx_iload_n h0 1 dX6_keepGrid_34 rfl ?_
    refine zx_aload_n h0 0 dX6_keepGrid_35 rfl ?_
    refine zx_get hF ka0 (by decide) rfl zi_X6_keepGrid_6 23 (by decide) zn_X6_keepGrid_79 rfl rfl dX6_keepGrid_36 ?_
    refine zx_iload_n h0 1 dX6_keepGrid_39 rfl ?_
    refine zx_iald (j := x1.toNatClampNeg) hF (zL_6_23 hL ka0) (by decide) rfl rfl ho1 rfl dX6_keepGrid_40 ?_
    refine zx_topI (zI_n (by decide)) ?_
    refine zx_iast (j := x1.toNatClampNeg) hF (zL_6_35 hL ka0) (by decide) rfl rfl ho2 rfl rfl (z_fit rfl) dX6_keepGrid_41 ?_
    refine zx_aload_n h0 0 dX6_keepGrid_42 rfl ?_
    refine zx_get hF ka0 (by decide) rfl zi_X6_keepGrid_6 47 (by decide) zn_X6_keepGrid_118 rfl rfl dX6_keepGrid_43 ?_
    refine zx_iload_n h0 1 dX6_keepGrid_46 rfl ?_
    refine zx_aload_n h0 0 dX6_keepGrid_47 rfl ?_
    refine zx_get hF ka0 (by decide) rfl zi_X6_keepGrid_6 24 (by decide) zn_X6_keepGrid_82 rfl rfl dX6_keepGrid_48 ?_
    refine zx_iload_n h0 1 dX6_keepGrid_51 rfl ?_
    refine zx_iald (j := x1.toNatClampNeg) hF (zL_6_24 hL ka0) (by decide) rfl rfl ho1 rfl dX6_keepGrid_52 ?_
    refine zx_topI ((zI_n (by decide)).trans (zI_n (by decide))) ?_
    refine zx_iast (j := x1.toNatClampNeg) hF (zL_6_36 hL ka0) (by decide) rfl rfl ho2 rfl rfl (z_fit rfl) dX6_keepGrid_53 ?_
    refine zx_iinc (v := (x1 + 1)) (L' := [(1, .int (x1 + 1)), (0, .ref a0)]) h0 1 dX6_keepGrid_54 rfl rfl (by decide) rfl ?_
    refine zx_goto (tgt := 12) h0 dX6_keepGrid_57 (by decide) ?_
    exact zx_sub [1, 0] rfl h
set_option maxRecDepth 100000 in
set_option maxHeartbeats 4000000 in
theorem sg_X6_keepGrid_62 {C : zC} {G : zG} {Qc : Array Value → State → Outcome → State → Prop} (S : St_X6_keepGrid C G Qc) {a0 : Nat} {x1 : Int32} {m : zM} (ka0 : zK G a0 = some (6, a0))
    (h : (64 ≤ x1 → (zRet C G Qc none m)) ∧ (¬ 64 ≤ x1 → ((vp_in x1 256) ∧ ((vp_in x1 64) ∧ (Pt_X6_keepGrid_62 C G a0 (x1 + 1) (zsI (zsI (zsI m 1643 a0 x1.toNatClampNeg (zI m 1620 a0 x1.toNatClampNeg)) 1644 a0 x1.toNatClampNeg (zI m 1621 a0 x1.toNatClampNeg)) 1645 a0 x1.toNatClampNeg (zI m 1622 a0 x1.toNatClampNeg))))))) : Pt_X6_keepGrid_62 C G a0 x1 m := by
  obtain ⟨hF, hQ, hR⟩ := id S
  have h0 : zF0 C cX6_keepGrid 2 wsX6_keepGrid RX6 := hF.1
  have hL := hF.2.2.1
  unfold Pt_X6_keepGrid_62
  refine zx_iload_n h0 1 dX6_keepGrid_62 rfl ?_
  refine zx_bipush (v := 64) h0 dX6_keepGrid_63 (by decide) ?_
  refine zx_icmp_ge (tgt := 110) h0 dX6_keepGrid_65 (by decide) (fun q => ?_) (fun q => ?_)
  · replace h := h.1 q
    exact zx_vret hF hQ dX6_keepGrid_110 h
  · replace h := h.2 q
    refine zx_aload_n h0 0 dX6_keepGrid_68 rfl ?_
    refine zx_get hF ka0 (by decide) rfl zi_X6_keepGrid_6 43 (by decide) zn_X6_keepGrid_106 rfl rfl dX6_keepGrid_69 ?_
    refine zx_iload_n h0 1 dX6_keepGrid_72 rfl ?_
    refine zx_aload_n h0 0 dX6_keepGrid_73 rfl ?_
    refine zx_get hF ka0 (by decide) rfl zi_X6_keepGrid_6 20 (by decide) zn_X6_keepGrid_70 rfl rfl dX6_keepGrid_74 ?_
    refine zx_iload_n h0 1 dX6_keepGrid_77 rfl ?_
    obtain ⟨ho1, h⟩ := h
    refine zx_iald (j := x1.toNatClampNeg) hF (zL_6_20 hL ka0) (by decide) rfl rfl ho1 rfl dX6_keepGrid_78 ?_
    obtain ⟨ho2, h⟩ := h
    refine zx_iast (j := x1.toNatClampNeg) hF (zL_6_32 hL ka0) (by decide) rfl rfl ho2 rfl rfl (z_fit rfl) dX6_keepGrid_79 ?_
    refine zx_aload_n h0 0 dX6_keepGrid_80 rfl ?_
    refine zx_get hF ka0 (by decide) rfl zi_X6_keepGrid_6 44 (by decide) zn_X6_keepGrid_109 rfl rfl dX6_keepGrid_81 ?_
    refine zx_iload_n h0 1 dX6_keepGrid_84 rfl ?_
    refine zx_aload_n h0 0 dX6_keepGrid_85 rfl ?_
    refine zx_get hF ka0 (by decide) rfl zi_X6_keepGrid_6 21 (by decide) zn_X6_keepGrid_73 rfl rfl dX6_keepGrid_86 ?_
    refine zx_iload_n h0 1 dX6_keepGrid_89 rfl ?_
    refine zx_iald (j := x1.toNatClampNeg) hF (zL_6_21 hL ka0) (by decide) rfl rfl ho1 rfl dX6_keepGrid_90 ?_
    refine zx_topI (zI_n (by decide)) ?_
    refine zx_iast (j := x1.toNatClampNeg) hF (zL_6_33 hL ka0) (by decide) rfl rfl ho2 rfl rfl (z_fit rfl) dX6_keepGrid_91 ?_
    refine zx_aload_n h0 0 dX6_keepGrid_92 rfl ?_
    refine zx_get hF ka0 (by decide) rfl zi_X6_keepGrid_6 45 (by decide) zn_X6_keepGrid_112 rfl rfl dX6_keepGrid_93 ?_
    refine zx_iload_n h0 1 dX6_keepGrid_96 rfl ?_
    refine zx_aload_n h0 0 dX6_keepGrid_97 rfl ?_
    refine zx_get hF ka0 (by decide) rfl zi_X6_keepGrid_6 22 (by decide) zn_X6_keepGrid_76 rfl rfl dX6_keepGrid_98 ?_
    refine zx_iload_n h0 1 dX6_keepGrid_101 rfl ?_
    refine zx_iald (j := x1.toNatClampNeg) hF (zL_6_22 hL ka0) (by decide) rfl rfl ho1 rfl dX6_keepGrid_102 ?_
    refine zx_topI ((zI_n (by decide)).trans (zI_n (by decide))) ?_
    refine zx_iast (j := x1.toNatClampNeg) hF (zL_6_34 hL ka0) (by decide) rfl rfl ho2 rfl rfl (z_fit rfl) dX6_keepGrid_103 ?_
    refine zx_iinc (v := (x1 + 1)) (L' := [(1, .int (x1 + 1)), (0, .ref a0)]) h0 1 dX6_keepGrid_104 rfl rfl (by decide) rfl ?_
    refine zx_goto (tgt := 62) h0 dX6_keepGrid_107 (by decide) ?_
    exact zx_sub [1, 0] rfl h
theorem zn_X6_setGrid_64 : Cond.fieldLink RX6 64 RX6 (TX6 18).2.1 (TX6 18).2.2.1 ∈ wsX6_setGrid := List.mem_of_getElem? (i := 1) rfl
theorem zi_X6_setGrid_6 : ∀ w ∈ u_ws RX6 TX6 50, w ∈ wsX6_setGrid := fun _ h => List.mem_cons_of_mem _ (List.mem_append_right _ h)
theorem zn_X6_setGrid_209 : Cond.fieldLink RX6 209 RX6 (TX6 34).2.1 (TX6 34).2.2.1 ∈ wsX6_setGrid := List.mem_of_getElem? (i := 2) rfl
theorem zn_X6_setGrid_67 : Cond.fieldLink RX6 67 RX6 (TX6 19).2.1 (TX6 19).2.2.1 ∈ wsX6_setGrid := List.mem_of_getElem? (i := 3) rfl
theorem zn_X6_setGrid_85 : Cond.fieldLink RX6 85 RX6 (TX6 35).2.1 (TX6 35).2.2.1 ∈ wsX6_setGrid := List.mem_of_getElem? (i := 4) rfl
theorem zn_X6_setGrid_79 : Cond.fieldLink RX6 79 RX6 (TX6 23).2.1 (TX6 23).2.2.1 ∈ wsX6_setGrid := List.mem_of_getElem? (i := 5) rfl
theorem zn_X6_setGrid_97 : Cond.fieldLink RX6 97 RX6 (TX6 39).2.1 (TX6 39).2.2.1 ∈ wsX6_setGrid := List.mem_of_getElem? (i := 6) rfl
theorem zn_X6_setGrid_82 : Cond.fieldLink RX6 82 RX6 (TX6 24).2.1 (TX6 24).2.2.1 ∈ wsX6_setGrid := List.mem_of_getElem? (i := 7) rfl
theorem zn_X6_setGrid_100 : Cond.fieldLink RX6 100 RX6 (TX6 40).2.1 (TX6 40).2.2.1 ∈ wsX6_setGrid := List.mem_of_getElem? (i := 8) rfl
theorem zn_X6_setGrid_70 : Cond.fieldLink RX6 70 RX6 (TX6 20).2.1 (TX6 20).2.2.1 ∈ wsX6_setGrid := List.mem_of_getElem? (i := 9) rfl
theorem zn_X6_setGrid_88 : Cond.fieldLink RX6 88 RX6 (TX6 36).2.1 (TX6 36).2.2.1 ∈ wsX6_setGrid := List.mem_of_getElem? (i := 10) rfl
theorem zn_X6_setGrid_73 : Cond.fieldLink RX6 73 RX6 (TX6 21).2.1 (TX6 21).2.2.1 ∈ wsX6_setGrid := List.mem_of_getElem? (i := 11) rfl
theorem zn_X6_setGrid_91 : Cond.fieldLink RX6 91 RX6 (TX6 37).2.1 (TX6 37).2.2.1 ∈ wsX6_setGrid := List.mem_of_getElem? (i := 12) rfl
theorem zn_X6_setGrid_76 : Cond.fieldLink RX6 76 RX6 (TX6 22).2.1 (TX6 22).2.2.1 ∈ wsX6_setGrid := List.mem_of_getElem? (i := 13) rfl
theorem zn_X6_setGrid_94 : Cond.fieldLink RX6 94 RX6 (TX6 38).2.1 (TX6 38).2.2.1 ∈ wsX6_setGrid := List.mem_of_getElem? (i := 14) rfl
set_option maxRecDepth 100000 in
set_option maxHeartbeats 4000000 in
theorem sg_X6_setGrid_0 {C : zC} {G : zG} {Qc : Array Value → State → Outcome → State → Prop} (S : St_X6_setGrid C G Qc) {a0 : Nat} {m : zM} (ka0 : zK G a0 = some (6, a0))
    (h : Pt_X6_setGrid_12 C G a0 0 (zsI m 1618 a0 0 (zI m 634 a0 0))) : Pt_X6_setGrid_0 C G a0 m := by
  obtain ⟨hF, hQ, hR⟩ := id S
  have h0 : zF0 C cX6_setGrid 3 wsX6_setGrid RX6 := hF.1
  have hL := hF.2.2.1
  unfold Pt_X6_setGrid_0
  refine zx_aload_n h0 0 dX6_setGrid_0 rfl ?_
  refine zx_get hF ka0 (by decide) rfl zi_X6_setGrid_6 18 (by decide) zn_X6_setGrid_64 rfl rfl dX6_setGrid_1 ?_
  refine zx_iconst (v := 0) h0 dX6_setGrid_4 (by decide) ?_
  refine zx_aload_n h0 0 dX6_setGrid_5 rfl ?_
  refine zx_get hF ka0 (by decide) rfl zi_X6_setGrid_6 34 (by decide) zn_X6_setGrid_209 rfl rfl dX6_setGrid_6 ?_
  refine zx_iast (j := 0) hF (zL_6_18 hL ka0) (by decide) rfl rfl (by unfold vp_in; decide) (by decide) rfl (z_fit rfl) dX6_setGrid_9 ?_
  refine zx_iconst (v := 0) h0 dX6_setGrid_10 (by decide) ?_
  refine zx_istore_n (L' := [(1, .int 0), (0, .ref a0)]) h0 dX6_setGrid_11 (by decide) rfl ?_
  exact zx_sub [1, 0] rfl h
set_option maxRecDepth 100000 in
set_option maxHeartbeats 4000000 in
theorem sg_X6_setGrid_12 {C : zC} {G : zG} {Qc : Array Value → State → Outcome → State → Prop} (S : St_X6_setGrid C G Qc) {a0 : Nat} {x1 : Int32} {m : zM} (ka0 : zK G a0 = some (6, a0))
    (h : ((zI m 634 a0 0) ≤ x1 → (zRet C G Qc none m)) ∧ (¬ (zI m 634 a0 0) ≤ x1 → ((vp_in x1 17) ∧ ((vp_in x1 64) ∧ (Pt_X6_setGrid_60 C G a0 x1 (4 * x1) (zsI (zsI (zsI m 1619 a0 x1.toNatClampNeg (zI m 1635 a0 x1.toNatClampNeg)) 1623 a0 x1.toNatClampNeg (zI m 1639 a0 x1.toNatClampNeg)) 1624 a0 x1.toNatClampNeg (zI m 1640 a0 x1.toNatClampNeg))))))) : Pt_X6_setGrid_12 C G a0 x1 m := by
  obtain ⟨hF, hQ, hR⟩ := id S
  have h0 : zF0 C cX6_setGrid 3 wsX6_setGrid RX6 := hF.1
  have hL := hF.2.2.1
  unfold Pt_X6_setGrid_12
  refine zx_iload_n h0 1 dX6_setGrid_12 rfl ?_
  refine zx_aload_n h0 0 dX6_setGrid_13 rfl ?_
  refine zx_get hF ka0 (by decide) rfl zi_X6_setGrid_6 34 (by decide) zn_X6_setGrid_209 rfl rfl dX6_setGrid_14 ?_
  refine zx_icmp_ge (tgt := 122) h0 dX6_setGrid_17 (by decide) (fun q => ?_) (fun q => ?_)
  · replace h := h.1 q
    exact zx_vret hF hQ dX6_setGrid_122 h
  · replace h := h.2 q
    refine zx_aload_n h0 0 dX6_setGrid_20 rfl ?_
    refine zx_get hF ka0 (by decide) rfl zi_X6_setGrid_6 19 (by decide) zn_X6_setGrid_67 rfl rfl dX6_setGrid_21 ?_
    refine zx_iload_n h0 1 dX6_setGrid_24 rfl ?_
    refine zx_aload_n h0 0 dX6_setGrid_25 rfl ?_
    refine zx_get hF ka0 (by decide) rfl zi_X6_setGrid_6 35 (by decide) zn_X6_setGrid_85 rfl rfl dX6_setGrid_26 ?_
    refine zx_iload_n h0 1 dX6_setGrid_29 rfl ?_
    obtain ⟨ho1, h⟩ := h
    refine zx_iald (j := x1.toNatClampNeg) hF (zL_6_25 hL ka0) (by decide) rfl rfl ho1 rfl dX6_setGrid_30 ?_
    obtain ⟨ho2, h⟩ := h
    refine zx_iast (j := x1.toNatClampNeg) hF (zL_6_19 hL ka0) (by decide) rfl rfl ho2 rfl rfl (z_fit rfl) dX6_setGrid_31 ?_
    refine zx_aload_n h0 0 dX6_setGrid_32 rfl ?_
    refine zx_get hF ka0 (by decide) rfl zi_X6_setGrid_6 23 (by decide) zn_X6_setGrid_79 rfl rfl dX6_setGrid_33 ?_
    refine zx_iload_n h0 1 dX6_setGrid_36 rfl ?_
    refine zx_aload_n h0 0 dX6_setGrid_37 rfl ?_
    refine zx_get hF ka0 (by decide) rfl zi_X6_setGrid_6 39 (by decide) zn_X6_setGrid_97 rfl rfl dX6_setGrid_38 ?_
    refine zx_iload_n h0 1 dX6_setGrid_41 rfl ?_
    refine zx_iald (j := x1.toNatClampNeg) hF (zL_6_29 hL ka0) (by decide) rfl rfl ho1 rfl dX6_setGrid_42 ?_
    refine zx_topI (zI_n (by decide)) ?_
    refine zx_iast (j := x1.toNatClampNeg) hF (zL_6_23 hL ka0) (by decide) rfl rfl ho2 rfl rfl (z_fit rfl) dX6_setGrid_43 ?_
    refine zx_aload_n h0 0 dX6_setGrid_44 rfl ?_
    refine zx_get hF ka0 (by decide) rfl zi_X6_setGrid_6 24 (by decide) zn_X6_setGrid_82 rfl rfl dX6_setGrid_45 ?_
    refine zx_iload_n h0 1 dX6_setGrid_48 rfl ?_
    refine zx_aload_n h0 0 dX6_setGrid_49 rfl ?_
    refine zx_get hF ka0 (by decide) rfl zi_X6_setGrid_6 40 (by decide) zn_X6_setGrid_100 rfl rfl dX6_setGrid_50 ?_
    refine zx_iload_n h0 1 dX6_setGrid_53 rfl ?_
    refine zx_iald (j := x1.toNatClampNeg) hF (zL_6_30 hL ka0) (by decide) rfl rfl ho1 rfl dX6_setGrid_54 ?_
    refine zx_topI ((zI_n (by decide)).trans (zI_n (by decide))) ?_
    refine zx_iast (j := x1.toNatClampNeg) hF (zL_6_24 hL ka0) (by decide) rfl rfl ho2 rfl rfl (z_fit rfl) dX6_setGrid_55 ?_
    refine zx_iconst (v := 4) h0 dX6_setGrid_56 (by decide) ?_
    refine zx_iload_n h0 1 dX6_setGrid_57 rfl ?_
    refine zx_imul h0 dX6_setGrid_58 ?_
    refine zx_istore_n (L' := [(2, .int (4 * x1)), (0, .ref a0), (1, .int x1)]) h0 dX6_setGrid_59 (by decide) rfl ?_
    exact zx_sub [1, 2, 0] rfl h
set_option maxRecDepth 100000 in
set_option maxHeartbeats 4000000 in
theorem sg_X6_setGrid_60 {C : zC} {G : zG} {Qc : Array Value → State → Outcome → State → Prop} (S : St_X6_setGrid C G Qc) {a0 : Nat} {x1 : Int32} {x2 : Int32} {m : zM} (ka0 : zK G a0 = some (6, a0))
    (h : (vp_in x1 17) ∧ ((((4 * x1) + (zI m 1635 a0 x1.toNatClampNeg)) ≤ x2 → (Pt_X6_setGrid_12 C G a0 (x1 + 1) m)) ∧ (¬ ((4 * x1) + (zI m 1635 a0 x1.toNatClampNeg)) ≤ x2 → ((vp_in x2 64) ∧ ((vp_in x2 256) ∧ (Pt_X6_setGrid_60 C G a0 x1 (x2 + 1) (zsI (zsI (zsI m 1620 a0 x2.toNatClampNeg (zI m 1636 a0 x2.toNatClampNeg)) 1621 a0 x2.toNatClampNeg (zI m 1637 a0 x2.toNatClampNeg)) 1622 a0 x2.toNatClampNeg (zI m 1638 a0 x2.toNatClampNeg)))))))) : Pt_X6_setGrid_60 C G a0 x1 x2 m := by
  obtain ⟨hF, hQ, hR⟩ := id S
  have h0 : zF0 C cX6_setGrid 3 wsX6_setGrid RX6 := hF.1
  have hL := hF.2.2.1
  unfold Pt_X6_setGrid_60
  refine zx_iload_n h0 2 dX6_setGrid_60 rfl ?_
  refine zx_iconst (v := 4) h0 dX6_setGrid_61 (by decide) ?_
  refine zx_iload_n h0 1 dX6_setGrid_62 rfl ?_
  refine zx_imul h0 dX6_setGrid_63 ?_
  refine zx_aload_n h0 0 dX6_setGrid_64 rfl ?_
  refine zx_get hF ka0 (by decide) rfl zi_X6_setGrid_6 35 (by decide) zn_X6_setGrid_85 rfl rfl dX6_setGrid_65 ?_
  refine zx_iload_n h0 1 dX6_setGrid_68 rfl ?_
  obtain ⟨ho1, h⟩ := h
  refine zx_iald (j := x1.toNatClampNeg) hF (zL_6_25 hL ka0) (by decide) rfl rfl ho1 rfl dX6_setGrid_69 ?_
  refine zx_iadd h0 dX6_setGrid_70 ?_
  refine zx_icmp_ge (tgt := 116) h0 dX6_setGrid_71 (by decide) (fun q => ?_) (fun q => ?_)
  · replace h := h.1 q
    refine zx_iinc (v := (x1 + 1)) (L' := [(1, .int (x1 + 1)), (0, .ref a0), (2, .int x2)]) h0 1 dX6_setGrid_116 rfl rfl (by decide) rfl ?_
    refine zx_goto (tgt := 12) h0 dX6_setGrid_119 (by decide) ?_
    exact zx_sub [1, 0] rfl h
  · replace h := h.2 q
    refine zx_aload_n h0 0 dX6_setGrid_74 rfl ?_
    refine zx_get hF ka0 (by decide) rfl zi_X6_setGrid_6 20 (by decide) zn_X6_setGrid_70 rfl rfl dX6_setGrid_75 ?_
    refine zx_iload_n h0 2 dX6_setGrid_78 rfl ?_
    refine zx_aload_n h0 0 dX6_setGrid_79 rfl ?_
    refine zx_get hF ka0 (by decide) rfl zi_X6_setGrid_6 36 (by decide) zn_X6_setGrid_88 rfl rfl dX6_setGrid_80 ?_
    refine zx_iload_n h0 2 dX6_setGrid_83 rfl ?_
    obtain ⟨ho2, h⟩ := h
    refine zx_iald (j := x2.toNatClampNeg) hF (zL_6_26 hL ka0) (by decide) rfl rfl ho2 rfl dX6_setGrid_84 ?_
    obtain ⟨ho3, h⟩ := h
    refine zx_iast (j := x2.toNatClampNeg) hF (zL_6_20 hL ka0) (by decide) rfl rfl ho3 rfl rfl (z_fit rfl) dX6_setGrid_85 ?_
    refine zx_aload_n h0 0 dX6_setGrid_86 rfl ?_
    refine zx_get hF ka0 (by decide) rfl zi_X6_setGrid_6 21 (by decide) zn_X6_setGrid_73 rfl rfl dX6_setGrid_87 ?_
    refine zx_iload_n h0 2 dX6_setGrid_90 rfl ?_
    refine zx_aload_n h0 0 dX6_setGrid_91 rfl ?_
    refine zx_get hF ka0 (by decide) rfl zi_X6_setGrid_6 37 (by decide) zn_X6_setGrid_91 rfl rfl dX6_setGrid_92 ?_
    refine zx_iload_n h0 2 dX6_setGrid_95 rfl ?_
    refine zx_iald (j := x2.toNatClampNeg) hF (zL_6_27 hL ka0) (by decide) rfl rfl ho2 rfl dX6_setGrid_96 ?_
    refine zx_topI (zI_n (by decide)) ?_
    refine zx_iast (j := x2.toNatClampNeg) hF (zL_6_21 hL ka0) (by decide) rfl rfl ho3 rfl rfl (z_fit rfl) dX6_setGrid_97 ?_
    refine zx_aload_n h0 0 dX6_setGrid_98 rfl ?_
    refine zx_get hF ka0 (by decide) rfl zi_X6_setGrid_6 22 (by decide) zn_X6_setGrid_76 rfl rfl dX6_setGrid_99 ?_
    refine zx_iload_n h0 2 dX6_setGrid_102 rfl ?_
    refine zx_aload_n h0 0 dX6_setGrid_103 rfl ?_
    refine zx_get hF ka0 (by decide) rfl zi_X6_setGrid_6 38 (by decide) zn_X6_setGrid_94 rfl rfl dX6_setGrid_104 ?_
    refine zx_iload_n h0 2 dX6_setGrid_107 rfl ?_
    refine zx_iald (j := x2.toNatClampNeg) hF (zL_6_28 hL ka0) (by decide) rfl rfl ho2 rfl dX6_setGrid_108 ?_
    refine zx_topI ((zI_n (by decide)).trans (zI_n (by decide))) ?_
    refine zx_iast (j := x2.toNatClampNeg) hF (zL_6_22 hL ka0) (by decide) rfl rfl ho3 rfl rfl (z_fit rfl) dX6_setGrid_109 ?_
    refine zx_iinc (v := (x2 + 1)) (L' := [(2, .int (x2 + 1)), (0, .ref a0), (1, .int x1)]) h0 2 dX6_setGrid_110 rfl rfl (by decide) rfl ?_
    refine zx_goto (tgt := 60) h0 dX6_setGrid_113 (by decide) ?_
    exact zx_sub [1, 2, 0] rfl h

set_option maxRecDepth 100000 in
set_option maxHeartbeats 4000000 in
theorem sg_X6_ones_0 {C : zC} {G : zG} {Qc : Array Value → State → Outcome → State → Prop} (S : St_X6_ones C G Qc) {x0 : Int32} {m : zM}
    (h : Pt_X6_ones_4 C G 0 x0 m) : Pt_X6_ones_0 C G x0 m := by
  obtain ⟨hF, hQ, hR⟩ := id S
  have h0 : zF0 C cX6_ones 3 wsX6_ones RX6 := hF.1
  have hL := hF.2.2.1
  unfold Pt_X6_ones_0
  refine zx_iconst (v := 0) h0 dX6_ones_0 (by decide) ?_
  refine zx_istore_n (L' := [(1, .int 0), (0, .int x0)]) h0 dX6_ones_1 (by decide) rfl ?_
  refine zx_iload_n h0 1 dX6_ones_2 rfl ?_
  refine zx_istore_n (L' := [(2, .int x0), (1, .int 0), (0, .int x0)]) h0 dX6_ones_3 (by decide) rfl ?_
  exact zx_sub [1, 0] rfl h
set_option maxRecDepth 100000 in
set_option maxHeartbeats 4000000 in
theorem sg_X6_ones_4 {C : zC} {G : zG} {Qc : Array Value → State → Outcome → State → Prop} (S : St_X6_ones C G Qc) {x1 : Int32} {x2 : Int32} {m : zM}
    (h : (x2 = 0 → (zRet C G Qc (some (.int x1)) m)) ∧ (¬ x2 = 0 → (Pt_X6_ones_4 C G (x1 + 1) (x2 &&& (x2 - 1)) m))) : Pt_X6_ones_4 C G x1 x2 m := by
  obtain ⟨hF, hQ, hR⟩ := id S
  have h0 : zF0 C cX6_ones 3 wsX6_ones RX6 := hF.1
  have hL := hF.2.2.1
  unfold Pt_X6_ones_4
  refine zx_iload_n h0 1 dX6_ones_4 rfl ?_
  refine zx_if_eq (tgt := 20) h0 dX6_ones_5 (by decide) (fun q => ?_) (fun q => ?_)
  · replace h := h.1 q
    refine zx_iload_n h0 0 dX6_ones_20 rfl ?_
    exact zx_iret hF hQ dX6_ones_21 h
  · replace h := h.2 q
    refine zx_iinc (v := (x1 + 1)) (L' := [(1, .int (x1 + 1)), (2, .int x2)]) h0 0 dX6_ones_8 rfl rfl (by decide) rfl ?_
    refine zx_iload_n h0 1 dX6_ones_11 rfl ?_
    refine zx_iload_n h0 1 dX6_ones_12 rfl ?_
    refine zx_iconst (v := 1) h0 dX6_ones_13 (by decide) ?_
    refine zx_isub h0 dX6_ones_14 ?_
    refine zx_iand h0 dX6_ones_15 ?_
    refine zx_istore_n (L' := [(2, .int (x2 &&& (x2 - 1))), (1, .int (x1 + 1))]) h0 dX6_ones_16 (by decide) rfl ?_
    refine zx_goto (tgt := 4) h0 dX6_ones_17 (by decide) ?_
    exact zx_sub [1, 0] rfl h
theorem zn_X6_lineHolds_67 : Cond.fieldLink RX6 67 RX6 (TX6 19).2.1 (TX6 19).2.2.1 ∈ wsX6_lineHolds := List.mem_of_getElem? (i := 1) rfl
theorem zi_X6_lineHolds_6 : ∀ w ∈ u_ws RX6 TX6 50, w ∈ wsX6_lineHolds := fun _ h => List.mem_cons_of_mem _ (List.mem_append_right _ h)
theorem zn_X6_lineHolds_70 : Cond.fieldLink RX6 70 RX6 (TX6 20).2.1 (TX6 20).2.2.1 ∈ wsX6_lineHolds := List.mem_of_getElem? (i := 2) rfl
theorem zn_X6_lineHolds_76 : Cond.fieldLink RX6 76 RX6 (TX6 22).2.1 (TX6 22).2.2.1 ∈ wsX6_lineHolds := List.mem_of_getElem? (i := 3) rfl
theorem zn_X6_lineHolds_73 : Cond.fieldLink RX6 73 RX6 (TX6 21).2.1 (TX6 21).2.2.1 ∈ wsX6_lineHolds := List.mem_of_getElem? (i := 4) rfl
theorem zc_X6_lineHolds_X6_ones {C : zC} {G : zG} {Qc : Array Value → State → Outcome → State → Prop} (S : St_X6_lineHolds C G Qc) : CallB (zRm C) (zs C) (zar C) RX6 270 yX6_ones cX6_ones 3 (some .int) wsX6_ones rm_X6_ones 0 0 1 ∧ (Cond.static yX6_ones).before (zar C) (zs C) = true := cwS 1 S.1.1.2.2.2.2 gX6_lineHolds_X6_ones rfl rfl rfl (by decide +kernel) (by rw [S.2.2]; exact ⟨Nat.le_of_ble_eq_true rfl, Nat.le_of_ble_eq_true rfl⟩)
set_option maxRecDepth 100000 in
set_option maxHeartbeats 4000000 in
theorem sg_X6_lineHolds_0 {C : zC} {G : zG} {Qc : Array Value → State → Outcome → State → Prop} (S : St_X6_lineHolds C G Qc) {a0 : Nat} {x1 : Int32} {x2 : Int32} {x3 : Int32} {x4 : Int32} {x5 : Int32} {l6 : Int64} {m : zM} (ka0 : zK G a0 = some (6, a0))
    (h : Pt_X6_lineHolds_5 C G a0 x1 x2 x3 x4 x5 l6 (4 * x1) m) : Pt_X6_lineHolds_0 C G a0 x1 x2 x3 x4 x5 l6 m := by
  obtain ⟨hF, hQ, hR⟩ := id S
  have h0 : zF0 C cX6_lineHolds 14 wsX6_lineHolds RX6 := hF.1
  have hL := hF.2.2.1
  unfold Pt_X6_lineHolds_0
  refine zx_iconst (v := 4) h0 dX6_lineHolds_0 (by decide) ?_
  refine zx_iload_n h0 1 dX6_lineHolds_1 rfl ?_
  refine zx_imul h0 dX6_lineHolds_2 ?_
  refine zx_istore (L' := [(8, .int (4 * x1)), (0, .ref a0), (1, .int x1), (2, .int x2), (3, .int x3), (4, .int x4), (5, .int x5), (6, .long l6)]) h0 dX6_lineHolds_3 (by decide) rfl ?_
  exact zx_sub [1, 2, 3, 4, 5, 6, 7, 0] rfl h
set_option maxRecDepth 100000 in
set_option maxHeartbeats 4000000 in
theorem sg_X6_lineHolds_5 {C : zC} {G : zG} {Qc : Array Value → State → Outcome → State → Prop} (S : St_X6_lineHolds C G Qc) {P_X6_ones : Int32 → zM → Prop} {Q_X6_ones : Int32 → zM → Int32 → Prop} (c_X6_ones : Con_X6_ones (zl C) G P_X6_ones Q_X6_ones) {a0 : Nat} {x1 : Int32} {x2 : Int32} {x3 : Int32} {x4 : Int32} {x5 : Int32} {l6 : Int64} {x8 : Int32} {m : zM} (ka0 : zK G a0 = some (6, a0))
    (h : (vp_in x1 64) ∧ ((((4 * x1) + (zI m 1619 a0 x1.toNatClampNeg)) ≤ x8 → (zRet C G Qc (some (.int 1)) m)) ∧ (¬ ((4 * x1) + (zI m 1619 a0 x1.toNatClampNeg)) ≤ x8 → ((vp_in x8 256) ∧ ((¬ ((zI m 1620 a0 x8.toNatClampNeg) &&& 7) = 5 → ((¬ ((zI m 1620 a0 x8.toNatClampNeg) &&& 7) = 0 → ((¬ ((zI m 1620 a0 x8.toNatClampNeg) &&& 7) = 1 → ((¬ ((zI m 1620 a0 x8.toNatClampNeg) &&& 7) = 2 → ((¬ ((zI m 1620 a0 x8.toNatClampNeg) &&& 7) = 3 → (Pt_X6_lineHolds_117 C G a0 x1 x2 x3 x4 x5 l6 x8 (zI m 1622 a0 x8.toNatClampNeg) l6 m)) ∧ (((zI m 1620 a0 x8.toNatClampNeg) &&& 7) = 3 → ((P_X6_ones x5 m) ∧ (∀ (r4 : Int32), Q_X6_ones x5 m r4 → (Pt_X6_lineHolds_117 C G a0 x1 x2 x3 x4 x5 l6 x8 (zI m 1622 a0 x8.toNatClampNeg) ((r4 : Int32).toInt64) m)))))) ∧ (((zI m 1620 a0 x8.toNatClampNeg) &&& 7) = 2 → (Pt_X6_lineHolds_117 C G a0 x1 x2 x3 x4 x5 l6 x8 (zI m 1622 a0 x8.toNatClampNeg) ((x4 : Int32).toInt64) m)))) ∧ (((zI m 1620 a0 x8.toNatClampNeg) &&& 7) = 1 → (Pt_X6_lineHolds_117 C G a0 x1 x2 x3 x4 x5 l6 x8 (zI m 1622 a0 x8.toNatClampNeg) ((x3 : Int32).toInt64) m)))) ∧ (((zI m 1620 a0 x8.toNatClampNeg) &&& 7) = 0 → (Pt_X6_lineHolds_117 C G a0 x1 x2 x3 x4 x5 l6 x8 (zI m 1622 a0 x8.toNatClampNeg) ((x2 : Int32).toInt64) m)))) ∧ (((zI m 1620 a0 x8.toNatClampNeg) &&& 7) = 5 → ((((x5 >>> ((zI m 1622 a0 x8.toNatClampNeg) &&& 31)) &&& 1) = 0 → (Pt_X6_lineHolds_193 C G a0 x1 x2 x3 x4 x5 l6 x8 0 m)) ∧ (¬ ((x5 >>> ((zI m 1622 a0 x8.toNatClampNeg) &&& 31)) &&& 1) = 0 → (Pt_X6_lineHolds_193 C G a0 x1 x2 x3 x4 x5 l6 x8 1 m))))))))) : Pt_X6_lineHolds_5 C G a0 x1 x2 x3 x4 x5 l6 x8 m := by
  obtain ⟨hF, hQ, hR⟩ := id S
  have h0 : zF0 C cX6_lineHolds 14 wsX6_lineHolds RX6 := hF.1
  have hL := hF.2.2.1
  unfold Pt_X6_lineHolds_5
  refine zx_iload h0 7 dX6_lineHolds_5 rfl ?_
  refine zx_iconst (v := 4) h0 dX6_lineHolds_7 (by decide) ?_
  refine zx_iload_n h0 1 dX6_lineHolds_8 rfl ?_
  refine zx_imul h0 dX6_lineHolds_9 ?_
  refine zx_aload_n h0 0 dX6_lineHolds_10 rfl ?_
  refine zx_get hF ka0 (by decide) rfl zi_X6_lineHolds_6 19 (by decide) zn_X6_lineHolds_67 rfl rfl dX6_lineHolds_11 ?_
  refine zx_iload_n h0 1 dX6_lineHolds_14 rfl ?_
  obtain ⟨ho1, h⟩ := h
  refine zx_iald (j := x1.toNatClampNeg) hF (zL_6_19 hL ka0) (by decide) rfl rfl ho1 rfl dX6_lineHolds_15 ?_
  refine zx_iadd h0 dX6_lineHolds_16 ?_
  refine zx_icmp_ge (tgt := 223) h0 dX6_lineHolds_17 (by decide) (fun q => ?_) (fun q => ?_)
  · replace h := h.1 q
    refine zx_iconst (v := 1) h0 dX6_lineHolds_223 (by decide) ?_
    exact zx_zret hF hQ rfl dX6_lineHolds_224 h
  · replace h := h.2 q
    refine zx_aload_n h0 0 dX6_lineHolds_20 rfl ?_
    refine zx_get hF ka0 (by decide) rfl zi_X6_lineHolds_6 20 (by decide) zn_X6_lineHolds_70 rfl rfl dX6_lineHolds_21 ?_
    refine zx_iload h0 7 dX6_lineHolds_24 rfl ?_
    obtain ⟨ho2, h⟩ := h
    refine zx_iald (j := x8.toNatClampNeg) hF (zL_6_20 hL ka0) (by decide) rfl rfl ho2 rfl dX6_lineHolds_26 ?_
    refine zx_bipush (v := 7) h0 dX6_lineHolds_27 (by decide) ?_
    refine zx_iand h0 dX6_lineHolds_29 ?_
    refine zx_istore (L' := [(9, .int ((zI m 1620 a0 x8.toNatClampNeg) &&& 7)), (0, .ref a0), (1, .int x1), (2, .int x2), (3, .int x3), (4, .int x4), (5, .int x5), (6, .long l6), (8, .int x8)]) h0 dX6_lineHolds_30 (by decide) rfl ?_
    refine zx_aload_n h0 1 dX6_lineHolds_32 rfl ?_
    refine zx_get hF ka0 (by decide) rfl zi_X6_lineHolds_6 22 (by decide) zn_X6_lineHolds_76 rfl rfl dX6_lineHolds_33 ?_
    refine zx_iload h0 8 dX6_lineHolds_36 rfl ?_
    refine zx_iald (j := x8.toNatClampNeg) hF (zL_6_22 hL ka0) (by decide) rfl rfl ho2 rfl dX6_lineHolds_38 ?_
    refine zx_istore (L' := [(10, .int (zI m 1622 a0 x8.toNatClampNeg)), (9, .int ((zI m 1620 a0 x8.toNatClampNeg) &&& 7)), (0, .ref a0), (1, .int x1), (2, .int x2), (3, .int x3), (4, .int x4), (5, .int x5), (6, .long l6), (8, .int x8)]) h0 dX6_lineHolds_39 (by decide) rfl ?_
    refine zx_iload h0 1 dX6_lineHolds_41 rfl ?_
    refine zx_iconst (v := 5) h0 dX6_lineHolds_43 (by decide) ?_
    refine zx_icmp_ne (tgt := 67) h0 dX6_lineHolds_44 (by decide) (fun q => ?_) (fun q => ?_)
    · replace h := h.1 q
      refine zx_iload h0 1 dX6_lineHolds_67 rfl ?_
      refine zx_if_ne (tgt := 77) h0 dX6_lineHolds_69 (by decide) (fun q => ?_) (fun q => ?_)
      · replace h := h.1 q
        refine zx_iload h0 1 dX6_lineHolds_77 rfl ?_
        refine zx_iconst (v := 1) h0 dX6_lineHolds_79 (by decide) ?_
        refine zx_icmp_ne (tgt := 88) h0 dX6_lineHolds_80 (by decide) (fun q => ?_) (fun q => ?_)
        · replace h := h.1 q
          refine zx_iload h0 1 dX6_lineHolds_88 rfl ?_
          refine zx_iconst (v := 2) h0 dX6_lineHolds_90 (by decide) ?_
          refine zx_icmp_ne (tgt := 100) h0 dX6_lineHolds_91 (by decide) (fun q => ?_) (fun q => ?_)
          · replace h := h.1 q
            refine zx_iload h0 1 dX6_lineHolds_100 rfl ?_
            refine zx_iconst (v := 3) h0 dX6_lineHolds_102 (by decide) ?_
            refine zx_icmp_ne (tgt := 115) h0 dX6_lineHolds_103 (by decide) (fun q => ?_) (fun q => ?_)
            · replace h := h.1 q
              refine zx_lload h0 8 dX6_lineHolds_115 rfl ?_
              exact zx_sub [2, 3, 4, 5, 6, 7, 8, 9, 0] rfl h
            · replace h := h.2 q
              refine zx_iload h0 7 dX6_lineHolds_106 rfl ?_
              obtain ⟨ho3, h⟩ := h
              refine zx_callSi (As := [.int x5]) (rest := []) hF (c_X6_ones x5 m  ho3) (zc_X6_lineHolds_X6_ones S)  dX6_lineHolds_108 rfl rfl (Nat.le_of_ble_eq_true rfl) ⟨Nat.zero_le _, Nat.zero_le _⟩ (fun r4 m4 hq => ?_)
              obtain ⟨hme, hq⟩ := hq
              subst m4
              replace h := h r4 hq
              refine zx_i2l (v := ((r4 : Int32).toInt64)) h0 dX6_lineHolds_111 rfl ?_
              refine zx_goto (tgt := 117) h0 dX6_lineHolds_112 (by decide) ?_
              exact zx_sub [2, 3, 4, 5, 6, 7, 8, 9, 0] rfl h
          · replace h := h.2 q
            refine zx_iload h0 6 dX6_lineHolds_94 rfl ?_
            refine zx_i2l (v := ((x4 : Int32).toInt64)) h0 dX6_lineHolds_96 rfl ?_
            refine zx_goto (tgt := 117) h0 dX6_lineHolds_97 (by decide) ?_
            exact zx_sub [2, 3, 4, 5, 6, 7, 8, 9, 0] rfl h
        · replace h := h.2 q
          refine zx_iload_n h0 5 dX6_lineHolds_83 rfl ?_
          refine zx_i2l (v := ((x3 : Int32).toInt64)) h0 dX6_lineHolds_84 rfl ?_
          refine zx_goto (tgt := 117) h0 dX6_lineHolds_85 (by decide) ?_
          exact zx_sub [2, 3, 4, 5, 6, 7, 8, 9, 0] rfl h
      · replace h := h.2 q
        refine zx_iload_n h0 4 dX6_lineHolds_72 rfl ?_
        refine zx_i2l (v := ((x2 : Int32).toInt64)) h0 dX6_lineHolds_73 rfl ?_
        refine zx_goto (tgt := 117) h0 dX6_lineHolds_74 (by decide) ?_
        exact zx_sub [2, 3, 4, 5, 6, 7, 8, 9, 0] rfl h
    · replace h := h.2 q
      refine zx_iload h0 7 dX6_lineHolds_47 rfl ?_
      refine zx_iload h0 0 dX6_lineHolds_49 rfl ?_
      refine zx_ishr h0 dX6_lineHolds_51 ?_
      refine zx_iconst (v := 1) h0 dX6_lineHolds_52 (by decide) ?_
      refine zx_iand h0 dX6_lineHolds_53 ?_
      refine zx_if_eq (tgt := 61) h0 dX6_lineHolds_54 (by decide) (fun q => ?_) (fun q => ?_)
      · replace h := h.1 q
        refine zx_iconst (v := 0) h0 dX6_lineHolds_61 (by decide) ?_
        refine zx_istore (L' := [(11, .int 0), (10, .int (zI m 1622 a0 x8.toNatClampNeg)), (9, .int ((zI m 1620 a0 x8.toNatClampNeg) &&& 7)), (0, .ref a0), (1, .int x1), (2, .int x2), (3, .int x3), (4, .int x4), (5, .int x5), (6, .long l6), (8, .int x8)]) h0 dX6_lineHolds_62 (by decide) rfl ?_
        refine zx_goto (tgt := 193) h0 dX6_lineHolds_64 (by decide) ?_
        exact zx_sub [3, 4, 5, 6, 7, 8, 9, 10, 0] rfl h
      · replace h := h.2 q
        refine zx_iconst (v := 1) h0 dX6_lineHolds_57 (by decide) ?_
        refine zx_goto (tgt := 62) h0 dX6_lineHolds_58 (by decide) ?_
        refine zx_istore (L' := [(11, .int 1), (10, .int (zI m 1622 a0 x8.toNatClampNeg)), (9, .int ((zI m 1620 a0 x8.toNatClampNeg) &&& 7)), (0, .ref a0), (1, .int x1), (2, .int x2), (3, .int x3), (4, .int x4), (5, .int x5), (6, .long l6), (8, .int x8)]) h0 dX6_lineHolds_62 (by decide) rfl ?_
        refine zx_goto (tgt := 193) h0 dX6_lineHolds_64 (by decide) ?_
        exact zx_sub [3, 4, 5, 6, 7, 8, 9, 10, 0] rfl h
set_option maxRecDepth 100000 in
set_option maxHeartbeats 4000000 in
theorem sg_X6_lineHolds_117 {C : zC} {G : zG} {Qc : Array Value → State → Outcome → State → Prop} (S : St_X6_lineHolds C G Qc) {a0 : Nat} {x1 : Int32} {x2 : Int32} {x3 : Int32} {x4 : Int32} {x5 : Int32} {l6 : Int64} {x8 : Int32} {x10 : Int32} {s0 : Int64} {m : zM} (ka0 : zK G a0 = some (6, a0))
    (h : (vp_in x8 256) ∧ ((¬ (zI m 1621 a0 x8.toNatClampNeg) = 60 → ((¬ (zI m 1621 a0 x8.toNatClampNeg) = 62 → ((¬ s0 = ((x10 : Int32).toInt64) → (Pt_X6_lineHolds_193 C G a0 x1 x2 x3 x4 x5 l6 x8 0 m)) ∧ (s0 = ((x10 : Int32).toInt64) → (Pt_X6_lineHolds_193 C G a0 x1 x2 x3 x4 x5 l6 x8 1 m)))) ∧ ((zI m 1621 a0 x8.toNatClampNeg) = 62 → ((s0 ≤ ((x10 : Int32).toInt64) → (Pt_X6_lineHolds_193 C G a0 x1 x2 x3 x4 x5 l6 x8 0 m)) ∧ (¬ s0 ≤ ((x10 : Int32).toInt64) → (Pt_X6_lineHolds_193 C G a0 x1 x2 x3 x4 x5 l6 x8 1 m)))))) ∧ ((zI m 1621 a0 x8.toNatClampNeg) = 60 → ((((x10 : Int32).toInt64) ≤ s0 → (Pt_X6_lineHolds_193 C G a0 x1 x2 x3 x4 x5 l6 x8 0 m)) ∧ (¬ ((x10 : Int32).toInt64) ≤ s0 → (Pt_X6_lineHolds_193 C G a0 x1 x2 x3 x4 x5 l6 x8 1 m)))))) : Pt_X6_lineHolds_117 C G a0 x1 x2 x3 x4 x5 l6 x8 x10 s0 m := by
  obtain ⟨hF, hQ, hR⟩ := id S
  have h0 : zF0 C cX6_lineHolds 14 wsX6_lineHolds RX6 := hF.1
  have hL := hF.2.2.1
  unfold Pt_X6_lineHolds_117
  refine zx_lstore (L' := [(12, .long s0), (0, .ref a0), (1, .int x1), (2, .int x2), (3, .int x3), (4, .int x4), (5, .int x5), (6, .long l6), (8, .int x8), (10, .int x10)]) h0 dX6_lineHolds_117 (by decide) rfl ?_
  refine zx_aload_n h0 1 dX6_lineHolds_119 rfl ?_
  refine zx_get hF ka0 (by decide) rfl zi_X6_lineHolds_6 21 (by decide) zn_X6_lineHolds_73 rfl rfl dX6_lineHolds_120 ?_
  refine zx_iload h0 8 dX6_lineHolds_123 rfl ?_
  obtain ⟨ho1, h⟩ := h
  refine zx_iald (j := x8.toNatClampNeg) hF (zL_6_21 hL ka0) (by decide) rfl rfl ho1 rfl dX6_lineHolds_125 ?_
  refine zx_bipush (v := 60) h0 dX6_lineHolds_126 (by decide) ?_
  refine zx_icmp_ne (tgt := 148) h0 dX6_lineHolds_128 (by decide) (fun q => ?_) (fun q => ?_)
  · replace h := h.1 q
    refine zx_aload_n h0 1 dX6_lineHolds_148 rfl ?_
    refine zx_get hF ka0 (by decide) rfl zi_X6_lineHolds_6 21 (by decide) zn_X6_lineHolds_73 rfl rfl dX6_lineHolds_149 ?_
    refine zx_iload h0 8 dX6_lineHolds_152 rfl ?_
    refine zx_iald (j := x8.toNatClampNeg) hF (zL_6_21 hL ka0) (by decide) rfl rfl ho1 rfl dX6_lineHolds_154 ?_
    refine zx_bipush (v := 62) h0 dX6_lineHolds_155 (by decide) ?_
    refine zx_icmp_ne (tgt := 177) h0 dX6_lineHolds_157 (by decide) (fun q => ?_) (fun q => ?_)
    · replace h := h.1 q
      refine zx_lload h0 0 dX6_lineHolds_177 rfl ?_
      refine zx_iload h0 9 dX6_lineHolds_179 rfl ?_
      refine zx_i2l (v := ((x10 : Int32).toInt64)) h0 dX6_lineHolds_181 rfl ?_
      refine zx_lcmp_ne (tgt := 190) h0 dX6_lineHolds_182 dX6_lineHolds_183 (by decide) (fun q => ?_) (fun q => ?_)
      · replace h := h.1 q
        refine zx_iconst (v := 0) h0 dX6_lineHolds_190 (by decide) ?_
        refine zx_istore (L' := [(11, .int 0), (12, .long s0), (0, .ref a0), (1, .int x1), (2, .int x2), (3, .int x3), (4, .int x4), (5, .int x5), (6, .long l6), (8, .int x8), (10, .int x10)]) h0 dX6_lineHolds_191 (by decide) rfl ?_
        exact zx_sub [2, 3, 4, 5, 6, 7, 8, 9, 0] rfl h
      · replace h := h.2 q
        refine zx_iconst (v := 1) h0 dX6_lineHolds_186 (by decide) ?_
        refine zx_goto (tgt := 191) h0 dX6_lineHolds_187 (by decide) ?_
        refine zx_istore (L' := [(11, .int 1), (12, .long s0), (0, .ref a0), (1, .int x1), (2, .int x2), (3, .int x3), (4, .int x4), (5, .int x5), (6, .long l6), (8, .int x8), (10, .int x10)]) h0 dX6_lineHolds_191 (by decide) rfl ?_
        exact zx_sub [2, 3, 4, 5, 6, 7, 8, 9, 0] rfl h
    · replace h := h.2 q
      refine zx_lload h0 0 dX6_lineHolds_160 rfl ?_
      refine zx_iload h0 9 dX6_lineHolds_162 rfl ?_
      refine zx_i2l (v := ((x10 : Int32).toInt64)) h0 dX6_lineHolds_164 rfl ?_
      refine zx_lcmp_le (tgt := 173) h0 dX6_lineHolds_165 dX6_lineHolds_166 (by decide) (fun q => ?_) (fun q => ?_)
      · replace h := h.1 q
        refine zx_iconst (v := 0) h0 dX6_lineHolds_173 (by decide) ?_
        refine zx_goto (tgt := 191) h0 dX6_lineHolds_174 (by decide) ?_
        refine zx_istore (L' := [(11, .int 0), (12, .long s0), (0, .ref a0), (1, .int x1), (2, .int x2), (3, .int x3), (4, .int x4), (5, .int x5), (6, .long l6), (8, .int x8), (10, .int x10)]) h0 dX6_lineHolds_191 (by decide) rfl ?_
        exact zx_sub [2, 3, 4, 5, 6, 7, 8, 9, 0] rfl h
      · replace h := h.2 q
        refine zx_iconst (v := 1) h0 dX6_lineHolds_169 (by decide) ?_
        refine zx_goto (tgt := 191) h0 dX6_lineHolds_170 (by decide) ?_
        refine zx_istore (L' := [(11, .int 1), (12, .long s0), (0, .ref a0), (1, .int x1), (2, .int x2), (3, .int x3), (4, .int x4), (5, .int x5), (6, .long l6), (8, .int x8), (10, .int x10)]) h0 dX6_lineHolds_191 (by decide) rfl ?_
        exact zx_sub [2, 3, 4, 5, 6, 7, 8, 9, 0] rfl h
  · replace h := h.2 q
    refine zx_lload h0 0 dX6_lineHolds_131 rfl ?_
    refine zx_iload h0 9 dX6_lineHolds_133 rfl ?_
    refine zx_i2l (v := ((x10 : Int32).toInt64)) h0 dX6_lineHolds_135 rfl ?_
    refine zx_lcmp_ge (tgt := 144) h0 dX6_lineHolds_136 dX6_lineHolds_137 (by decide) (fun q => ?_) (fun q => ?_)
    · replace h := h.1 q
      refine zx_iconst (v := 0) h0 dX6_lineHolds_144 (by decide) ?_
      refine zx_goto (tgt := 191) h0 dX6_lineHolds_145 (by decide) ?_
      refine zx_istore (L' := [(11, .int 0), (12, .long s0), (0, .ref a0), (1, .int x1), (2, .int x2), (3, .int x3), (4, .int x4), (5, .int x5), (6, .long l6), (8, .int x8), (10, .int x10)]) h0 dX6_lineHolds_191 (by decide) rfl ?_
      exact zx_sub [2, 3, 4, 5, 6, 7, 8, 9, 0] rfl h
    · replace h := h.2 q
      refine zx_iconst (v := 1) h0 dX6_lineHolds_140 (by decide) ?_
      refine zx_goto (tgt := 191) h0 dX6_lineHolds_141 (by decide) ?_
      refine zx_istore (L' := [(11, .int 1), (12, .long s0), (0, .ref a0), (1, .int x1), (2, .int x2), (3, .int x3), (4, .int x4), (5, .int x5), (6, .long l6), (8, .int x8), (10, .int x10)]) h0 dX6_lineHolds_191 (by decide) rfl ?_
      exact zx_sub [2, 3, 4, 5, 6, 7, 8, 9, 0] rfl h
set_option maxRecDepth 100000 in
set_option maxHeartbeats 4000000 in
theorem sg_X6_lineHolds_193 {C : zC} {G : zG} {Qc : Array Value → State → Outcome → State → Prop} (S : St_X6_lineHolds C G Qc) {a0 : Nat} {x1 : Int32} {x2 : Int32} {x3 : Int32} {x4 : Int32} {x5 : Int32} {l6 : Int64} {x8 : Int32} {x11 : Int32} {m : zM} (ka0 : zK G a0 = some (6, a0))
    (h : (vp_in x8 256) ∧ (((zI m 1620 a0 x8.toNatClampNeg) ≤ 7 → ((¬ x11 = 0 → (Pt_X6_lineHolds_5 C G a0 x1 x2 x3 x4 x5 l6 (x8 + 1) m)) ∧ (x11 = 0 → (zRet C G Qc (some (.int 0)) m)))) ∧ (¬ (zI m 1620 a0 x8.toNatClampNeg) ≤ 7 → ((¬ x11 = 1 → (Pt_X6_lineHolds_5 C G a0 x1 x2 x3 x4 x5 l6 (x8 + 1) m)) ∧ (x11 = 1 → (zRet C G Qc (some (.int 0)) m)))))) : Pt_X6_lineHolds_193 C G a0 x1 x2 x3 x4 x5 l6 x8 x11 m := by
  obtain ⟨hF, hQ, hR⟩ := id S
  have h0 : zF0 C cX6_lineHolds 14 wsX6_lineHolds RX6 := hF.1
  have hL := hF.2.2.1
  unfold Pt_X6_lineHolds_193
  refine zx_iload h0 8 dX6_lineHolds_193 rfl ?_
  refine zx_aload_n h0 0 dX6_lineHolds_195 rfl ?_
  refine zx_get hF ka0 (by decide) rfl zi_X6_lineHolds_6 20 (by decide) zn_X6_lineHolds_70 rfl rfl dX6_lineHolds_196 ?_
  refine zx_iload h0 7 dX6_lineHolds_199 rfl ?_
  obtain ⟨ho1, h⟩ := h
  refine zx_iald (j := x8.toNatClampNeg) hF (zL_6_20 hL ka0) (by decide) rfl rfl ho1 rfl dX6_lineHolds_201 ?_
  refine zx_bipush (v := 7) h0 dX6_lineHolds_202 (by decide) ?_
  refine zx_icmp_le (tgt := 211) h0 dX6_lineHolds_204 (by decide) (fun q => ?_) (fun q => ?_)
  · replace h := h.1 q
    refine zx_iconst (v := 0) h0 dX6_lineHolds_211 (by decide) ?_
    refine zx_icmp_ne (tgt := 217) h0 dX6_lineHolds_212 (by decide) (fun q => ?_) (fun q => ?_)
    · replace h := h.1 q
      refine zx_iinc (v := (x8 + 1)) (L' := [(8, .int (x8 + 1)), (0, .ref a0), (1, .int x1), (2, .int x2), (3, .int x3), (4, .int x4), (5, .int x5), (6, .long l6), (11, .int x11)]) h0 7 dX6_lineHolds_217 rfl rfl (by decide) rfl ?_
      refine zx_goto (tgt := 5) h0 dX6_lineHolds_220 (by decide) ?_
      exact zx_sub [1, 2, 3, 4, 5, 6, 7, 0] rfl h
    · replace h := h.2 q
      refine zx_iconst (v := 0) h0 dX6_lineHolds_215 (by decide) ?_
      exact zx_zret hF hQ rfl dX6_lineHolds_216 h
  · replace h := h.2 q
    refine zx_iconst (v := 1) h0 dX6_lineHolds_207 (by decide) ?_
    refine zx_goto (tgt := 212) h0 dX6_lineHolds_208 (by decide) ?_
    refine zx_icmp_ne (tgt := 217) h0 dX6_lineHolds_212 (by decide) (fun q => ?_) (fun q => ?_)
    · replace h := h.1 q
      refine zx_iinc (v := (x8 + 1)) (L' := [(8, .int (x8 + 1)), (0, .ref a0), (1, .int x1), (2, .int x2), (3, .int x3), (4, .int x4), (5, .int x5), (6, .long l6), (11, .int x11)]) h0 7 dX6_lineHolds_217 rfl rfl (by decide) rfl ?_
      refine zx_goto (tgt := 5) h0 dX6_lineHolds_220 (by decide) ?_
      exact zx_sub [1, 2, 3, 4, 5, 6, 7, 0] rfl h
    · replace h := h.2 q
      refine zx_iconst (v := 0) h0 dX6_lineHolds_215 (by decide) ?_
      exact zx_zret hF hQ rfl dX6_lineHolds_216 h
theorem zn_X6_pointsOf_64 : Cond.fieldLink RX6 64 RX6 (TX6 18).2.1 (TX6 18).2.2.1 ∈ wsX6_pointsOf := List.mem_of_getElem? (i := 1) rfl
theorem zi_X6_pointsOf_6 : ∀ w ∈ u_ws RX6 TX6 50, w ∈ wsX6_pointsOf := fun _ h => List.mem_cons_of_mem _ (List.mem_append_right _ h)
theorem zn_X6_pointsOf_82 : Cond.fieldLink RX6 82 RX6 (TX6 24).2.1 (TX6 24).2.2.1 ∈ wsX6_pointsOf := List.mem_of_getElem? (i := 2) rfl
theorem zn_X6_pointsOf_79 : Cond.fieldLink RX6 79 RX6 (TX6 23).2.1 (TX6 23).2.2.1 ∈ wsX6_pointsOf := List.mem_of_getElem? (i := 3) rfl
theorem zn_X6_pointsOf_k278 : Cond.constantLong RX6 278 100 ∈ wsX6_pointsOf := List.mem_of_getElem? (i := 4) rfl
theorem zn_X6_pointsOf_k280 : Cond.constantLong RX6 280 1000000 ∈ wsX6_pointsOf := List.mem_of_getElem? (i := 5) rfl
theorem zc_X6_pointsOf_X6_lineHolds {C : zC} {G : zG} {Qc : Array Value → State → Outcome → State → Prop} (S : St_X6_pointsOf C G Qc) : CallW (zRm C) (zs C) (zar C) RX6 RX6 274 yX6_lineHolds cX6_lineHolds 14 (some .boolean) wsX6_lineHolds rm_X6_lineHolds 0 0 6 := cwV 6 S.1.1.2.2.2.2 gX6_pointsOf_X6_lineHolds rfl rfl rfl (by decide +kernel) (by rw [S.2.2]; exact ⟨Nat.le_of_ble_eq_true rfl, Nat.le_of_ble_eq_true rfl⟩)
set_option maxRecDepth 100000 in
set_option maxHeartbeats 4000000 in
theorem sg_X6_pointsOf_0 {C : zC} {G : zG} {Qc : Array Value → State → Outcome → State → Prop} (S : St_X6_pointsOf C G Qc) {a0 : Nat} {x1 : Int32} {x2 : Int32} {x3 : Int32} {x4 : Int32} {m : zM} (ka0 : zK G a0 = some (6, a0))
    (h : Pt_X6_pointsOf_6 C G a0 x1 x2 x3 x4 0 0 m) : Pt_X6_pointsOf_0 C G a0 x1 x2 x3 x4 m := by
  obtain ⟨hF, hQ, hR⟩ := id S
  have h0 : zF0 C cX6_pointsOf 9 wsX6_pointsOf RX6 := hF.1
  have hL := hF.2.2.1
  unfold Pt_X6_pointsOf_0
  refine zx_lconst (v := 0) h0 dX6_pointsOf_0 (by decide) ?_
  refine zx_lstore (L' := [(5, .long 0), (0, .ref a0), (1, .int x1), (2, .int x2), (3, .int x3), (4, .int x4)]) h0 dX6_pointsOf_1 (by decide) rfl ?_
  refine zx_iconst (v := 0) h0 dX6_pointsOf_3 (by decide) ?_
  refine zx_istore (L' := [(7, .int 0), (5, .long 0), (0, .ref a0), (1, .int x1), (2, .int x2), (3, .int x3), (4, .int x4)]) h0 dX6_pointsOf_4 (by decide) rfl ?_
  exact zx_sub [2, 3, 4, 5, 6, 1, 0] rfl h
set_option maxRecDepth 100000 in
set_option maxHeartbeats 4000000 in
theorem sg_X6_pointsOf_6 {C : zC} {G : zG} {Qc : Array Value → State → Outcome → State → Prop} (S : St_X6_pointsOf C G Qc) {P_X6_lineHolds : Nat → Int32 → Int32 → Int32 → Int32 → Int32 → Int64 → zM → Prop} {Q_X6_lineHolds : Nat → Int32 → Int32 → Int32 → Int32 → Int32 → Int64 → zM → Int32 → Prop} (c_X6_lineHolds : Con_X6_lineHolds (zl C) G P_X6_lineHolds Q_X6_lineHolds) {a0 : Nat} {x1 : Int32} {x2 : Int32} {x3 : Int32} {x4 : Int32} {l5 : Int64} {x7 : Int32} {m : zM} (ka0 : zK G a0 = some (6, a0))
    (h : ((zI m 1618 a0 0) ≤ x7 → (zRet C G Qc (some (.int ((l5 : Int64).toInt32))) m)) ∧ (¬ (zI m 1618 a0 0) ≤ x7 → ((P_X6_lineHolds a0 x7 x1 x2 x3 x4 l5 m) ∧ (∀ (r2 : Int32), Q_X6_lineHolds a0 x7 x1 x2 x3 x4 l5 m r2 → ((¬ r2 = 0 → ((vp_in x7 64) ∧ ((¬ (zI m 1623 a0 x7.toNatClampNeg) = 3 → ((¬ (zI m 1623 a0 x7.toNatClampNeg) = 0 → ((¬ (zI m 1623 a0 x7.toNatClampNeg) = 1 → (Pt_X6_pointsOf_104 C G a0 x1 x2 x3 x4 x7 ((l5 * (((zI m 1624 a0 x7.toNatClampNeg) : Int32).toInt64)) / 100) m)) ∧ ((zI m 1623 a0 x7.toNatClampNeg) = 1 → (Pt_X6_pointsOf_104 C G a0 x1 x2 x3 x4 x7 (l5 + (((zI m 1624 a0 x7.toNatClampNeg) : Int32).toInt64)) m)))) ∧ ((zI m 1623 a0 x7.toNatClampNeg) = 0 → (Pt_X6_pointsOf_104 C G a0 x1 x2 x3 x4 x7 (((zI m 1624 a0 x7.toNatClampNeg) : Int32).toInt64) m)))) ∧ ((zI m 1623 a0 x7.toNatClampNeg) = 3 → (zRet C G Qc (some (.int 0)) m))))) ∧ (r2 = 0 → (Pt_X6_pointsOf_6 C G a0 x1 x2 x3 x4 l5 (x7 + 1) m))))))) : Pt_X6_pointsOf_6 C G a0 x1 x2 x3 x4 l5 x7 m := by
  obtain ⟨hF, hQ, hR⟩ := id S
  have h0 : zF0 C cX6_pointsOf 9 wsX6_pointsOf RX6 := hF.1
  have hL := hF.2.2.1
  unfold Pt_X6_pointsOf_6
  refine zx_iload h0 6 dX6_pointsOf_6 rfl ?_
  refine zx_aload_n h0 0 dX6_pointsOf_8 rfl ?_
  refine zx_get hF ka0 (by decide) rfl zi_X6_pointsOf_6 18 (by decide) zn_X6_pointsOf_64 rfl rfl dX6_pointsOf_9 ?_
  refine zx_iconst (v := 0) h0 dX6_pointsOf_12 (by decide) ?_
  refine zx_iald (j := 0) hF (zL_6_18 hL ka0) (by decide) rfl rfl (by unfold vp_in; decide) (by decide) dX6_pointsOf_13 ?_
  refine zx_icmp_ge (tgt := 131) h0 dX6_pointsOf_14 (by decide) (fun q => ?_) (fun q => ?_)
  · replace h := h.1 q
    refine zx_lload h0 5 dX6_pointsOf_131 rfl ?_
    refine zx_l2i (v := ((l5 : Int64).toInt32)) h0 dX6_pointsOf_133 rfl ?_
    exact zx_iret hF hQ dX6_pointsOf_134 h
  · replace h := h.2 q
    refine zx_aload_n h0 0 dX6_pointsOf_17 rfl ?_
    refine zx_iload h0 6 dX6_pointsOf_18 rfl ?_
    refine zx_iload_n h0 1 dX6_pointsOf_20 rfl ?_
    refine zx_iload_n h0 2 dX6_pointsOf_21 rfl ?_
    refine zx_iload_n h0 3 dX6_pointsOf_22 rfl ?_
    refine zx_iload h0 4 dX6_pointsOf_23 rfl ?_
    refine zx_lload h0 5 dX6_pointsOf_25 rfl ?_
    obtain ⟨ho1, h⟩ := h
    refine zx_callVi (As := [.int x7, .int x1, .int x2, .int x3, .int x4, .long l5]) (rest := []) hF (c_X6_lineHolds a0 x7 x1 x2 x3 x4 l5 m ka0 ho1) (zc_X6_pointsOf_X6_lineHolds S) ka0 (by decide) rfl dX6_pointsOf_27 rfl rfl (Nat.le_of_ble_eq_true rfl) ⟨Nat.zero_le _, Nat.zero_le _⟩ (fun r2 m2 hq => ?_)
    obtain ⟨hme, hq⟩ := hq
    subst m2
    replace h := h r2 hq
    refine zx_if_ne (tgt := 36) h0 dX6_pointsOf_30 (by decide) (fun q => ?_) (fun q => ?_)
    · replace h := h.1 q
      refine zx_aload_n h0 0 dX6_pointsOf_36 rfl ?_
      refine zx_get hF ka0 (by decide) rfl zi_X6_pointsOf_6 24 (by decide) zn_X6_pointsOf_82 rfl rfl dX6_pointsOf_37 ?_
      refine zx_iload h0 6 dX6_pointsOf_40 rfl ?_
      obtain ⟨ho3, h⟩ := h
      refine zx_iald (j := x7.toNatClampNeg) hF (zL_6_24 hL ka0) (by decide) rfl rfl ho3 rfl dX6_pointsOf_42 ?_
      refine zx_istore (L' := [(8, .int (zI m 1624 a0 x7.toNatClampNeg)), (0, .ref a0), (1, .int x1), (2, .int x2), (3, .int x3), (4, .int x4), (5, .long l5), (7, .int x7)]) h0 dX6_pointsOf_43 (by decide) rfl ?_
      refine zx_aload_n h0 1 dX6_pointsOf_45 rfl ?_
      refine zx_get hF ka0 (by decide) rfl zi_X6_pointsOf_6 23 (by decide) zn_X6_pointsOf_79 rfl rfl dX6_pointsOf_46 ?_
      refine zx_iload h0 7 dX6_pointsOf_49 rfl ?_
      refine zx_iald (j := x7.toNatClampNeg) hF (zL_6_23 hL ka0) (by decide) rfl rfl ho3 rfl dX6_pointsOf_51 ?_
      refine zx_iconst (v := 3) h0 dX6_pointsOf_52 (by decide) ?_
      refine zx_icmp_ne (tgt := 58) h0 dX6_pointsOf_53 (by decide) (fun q => ?_) (fun q => ?_)
      · replace h := h.1 q
        refine zx_aload_n h0 1 dX6_pointsOf_58 rfl ?_
        refine zx_get hF ka0 (by decide) rfl zi_X6_pointsOf_6 23 (by decide) zn_X6_pointsOf_79 rfl rfl dX6_pointsOf_59 ?_
        refine zx_iload h0 7 dX6_pointsOf_62 rfl ?_
        refine zx_iald (j := x7.toNatClampNeg) hF (zL_6_23 hL ka0) (by decide) rfl rfl ho3 rfl dX6_pointsOf_64 ?_
        refine zx_if_ne (tgt := 74) h0 dX6_pointsOf_65 (by decide) (fun q => ?_) (fun q => ?_)
        · replace h := h.1 q
          refine zx_aload_n h0 1 dX6_pointsOf_74 rfl ?_
          refine zx_get hF ka0 (by decide) rfl zi_X6_pointsOf_6 23 (by decide) zn_X6_pointsOf_79 rfl rfl dX6_pointsOf_75 ?_
          refine zx_iload h0 7 dX6_pointsOf_78 rfl ?_
          refine zx_iald (j := x7.toNatClampNeg) hF (zL_6_23 hL ka0) (by decide) rfl rfl ho3 rfl dX6_pointsOf_80 ?_
          refine zx_iconst (v := 1) h0 dX6_pointsOf_81 (by decide) ?_
          refine zx_icmp_ne (tgt := 94) h0 dX6_pointsOf_82 (by decide) (fun q => ?_) (fun q => ?_)
          · replace h := h.1 q
            refine zx_lload h0 6 dX6_pointsOf_94 rfl ?_
            refine zx_iload h0 0 dX6_pointsOf_96 rfl ?_
            refine zx_i2l (v := (((zI m 1624 a0 x7.toNatClampNeg) : Int32).toInt64)) h0 dX6_pointsOf_98 rfl ?_
            refine zx_lmul h0 dX6_pointsOf_99 ?_
            refine zx_ldc2 (v := 100) h0 zn_X6_pointsOf_k278 dX6_pointsOf_100 ?_
            refine zx_ldiv h0 dX6_pointsOf_103 (by decide) ?_
            exact zx_sub [1, 2, 3, 4, 5, 7] rfl h
          · replace h := h.2 q
            refine zx_lload h0 6 dX6_pointsOf_85 rfl ?_
            refine zx_iload h0 0 dX6_pointsOf_87 rfl ?_
            refine zx_i2l (v := (((zI m 1624 a0 x7.toNatClampNeg) : Int32).toInt64)) h0 dX6_pointsOf_89 rfl ?_
            refine zx_ladd h0 dX6_pointsOf_90 ?_
            refine zx_goto (tgt := 104) h0 dX6_pointsOf_91 (by decide) ?_
            exact zx_sub [1, 2, 3, 4, 5, 7] rfl h
        · replace h := h.2 q
          refine zx_iload h0 0 dX6_pointsOf_68 rfl ?_
          refine zx_i2l (v := (((zI m 1624 a0 x7.toNatClampNeg) : Int32).toInt64)) h0 dX6_pointsOf_70 rfl ?_
          refine zx_goto (tgt := 104) h0 dX6_pointsOf_71 (by decide) ?_
          exact zx_sub [1, 2, 3, 4, 5, 7] rfl h
      · replace h := h.2 q
        refine zx_iconst (v := 0) h0 dX6_pointsOf_56 (by decide) ?_
        exact zx_iret hF hQ dX6_pointsOf_57 h
    · replace h := h.2 q
      refine zx_goto (tgt := 125) h0 dX6_pointsOf_33 (by decide) ?_
      refine zx_iinc (v := (x7 + 1)) (L' := [(7, .int (x7 + 1)), (0, .ref a0), (1, .int x1), (2, .int x2), (3, .int x3), (4, .int x4), (5, .long l5)]) h0 6 dX6_pointsOf_125 rfl rfl (by decide) rfl ?_
      refine zx_goto (tgt := 6) h0 dX6_pointsOf_128 (by decide) ?_
      exact zx_sub [1, 2, 3, 4, 5, 6, 0] rfl h
set_option maxRecDepth 100000 in
set_option maxHeartbeats 4000000 in
theorem sg_X6_pointsOf_104 {C : zC} {G : zG} {Qc : Array Value → State → Outcome → State → Prop} (S : St_X6_pointsOf C G Qc) {a0 : Nat} {x1 : Int32} {x2 : Int32} {x3 : Int32} {x4 : Int32} {x7 : Int32} {s0 : Int64} {m : zM} (ka0 : zK G a0 = some (6, a0))
    (h : (s0 ≤ 1000000 → (Pt_X6_pointsOf_6 C G a0 x1 x2 x3 x4 s0 (x7 + 1) m)) ∧ (¬ s0 ≤ 1000000 → (Pt_X6_pointsOf_6 C G a0 x1 x2 x3 x4 1000000 (x7 + 1) m))) : Pt_X6_pointsOf_104 C G a0 x1 x2 x3 x4 x7 s0 m := by
  obtain ⟨hF, hQ, hR⟩ := id S
  have h0 : zF0 C cX6_pointsOf 9 wsX6_pointsOf RX6 := hF.1
  have hL := hF.2.2.1
  unfold Pt_X6_pointsOf_104
  refine zx_lstore (L' := [(5, .long s0), (0, .ref a0), (1, .int x1), (2, .int x2), (3, .int x3), (4, .int x4), (7, .int x7)]) h0 dX6_pointsOf_104 (by decide) rfl ?_
  refine zx_lload h0 0 dX6_pointsOf_106 rfl ?_
  refine zx_ldc2 (v := 1000000) h0 zn_X6_pointsOf_k280 dX6_pointsOf_108 ?_
  refine zx_lcmp_le (tgt := 121) h0 dX6_pointsOf_111 dX6_pointsOf_112 (by decide) (fun q => ?_) (fun q => ?_)
  · replace h := h.1 q
    refine zx_lload h0 0 dX6_pointsOf_121 rfl ?_
    refine zx_lstore (L' := [(5, .long s0), (0, .ref a0), (1, .int x1), (2, .int x2), (3, .int x3), (4, .int x4), (7, .int x7)]) h0 dX6_pointsOf_123 (by decide) rfl ?_
    refine zx_iinc (v := (x7 + 1)) (L' := [(7, .int (x7 + 1)), (5, .long s0), (0, .ref a0), (1, .int x1), (2, .int x2), (3, .int x3), (4, .int x4)]) h0 6 dX6_pointsOf_125 rfl rfl (by decide) rfl ?_
    refine zx_goto (tgt := 6) h0 dX6_pointsOf_128 (by decide) ?_
    exact zx_sub [2, 3, 4, 5, 6, 1, 0] rfl h
  · replace h := h.2 q
    refine zx_ldc2 (v := 1000000) h0 zn_X6_pointsOf_k280 dX6_pointsOf_115 ?_
    refine zx_goto (tgt := 123) h0 dX6_pointsOf_118 (by decide) ?_
    refine zx_lstore (L' := [(5, .long 1000000), (0, .ref a0), (1, .int x1), (2, .int x2), (3, .int x3), (4, .int x4), (7, .int x7)]) h0 dX6_pointsOf_123 (by decide) rfl ?_
    refine zx_iinc (v := (x7 + 1)) (L' := [(7, .int (x7 + 1)), (5, .long 1000000), (0, .ref a0), (1, .int x1), (2, .int x2), (3, .int x3), (4, .int x4)]) h0 6 dX6_pointsOf_125 rfl rfl (by decide) rfl ?_
    refine zx_goto (tgt := 6) h0 dX6_pointsOf_128 (by decide) ?_
    exact zx_sub [2, 3, 4, 5, 6, 1, 0] rfl h
theorem zc_X6_pointsNow_X6_of {C : zC} {G : zG} {Qc : Array Value → State → Outcome → State → Prop} (S : St_X6_pointsNow C G Qc) : CallW (zRm C) (zs C) (zar C) RX6 RX6 153 yX6_of cX6_of 3 (some .int) wsX6_of rm_X6_of 0 0 2 := cwV 2 S.1.1.2.2.2.2 gX6_pointsNow_X6_of rfl rfl rfl (by decide +kernel) (by rw [S.2.2]; exact ⟨Nat.le_of_ble_eq_true rfl, Nat.le_of_ble_eq_true rfl⟩)
theorem zc_X6_pointsNow_X6_pointsOf {C : zC} {G : zG} {Qc : Array Value → State → Outcome → State → Prop} (S : St_X6_pointsNow C G Qc) : CallW (zRm C) (zs C) (zar C) RX6 RX6 282 yX6_pointsOf cX6_pointsOf 9 (some .int) wsX6_pointsOf rm_X6_pointsOf 0 0 4 := cwV 4 S.1.1.2.2.2.2 gX6_pointsNow_X6_pointsOf rfl rfl rfl (by decide +kernel) (by rw [S.2.2]; exact ⟨Nat.le_of_ble_eq_true rfl, Nat.le_of_ble_eq_true rfl⟩)
set_option maxRecDepth 100000 in
set_option maxHeartbeats 4000000 in
theorem sg_X6_pointsNow_0 {C : zC} {G : zG} {Qc : Array Value → State → Outcome → State → Prop} (S : St_X6_pointsNow C G Qc) {P_X6_of : Nat → Int32 → Int32 → zM → Prop} {Q_X6_of : Nat → Int32 → Int32 → zM → Int32 → Prop} (c_X6_of : Con_X6_of (zl C) G P_X6_of Q_X6_of) {P_X6_pointsOf : Nat → Int32 → Int32 → Int32 → Int32 → zM → Prop} {Q_X6_pointsOf : Nat → Int32 → Int32 → Int32 → Int32 → zM → Int32 → Prop} (c_X6_pointsOf : Con_X6_pointsOf (zl C) G P_X6_pointsOf Q_X6_pointsOf) {a0 : Nat} {x1 : Int32} {x2 : Int32} {m : zM} (ka0 : zK G a0 = some (6, a0))
    (h : (P_X6_of a0 x1 1 m) ∧ (∀ (r2 : Int32), Q_X6_of a0 x1 1 m r2 → ((P_X6_of a0 x1 2 m) ∧ (∀ (r4 : Int32), Q_X6_of a0 x1 2 m r4 → ((P_X6_of a0 x1 3 m) ∧ (∀ (r6 : Int32), Q_X6_of a0 x1 3 m r6 → ((P_X6_pointsOf a0 r2 r4 r6 x2 m) ∧ (∀ (r8 : Int32), Q_X6_pointsOf a0 r2 r4 r6 x2 m r8 → (zRet C G Qc (some (.int r8)) m))))))))) : Pt_X6_pointsNow_0 C G a0 x1 x2 m := by
  obtain ⟨hF, hQ, hR⟩ := id S
  have h0 : zF0 C cX6_pointsNow 3 wsX6_pointsNow RX6 := hF.1
  have hL := hF.2.2.1
  unfold Pt_X6_pointsNow_0
  refine zx_aload_n h0 0 dX6_pointsNow_0 rfl ?_
  refine zx_aload_n h0 0 dX6_pointsNow_1 rfl ?_
  refine zx_iload_n h0 1 dX6_pointsNow_2 rfl ?_
  refine zx_iconst (v := 1) h0 dX6_pointsNow_3 (by decide) ?_
  obtain ⟨ho1, h⟩ := h
  refine zx_callVi (As := [.int x1, .int 1]) (rest := [.ref a0]) hF (c_X6_of a0 x1 1 m ka0 ho1) (zc_X6_pointsNow_X6_of S) ka0 (by decide) rfl dX6_pointsNow_4 rfl rfl (Nat.le_of_ble_eq_true rfl) ⟨Nat.zero_le _, Nat.zero_le _⟩ (fun r2 m2 hq => ?_)
  obtain ⟨hme, hq⟩ := hq
  subst m2
  replace h := h r2 hq
  refine zx_aload_n h0 0 dX6_pointsNow_7 rfl ?_
  refine zx_iload_n h0 1 dX6_pointsNow_8 rfl ?_
  refine zx_iconst (v := 2) h0 dX6_pointsNow_9 (by decide) ?_
  obtain ⟨ho3, h⟩ := h
  refine zx_callVi (As := [.int x1, .int 2]) (rest := [.int r2, .ref a0]) hF (c_X6_of a0 x1 2 m ka0 ho3) (zc_X6_pointsNow_X6_of S) ka0 (by decide) rfl dX6_pointsNow_10 rfl rfl (Nat.le_of_ble_eq_true rfl) ⟨Nat.zero_le _, Nat.zero_le _⟩ (fun r4 m4 hq => ?_)
  obtain ⟨hme, hq⟩ := hq
  subst m4
  replace h := h r4 hq
  refine zx_aload_n h0 0 dX6_pointsNow_13 rfl ?_
  refine zx_iload_n h0 1 dX6_pointsNow_14 rfl ?_
  refine zx_iconst (v := 3) h0 dX6_pointsNow_15 (by decide) ?_
  obtain ⟨ho5, h⟩ := h
  refine zx_callVi (As := [.int x1, .int 3]) (rest := [.int r4, .int r2, .ref a0]) hF (c_X6_of a0 x1 3 m ka0 ho5) (zc_X6_pointsNow_X6_of S) ka0 (by decide) rfl dX6_pointsNow_16 rfl rfl (Nat.le_of_ble_eq_true rfl) ⟨Nat.zero_le _, Nat.zero_le _⟩ (fun r6 m6 hq => ?_)
  obtain ⟨hme, hq⟩ := hq
  subst m6
  replace h := h r6 hq
  refine zx_iload_n h0 2 dX6_pointsNow_19 rfl ?_
  obtain ⟨ho7, h⟩ := h
  refine zx_callVi (As := [.int r2, .int r4, .int r6, .int x2]) (rest := []) hF (c_X6_pointsOf a0 r2 r4 r6 x2 m ka0 ho7) (zc_X6_pointsNow_X6_pointsOf S) ka0 (by decide) rfl dX6_pointsNow_20 rfl rfl (Nat.le_of_ble_eq_true rfl) ⟨Nat.zero_le _, Nat.zero_le _⟩ (fun r8 m8 hq => ?_)
  obtain ⟨hme, hq⟩ := hq
  subst m8
  replace h := h r8 hq
  exact zx_iret hF hQ dX6_pointsNow_23 h
theorem zc_X6_mostOf_X6_of {C : zC} {G : zG} {Qc : Array Value → State → Outcome → State → Prop} (S : St_X6_mostOf C G Qc) : CallW (zRm C) (zs C) (zar C) RX6 RX6 153 yX6_of cX6_of 3 (some .int) wsX6_of rm_X6_of 0 0 2 := cwV 2 S.1.1.2.2.2.2 gX6_mostOf_X6_of rfl rfl rfl (by decide +kernel) (by rw [S.2.2]; exact ⟨Nat.le_of_ble_eq_true rfl, Nat.le_of_ble_eq_true rfl⟩)
theorem zc_X6_mostOf_X6_pointsNow {C : zC} {G : zG} {Qc : Array Value → State → Outcome → State → Prop} (S : St_X6_mostOf C G Qc) : CallW (zRm C) (zs C) (zar C) RX6 RX6 287 yX6_pointsNow cX6_pointsNow 3 (some .int) wsX6_pointsNow rm_X6_pointsNow 0 0 2 := cwV 2 S.1.1.2.2.2.2 gX6_mostOf_X6_pointsNow rfl rfl rfl (by decide +kernel) (by rw [S.2.2]; exact ⟨Nat.le_of_ble_eq_true rfl, Nat.le_of_ble_eq_true rfl⟩)
set_option maxRecDepth 100000 in
set_option maxHeartbeats 4000000 in
theorem sg_X6_mostOf_0 {C : zC} {G : zG} {Qc : Array Value → State → Outcome → State → Prop} (S : St_X6_mostOf C G Qc) {P_X6_of : Nat → Int32 → Int32 → zM → Prop} {Q_X6_of : Nat → Int32 → Int32 → zM → Int32 → Prop} (c_X6_of : Con_X6_of (zl C) G P_X6_of Q_X6_of) {a0 : Nat} {x1 : Int32} {m : zM} (ka0 : zK G a0 = some (6, a0))
    (h : (P_X6_of a0 x1 5 m) ∧ (∀ (r2 : Int32), Q_X6_of a0 x1 5 m r2 → ((r2 = 0 → (Pt_X6_mostOf_35 C G a0 x1 0 0 m)) ∧ (¬ r2 = 0 → (∀ (r3 : Int32), Q_X6_of a0 x1 5 m r3 → ((¬ r3 = 1 → (zRet C G Qc (some (.int 0)) m)) ∧ (r3 = 1 → ((P_X6_of a0 x1 6 m) ∧ (∀ (r5 : Int32), Q_X6_of a0 x1 6 m r5 → (zRet C G Qc (some (.int r5)) m)))))))))) : Pt_X6_mostOf_0 C G a0 x1 m := by
  obtain ⟨hF, hQ, hR⟩ := id S
  have h0 : zF0 C cX6_mostOf 5 wsX6_mostOf RX6 := hF.1
  have hL := hF.2.2.1
  unfold Pt_X6_mostOf_0
  refine zx_aload_n h0 0 dX6_mostOf_0 rfl ?_
  refine zx_iload_n h0 1 dX6_mostOf_1 rfl ?_
  refine zx_iconst (v := 5) h0 dX6_mostOf_2 (by decide) ?_
  obtain ⟨ho1, h⟩ := h
  refine zx_callVi (As := [.int x1, .int 5]) (rest := []) hF (c_X6_of a0 x1 5 m ka0 ho1) (zc_X6_mostOf_X6_of S) ka0 (by decide) rfl dX6_mostOf_3 rfl rfl (Nat.le_of_ble_eq_true rfl) ⟨Nat.zero_le _, Nat.zero_le _⟩ (fun r2 m2 hq => ?_)
  obtain ⟨hme, hq⟩ := hq
  subst m2
  replace h := h r2 hq
  refine zx_if_eq (tgt := 31) h0 dX6_mostOf_6 (by decide) (fun q => ?_) (fun q => ?_)
  · replace h := h.1 q
    refine zx_iconst (v := 0) h0 dX6_mostOf_31 (by decide) ?_
    refine zx_istore_n (L' := [(2, .int 0), (0, .ref a0), (1, .int x1)]) h0 dX6_mostOf_32 (by decide) rfl ?_
    refine zx_iconst (v := 0) h0 dX6_mostOf_33 (by decide) ?_
    refine zx_istore_n (L' := [(3, .int 0), (2, .int 0), (0, .ref a0), (1, .int x1)]) h0 dX6_mostOf_34 (by decide) rfl ?_
    exact zx_sub [2, 3, 1, 0] rfl h
  · replace h := h.2 q
    refine zx_aload_n h0 0 dX6_mostOf_9 rfl ?_
    refine zx_iload_n h0 1 dX6_mostOf_10 rfl ?_
    refine zx_iconst (v := 5) h0 dX6_mostOf_11 (by decide) ?_
    refine zx_callVi (As := [.int x1, .int 5]) (rest := []) hF (c_X6_of a0 x1 5 m ka0 ho1) (zc_X6_mostOf_X6_of S) ka0 (by decide) rfl dX6_mostOf_12 rfl rfl (Nat.le_of_ble_eq_true rfl) ⟨Nat.zero_le _, Nat.zero_le _⟩ (fun r3 m3 hq => ?_)
    obtain ⟨hme, hq⟩ := hq
    subst m3
    replace h := h r3 hq
    refine zx_iconst (v := 1) h0 dX6_mostOf_15 (by decide) ?_
    refine zx_icmp_ne (tgt := 29) h0 dX6_mostOf_16 (by decide) (fun q => ?_) (fun q => ?_)
    · replace h := h.1 q
      refine zx_iconst (v := 0) h0 dX6_mostOf_29 (by decide) ?_
      exact zx_iret hF hQ dX6_mostOf_30 h
    · replace h := h.2 q
      refine zx_aload_n h0 0 dX6_mostOf_19 rfl ?_
      refine zx_iload_n h0 1 dX6_mostOf_20 rfl ?_
      refine zx_bipush (v := 6) h0 dX6_mostOf_21 (by decide) ?_
      obtain ⟨ho4, h⟩ := h
      refine zx_callVi (As := [.int x1, .int 6]) (rest := []) hF (c_X6_of a0 x1 6 m ka0 ho4) (zc_X6_mostOf_X6_of S) ka0 (by decide) rfl dX6_mostOf_23 rfl rfl (Nat.le_of_ble_eq_true rfl) ⟨Nat.zero_le _, Nat.zero_le _⟩ (fun r5 m5 hq => ?_)
      obtain ⟨hme, hq⟩ := hq
      subst m5
      replace h := h r5 hq
      refine zx_goto (tgt := 30) h0 dX6_mostOf_26 (by decide) ?_
      exact zx_iret hF hQ dX6_mostOf_30 h
set_option maxRecDepth 100000 in
set_option maxHeartbeats 4000000 in
theorem sg_X6_mostOf_35 {C : zC} {G : zG} {Qc : Array Value → State → Outcome → State → Prop} (S : St_X6_mostOf C G Qc) {P_X6_of : Nat → Int32 → Int32 → zM → Prop} {Q_X6_of : Nat → Int32 → Int32 → zM → Int32 → Prop} (c_X6_of : Con_X6_of (zl C) G P_X6_of Q_X6_of) {P_X6_pointsNow : Nat → Int32 → Int32 → zM → Prop} {Q_X6_pointsNow : Nat → Int32 → Int32 → zM → Int32 → Prop} (c_X6_pointsNow : Con_X6_pointsNow (zl C) G P_X6_pointsNow Q_X6_pointsNow) {a0 : Nat} {x1 : Int32} {x2 : Int32} {x3 : Int32} {m : zM} (ka0 : zK G a0 = some (6, a0))
    (h : (64 ≤ x3 → (zRet C G Qc (some (.int x2)) m)) ∧ (¬ 64 ≤ x3 → ((P_X6_of a0 x1 4 m) ∧ (∀ (r2 : Int32), Q_X6_of a0 x1 4 m r2 → (∀ (r3 : Int32), Q_X6_of a0 x1 4 m r3 → ((¬ (x3 &&& r2) = r3 → (Pt_X6_mostOf_35 C G a0 x1 x2 (x3 + 1) m)) ∧ ((x3 &&& r2) = r3 → ((P_X6_pointsNow a0 x1 x3 m) ∧ (∀ (r5 : Int32), Q_X6_pointsNow a0 x1 x3 m r5 → ((r5 ≤ x2 → (Pt_X6_mostOf_35 C G a0 x1 x2 (x3 + 1) m)) ∧ (¬ r5 ≤ x2 → (Pt_X6_mostOf_35 C G a0 x1 r5 (x3 + 1) m)))))))))))) : Pt_X6_mostOf_35 C G a0 x1 x2 x3 m := by
  obtain ⟨hF, hQ, hR⟩ := id S
  have h0 : zF0 C cX6_mostOf 5 wsX6_mostOf RX6 := hF.1
  have hL := hF.2.2.1
  unfold Pt_X6_mostOf_35
  refine zx_iload_n h0 3 dX6_mostOf_35 rfl ?_
  refine zx_bipush (v := 64) h0 dX6_mostOf_36 (by decide) ?_
  refine zx_icmp_ge (tgt := 85) h0 dX6_mostOf_38 (by decide) (fun q => ?_) (fun q => ?_)
  · replace h := h.1 q
    refine zx_iload_n h0 2 dX6_mostOf_85 rfl ?_
    exact zx_iret hF hQ dX6_mostOf_86 h
  · replace h := h.2 q
    refine zx_iload_n h0 3 dX6_mostOf_41 rfl ?_
    refine zx_aload_n h0 0 dX6_mostOf_42 rfl ?_
    refine zx_iload_n h0 1 dX6_mostOf_43 rfl ?_
    refine zx_iconst (v := 4) h0 dX6_mostOf_44 (by decide) ?_
    obtain ⟨ho1, h⟩ := h
    refine zx_callVi (As := [.int x1, .int 4]) (rest := [.int x3]) hF (c_X6_of a0 x1 4 m ka0 ho1) (zc_X6_mostOf_X6_of S) ka0 (by decide) rfl dX6_mostOf_45 rfl rfl (Nat.le_of_ble_eq_true rfl) ⟨Nat.zero_le _, Nat.zero_le _⟩ (fun r2 m2 hq => ?_)
    obtain ⟨hme, hq⟩ := hq
    subst m2
    replace h := h r2 hq
    refine zx_iand h0 dX6_mostOf_48 ?_
    refine zx_aload_n h0 0 dX6_mostOf_49 rfl ?_
    refine zx_iload_n h0 1 dX6_mostOf_50 rfl ?_
    refine zx_iconst (v := 4) h0 dX6_mostOf_51 (by decide) ?_
    refine zx_callVi (As := [.int x1, .int 4]) (rest := [.int (x3 &&& r2)]) hF (c_X6_of a0 x1 4 m ka0 ho1) (zc_X6_mostOf_X6_of S) ka0 (by decide) rfl dX6_mostOf_52 rfl rfl (Nat.le_of_ble_eq_true rfl) ⟨Nat.zero_le _, Nat.zero_le _⟩ (fun r3 m3 hq => ?_)
    obtain ⟨hme, hq⟩ := hq
    subst m3
    replace h := h r3 hq
    refine zx_icmp_ne (tgt := 79) h0 dX6_mostOf_55 (by decide) (fun q => ?_) (fun q => ?_)
    · replace h := h.1 q
      refine zx_iinc (v := (x3 + 1)) (L' := [(3, .int (x3 + 1)), (0, .ref a0), (1, .int x1), (2, .int x2)]) h0 3 dX6_mostOf_79 rfl rfl (by decide) rfl ?_
      refine zx_goto (tgt := 35) h0 dX6_mostOf_82 (by decide) ?_
      exact zx_sub [1, 2, 3, 0] rfl h
    · replace h := h.2 q
      refine zx_aload_n h0 0 dX6_mostOf_58 rfl ?_
      refine zx_iload_n h0 1 dX6_mostOf_59 rfl ?_
      refine zx_iload_n h0 3 dX6_mostOf_60 rfl ?_
      obtain ⟨ho4, h⟩ := h
      refine zx_callVi (As := [.int x1, .int x3]) (rest := []) hF (c_X6_pointsNow a0 x1 x3 m ka0 ho4) (zc_X6_mostOf_X6_pointsNow S) ka0 (by decide) rfl dX6_mostOf_61 rfl rfl (Nat.le_of_ble_eq_true rfl) ⟨Nat.zero_le _, Nat.zero_le _⟩ (fun r5 m5 hq => ?_)
      obtain ⟨hme, hq⟩ := hq
      subst m5
      replace h := h r5 hq
      refine zx_istore (L' := [(4, .int r5), (0, .ref a0), (1, .int x1), (2, .int x2), (3, .int x3)]) h0 dX6_mostOf_64 (by decide) rfl ?_
      refine zx_iload h0 0 dX6_mostOf_66 rfl ?_
      refine zx_iload_n h0 3 dX6_mostOf_68 rfl ?_
      refine zx_icmp_le (tgt := 77) h0 dX6_mostOf_69 (by decide) (fun q => ?_) (fun q => ?_)
      · replace h := h.1 q
        refine zx_iload_n h0 3 dX6_mostOf_77 rfl ?_
        refine zx_istore_n (L' := [(2, .int x2), (4, .int r5), (0, .ref a0), (1, .int x1), (3, .int x3)]) h0 dX6_mostOf_78 (by decide) rfl ?_
        refine zx_iinc (v := (x3 + 1)) (L' := [(3, .int (x3 + 1)), (2, .int x2), (4, .int r5), (0, .ref a0), (1, .int x1)]) h0 4 dX6_mostOf_79 rfl rfl (by decide) rfl ?_
        refine zx_goto (tgt := 35) h0 dX6_mostOf_82 (by decide) ?_
        exact zx_sub [3, 4, 1, 0] rfl h
      · replace h := h.2 q
        refine zx_iload h0 0 dX6_mostOf_72 rfl ?_
        refine zx_goto (tgt := 78) h0 dX6_mostOf_74 (by decide) ?_
        refine zx_istore_n (L' := [(2, .int r5), (4, .int r5), (0, .ref a0), (1, .int x1), (3, .int x3)]) h0 dX6_mostOf_78 (by decide) rfl ?_
        refine zx_iinc (v := (x3 + 1)) (L' := [(3, .int (x3 + 1)), (2, .int r5), (4, .int r5), (0, .ref a0), (1, .int x1)]) h0 4 dX6_mostOf_79 rfl rfl (by decide) rfl ?_
        refine zx_goto (tgt := 35) h0 dX6_mostOf_82 (by decide) ?_
        exact zx_sub [3, 4, 1, 0] rfl h
