theorem C_J3_checkIndex {l : Launch} {G : zG} (hL : zLay G) {a b : Nat} (hab : a < b) (hb : b < 2 ^ 31) (w : Option Nat) (m : zM) : Met l yJ3_checkIndex_8e157 wsJ3_checkIndex_8e157 rm_J0_0 (va_Pc [.int (nI a), .int (nI b), va_rf w] (fun U => zW G m U)) (va_Qi (fun _ m' => m' = m) (fun m' U => zW G m' U) (zdom G)) 0 0 (zdom G) := by
  refine zMetD (cc := cJ3_checkIndex_8e157) (maxL := 3) (ret := some .int) hL (by decide +kernel) rfl (by cases w <;> exact Nat.le_of_ble_eq_true rfl) (fun C hF hQ hA hR hl hnm => ?_)
  have hlv : lv_args 0 [.int (nI a), .int (nI b), va_rf w] = [(0, .int (nI a)), (1, .int (nI b)), (2, va_rf w)] := by cases w <;> rfl
  rw [hlv]
  refine zx_iload_n hF.1 0 dJ3_checkIndex_8e157_0 rfl ?_
  refine zx_if_lt hF.1 dJ3_checkIndex_8e157_1 (tgt := 9) (by decide) (fun q => absurd q (fun z => ?_)) (fun _ => ?_)
  · have h1 := Int32.lt_iff_toInt_lt.mp z
    rw [nI_toInt (by omega)] at h1
    have h2 : (0 : Int32).toInt = 0 := rfl
    omega
  refine zx_iload_n hF.1 0 dJ3_checkIndex_8e157_4 rfl ?_
  refine zx_iload_n hF.1 1 dJ3_checkIndex_8e157_5 rfl ?_
  refine zx_icmp_lt hF.1 dJ3_checkIndex_8e157_6 (tgt := 16) (by decide) (fun _ => ?_) (fun q => absurd (nI_lt hab hb) q)
  refine zx_iload_n hF.1 0 dJ3_checkIndex_8e157_16 rfl ?_
  exact zx_iret hF hQ dJ3_checkIndex_8e157_17 (zs_ret hF hA rfl)
abbrev rm_J0_ci : Room := { frames := 1, cells := 0, slots := 0, locals := 22 }
theorem C_J0_checkIndex {l : Launch} {G : zG} (hL : zLay G) {a b : Nat} (hab : a < b) (hb : b < 2 ^ 31) (m : zM) : Met l yJ0_checkIndex_df160 wsJ0_checkIndex_df160 rm_J0_ci (va_Pc [.int (nI a), .int (nI b)] (fun U => zW G m U)) (va_Qv (fun m' => m' = m) (fun m' U => zW G m' U) (zdom G)) 0 0 (zdom G) := by
  refine zMetD (cc := cJ0_checkIndex_df160) (maxL := 2) (ret := none) hL (by decide +kernel) rfl (Nat.le_of_ble_eq_true rfl) (fun C hF hQ hA hR hl hnm => ?_)
  subst hl
  have hts := hF.1.2.2.2.2
  show zX C 2 0 0 0 [(0, .int (nI a)), (1, .int (nI b))] [] _
  refine zx_iload_n hF.1 0 dJ0_checkIndex_df160_0 rfl ?_
  refine zx_iload_n hF.1 1 dJ0_checkIndex_df160_1 rfl ?_
  refine zs_fm hF (List.mem_of_getElem? (i := 1) rfl) dJ0_checkIndex_df160_2 (fun w => ?_)
  refine zx_callSi (As := [.int (nI a), .int (nI b), va_rf w]) (rest := []) hF (C_J3_checkIndex hL hab hb w m) (bytes := cJ3_checkIndex_8e157) (maxL := 3) (nn := 3) (va_cwS 3 hts gJ0_checkIndex_df160_J3_checkIndex_8e157 rfl rfl rfl (by decide +kernel) (by rw [hR]; exact ⟨Nat.le_of_ble_eq_true rfl, Nat.le_of_ble_eq_true rfl⟩)) dJ0_checkIndex_df160_5 rfl rfl (Nat.le_of_ble_eq_true rfl) ⟨Nat.zero_le _, Nat.zero_le _⟩ (fun r m' hq => ?_)
  subst hq
  refine zx_pop hF.1 dJ0_checkIndex_df160_8 rfl ?_
  exact zx_vret hF hQ dJ0_checkIndex_df160_9 (zRet_to hF (fun t hw hf => ⟨⟨m', rfl, rfl, hw⟩, hf.1, by rw [← hA]; exact hf.2⟩))
abbrev rm_J1_ch : Room := { frames := 2, cells := 0, slots := 0, locals := 43 }
theorem C_J1_charAt {l : Launch} {G : zG} (hL : zLay G) {t j : Nat} (ht : t < 13) (hj : j < zlens.getD t 0) (m : zM) : Met l yJ1_charAt_3b067 wsJ1_charAt_3b067 rm_J1_ch (va_Pc [.ref (zaV G t), .int (nI j)] (fun U => zW G m U)) (va_Qi (fun r m' => m' = m ∧ r = zchr t j) (fun m' U => zW G m' U) (zdom G)) 0 0 (zdom G) := by
  have h6 := zs_t2 t ht
  refine zMetD (cc := cJ1_charAt_3b067) (maxL := 2) (ret := some .char) hL (by decide +kernel) rfl (Nat.le_of_ble_eq_true rfl) (fun C hF hQ hA hR hl hnm => ?_)
  subst hl
  have hts := hF.1.2.2.2.2
  show zX C 2 0 0 0 [(0, .ref (zaV G t)), (1, .int (nI j))] [] _
  refine zx_iload_n hF.1 1 dJ1_charAt_3b067_0 rfl ?_
  refine zx_aload_n hF.1 0 dJ1_charAt_3b067_1 rfl ?_
  refine zs_len hF ht dJ1_charAt_3b067_2 ?_
  refine zx_callSv (As := [.int (nI j), .int (nI (zlens.getD t 0))]) (rest := []) hF (C_J0_checkIndex hL hj (by omega) m) (bytes := cJ0_checkIndex_df160) (maxL := 2) (nn := 2) (va_cwS 2 hts gJ1_charAt_3b067_J0_checkIndex_df160 rfl rfl rfl (by decide +kernel) (by rw [hR]; exact ⟨Nat.le_of_ble_eq_true rfl, Nat.le_of_ble_eq_true rfl⟩)) dJ1_charAt_3b067_3 rfl rfl (Nat.le_of_ble_eq_true rfl) ⟨Nat.zero_le _, Nat.zero_le _⟩ (fun m' hq => ?_)
  have hq : m' = m := hq
  subst hq
  refine zx_aload_n hF.1 0 dJ1_charAt_3b067_6 rfl ?_
  refine zx_iload_n hF.1 1 dJ1_charAt_3b067_7 rfl ?_
  refine zs_bald hF ht (vp_in_nI hj (by omega)) dJ1_charAt_3b067_8 ?_
  rw [nI_clamp (by omega)]
  refine zx_sipush hF.1 dJ1_charAt_3b067_9 (v := 255) (by decide) ?_
  refine zx_iand hF.1 dJ1_charAt_3b067_12 ?_
  refine zs_i2c hF.1 dJ1_charAt_3b067_13 (zs_t1 t ht j hj).1 ?_
  exact zx_zret hF hQ (zs_t1 t ht j hj).2 dJ1_charAt_3b067_14 (zs_ret hF hA ⟨rfl, rfl⟩)
theorem C_chr {l : Launch} {G : zG} (hL : zLay G) : Con_chr l G := by
  intro t j ht hj m
  refine zMetD (cc := cJ0_charAt_5068e) (maxL := 2) (ret := some .char) hL (by decide +kernel) rfl (Nat.le_of_ble_eq_true rfl) (fun C hF hQ hA hR hl hnm => ?_)
  subst hl
  have hts := hF.1.2.2.2.2
  show zX C 2 0 0 0 [(0, .ref (zaK G t)), (1, .int (nI j))] [] _
  refine zx_aload_n hF.1 0 dJ0_charAt_5068e_0 rfl ?_
  refine (fun H locs ls hP hS hl2 => va_calli (va_runV (As := []) (rest := []) hF.1 (C_J0_isLatin1 hL ht m) (bytes := cJ0_isLatin1_aae02) (maxL := 1) (n := 0) (cwV 0 hts gJ0_charAt_5068e_J0_isLatin1_aae02 rfl rfl rfl (by decide +kernel) (by rw [hR]; exact ⟨Nat.le_of_ble_eq_true rfl, Nat.le_of_ble_eq_true rfl⟩)) ⟨z_blind, z_recvS hF hS ht, z_preV hF hP hS⟩ rfl rfl hl2.1 rfl (lv_room (Nat.le_of_ble_eq_true rfl)) dJ0_charAt_5068e_1 ⟨Nat.zero_le _, Nat.zero_le _⟩) hS (fun q _ h => z_A1 hF q h) (z_A1 hF) (fun r m' t2 H1 locs1 ht2 hvm hp hB hz hk1 hS1 => ?_) : zX C 2 0 0 1 _ _ _)
  obtain ⟨e1, e2⟩ := hp
  subst e1
  subst e2
  refine (?_ : zX C 2 0 0 4 [(0, .ref (zaK G t)), (1, .int (nI j))] [.int 1] (zPic G m')) H1 locs1 ls (by rw [← ht2]; exact hB.1) hS1 hl2
  refine zx_if_eq hF.1 dJ0_charAt_5068e_4 (tgt := 16) (by decide) (fun q => absurd q (by decide)) (fun _ => ?_)
  refine zx_aload_n hF.1 0 dJ0_charAt_5068e_7 rfl ?_
  refine zs_get hF (hF.2.1.2.1.1 t ht).2.2.1 (List.mem_of_getElem? (i := 1) rfl) dJ0_charAt_5068e_8 ?_
  refine zx_iload_n hF.1 1 dJ0_charAt_5068e_11 rfl ?_
  refine zx_callSi (As := [.ref (zaV G t), .int (nI j)]) (rest := []) hF (C_J1_charAt hL ht hj m') (bytes := cJ1_charAt_3b067) (maxL := 2) (nn := 2) (va_cwS 2 hts gJ0_charAt_5068e_J1_charAt_3b067 rfl rfl rfl (by decide +kernel) (by rw [hR]; exact ⟨Nat.le_of_ble_eq_true rfl, Nat.le_of_ble_eq_true rfl⟩)) dJ0_charAt_5068e_12 rfl rfl (Nat.le_of_ble_eq_true rfl) ⟨Nat.zero_le _, Nat.zero_le _⟩ (fun r m3 hq => ?_)
  obtain ⟨e1, e2⟩ := hq
  subst e1
  subst e2
  exact zx_zret hF hQ (zs_t1 t ht j hj).2 dJ0_charAt_5068e_15 (zs_ret hF hA ⟨rfl, rfl⟩)
