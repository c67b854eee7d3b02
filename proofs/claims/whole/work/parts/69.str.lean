/-! texts: length() and charAt() -/
section ZST
variable {C : zC} {G : zG} {cc : ByteArray} {nL : Nat} {Ts : List Cond} {own : String} {k n pc : Nat} {L : List (Nat × Value)} {rest : List Value} {m : zM}
theorem zS_b (hF : zF C G cc nL Ts own) {H : Heap} {locs : List Loc} (hS : va_S (zA C) (zs C).heap H locs) : va_S (fun q => zbs G ≤ q) (zs C).heap H locs := ⟨hS.1, fun q h1 h2 => hS.2.1 q h1 (fun z => h2 (hF.2.2.2.2 q z)), fun l hl => hF.2.2.2.2 _ (hS.2.2 l hl)⟩
theorem zs_get (hF : zF C G cc nL Ts own) {idx t : Nat} {nm d : String} {v : Value} (hE : va_OF "java/lang/String" nm d v (zaK G t) (fun q => zbs G ≤ q) (zs C) (zs C).heap) (hlink : Cond.fieldLink own idx "java/lang/String" nm d ∈ Ts) (hdg : decode cc pc = .ok (.getfield idx, 3))
    (K : zX C nL k n (pc + 3) L (v :: rest) (zPic G m)) : zX C nL k n pc L (.ref (zaK G t) :: rest) (zPic G m) := fun H locs ls hP hS hl =>
  vk_getf hF.1.1 hF.1.2.1 hE (zS_b hF hS) hF.1.2.2.2.1 (hF.1.2.2.2.2 _ hlink) (fun _ h => h) hdg (K H locs ls hP hS hl)
theorem zs_cs (hF : zF C G cc nL Ts own) {idx : Nat} (hlink : Cond.fieldLink own idx "java/lang/String" "COMPACT_STRINGS" "Z" ∈ Ts) (hdg : decode cc pc = .ok (.getstatic idx, 3))
    (K : zX C nL k n (pc + 3) L (.int 1 :: rest) (zPic G m)) : zX C nL k n pc L rest (zPic G m) := fun H locs ls hP hS hl =>
  va_gets hF.1.1 hF.1.2.1 hF.2.1.2.2.2.1 (zS_b hF hS) hF.1.2.2.2.1 (hF.1.2.2.2.2 _ hlink) (fun _ h => h) hdg (K H locs ls hP hS hl)
theorem zs_fm (hF : zF C G cc nL Ts own) {idx : Nat} (hlink : Cond.fieldLink own idx "jdk/internal/util/Preconditions" "SIOOBE_FORMATTER" "Ljava/util/function/BiFunction;" ∈ Ts) (hdg : decode cc pc = .ok (.getstatic idx, 3))
    (K : ∀ w : Option Nat, zX C nL k n (pc + 3) L (va_rf w :: rest) (zPic G m)) : zX C nL k n pc L rest (zPic G m) := by
  rcases hF.2.1.2.2.2.2 with h | ⟨t, h⟩
  · exact fun H locs ls hP hS hl => va_gets hF.1.1 hF.1.2.1 h (zS_b hF hS) hF.1.2.2.2.1 (hF.1.2.2.2.2 _ hlink) (fun _ h => h) hdg (K none H locs ls hP hS hl)
  · exact fun H locs ls hP hS hl => va_gets hF.1.1 hF.1.2.1 h (zS_b hF hS) hF.1.2.2.2.1 (hF.1.2.2.2.2 _ hlink) (fun _ h => h) hdg (K (some t) H locs ls hP hS hl)
theorem zs_len (hF : zF C G cc nL Ts own) {t : Nat} (ht : t < 13) (hdg : decode cc pc = .ok (.arraylength, 1))
    (K : zX C nL k n (pc + 1) L (.int (nI (zlens.getD t 0)) :: rest) (zPic G m)) : zX C nL k n pc L (.ref (zaV G t) :: rest) (zPic G m) := fun H locs ls hP hS hl =>
  va_tlen hF.1.1 hF.1.2.1 (hF.2.1.2.1.1 t ht).2.2.2 (zS_b hF hS) rfl hdg (K H locs ls hP hS hl)
theorem zs_bald (hF : zF C G cc nL Ts own) {t : Nat} {i : Int32} (ht : t < 13) (hin : vp_in i (zlens.getD t 0)) (hdg : decode cc pc = .ok (.baload, 1))
    (K : zX C nL k n (pc + 1) L (.int (zchr t i.toNatClampNeg) :: rest) (zPic G m)) : zX C nL k n pc L (.int i :: .ref (zaV G t) :: rest) (zPic G m) := fun H locs ls hP hS hl =>
  va_tb hF.1.1 hF.1.2.1 (hF.2.1.2.1.1 t ht).2.2.2 (zS_b hF hS) hin rfl hdg (K H locs ls hP hS hl)
theorem zs_i2c (hF : zF0 C cc nL Ts own) {P : Heap → Prop} {x v : Int32} (hdg : decode cc pc = .ok (.i2c, 1)) (hv : (x.toUInt32 % 65536).toInt32 = v)
    (K : zX C nL k n (pc + 1) L (.int v :: rest) P) : zX C nL k n pc L (.int x :: rest) P := fun H locs ls hP hS hl => lv_i2c hF.1 hF.2.1 hdg hv (K H locs ls hP hS hl)
end ZST
theorem zs_t1 : ∀ t, t < 13 → ∀ j, j < zlens.getD t 0 → ((zchr t j &&& 255).toUInt32 % 65536).toInt32 = zchr t j ∧ narrow .char (.int (zchr t j)) = .int (zchr t j) := by decide +kernel
theorem zs_t2 : ∀ t, t < 13 → zlens.getD t 0 ≤ 6 := by decide +kernel
theorem zs_ret {C : zC} {G : zG} {cc : ByteArray} {nL : Nat} {Ts : List Cond} {own : String} {m : zM} {post : Int32 → zM → Prop} (hF : zF C G cc nL Ts own) (hA : zA C = zdom G) {r : Int32} (h : post r m) : zRet C G (va_Qi post (fun m' U => zW G m' U) (zdom G)) (some (.int r)) m :=
  zRet_to hF (fun t hw hf => ⟨⟨r, m, rfl, h, hw⟩, hf.1, by rw [← hA]; exact hf.2⟩)
abbrev rm_J0_0 : Room := { frames := 0, cells := 0, slots := 0, locals := 0 }
theorem C_J0_coder {l : Launch} {G : zG} (hL : zLay G) {t : Nat} (ht : t < 13) (m : zM) : Met l yJ0_coder_7d493 wsJ0_coder_7d493 rm_J0_0 (va_Pc [.ref (zaK G t)] (fun U => zW G m U)) (va_Qi (fun r m' => m' = m ∧ r = 0) (fun m' U => zW G m' U) (zdom G)) 0 0 (zdom G) := by
  refine zMetD (cc := cJ0_coder_7d493) (maxL := 1) (ret := some .byte) hL (by decide +kernel) rfl (Nat.le_of_ble_eq_true rfl) (fun C hF hQ hA hR hl hnm => ?_)
  show zX C 1 0 0 0 [(0, .ref (zaK G t))] [] _
  refine zs_cs hF (List.mem_of_getElem? (i := 1) rfl) dJ0_coder_7d493_0 ?_
  refine zx_if_eq hF.1 dJ0_coder_7d493_3 (tgt := 13) (by decide) (fun q => absurd q (by decide)) (fun _ => ?_)
  refine zx_aload_n hF.1 0 dJ0_coder_7d493_6 rfl ?_
  refine zs_get hF (hF.2.1.2.1.1 t ht).2.1 (List.mem_of_getElem? (i := 2) rfl) dJ0_coder_7d493_7 ?_
  refine zx_goto hF.1 dJ0_coder_7d493_10 (tgt := 14) (by decide) ?_
  exact zx_zret hF hQ (by decide) dJ0_coder_7d493_14 (zs_ret hF hA ⟨rfl, rfl⟩)
theorem C_J0_isLatin1 {l : Launch} {G : zG} (hL : zLay G) {t : Nat} (ht : t < 13) (m : zM) : Met l yJ0_isLatin1_aae02 wsJ0_isLatin1_aae02 rm_J0_0 (va_Pc [.ref (zaK G t)] (fun U => zW G m U)) (va_Qi (fun r m' => m' = m ∧ r = 1) (fun m' U => zW G m' U) (zdom G)) 0 0 (zdom G) := by
  refine zMetD (cc := cJ0_isLatin1_aae02) (maxL := 1) (ret := some .boolean) hL (by decide +kernel) rfl (Nat.le_of_ble_eq_true rfl) (fun C hF hQ hA hR hl hnm => ?_)
  show zX C 1 0 0 0 [(0, .ref (zaK G t))] [] _
  refine zs_cs hF (List.mem_of_getElem? (i := 1) rfl) dJ0_isLatin1_aae02_0 ?_
  refine zx_if_eq hF.1 dJ0_isLatin1_aae02_3 (tgt := 17) (by decide) (fun q => absurd q (by decide)) (fun _ => ?_)
  refine zx_aload_n hF.1 0 dJ0_isLatin1_aae02_6 rfl ?_
  refine zs_get hF (hF.2.1.2.1.1 t ht).2.1 (List.mem_of_getElem? (i := 2) rfl) dJ0_isLatin1_aae02_7 ?_
  refine zx_if_ne hF.1 dJ0_isLatin1_aae02_10 (tgt := 17) (by decide) (fun q => absurd rfl q) (fun _ => ?_)
  refine zx_iconst hF.1 dJ0_isLatin1_aae02_13 (v := 1) (by decide) ?_
  refine zx_goto hF.1 dJ0_isLatin1_aae02_14 (tgt := 18) (by decide) ?_
  exact zx_zret hF hQ (by decide) dJ0_isLatin1_aae02_18 (zs_ret hF hA ⟨rfl, rfl⟩)
theorem C_len {l : Launch} {G : zG} (hL : zLay G) : Con_len l G := by
  intro t ht m
  refine zMetD (cc := cJ0_length_8abf5) (maxL := 1) (ret := some .int) hL (by decide +kernel) rfl (Nat.le_of_ble_eq_true rfl) (fun C hF hQ hA hR hl hnm => ?_)
  have hts := hF.1.2.2.2.2
  show zX C 1 0 0 0 [(0, .ref (zaK G t))] [] _
  refine zx_aload_n hF.1 0 dJ0_length_8abf5_0 rfl ?_
  refine zs_get hF (hF.2.1.2.1.1 t ht).2.2.1 (List.mem_of_getElem? (i := 1) rfl) dJ0_length_8abf5_1 ?_
  refine zs_len hF ht dJ0_length_8abf5_4 ?_
  refine zx_aload_n hF.1 0 dJ0_length_8abf5_5 rfl ?_
  refine (fun H locs ls hP hS hl2 => va_calli (va_runV (As := []) (rest := [.int (nI (zlens.getD t 0))]) hF.1 (C_J0_coder hL ht m) (bytes := cJ0_coder_7d493) (maxL := 1) (n := 0) (cwV 0 hts gJ0_length_8abf5_J0_coder_7d493 rfl rfl rfl (by decide +kernel) (by rw [hR]; exact ⟨Nat.le_of_ble_eq_true rfl, Nat.le_of_ble_eq_true rfl⟩)) ⟨z_blind, z_recvS hF hS ht, z_preV hF hP hS⟩ rfl rfl hl2.1 rfl (lv_room (Nat.le_of_ble_eq_true rfl)) dJ0_length_8abf5_6 ⟨Nat.zero_le _, Nat.zero_le _⟩) hS (fun q _ h => z_A1 hF q h) (z_A1 hF) (fun r m' t2 H1 locs1 ht2 hvm hp hB hz hk1 hS1 => ?_) : zX C 1 0 0 6 _ _ _)
  obtain ⟨e1, e2⟩ := hp
  subst e1
  subst e2
  refine (?_ : zX C 1 0 0 9 [(0, .ref (zaK G t))] [.int 0, .int (nI (zlens.getD t 0))] (zPic G m')) H1 locs1 ls (by rw [← ht2]; exact hB.1) hS1 hl2
  refine zx_ishr hF.1 dJ0_length_8abf5_9 ?_
  exact zx_iret hF hQ dJ0_length_8abf5_10 (zs_ret hF hA ⟨rfl, (by decide +kernel : ∀ t, t < 13 → nI (zlens.getD t 0) >>> ((0 : Int32) &&& 31) = nI (zlens.getD t 0)) t ht⟩)
