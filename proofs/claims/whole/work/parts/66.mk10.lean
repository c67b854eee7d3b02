section ZIMG
variable {C : zC} {G : zG} {cc : ByteArray} {nL : Nat} {Ts : List Cond} {own : String} {k n pc : Nat} {L : List (Nat × Value)} {rest st : List Value} {m : zM}
/-- a book into the row of images -/
theorem zx_img (hF : zF C G cc nL Ts own) {f v j : Nat} {i : Int32} (hk : zK G (f + 124) = some (1501, f)) (hv : zK G v = some (0, v)) (hin : vp_in i 3) (hj : i.toNatClampNeg = j) (hdg : decode cc pc = .ok (.aastore, 1))
    (K : zX C nL k n (pc + 1) L rest (zPic G (zsQ m 1501 f j (some v)))) : zX C nL k n pc L (.ref v :: .int i :: .ref (f + 124) :: rest) (zPic G m) := by
  subst hj
  intro H locs ls hP hS hl
  have hlt : i.toNatClampNeg < 3 := Nat.not_le.mp fun q => hin (Or.inr q)
  have h0 : ¬ i < 0 := fun q => hin (Or.inl q)
  have hV : va_at (zD G) vwCl (v, .inr (0, zfs 0 v m)) H := hP.2.1 v _ hv
  obtain ⟨r', hr', cellV, g1, g2, g3, -⟩ := hV
  have hcls := (hF.2.1.1.1 0 (RX0, TX0, 10) rfl).2
  obtain ⟨kA, comp, k1, k2, k3, -⟩ := (hF.2.1.1.2 4 (zcy G 4, .object "ClaimsFund$Book") rfl).2
  have hcomp : comp = (zD G).1 0 := Option.some.inj (k3.symm.trans hcls.1)
  subst hcomp
  obtain ⟨kC, hkC, -⟩ := hcls.2
  have hA : H[f + 124]? = some (vp_cell (zcy G 4) (3, .inr (.inr (.inr (.inr (zQ m 1501 f)))))) := hP.2.1 (f + 124) _ hk
  refine W.aast hF.1.1 hF.1.2.1 hA (fun q h => by cases h) (fun h => by cases h) k1 k2 rfl hkC ⟨h0, by show _ < (arrV _ _ _).slots.size; rw [arrV_size]; exact hlt⟩ g1 (fun q h => by rw [g3] at h; cases h) (by rw [g2]; exact hkC) (by rw [g2]; exact va_assign hcls) rfl rfl hdg fun H1 e z1 oq => ?_
  refine K H1 _ ls (zPic_upd hF.2.2.1 hP hk ?_ z1 oq (fun c' o' h => zag_sQ (h.imp (fun q => q) (fun q => q))) (zWT_img hP.2.2 hv)) (zS_kept hS z1 oq (hF.2.2.2.1 _ _ hk)) hl
  show H1[f + 124]? = some (vp_cell (zcy G 4) (3, Sum.inr (Sum.inr (Sum.inr (Sum.inr (zQ (zsQ m 1501 f i.toNatClampNeg (some v)) 1501 f))))))
  rw [e, vp_cell_q, vp_cell_q, arrV_store]
  congr 2
  funext q
  by_cases hq : q = i.toNatClampNeg
  · subst hq
    simp [updV, zQ_sQ, va_rf]
  · simp [updV, zQ_sQ, hq]
theorem zX_wt (h : zWT G m → zX C nL k n pc L st (zPic G m)) : zX C nL k n pc L st (zPic G m) := fun H locs ls hP hS hl => h hP.2.2 H locs ls hP hS hl
end ZIMG
theorem nar_b1 : narrow .boolean (.int 1) = .int 1 := by decide
theorem nar_b0 : narrow .boolean (.int 0) = .int 0 := by decide
set_option maxRecDepth 100000 in
set_option maxHeartbeats 4000000 in
theorem C_X5_image {l : Launch} {G : zG} (hL : zLay G) (f : Nat) (x : Int32) (m : zM) (kf : zK G f = some (5, f)) (h9 : zI m 9 (f + 1) 0 = 0 ∨ zI m 9 (f + 1) 0 = 1) (hd : ∀ k b2, k < 3 → zQ m 1501 f k = some b2 → b2 ≠ f + 1) : Met l yX5_image wsX5_image rm_X5_image (va_Pc [.ref f, .int x] (fun U => zW G m U ∧ zNs U)) (va_Qi (fun r (u : zM × zG) => zImQ G m f x r u.1 u.2) (fun u t => zW u.2 u.1 t) (zA1 G)) 123 1378 (zA1 G) := by
  refine zMetN (P := zPic G m) (G := G) (cc := cX5_image) (maxL := 3) (ret := some .boolean) (by decide +kernel) rfl (Nat.le_of_ble_eq_true rfl) (zA1_b hL) (fun U h => ⟨h.1.1, h.1.2.2, h.2⟩) (fun C hN hQ hA hR hl hnm => ?_)
  have hF := zF_N hN hL hA
  have hts := hN.1.2.2.2.2
  have hin5 : ∀ w ∈ u_ws RX5 TX5 3, w ∈ wsX5_image := fun w h => List.mem_cons_of_mem _ (List.mem_append_left _ (List.mem_append_left _ (List.mem_append_left _ (List.mem_append_left _ (List.mem_append_right _ h)))))
  have hin0 : ∀ w ∈ u_ws RX0 TX0 10, w ∈ wsX5_image := fun w h => List.mem_cons_of_mem _ (List.mem_append_left _ (List.mem_append_left _ (List.mem_append_left _ (List.mem_append_right _ h))))
  have k1 := zL_5_1 hL kf
  have k124 := zL_5_124 hL kf
  have hL0 : zLay (zGx2 G 0) := zGx2_l hL (by decide) zlk_0
  have hflt : f < zsz G := (hL.1.2 f _ kf).2.2.1
  have hret : ∀ {G1 : zG} {m' : zM} {r : Int32}, zF C G1 cX5_image 3 wsX5_image RX5 → zImQ G m f x r m' G1 → zRet C G1 (va_Qi (fun r (u : zM × zG) => zImQ G m f x r u.1 u.2) (fun u t => zW u.2 u.1 t) (zA1 G)) (some (.int r)) m' := fun {G1} {m'} {r} hF1 hq =>
    zRet_to hF1 (fun t hw hf => ⟨⟨r, (m', G1), rfl, hq, hw⟩, hf.1, by rw [← hA]; exact hf.2⟩)
  have key : ∀ (k b2 : Nat) (m1 : zM) (G1 : zG), k < 3 → x = nI k → zImP G m f k b2 m1 G1 → zF C G1 cX5_image 3 wsX5_image RX5 → zK G1 b2 = some (0, b2) → zK G1 f = some (5, f) → b2 ≠ f + 1 → (zI m1 9 (f + 1) 0 = 0 ∨ zI m1 9 (f + 1) 0 = 1) → zX C 3 123 1378 37 [(2, .ref b2), (0, .ref f), (1, .int x)] [] (zPic G1 m1) := by
    intro k b2 m1 G1 hk hx hp hF1 kb kf1 hne h91
    refine zx_aload_n hN.1 0 dX5_image_37 rfl ?_
    refine zx_aload_n hN.1 1 dX5_image_38 rfl ?_
    refine zx_get hF1 kf1 (by decide) rfl hin5 0 (by decide) (List.mem_of_getElem? (i := 5) rfl) rfl (v := .ref (f + 1)) rfl dX5_image_39 ?_
    refine zx_callVv (As := [.ref (f + 1)]) (rest := []) hF1 (C_X0_copyFrom hF1.2.2.1 b2 (f + 1) m1 kb (zL_5_1 hF1.2.2.1 kf1) ⟨hne, h91⟩) (bytes := cX0_copyFrom) (maxL := 3) (nn := 1) (cwV 1 hts gX5_image_X0_copyFrom rfl rfl rfl (by decide +kernel) (by rw [hR]; exact ⟨Nat.le_of_ble_eq_true rfl, Nat.le_of_ble_eq_true rfl⟩)) kb (by decide) rfl dX5_image_42 rfl rfl (Nat.le_of_ble_eq_true rfl) (by rw [hR]; exact ⟨Nat.le_of_ble_eq_true rfl, Nat.le_of_ble_eq_true rfl⟩) (fun m' hq => ?_)
    refine zx_iconst hN.1 dX5_image_45 (v := 1) (by decide) ?_
    exact zx_zret hF1 hQ nar_b1 dX5_image_46 (hret hF1 (Or.inr ⟨k, b2, m1, hk, hx, hp, rfl, hq⟩))
  have bad : ¬ (∃ k, k < 3 ∧ x = nI k) → zX C 3 0 0 9 [(0, .ref f), (1, .int x)] [] (zPic G m) := fun hx => by
    refine zx_iconst hN.1 dX5_image_9 (v := 0) (by decide) ?_
    exact zX_wd (Nat.zero_le _) (Nat.zero_le _) (zx_zret hF hQ nar_b0 dX5_image_10 (hret hF (Or.inl ⟨hx, rfl, rfl, rfl⟩)))
  show zX C 3 0 0 0 [(0, .ref f), (1, .int x)] [] _
  refine zx_iload_n hN.1 1 dX5_image_0 rfl ?_
  refine zx_if_lt hN.1 dX5_image_1 (tgt := 9) (by decide) (fun hx => bad ?_) (fun hx0 => ?_)
  · rintro ⟨k, hk, rfl⟩
    exact absurd hx (by rcases (show k = 0 ∨ k = 1 ∨ k = 2 by omega) with rfl | rfl | rfl <;> decide)
  refine zx_iload_n hN.1 1 dX5_image_4 rfl ?_
  refine zx_iconst hN.1 dX5_image_5 (v := 3) (by decide) ?_
  refine zx_icmp_lt hN.1 dX5_image_6 (tgt := 11) (by decide) (fun hx3 => ?_) (fun hx => bad (by
    rintro ⟨k, hk, rfl⟩
    exact absurd (by rcases (show k = 0 ∨ k = 1 ∨ k = 2 by omega) with rfl | rfl | rfl <;> decide) hx))
  obtain ⟨k, hk, rfl⟩ : ∃ k, k < 3 ∧ x = nI k := by
    refine ⟨x.toNatClampNeg, ?_, ?_⟩
    · have h1 : x.toInt < 3 := Int32.lt_iff_toInt_lt.mp hx3
      have h2 : 0 ≤ x.toInt := Int.not_lt.mp (fun h => hx0 (Int32.lt_iff_toInt_lt.mpr h))
      have : x.toNatClampNeg = x.toInt.toNat := rfl
      omega
    · have h1 : x.toInt < 3 := Int32.lt_iff_toInt_lt.mp hx3
      have h2 : 0 ≤ x.toInt := Int.not_lt.mp (fun h => hx0 (Int32.lt_iff_toInt_lt.mpr h))
      refine Int32.toInt_inj.mp ?_
      have e : x.toNatClampNeg = x.toInt.toNat := rfl
      rw [nI_toInt (by omega), e, Int.toNat_of_nonneg h2]
  refine zx_aload_n hN.1 0 dX5_image_11 rfl ?_
  refine zx_get hF kf (by decide) rfl hin5 1 (by decide) (List.mem_of_getElem? (i := 1) rfl) rfl (v := .ref (f + 124)) rfl dX5_image_12 ?_
  refine zx_iload_n hN.1 1 dX5_image_15 rfl ?_
  refine zx_aaldQ (t := 4) (N := 3) (j := k) hF k124 (by decide) rfl (Or.inl rfl) (by decide) rfl rfl (vp_in_nI hk (by decide)) (nI_clamp (by omega)) dX5_image_16 ?_
  cases hq : zQ m 1501 f k with
  | some b2 =>
    refine zX_wt fun hwt => ?_
    refine zx_astore_n hN.1 (x := b2) dX5_image_17 (by decide) rfl ?_
    refine zx_aload_n hN.1 0 dX5_image_18 rfl ?_
    refine zx_ifnonnull hN.1 dX5_image_19 (tgt := 37) (by decide) ?_
    exact zX_wd (Nat.zero_le _) (Nat.zero_le _) (key k b2 m G hk rfl (Or.inl ⟨hq, rfl, rfl⟩) hF ((hwt.2.2.2 f kf).2 k b2 hk hq) kf (hd k b2 hk hq) h9)
  | none =>
    refine zX_wt fun hwt => ?_
    refine zx_astore_nN hN.1 dX5_image_17 (by decide) rfl ?_
    refine zx_aload_nN hN.1 0 dX5_image_18 rfl ?_
    refine zx_ifnonnullN hN.1 dX5_image_19 ?_
    refine zX_mo ?_ (fun H h => zPic_N h)
    refine zn_new (ci := 0) (fs := zdf 0) hN rfl hin0 tyX0_ok (List.mem_of_getElem? (i := 2) rfl) (List.mem_of_getElem? (i := 3) rfl) (List.mem_of_getElem? (i := 4) rfl) zdf_0 (by rw [hR]; exact Nat.le_of_ble_eq_true rfl) (by rw [hR]; exact Nat.le_of_ble_eq_true rfl) dX5_image_22 ?_
    refine zx_dup hN.1 dX5_image_25 rfl ?_
    refine zn_callI (bytes := cX0_init) (maxL := 2) (m := zM0 m (zsz G)) hN C_X0_init (cwI 0 hts gX5_image_X0_init rfl rfl rfl (hts _ (List.mem_of_getElem? (i := 4) rfl)) (hts _ (List.mem_of_getElem? (i := 6) rfl)) (hts _ (List.mem_of_getElem? (i := 7) rfl)) rfl (by decide +kernel) (by rw [hR]; exact ⟨Nat.le_of_ble_eq_true rfl, Nat.le_of_ble_eq_true rfl⟩)) hL.1.1 zM0_ini (fun q h => by rw [hA]; exact Or.inr h) zEu_e dX5_image_26 (Nat.le_of_ble_eq_true rfl) (by rw [hR]; exact ⟨Nat.le_of_ble_eq_true rfl, Nat.le_of_ble_eq_true rfl⟩) ?_
    have hF0 := zF_x hN hL0 hA
    refine zX_mo (P' := zPic (zGx2 G 0) (zM0 m (zsz G))) ?_ (fun H h => zPic_ext hL (fun q hq2 => zEu_n (by omega)) (fun c' o ho => zM0_ag ho) (zWT_M0 hL hwt zlw_0) h)
    have kz : zK (zGx2 G 0) (zsz G) = some (0, zsz G) := zGx2_i (i := 0) (k := (0, 0)) rfl
    refine zx_astore_n hN.1 (x := zsz G) dX5_image_29 (by decide) rfl ?_
    refine zx_aload_n hN.1 1 dX5_image_30 rfl ?_
    refine zx_get hF0 (zGx2_k hL kf) (by decide) rfl hin5 1 (by decide) (List.mem_of_getElem? (i := 1) rfl) rfl (v := .ref (f + 124)) rfl dX5_image_31 ?_
    refine zx_iload_n hN.1 2 dX5_image_34 rfl ?_
    refine zx_aload_n hN.1 0 dX5_image_35 rfl ?_
    refine zx_img (j := k) hF0 (zGx2_k hL k124) kz (vp_in_nI hk (by decide)) (nI_clamp (by omega)) dX5_image_36 ?_
    exact key k (zsz G) _ (zGx2 G 0) hk rfl (Or.inr ⟨hq, rfl, rfl, rfl⟩) hF0 kz (zGx2_k hL kf) (by have := (hL.1.2 _ _ k1).2.2.1; omega) (by rw [zI_sQ, zM0_I, if_pos (hL.1.2 _ _ k1).2.2.1]; exact h9)
