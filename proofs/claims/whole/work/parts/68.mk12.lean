section ZGN
variable {C : zC} {G : zG} {cc : ByteArray} {nL : Nat} {Ts : List Cond} {own : String} {k n pc : Nat} {L : List (Nat × Value)} {rest : List Value} {m : zM}
theorem zx_getN (hF : zF C G cc nL Ts own) {c o idx : Nat} {CN host : String} {T : u_T} {N : Nat} (hk : zK G o = some (c, o)) (hc : c < 1000) (hcl : vwCl[c % 50]? = some (CN, T, N)) (hin : ∀ w ∈ u_ws CN T N, w ∈ Ts) (kk : Nat) (hkN : kk < N) (hlink : va_Nw (.fieldLinkNest own idx CN (T kk).2.1 (T kk).2.2.1 host) (zs C)) (hT : (T kk).1 = CN) {v : Value} (hv : (zfs c o m)[kk]? = some v) (hdg : decode cc pc = .ok (.getfield idx, 3))
    (K : zX C nL k n (pc + 3) L (v :: rest) (zPic G m)) : zX C nL k n pc L (.ref o :: rest) (zPic G m) := fun H locs ls hP hS hl =>
  va_getN (D := zD G) (cl := vwCl) (tys := ztys G) (ws := [(o, .inr (c % 50, zfs c o m))]) hF.1.1 hF.1.2.1 hF.1.2.2.2.2 hin hF.1.2.2.2.1 hF.2.1.1 (zsing (by have h := hP.2.1 o _ hk; rw [z_cellO hc] at h; exact h)) 0 rfl hcl kk hkN (va_Nw.use rfl hlink) (fun x hx => by rw [hT] at hx; exact hx) hv hdg (K H locs ls hP hS hl)
end ZGN
set_option maxRecDepth 100000 in
set_option maxHeartbeats 4000000 in
theorem C_X5_grid {l : Launch} {G : zG} (hL : zLay G) (f : Nat) (m : zM) (kf : zK G f = some (5, f)) {R4 : zM → Prop} (hRd : Con_X4_read l (zGx2 G 4) (fun r m3 => r = zsz G ∧ m3 = zGrM3 m f (zsz G)) (fun _ _ m4 => R4 m4)) (hU : ∀ m4, R4 m4 → zI m4 406 (zsz G) 0 = 0 → zWG m4 (zR m4 502 f) ∧ zbPP m4 (f + 1) ∧ zWG m4 (zR m4 3 (f + 1))) : Met l yX5_grid wsX5_grid rm_X5_grid (va_Pc [.ref f] (fun U => zW G m U ∧ zNs U)) (va_Qi (fun r (u : zM × zG) => zGrQ G m f R4 r u.1 u.2) (fun u t => zW u.2 u.1 t) (zA1 G)) 1 8 (zA1 G) := by
  refine zMetN (P := zPic G m) (G := G) (cc := cX5_grid) (maxL := 4) (ret := some .int) (by decide +kernel) rfl (Nat.le_of_ble_eq_true rfl) (zA1_b hL) (fun U h => ⟨h.1.1, h.1.2.2, h.2⟩) (fun C hN hQ hA hR hl hnm => ?_)
  subst hl
  have hF := zF_N hN hL hA
  have hts := hN.1.2.2.2.2
  have hin5 : ∀ w ∈ u_ws RX5 TX5 3, w ∈ wsX5_grid := fun w h => List.mem_cons_of_mem _ (List.mem_append_left _ (List.mem_append_left _ (List.mem_append_left _ (List.mem_append_left _ (List.mem_append_left _ (List.mem_append_right _ h))))))
  have hin0 : ∀ w ∈ u_ws RX0 TX0 10, w ∈ wsX5_grid := fun w h => List.mem_cons_of_mem _ (List.mem_append_left _ (List.mem_append_left _ (List.mem_append_left _ (List.mem_append_left _ (List.mem_append_right _ h)))))
  have hin4 : ∀ w ∈ u_ws RX4 TX4 8, w ∈ wsX5_grid := fun w h => List.mem_cons_of_mem _ (List.mem_append_left _ (List.mem_append_left _ (List.mem_append_left _ (List.mem_append_right _ h))))
  have hin2 : ∀ w ∈ u_ws RX2 TX2 8, w ∈ wsX5_grid := fun w h => List.mem_cons_of_mem _ (List.mem_append_left _ (List.mem_append_left _ (List.mem_append_right _ h)))
  have k1 := zL_5_1 hL kf
  have hL4 : zLay (zGx2 G 4) := zGx2_l hL (by decide) zlk_4
  have hret : ∀ {G1 : zG} {m' : zM} {r : Int32}, zF C G1 cX5_grid 4 wsX5_grid RX5 → zGrQ G m f R4 r m' G1 → zRet C G1 (va_Qi (fun r (u : zM × zG) => zGrQ G m f R4 r u.1 u.2) (fun u t => zW u.2 u.1 t) (zA1 G)) (some (.int r)) m' := fun {G1} {m'} {r} hF1 hq =>
    zRet_to hF1 (fun t hw hf => ⟨⟨r, (m', G1), rfl, hq, hw⟩, hf.1, by rw [← hA]; exact hf.2⟩)
  have hr9 : rm_X0_setFault.frames + 1 ≤ (zRm C).frames ∧ 8 + (3 + 11) + rm_X0_setFault.locals ≤ (zRm C).locals := by rw [hR]; exact ⟨Nat.le_of_ble_eq_true rfl, Nat.le_of_ble_eq_true rfl⟩
  show zX C 4 0 0 0 [(0, .ref f)] [] _
  refine zx_aload_n hN.1 0 dX5_grid_0 rfl ?_
  refine zx_get hF kf (by decide) rfl hin5 0 (by decide) (List.mem_of_getElem? (i := 1) rfl) rfl (v := .ref (f + 1)) rfl dX5_grid_1 ?_
  refine zx_get hF k1 (by decide) rfl hin0 2 (by decide) (List.mem_of_getElem? (i := 2) rfl) rfl (v := .int (zI m 2 (f + 1) 0)) rfl dX5_grid_4 ?_
  refine zx_istore_n hN.1 dX5_grid_7 (by decide) rfl ?_
  refine zx_aload_n hN.1 1 dX5_grid_8 rfl ?_
  refine zx_get hF kf (by decide) rfl hin5 0 (by decide) (List.mem_of_getElem? (i := 1) rfl) rfl (v := .ref (f + 1)) rfl dX5_grid_9 ?_
  refine zx_iconst hN.1 dX5_grid_12 (v := 0) (by decide) ?_
  refine zp_2 hF k1 hin0 (List.mem_of_getElem? (i := 2) rfl) dX5_grid_13 ?_
  refine zx_aload_n hN.1 1 dX5_grid_16 rfl ?_
  refine zx_get hF kf (by decide) rfl hin5 0 (by decide) (List.mem_of_getElem? (i := 1) rfl) rfl (v := .ref (f + 1)) rfl dX5_grid_17 ?_
  refine zx_iconst hN.1 dX5_grid_20 (v := 0) (by decide) ?_
  refine zx_iconst hN.1 dX5_grid_21 (v := -1) (by decide) ?_
  refine zx_callVv (As := [.int 0, .int (-1)]) (rest := []) hF (C_X0_setFault hL (f + 1) 0 (-1) _ k1 trivial) (bytes := cX0_setFault) (maxL := 3) (nn := 2) (cwV 2 hts gX5_grid_X0_setFault rfl rfl rfl (by decide +kernel) hr9) k1 (by decide) rfl dX5_grid_22 rfl rfl (Nat.le_of_ble_eq_true rfl) ⟨Nat.zero_le _, Nat.zero_le _⟩ (fun m' hq => ?_)
  have hq : m' = zGrM2 m f := hq
  subst hq
  refine zX_wt fun hwt2 => ?_
  refine zx_aload_n hN.1 1 dX5_grid_25 rfl ?_
  refine zx_get hF kf (by decide) rfl hin5 0 (by decide) (List.mem_of_getElem? (i := 1) rfl) rfl (v := .ref (f + 1)) rfl dX5_grid_26 ?_
  refine zx_get hF k1 (by decide) rfl hin0 9 (by decide) (List.mem_of_getElem? (i := 3) rfl) rfl (v := .int (zI m 9 (f + 1) 0)) rfl dX5_grid_29 ?_
  refine zx_if_eq hN.1 dX5_grid_32 (tgt := 38) (by decide) (fun h9 => ?_) (fun h9 => by
    refine zx_bipush hN.1 dX5_grid_35 (v := -2) (by decide) ?_
    exact zX_wd (Nat.zero_le _) (Nat.zero_le _) (zx_iret hF hQ dX5_grid_37 (hret hF (Or.inl ⟨h9, rfl, rfl, rfl⟩))))
  refine zX_mo ?_ (fun H h => zPic_N h)
  have hlt : ∀ q k, zK G q = some k → q < zsz G := fun q k hk => (hL.1.2 q k hk).2.2.1
  have Ef : ∀ {q c : Nat} (e : va_E), zK G q = some (c, q) → c < 1000 → zEu (zEg G (zGrM2 m f)) (zsz G) e q = some (.inr (c % 50, zfs c q (zGrM2 m f))) := fun {q} {c} e hk hc => by
    rw [zEu_n (Nat.ne_of_lt (hlt q _ hk))]
    unfold zEg
    rw [hk]
    show some (zcell G c q _) = _
    rw [z_cellO hc]
  refine zn_new (ci := 4) (fs := zdf 4) hN rfl hin4 tyX4_ok (List.mem_of_getElem? (i := 4) rfl) (List.mem_of_getElem? (i := 5) rfl) (List.mem_of_getElem? (i := 6) rfl) zdf_4 (by rw [hR]; exact Nat.le_of_ble_eq_true rfl) (by rw [hR]; exact Nat.le_of_ble_eq_true rfl) dX5_grid_38 ?_
  refine zx_dup hN.1 dX5_grid_41 rfl ?_
  refine zx_aload_n hN.1 1 dX5_grid_42 rfl ?_
  refine zn_get hN (Ef _ kf (by decide)) rfl hin5 0 (by decide) (List.mem_of_getElem? (i := 1) rfl) rfl (v := .ref (f + 1)) rfl dX5_grid_43 ?_
  refine zn_get hN (Ef _ k1 (by decide)) rfl hin0 1 (by decide) (List.mem_of_getElem? (i := 7) rfl) rfl (v := .ref (f + 1 + 1)) rfl dX5_grid_46 ?_
  refine zx_iload_n hN.1 0 dX5_grid_49 rfl ?_
  refine zx_aload_n hN.1 1 dX5_grid_50 rfl ?_
  refine zn_get hN (Ef _ kf (by decide)) rfl hin5 2 (by decide) (List.mem_of_getElem? (i := 8) rfl) rfl (v := .ref (zR m 502 f)) rfl dX5_grid_51 ?_
  refine zn_callR hN (cwI 3 hts gX5_grid_X4_init rfl rfl rfl (hts _ (List.mem_of_getElem? (i := 6) rfl)) (hts _ (List.mem_of_getElem? (i := 18) rfl)) (hts _ (List.mem_of_getElem? (i := 19) rfl)) rfl (by decide +kernel) (by rw [hR]; exact ⟨Nat.le_of_ble_eq_true rfl, Nat.le_of_ble_eq_true rfl⟩)) hL.1.1 (fun q h => by rw [hA]; exact Or.inr h) zEu_e dX5_grid_54 (Nat.le_of_ble_eq_true rfl) (by rw [hR]; exact ⟨Nat.le_of_ble_eq_true rfl, Nat.le_of_ble_eq_true rfl⟩) ?_
  have hF4 := zF_x hN hL4 hA
  have wt3 := zGrM3_wt hL kf hwt2
  have ka : zK (zGx2 G 4) (zsz G) = some (4, zsz G) := zGx2_i (i := 0) (k := (4, 0)) rfl
  have kf4 := zGx2_k (c := 4) hL kf
  have k14 := zGx2_k (c := 4) hL k1
  refine zX_mo (P' := zPic (zGx2 G 4) (zGrM3 m f (zsz G))) ?_ (fun H h => zPic_ext hL (fun q hq2 => zEu_n (Nat.ne_of_lt hq2)) (fun c' o ho => zGrM3_ag ho) wt3 (zNp_mo h rfl fun q e he => by
    by_cases hq : zsz G ≤ q
    · rw [if_pos hq] at he ⊢
      unfold zEl at he
      obtain ⟨k, hk1, hk2⟩ := Option.map_eq_some_iff.mp he
      have hq3 := zLy_lt (c := 4) (by decide) hk1
      have hz4 : zln 4 = 1 := rfl
      have hq4 : q = zsz G := by omega
      subst hq4
      rw [show zLy 4 (zsz G) (zsz G) = zLy 4 (zsz G) (zsz G + 0) from rfl, zLy_o] at hk1
      have hk3 : (4, zsz G) = k := Option.some.inj hk1
      rw [if_pos rfl, ← hk2, ← hk3]
      show _ = some (zcell G 4 (zsz G) _)
      rw [z_cellO (by decide), zGrM3_4]
    · rw [if_neg hq] at he ⊢
      exact he))
  refine zx_astore_n hN.1 (x := zsz G) dX5_grid_57 (by decide) rfl ?_
  refine zx_aload_n hN.1 0 dX5_grid_58 rfl ?_
  refine zx_callVv (As := []) (rest := []) hF4 (hRd (zsz G) _ ka ⟨rfl, rfl⟩) (bytes := cX4_read) (maxL := 2) (nn := 0) (cwV 0 hts gX5_grid_X4_read rfl rfl rfl (by decide +kernel) (by rw [hR]; exact ⟨Nat.le_of_ble_eq_true rfl, Nat.le_of_ble_eq_true rfl⟩)) ka (by decide) rfl dX5_grid_59 rfl rfl (Nat.le_of_ble_eq_true rfl) (by rw [hR]; exact ⟨Nat.le_of_ble_eq_true rfl, Nat.le_of_ble_eq_true rfl⟩) (fun m4 hR4 => ?_)
  refine zX_wt fun wt4 => ?_
  refine zx_aload_n hN.1 0 dX5_grid_62 rfl ?_
  have hns := hN.2.2.2.2.2.2.2.2.2
  refine zx_getN (host := "ClaimsFund") hF4 ka (by decide) rfl hin4 6 (by decide) hns.1 rfl (v := .int (zI m4 406 (zsz G) 0)) rfl dX5_grid_63 ?_
  refine zx_if_eq hN.1 dX5_grid_66 (tgt := 86) (by decide) (fun h0 => ?_) (fun h0 => by
    refine zx_aload_n hN.1 2 dX5_grid_69 rfl ?_
    refine zx_get hF4 kf4 (by decide) rfl hin5 0 (by decide) (List.mem_of_getElem? (i := 1) rfl) rfl (v := .ref (f + 1)) rfl dX5_grid_70 ?_
    refine zx_aload_n hN.1 0 dX5_grid_73 rfl ?_
    refine zx_getN (host := "ClaimsFund") hF4 ka (by decide) rfl hin4 6 (by decide) hns.1 rfl (v := .int (zI m4 406 (zsz G) 0)) rfl dX5_grid_74 ?_
    refine zx_aload_n hN.1 0 dX5_grid_77 rfl ?_
    refine zx_getN (host := "ClaimsFund") hF4 ka (by decide) rfl hin4 7 (by decide) hns.2 rfl (v := .int (zI m4 407 (zsz G) 0)) rfl dX5_grid_78 ?_
    refine zx_callVv (As := [.int (zI m4 406 (zsz G) 0), .int (zI m4 407 (zsz G) 0)]) (rest := []) hF4 (C_X0_setFault hL4 (f + 1) _ _ _ k14 trivial) (bytes := cX0_setFault) (maxL := 3) (nn := 2) (cwV 2 hts gX5_grid_X0_setFault rfl rfl rfl (by decide +kernel) hr9) k14 (by decide) rfl dX5_grid_81 rfl rfl (Nat.le_of_ble_eq_true rfl) (by rw [hR]; exact ⟨Nat.le_of_ble_eq_true rfl, Nat.le_of_ble_eq_true rfl⟩) (fun m' hq => ?_)
    refine zx_iconst hN.1 dX5_grid_84 (v := -1) (by decide) ?_
    exact zx_iret hF4 hQ dX5_grid_85 (hret hF4 (Or.inr ⟨h9, rfl, m4, hR4, Or.inl ⟨h0, rfl, hq⟩⟩)))
  obtain ⟨u1, u2, u3⟩ := hU m4 hR4 h0
  refine zx_aload_n hN.1 2 dX5_grid_86 rfl ?_
  refine zx_get hF4 kf4 (by decide) rfl hin5 0 (by decide) (List.mem_of_getElem? (i := 1) rfl) rfl (v := .ref (f + 1)) rfl dX5_grid_87 ?_
  refine zx_get hF4 k14 (by decide) rfl hin0 3 (by decide) (List.mem_of_getElem? (i := 9) rfl) rfl (v := .ref (zR m4 3 (f + 1))) rfl dX5_grid_90 ?_
  refine zx_astore_n hN.1 (x := zR m4 3 (f + 1)) dX5_grid_93 (by decide) rfl ?_
  refine zx_aload_n hN.1 3 dX5_grid_94 rfl ?_
  refine zx_get hF4 kf4 (by decide) rfl hin5 0 (by decide) (List.mem_of_getElem? (i := 1) rfl) rfl (v := .ref (f + 1)) rfl dX5_grid_95 ?_
  refine zx_aload_n hN.1 3 dX5_grid_98 rfl ?_
  refine zx_get hF4 kf4 (by decide) rfl hin5 2 (by decide) (List.mem_of_getElem? (i := 8) rfl) rfl (v := .ref (zR m4 502 f)) rfl dX5_grid_99 ?_
  refine zx_callVv (As := [.ref (zR m4 502 f)]) (rest := []) hF4 (C_X0_useRules hL4 (f + 1) (zR m4 502 f) m4 k14 (wt4.2.2.2 f kf4).1 ⟨u1, u2⟩) (bytes := cX0_useRules) (maxL := 6) (nn := 1) (cwV 1 hts gX5_grid_X0_useRules rfl rfl rfl (by decide +kernel) (by rw [hR]; exact ⟨Nat.le_of_ble_eq_true rfl, Nat.le_of_ble_eq_true rfl⟩)) k14 (by decide) rfl dX5_grid_102 rfl rfl (Nat.le_of_ble_eq_true rfl) (by rw [hR]; exact ⟨Nat.le_of_ble_eq_true rfl, Nat.le_of_ble_eq_true rfl⟩) (fun m5 hq5 => ?_)
  have hq5 : m5 = zbUR (zsR m4 3 (f + 1) (zR m4 502 f)) (f + 1) (zR m4 502 f) 16 := hq5
  refine zx_aload_n hN.1 3 dX5_grid_105 rfl ?_
  refine zx_get hF4 kf4 (by decide) rfl hin5 0 (by decide) (List.mem_of_getElem? (i := 1) rfl) rfl (v := .ref (f + 1)) rfl dX5_grid_106 ?_
  refine zx_callVi (As := []) (rest := []) hF4 (C_X0_holds hL4 (f + 1) m5 k14 trivial) (bytes := cX0_holds) (maxL := 7) (nn := 0) (cwV 0 hts gX5_grid_X0_holds rfl rfl rfl (by decide +kernel) (by rw [hR]; exact ⟨Nat.le_of_ble_eq_true rfl, Nat.le_of_ble_eq_true rfl⟩)) k14 (by decide) rfl dX5_grid_109 rfl rfl (Nat.le_of_ble_eq_true rfl) (by rw [hR]; exact ⟨Nat.le_of_ble_eq_true rfl, Nat.le_of_ble_eq_true rfl⟩) (fun r m5' hq6 => ?_)
  obtain ⟨e5, hB⟩ := hq6
  subst e5
  refine zX_wt fun wt5 => ?_
  have kb : zK (zGx2 G 4) (zR m4 3 (f + 1)) = some (2, zR m4 3 (f + 1)) := wt4.2.1 (f + 1) k14
  refine zx_if_ne hN.1 dX5_grid_112 (tgt := 126) (by decide) (fun hr => ?_) (fun hr => ?_)
  · have hH : zbH m5' (f + 1) := by
      rcases hB with ⟨_, h⟩ | ⟨h, _⟩
      · exact h
      · exact absurd h hr
    refine zx_aload_n hN.1 3 dX5_grid_126 rfl ?_
    refine zx_aload_n hN.1 0 dX5_grid_127 rfl ?_
    refine zp_502 hF4 kf4 hin5 (List.mem_of_getElem? (i := 8) rfl) kb dX5_grid_128 ?_
    refine zX_wt fun wt6 => ?_
    refine zx_aload_n hN.1 3 dX5_grid_131 rfl ?_
    refine zx_get hF4 kf4 (by decide) rfl hin5 0 (by decide) (List.mem_of_getElem? (i := 1) rfl) rfl (v := .ref (f + 1)) rfl dX5_grid_132 ?_
    refine zx_get hF4 k14 (by decide) rfl hin0 3 (by decide) (List.mem_of_getElem? (i := 9) rfl) rfl rfl dX5_grid_135 ?_
    refine zx_get hF4 (wt6.2.1 (f + 1) k14) (by decide) rfl hin2 0 (by decide) (List.mem_of_getElem? (i := 10) rfl) rfl rfl dX5_grid_138 ?_
    exact zx_iret hF4 hQ dX5_grid_141 (hret hF4 (Or.inr ⟨h9, rfl, m4, hR4, Or.inr ⟨h0, m5', hq5, Or.inl ⟨hH, rfl, rfl⟩⟩⟩))
  · have hH : ¬ zbH m5' (f + 1) := by
      rcases hB with ⟨h, _⟩ | ⟨_, h⟩
      · rw [h] at hr
        exact absurd hr (by decide)
      · exact h
    refine zx_aload_n hN.1 3 dX5_grid_115 rfl ?_
    refine zx_get hF4 kf4 (by decide) rfl hin5 0 (by decide) (List.mem_of_getElem? (i := 1) rfl) rfl (v := .ref (f + 1)) rfl dX5_grid_116 ?_
    refine zx_aload_n hN.1 0 dX5_grid_119 rfl ?_
    have v1 : zWG m5' (zR m4 3 (f + 1)) := by
      refine zWG_ext (m := m4) (fun g hg => funext fun j => ?_) u3
      rw [hq5, zbUR_f (by omega) (by omega)]
      rfl
    have v2 : zbPP m5' (f + 1) := fun c hc => by
      obtain ⟨a, ha, ea⟩ := u2 c hc
      refine ⟨a, ha, ?_⟩
      rw [hq5, zbUR_f (by decide) (by decide)]
      exact ea
    refine zx_callVv (As := [.ref (zR m4 3 (f + 1))]) (rest := []) hF4 (C_X0_useRules hL4 (f + 1) (zR m4 3 (f + 1)) m5' k14 kb ⟨v1, v2⟩) (bytes := cX0_useRules) (maxL := 6) (nn := 1) (cwV 1 hts gX5_grid_X0_useRules rfl rfl rfl (by decide +kernel) (by rw [hR]; exact ⟨Nat.le_of_ble_eq_true rfl, Nat.le_of_ble_eq_true rfl⟩)) k14 (by decide) rfl dX5_grid_120 rfl rfl (Nat.le_of_ble_eq_true rfl) (by rw [hR]; exact ⟨Nat.le_of_ble_eq_true rfl, Nat.le_of_ble_eq_true rfl⟩) (fun m' hq => ?_)
    refine zx_bipush hN.1 dX5_grid_123 (v := -2) (by decide) ?_
    exact zx_iret hF4 hQ dX5_grid_125 (hret hF4 (Or.inr ⟨h9, rfl, m4, hR4, Or.inr ⟨h0, m5', hq5, Or.inr ⟨hH, rfl, hq⟩⟩⟩))
