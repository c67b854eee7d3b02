set_option maxRecDepth 100000 in
set_option maxHeartbeats 4000000 in
theorem lc_grid {C : zC} {Gc Gr : zG} {mc mr : zM} {f o b N i k n : Nat} {xs : Nat → Int32} (hv : zLv C Gc Gr mc mr f o) (hs : zSp9 C b N xs) (hi : i + 6 ≤ N) (hR : zRm C = room_1) (hk : k + 123 ≤ 600000 ∧ n + 1378 ≤ 7302250) (K : ∀ Gc' Gr' mc' mr', zLv C Gc' Gr' mc' mr' f o → zX C 4 (k + 123) (n + 1378) 939 (zLL f o b i) [] (zl2 Gc' Gr' mc' mr')) : zX C 4 k n 279 (zLL f o b i) [] (zl2 Gc Gr mc mr) := by
  have hF0 := hv.1
  have hFc := zLv_c hv
  have hFr := zLv_r hv
  have hts := hF0.2.2.2.2
  have hLc := hv.2.2.2.2.1
  have hLr := hv.2.2.2.2.2.1
  have hDj := hv.2.2.2.2.2.2.1
  have kf := hv.2.2.2.2.2.2.2.1
  have ko := hv.2.2.2.2.2.2.2.2.1
  have h := hv.2.2.2.2.2.2.2.2.2.1
  have hkk : k ≤ (zRm C).cells ∧ n ≤ (zRm C).slots := by rw [hR]; exact ⟨by show k ≤ 600000; omega, by show n ≤ 7302250; omega⟩
  refine zl2_wt fun hwt => ?_
  have ha := fund_end hLc h hwt kf
  have hb2 := img_end hLc (f := f) hwt kf
  have hL4 : zLay (zGx2 Gc 4) := zGx2_l hLc (by decide) zlk_4
  obtain ⟨m0, g1, g2, g3, g4, g5⟩ := grid_pre h ha
  have hRd : Con_X4_read (zl C) (zGx2 Gc 4) (fun r m3 => r = zsz Gc ∧ m3 = zGrM3 mc f (zsz Gc)) (fun _ _ m4 => zRdQ (zGrM3 mc f (zsz Gc)) m4 (zsz Gc) o (zRgX mr o)) := by
    intro a0 m3 ka hp
    obtain ⟨rfl, rfl⟩ := hp
    exact C_X4_read (C_len hL4) (C_chr hL4) hL4 (zRgB mr o) o m0 (zsz Gc) (zGrM3 mc f (zsz Gc)) ka ⟨g1, g2, g3, g4, g5⟩
  refine zx_aload_n hF0 2 dL_law_279 rfl ?_
  refine zl_callVm (As := []) (rest := []) hFc hv.2.2.2.1 (zLv_A hv) hDj (C_X5_grid hLc f mc kf hRd (fun m4 hq _ => grid_use h ha hq)) (bytes := cX5_grid) (maxL := 4) (nn := 0) (cwV 0 hts nL_X5_grid rfl rfl rfl (by decide +kernel) (by rw [hR]; exact ⟨Nat.le_of_ble_eq_true rfl, Nat.le_of_ble_eq_true rfl⟩)) kf (by decide) rfl dL_law_280 rfl rfl (Nat.le_of_ble_eq_true rfl) (by rw [hR]; exact ⟨by show k + 1 ≤ 600000; omega, by show n + 8 ≤ 7302250; omega⟩) (fun r m' G' hp hL' => ?_)
  have hG : G' = Gc ∨ ∃ c, c < 7 ∧ G' = zGx2 Gc c := by
    rcases hp with ⟨_, _, _, e⟩ | ⟨_, e, _⟩
    · exact Or.inl e
    · exact Or.inr ⟨4, by decide, e⟩
  have hv2 := zLv_x hv hG hL'
  refine zx_aload_n hF0 1 dL_law_283 rfl ?_
  refine zX_mo ?_ (fun H h => h.symm)
  refine zl_callVi (As := []) (rest := [.int r]) (zLv_r hv2) hv2.2.2.2.2.2.2.1.sy (C_X6_grid2 hv2.2.2.2.2.2.1 o mr ko ⟨zSq_C h.1.1, h.1.1.1.2.2.1.2⟩) (bytes := cX6_grid) (maxL := 2) (nn := 0) (cwV 0 hts nL_X6_grid rfl rfl rfl (by decide +kernel) (by rw [hR]; exact ⟨Nat.le_of_ble_eq_true rfl, Nat.le_of_ble_eq_true rfl⟩)) ko (by decide) rfl dL_law_284 rfl rfl (Nat.le_of_ble_eq_true rfl) (by rw [hR]; exact ⟨by show k + 1 ≤ 600000; omega, by show n + 8 ≤ 7302250; omega⟩) (fun r2 m2 hp2 => ?_)
  obtain ⟨er, hT⟩ := sim_grid h ha hb2 hp hp2.1 hp2.2
  exact zx_icmp_eq hF0 dL_law_287 (tgt := 939) (by decide) (fun _ => (zX_wd (by omega) (by omega) (zX_mo (K G' _ _ _ (zLv_t hv2 hT)) (fun H h => h.symm)))) (fun ne => absurd er ne)
theorem sim_image {Gc : zG} {mc mr : zM} {f o : Nat} (h : zTot mc mr f o) (ha : f + 133 ≤ zsz Gc) (hb2 : ∀ k b2, k < 3 → zQ mc 1501 f k = some b2 → b2 + 123 ≤ zsz Gc) {x r r2 : Int32} {m' m2 : zM} {G' : zG} (hp : zImQ Gc mc f x r m' G') (hp2 : (∃ k, k < 3 ∧ x = nI k ∧ r2 = 1 ∧ m2 = zsI (zcpS zFI zFJ (zc0 mr o) o 0 (k + 1)) 1649 o k 1) ∨ (¬ zk3 x ∧ r2 = 0 ∧ m2 = zc0 mr o)) : r = r2 ∧ zTot m' m2 f o := by
  have h3 : ∀ k, k < 3 → zk3 (nI k) := fun k hk => by
    rcases (show k = 0 ∨ k = 1 ∨ k = 2 by omega) with rfl | rfl | rfl <;> exact ⟨by decide, by decide⟩
  rcases hp with ⟨hx, rfl, rfl, -⟩ | ⟨k, b2, m1, hk, rfl, him, rfl, rfl⟩
  · rcases hp2 with ⟨k, hk, e, -⟩ | ⟨-, rfl, rfl⟩
    · exact absurd ⟨k, hk, e⟩ hx
    · exact ⟨rfl, zTot_0 h⟩
  · rcases hp2 with ⟨k2, hk2, e, rfl, rfl⟩ | ⟨n3, -⟩
    · have ek : k = k2 := by
        have := congrArg Int32.toNatClampNeg e
        rw [nI_clamp (by omega), nI_clamp (by omega)] at this
        exact this
      subst ek
      refine ⟨rfl, ?_⟩
      rcases him with ⟨hq, rfl, -⟩ | ⟨hq, rfl, rfl, -⟩
      · obtain ⟨i1, i2, i3, i4⟩ := img_9 h k b2 hk hq
        exact sim_image1 h hk (fun _ _ _ _ => ⟨rfl, rfl⟩) ⟨rfl, rfl⟩ hq (fun _ _ _ => rfl) (fun k' b3 a1 a2 a3 => ⟨i4 k' b3 a1 a2 a3, rfl, fun _ _ _ _ _ => ⟨rfl, rfl⟩⟩) i2 i1
      · refine sim_image1 h hk (fun g a j hlt => ⟨?_, ?_⟩) ⟨?_, ?_⟩ ?_ (fun k' a1 a2 => ?_) (fun k' b3 a1 a2 a3 => ⟨Or.inr (hb2 k' b3 a1 a3), ?_, fun g a j x1 x2 => ⟨?_, ?_⟩⟩) ?_ ha
        · rw [zI_sQ, zM0_I, if_pos (by omega)]
        · rw [zJ_sQ, zM0_J, if_pos (by omega)]
        · rw [zR_sQ, zM0_R, if_pos (by omega)]
        · rw [zR_sQ, zM0_R, if_pos (by omega)]
        · rw [zQ_sQ, if_pos ⟨rfl, rfl, rfl⟩]
        · rw [zQ_sQ, if_neg (fun z => a2 z.2.2), zM0_Q, if_pos (by omega)]
        · have := hb2 k' b3 a1 a3
          rw [zR_sQ, zM0_R, if_pos (by omega)]
        · have := hb2 k' b3 a1 a3
          rw [zI_sQ, zM0_I, if_pos (by omega)]
        · have := hb2 k' b3 a1 a3
          rw [zJ_sQ, zM0_J, if_pos (by omega)]
        · rw [zR_sQ, zM0_R, if_neg (by omega), if_pos rfl]
    · exact absurd (h3 k hk) n3
set_option maxRecDepth 100000 in
set_option maxHeartbeats 4000000 in
theorem lc_image {C : zC} {Gc Gr : zG} {mc mr : zM} {f o b N i k n : Nat} {xs : Nat → Int32} (hv : zLv C Gc Gr mc mr f o) (hs : zSp9 C b N xs) (hi : i + 6 ≤ N) (hR : zRm C = room_1) (hk : k + 123 ≤ 600000 ∧ n + 1378 ≤ 7302250) (K : ∀ Gc' Gr' mc' mr', zLv C Gc' Gr' mc' mr' f o → zX C 4 (k + 123) (n + 1378) 939 (zLL f o b i) [] (zl2 Gc' Gr' mc' mr')) : zX C 4 k n 893 (zLL f o b i) [] (zl2 Gc Gr mc mr) := by
  have hF0 := hv.1
  have hFc := zLv_c hv
  have hFr := zLv_r hv
  have hts := hF0.2.2.2.2
  have hLc := hv.2.2.2.2.1
  have hLr := hv.2.2.2.2.2.1
  have hDj := hv.2.2.2.2.2.2.1
  have kf := hv.2.2.2.2.2.2.2.1
  have ko := hv.2.2.2.2.2.2.2.2.1
  have h := hv.2.2.2.2.2.2.2.2.2.1
  have hkk : k ≤ (zRm C).cells ∧ n ≤ (zRm C).slots := by rw [hR]; exact ⟨by show k ≤ 600000; omega, by show n ≤ 7302250; omega⟩
  refine zl2_wt fun hwt => ?_
  have ha := fund_end hLc h hwt kf
  have hb2 := img_end hLc (f := f) hwt kf
  refine zx_aload_n hF0 2 dL_law_893 rfl ?_
  refine zl_arg (c := 1) hF0 hs hi (by decide) rfl dL_law_894 dL_law_895 dL_law_896 dL_law_897 dL_law_898 ?_
  refine zl_callVm (As := [.int (xs (i + 1))]) (rest := []) hFc hv.2.2.2.1 (zLv_A hv) hDj (C_X5_image hLc f (xs (i + 1)) mc kf (by
    obtain ⟨a1, a2⟩ := h.1.1.1.2.2.2.2.2.2.2
    rw [a1]
    exact a2) (fun k2 b2 hk2 hq => by have := (img_9 h k2 b2 hk2 hq).1; omega)) (bytes := cX5_image) (maxL := 3) (nn := 1) (cwV 1 hts nL_X5_image rfl rfl rfl (by decide +kernel) (by rw [hR]; exact ⟨Nat.le_of_ble_eq_true rfl, Nat.le_of_ble_eq_true rfl⟩)) kf (by decide) rfl dL_law_899 rfl rfl (Nat.le_of_ble_eq_true rfl) (by rw [hR]; exact ⟨by show k + 123 ≤ 600000; omega, by show n + 1378 ≤ 7302250; omega⟩) (fun r m' G' hp hL' => ?_)
  have hG : G' = Gc ∨ ∃ c, c < 7 ∧ G' = zGx2 Gc c := by
    rcases hp with ⟨_, _, _, e⟩ | ⟨k2, b2, m1, _, _, him, _⟩
    · exact Or.inl e
    · rcases him with ⟨_, _, e⟩ | ⟨_, _, _, e⟩
      · exact Or.inl e
      · exact Or.inr ⟨0, by decide, e⟩
  have hv2 := zLv_x hv hG hL'
  refine zx_aload_n hF0 1 dL_law_902 rfl ?_
  refine zl_arg (c := 1) hF0 hs hi (by decide) rfl dL_law_903 dL_law_904 dL_law_905 dL_law_906 dL_law_907 ?_
  refine zX_mo ?_ (fun H h => h.symm)
  refine zl_callVi (As := [.int (xs (i + 1))]) (rest := [.int r]) (zLv_r hv2) hv2.2.2.2.2.2.2.1.sy (C_X6_image hv2.2.2.2.2.2.1 o (xs (i + 1)) mr ko h.2.2.2.2) (bytes := cX6_image) (maxL := 2) (nn := 1) (cwV 1 hts nL_X6_image rfl rfl rfl (by decide +kernel) (by rw [hR]; exact ⟨Nat.le_of_ble_eq_true rfl, Nat.le_of_ble_eq_true rfl⟩)) ko (by decide) rfl dL_law_908 rfl rfl (Nat.le_of_ble_eq_true rfl) (by rw [hR]; exact ⟨by show k + 123 ≤ 600000; omega, by show n + 1378 ≤ 7302250; omega⟩) (fun r2 m2 hp2 => ?_)
  obtain ⟨er, hT⟩ := sim_image h ha hb2 hp hp2
  exact zx_icmp_eq hF0 dL_law_911 (tgt := 939) (by decide) (fun _ => (zX_wd (Nat.le_refl _) (Nat.le_refl _) (zX_mo (K G' _ _ _ (zLv_t hv2 hT)) (fun H h => h.symm)))) (fun ne => absurd er ne)
