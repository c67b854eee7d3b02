/-! the law's loop -/
theorem n6_lt {N i : Nat} (hN : N ≤ 3072) (hi : i ≤ 3078) (h : ¬ nI N - 6 < nI i) : i + 6 ≤ N := by
  by_cases h6 : 6 ≤ N
  · have e : nI N - 6 = nI (N - 6) := by
      have e1 : nI N = nI (N - 6) + 6 := by
        rw [show (6 : Int32) = nI 6 from rfl, nI_add, show N - 6 + 6 = N by omega]
      rw [e1]
      exact Int32.add_sub_cancel _ _
    rw [e, nI_ltI (by omega) (by omega)] at h
    omega
  · exfalso
    apply h
    rw [Int32.lt_iff_toInt_lt, nI_toInt (by omega)]
    rcases (show N = 0 ∨ N = 1 ∨ N = 2 ∨ N = 3 ∨ N = 4 ∨ N = 5 by omega) with rfl | rfl | rfl | rfl | rfl | rfl
    · have : (nI 0 - 6).toInt = -6 := by decide
      omega
    · have : (nI 1 - 6).toInt = -5 := by decide
      omega
    · have : (nI 2 - 6).toInt = -4 := by decide
      omega
    · have : (nI 3 - 6).toInt = -3 := by decide
      omega
    · have : (nI 4 - 6).toInt = -2 := by decide
      omega
    · have : (nI 5 - 6).toInt = -1 := by decide
      omega
set_option maxRecDepth 100000 in
set_option maxHeartbeats 8000000 in
theorem law_body {C : zC} {Gc Gr : zG} {mc mr : zM} {f o b N i k n : Nat} {xs : Nat → Int32} (hv : zLv C Gc Gr mc mr f o) (hs : zSp9 C b N xs) (hi : i + 6 ≤ N) (hR : zRm C = room_1) (hk : k + 123 ≤ 600000 ∧ n + 1378 ≤ 7302250) (K : ∀ Gc' Gr' mc' mr', zLv C Gc' Gr' mc' mr' f o → zX C 4 (k + 123) (n + 1378) 939 (zLL f o b i) [] (zl2 Gc' Gr' mc' mr')) : zX C 4 k n 27 (zLL f o b i) [] (zl2 Gc Gr mc mr) := by
  have hF0 := hv.1
  refine zx_aload_n hF0 3 dL_law_27 rfl ?_
  refine zx_iload_n hF0 0 dL_law_28 rfl ?_
  refine zl_sld hF0 hs (by omega) dL_law_29 ?_
  refine zx_bipush hF0 dL_law_30 (v := 31) (by decide) ?_
  refine zx_iand hF0 dL_law_32 ?_
  generalize xs i &&& 31 = v
  by_cases h0 : v = nI 0
  · rw [h0]
    exact zx_tabIn hF0 dL_law_33 (tgt := 140) (off := 107) (by decide) (by decide) (by decide) (by decide) (lc_fund hv hs hi hR hk K)
  by_cases h1 : v = nI 1
  · rw [h1]
    exact zx_tabIn hF0 dL_law_33 (tgt := 193) (off := 160) (by decide) (by decide) (by decide) (by decide) (lc_feed hv hs hi hR hk K)
  by_cases h2 : v = nI 2
  · rw [h2]
    exact zx_tabIn hF0 dL_law_33 (tgt := 256) (off := 223) (by decide) (by decide) (by decide) (by decide) (lc_end hv hs hi hR hk K)
  by_cases h3 : v = nI 3
  · rw [h3]
    exact zx_tabIn hF0 dL_law_33 (tgt := 279) (off := 246) (by decide) (by decide) (by decide) (by decide) (lc_grid hv hs hi hR hk K)
  by_cases h4 : v = nI 4
  · rw [h4]
    exact zx_tabIn hF0 dL_law_33 (tgt := 292) (off := 259) (by decide) (by decide) (by decide) (by decide) (lc_fault hv hs hi hR hk K)
  by_cases h5 : v = nI 5
  · rw [h5]
    exact zx_tabIn hF0 dL_law_33 (tgt := 315) (off := 282) (by decide) (by decide) (by decide) (by decide) (lc_claim hv hs hi hR hk K)
  by_cases h6 : v = nI 6
  · rw [h6]
    exact zx_tabIn hF0 dL_law_33 (tgt := 378) (off := 345) (by decide) (by decide) (by decide) (by decide) (lc_paper hv hs hi hR hk K)
  by_cases h7 : v = nI 7
  · rw [h7]
    exact zx_tabIn hF0 dL_law_33 (tgt := 411) (off := 378) (by decide) (by decide) (by decide) (by decide) (lc_judge hv hs hi hR hk K)
  by_cases h8 : v = nI 8
  · rw [h8]
    exact zx_tabIn hF0 dL_law_33 (tgt := 434) (off := 401) (by decide) (by decide) (by decide) (by decide) (lc_appeal hv hs hi hR hk K)
  by_cases h9 : v = nI 9
  · rw [h9]
    exact zx_tabIn hF0 dL_law_33 (tgt := 467) (off := 434) (by decide) (by decide) (by decide) (by decide) (lc_out hv hs hi hR hk K)
  by_cases h10 : v = nI 10
  · rw [h10]
    exact zx_tabIn hF0 dL_law_33 (tgt := 516) (off := 483) (by decide) (by decide) (by decide) (by decide) (lc_points hv hs hi hR hk K)
  by_cases h11 : v = nI 11
  · rw [h11]
    exact zx_tabIn hF0 dL_law_33 (tgt := 569) (off := 536) (by decide) (by decide) (by decide) (by decide) (lc_lacks hv hs hi hR hk K)
  by_cases h12 : v = nI 12
  · rw [h12]
    exact zx_tabIn hF0 dL_law_33 (tgt := 602) (off := 569) (by decide) (by decide) (by decide) (by decide) (lc_tell hv hs hi hR hk K)
  by_cases h13 : v = nI 13
  · rw [h13]
    exact zx_tabIn hF0 dL_law_33 (tgt := 635) (off := 602) (by decide) (by decide) (by decide) (by decide) (lc_money hv hs hi hR hk K)
  by_cases h14 : v = nI 14
  · rw [h14]
    exact zx_tabIn hF0 dL_law_33 (tgt := 669) (off := 636) (by decide) (by decide) (by decide) (by decide) (lc_fee hv hs hi hR hk K)
  by_cases h15 : v = nI 15
  · rw [h15]
    exact zx_tabIn hF0 dL_law_33 (tgt := 702) (off := 669) (by decide) (by decide) (by decide) (by decide) (lc_lien hv hs hi hR hk K)
  by_cases h16 : v = nI 16
  · rw [h16]
    exact zx_tabIn hF0 dL_law_33 (tgt := 775) (off := 742) (by decide) (by decide) (by decide) (by decide) (lc_heir hv hs hi hR hk K)
  by_cases h17 : v = nI 17
  · rw [h17]
    exact zx_tabIn hF0 dL_law_33 (tgt := 808) (off := 775) (by decide) (by decide) (by decide) (by decide) (lc_wave hv hs hi hR hk K)
  by_cases h18 : v = nI 18
  · rw [h18]
    exact zx_tabIn hF0 dL_law_33 (tgt := 832) (off := 799) (by decide) (by decide) (by decide) (by decide) (lc_finish hv hs hi hR hk K)
  by_cases h19 : v = nI 19
  · rw [h19]
    exact zx_tabIn hF0 dL_law_33 (tgt := 846) (off := 813) (by decide) (by decide) (by decide) (by decide) (lc_sum hv hs hi hR hk K)
  by_cases h20 : v = nI 20
  · rw [h20]
    exact zx_tabIn hF0 dL_law_33 (tgt := 870) (off := 837) (by decide) (by decide) (by decide) (by decide) (lc_count hv hs hi hR hk K)
  by_cases h21 : v = nI 21
  · rw [h21]
    exact zx_tabIn hF0 dL_law_33 (tgt := 893) (off := 860) (by decide) (by decide) (by decide) (by decide) (lc_image hv hs hi hR hk K)
  by_cases h22 : v = nI 22
  · rw [h22]
    exact zx_tabIn hF0 dL_law_33 (tgt := 916) (off := 883) (by decide) (by decide) (by decide) (by decide) (lc_again hv hs hi hR hk K)
  refine zx_tabOut hF0 dL_law_33 (tgt := 939) ?_ (by decide) (zX_wd (Nat.le_add_right _ _) (Nat.le_add_right _ _) (K Gc Gr mc mr hv))
  refine Classical.byContradiction fun hn => ?_
  have n1 : ¬ v.toInt < 0 := fun z => hn (Or.inl z)
  have n2 : ¬ 22 < v.toInt := fun z => hn (Or.inr z)
  obtain ⟨j, hj, rfl⟩ := nI_of (x := v) (by
    intro z
    have := Int32.lt_iff_toInt_lt.mp z
    have e0 : (0 : Int32).toInt = 0 := rfl
    omega)
  rw [nI_toInt hj] at n2
  have hj22 : j ≤ 22 := by omega
  rcases (show j = 0 ∨ j = 1 ∨ j = 2 ∨ j = 3 ∨ j = 4 ∨ j = 5 ∨ j = 6 ∨ j = 7 ∨ j = 8 ∨ j = 9 ∨ j = 10 ∨ j = 11 ∨ j = 12 ∨ j = 13 ∨ j = 14 ∨ j = 15 ∨ j = 16 ∨ j = 17 ∨ j = 18 ∨ j = 19 ∨ j = 20 ∨ j = 21 ∨ j = 22 by omega) with rfl | rfl | rfl | rfl | rfl | rfl | rfl | rfl | rfl | rfl | rfl | rfl | rfl | rfl | rfl | rfl | rfl | rfl | rfl | rfl | rfl | rfl | rfl
  · exact h0 rfl
  · exact h1 rfl
  · exact h2 rfl
  · exact h3 rfl
  · exact h4 rfl
  · exact h5 rfl
  · exact h6 rfl
  · exact h7 rfl
  · exact h8 rfl
  · exact h9 rfl
  · exact h10 rfl
  · exact h11 rfl
  · exact h12 rfl
  · exact h13 rfl
  · exact h14 rfl
  · exact h15 rfl
  · exact h16 rfl
  · exact h17 rfl
  · exact h18 rfl
  · exact h19 rfl
  · exact h20 rfl
  · exact h21 rfl
  · exact h22 rfl
theorem law_loop {C : zC} {f o b N : Nat} {xs : Nat → Int32} (hs : zSp9 C b N xs) (hR : zRm C = room_1) (hE : ∀ (k n : Nat) (L : List (Nat × Value)) (P : Heap → Prop), k ≤ 600000 → n ≤ 7302250 → zX C 4 k n 945 L [] P) : ∀ d j, j + d = 513 → ∀ Gc Gr mc mr, zLv C Gc Gr mc mr f o → zX C 4 (172 + 123 * j) (6952 + 1378 * j) 18 (zLL f o b (6 * j)) [] (zl2 Gc Gr mc mr) := by
  intro d
  induction d with
  | zero =>
    intro j hj Gc Gr mc mr hv
    have hF0 := hv.1
    have hN := hs.2.2.2
    refine zx_iload_n hF0 0 dL_law_18 rfl ?_
    refine zx_aload_n hF0 3 dL_law_19 rfl ?_
    refine zl_slen hF0 hs dL_law_20 ?_
    refine zx_bipush hF0 dL_law_21 (v := 6) (by decide) ?_
    refine zx_isub hF0 dL_law_23 ?_
    refine zx_icmp_gt hF0 dL_law_24 (tgt := 945) (by decide) (fun _ => hE _ _ _ _ (by omega) (by omega)) (fun q => ?_)
    exfalso
    have := n6_lt hN (by omega) q
    omega
  | succ d ih =>
    intro j hj Gc Gr mc mr hv
    have hF0 := hv.1
    have hN := hs.2.2.2
    refine zx_iload_n hF0 0 dL_law_18 rfl ?_
    refine zx_aload_n hF0 3 dL_law_19 rfl ?_
    refine zl_slen hF0 hs dL_law_20 ?_
    refine zx_bipush hF0 dL_law_21 (v := 6) (by decide) ?_
    refine zx_isub hF0 dL_law_23 ?_
    refine zx_icmp_gt hF0 dL_law_24 (tgt := 945) (by decide) (fun _ => hE _ _ _ _ (by omega) (by omega)) (fun q => ?_)
    have hi := n6_lt hN (by omega) q
    refine law_body hv hs hi hR ⟨by omega, by omega⟩ (fun Gc' Gr' mc' mr' hv' => ?_)
    refine zx_iinc hF0 0 dL_law_939 rfl (v := nI (6 * j + 6)) (nI_add (6 * j) 6) (by decide) rfl ?_
    refine zx_goto hF0 dL_law_942 (tgt := 18) (by decide) ?_
    exact zX_wd (by omega) (by omega) (ih (j + 1) (by omega) Gc' Gr' mc' mr' hv')
