theorem zl2_wt {C : zC} {Gc Gr : zG} {mc mr : zM} {nL k n pc : Nat} {L : List (Nat × Value)} {st : List Value} (h : zWT Gc mc → zX C nL k n pc L st (zl2 Gc Gr mc mr)) : zX C nL k n pc L st (zl2 Gc Gr mc mr) := fun H locs ls hP hS hl => h hP.1.2.2 H locs ls hP hS hl
theorem book_end {G : zG} (hL : zLay G) {b : Nat} (h : zK G b = some (0, b)) : b + 123 ≤ zsz G := by
  have h1 := hL.2.2 0 b h (116, 1) (by decide)
  have h2 := hL.2.2 1 (b + 116) h1 (1, 3) (by decide)
  have h3 := hL.2.2 3 (b + 116 + 1) h2 (5, 1310) (by decide)
  have := (hL.1.2 _ _ h3).2.2.1
  omega
theorem fund_end {G : zG} (hL : zLay G) {mc mr : zM} {f o : Nat} (h : zTot mc mr f o) (hw : zWT G mc) (kf : zK G f = some (5, f)) : f + 133 ≤ zsz G := by
  have k1 := zL_5_1 hL kf
  have g : zK G (f + 125) = some (2, f + 125) := by
    rcases h.2.1 with ⟨_, e⟩ | ⟨e, _⟩
    · have := (hw.2.2.2 f kf).1
      rw [e] at this
      exact this
    · have := hw.2.1 (f + 1) k1
      rw [e] at this
      exact this
  have h3 := hL.2.2 2 (f + 125) g (7, 1207) (by decide)
  have := (hL.1.2 _ _ h3).2.2.1
  omega
theorem img_end {G : zG} (hL : zLay G) {mc : zM} {f : Nat} (hw : zWT G mc) (kf : zK G f = some (5, f)) : ∀ k b2, k < 3 → zQ mc 1501 f k = some b2 → b2 + 123 ≤ zsz G := fun k b2 hk hq => book_end hL ((hw.2.2.2 f kf).2 k b2 hk hq)
theorem img_9 {mc mr : zM} {f o : Nat} (h : zTot mc mr f o) : ∀ k b2, k < 3 → zQ mc 1501 f k = some b2 → f + 133 ≤ b2 ∧ zR mc 3 b2 = b2 + 2 ∧ (zI mc 9 b2 0 = 0 ∨ zI mc 9 b2 0 = 1) ∧ ∀ k' b3, k' < 3 → k' ≠ k → zQ mc 1501 f k' = some b3 → b2 + 123 ≤ b3 ∨ b3 + 123 ≤ b2 := fun k b2 hk hq => by
  rcases h.2.2.2.1 k hk with ⟨_, e⟩ | ⟨_, b, e, e3, e4, e5, e6⟩
  · rw [hq] at e
    cases e
  · rw [hq] at e
    cases e
    refine ⟨e4, e3, ?_, e5⟩
    obtain ⟨a1, a2⟩ := e6.1.1.2.2.2.2.2.2.2
    rw [a1]
    exact a2
theorem zLv_x {C : zC} {Gc Gr G' : zG} {mc mr : zM} {f o : Nat} (h : zLv C Gc Gr mc mr f o) (hG : G' = Gc ∨ ∃ c, c < 7 ∧ G' = zGx2 Gc c) (hL : zLay G') : zLv C G' (zGz Gr (zsz G')) mc mr f o := by
  obtain ⟨h1, h2, h3, h4, h5, h6, h7, h8, h9, h10, h11, h12⟩ := h
  have hlr : ∀ q, zdom Gr q → q < zsz Gc := fun q ⟨k, hk⟩ => by rw [h7.1]; exact (h6.1.2 q k hk).2.2.1
  rcases hG with rfl | ⟨c, hc, rfl⟩
  · exact ⟨h1, h2, h3, h4, h5, zGz_L h6 (by rw [h7.1]; exact Nat.le_refl _), ⟨rfl, h7.2⟩, h8, h9, h10, h11, h12⟩
  · refine ⟨h1, h2, h3, h4, hL, zGz_L h6 (by rw [← h7.1]; exact Nat.le_add_right _ _), ⟨rfl, fun q a b => ?_⟩, zGx2_k h5 h8, h9, h10, h11, h12⟩
    obtain ⟨k, hk⟩ := a
    rcases zGx2_s hk with ⟨_, hk2⟩ | ⟨i, k0, rfl, _, _⟩
    · exact h7.2 q ⟨k, hk2⟩ b
    · have := hlr _ b
      omega
theorem zLv_A {C : zC} {Gc Gr : zG} {mc mr : zM} {f o : Nat} (h : zLv C Gc Gr mc mr f o) : ∀ q, zA1 Gc q → zA C q := fun q hq => (h.2.2.2.2.2.2.2.2.2.2.1 q).2 (zA1_b h.2.2.2.2.1 q hq)
set_option maxRecDepth 100000 in
theorem lc_out {C : zC} {Gc Gr : zG} {mc mr : zM} {f o b N i k n : Nat} {xs : Nat → Int32} (hv : zLv C Gc Gr mc mr f o) (hs : zSp9 C b N xs) (hi : i + 6 ≤ N) (hR : zRm C = room_1) (hk : k + 123 ≤ 600000 ∧ n + 1378 ≤ 7302250) (K : ∀ Gc' Gr' mc' mr', zLv C Gc' Gr' mc' mr' f o → zX C 4 (k + 123) (n + 1378) 939 (zLL f o b i) [] (zl2 Gc' Gr' mc' mr')) : zX C 4 k n 467 (zLL f o b i) [] (zl2 Gc Gr mc mr) := by
  have hF0 := hv.1
  have hFc := zLv_c hv
  have hFr := zLv_r hv
  have hts := hF0.2.2.2.2
  have hLc := hv.2.2.2.2.1
  have hLr := hv.2.2.2.2.2.1
  have hDj := hv.2.2.2.2.2.2.1
  have kf := hv.2.2.2.2.2.2.2.1
  have ko := hv.2.2.2.2.2.2.2.2.1
  have h := hv.2.2.2.2.2.2.2.2.2.1
  have hkk : k ≤ (zRm C).cells ∧ n ≤ (zRm C).slots := by rw [hR]; exact ⟨by show k ≤ 600000; omega, by show n ≤ 7302250; omega⟩
  obtain ⟨v, hv01, hvx⟩ : ∃ v : Int32, (v = 0 ∨ v = 1) ∧ ((xs (i + 2) = 0 ∧ v = 0) ∨ (¬ xs (i + 2) = 0 ∧ v = 1)) := by
    by_cases hx : xs (i + 2) = 0
    · exact ⟨0, Or.inl rfl, Or.inl ⟨hx, rfl⟩⟩
    · exact ⟨1, Or.inr rfl, Or.inr ⟨hx, rfl⟩⟩
  have second : ∀ (r : Int32) (m' : zM), (∀ (r2 : Int32) (m2 : zM), zAt mr o (xs (i + 1)) (fun c => zHo o r2 m2 (zI mr 1608 o 0 = 0 ∧ ¬ (v = 1 ↔ zI mr 1609 o (10 * c + 5) = 2) ∧ zJ mr 1610 o c ≤ 0) 1 (zsI (zc0 mr o) 1609 o (10 * c + 5) (if v = 0 then 0 else 2)) 0 (zc0 mr o) (zsI (zsI (zc0 mr o) 1609 o (10 * c + 5) (if v = 0 then 0 else 2)) 1609 o (10 * c + 5) (zI mr 1609 o (10 * c + 5)))) (r2 = 0 ∧ m2 = zc0 mr o) → r = r2 ∧ zTot m' m2 f o) → zX C 4 k n 508 (zLL f o b i) [.int v, .int (xs (i + 1)), .ref o, .int r] (zl2 Gc Gr m' mr) := by
    intro r m' hfin
    refine zX_mo ?_ (fun H h => h.symm)
    refine zl_callVi (As := [.int (xs (i + 1)), .int v]) (rest := [.int r]) hFr hDj.sy (C_X6_out hLr o (xs (i + 1)) v mr ko ⟨zSq_C h.1.1, hv01⟩) (bytes := cX6_out) (maxL := 4) (nn := 2) (cwV 2 hts nL_X6_out rfl rfl rfl (by decide +kernel) (by rw [hR]; exact ⟨Nat.le_of_ble_eq_true rfl, Nat.le_of_ble_eq_true rfl⟩)) ko (by decide) rfl dL_law_508 rfl rfl (Nat.le_of_ble_eq_true rfl) hkk (fun r2 m2 hp2 => ?_)
    obtain ⟨er, hT⟩ := hfin r2 m2 hp2
    exact zx_icmp_eq hF0 dL_law_511 (tgt := 939) (by decide) (fun _ => (zX_wd (Nat.le_add_right _ _) (Nat.le_add_right _ _) (zX_mo (K Gc Gr _ _ (zLv_t hv hT)) (fun H h => h.symm)))) (fun ne => absurd er ne)
  have mid : zX C 4 k n 486 (zLL f o b i) [.int v, .int (xs (i + 1)), .ref f] (zl2 Gc Gr mc mr) := by
    refine zl_callVi (As := [.int (xs (i + 1)), .int v]) (rest := []) hFc hDj (C_X5_out hLc f (xs (i + 1)) v mc kf (zSq_b h.1.1)) (bytes := cX5_out) (maxL := 4) (nn := 2) (cwV 2 hts nL_X5_out rfl rfl rfl (by decide +kernel) (by rw [hR]; exact ⟨Nat.le_of_ble_eq_true rfl, Nat.le_of_ble_eq_true rfl⟩)) kf (by decide) rfl dL_law_486 rfl rfl (Nat.le_of_ble_eq_true rfl) hkk (fun r m' hp => ?_)
    have hsec := second r m' (fun r2 m2 hp2 => law_fin h (sim_out h.1 hv01 hp hp2) (z49_At hp2 (fun c hi => z49_Ho hi (z49_I (by decide) z49_0) z49_0 (z49_I (by decide) (z49_I (by decide) z49_0))) (fun e => z49_e e.2)))
    refine zx_aload_n hF0 1 dL_law_489 rfl ?_
    refine zl_arg (c := 1) hF0 hs hi (by decide) rfl dL_law_490 dL_law_491 dL_law_492 dL_law_493 dL_law_494 ?_
    refine zl_arg (c := 2) hF0 hs hi (by decide) rfl dL_law_495 dL_law_496 dL_law_497 dL_law_498 dL_law_499 ?_
    refine zx_if_eq hF0 dL_law_500 (tgt := 507) (by decide) (fun hx => ?_) (fun hx => ?_)
    · refine zx_iconst hF0 dL_law_507 (v := v) (by rcases hvx with ⟨_, e⟩ | ⟨e, _⟩; rw [e]; rfl; exact absurd hx e) ?_
      exact hsec
    · refine zx_iconst hF0 dL_law_503 (v := v) (by rcases hvx with ⟨e, _⟩ | ⟨_, e⟩; exact absurd e hx; rw [e]; rfl) ?_
      exact zx_goto hF0 dL_law_504 (tgt := 508) (by decide) hsec
  refine zx_aload_n hF0 2 dL_law_467 rfl ?_
  refine zl_arg (c := 1) hF0 hs hi (by decide) rfl dL_law_468 dL_law_469 dL_law_470 dL_law_471 dL_law_472 ?_
  refine zl_arg (c := 2) hF0 hs hi (by decide) rfl dL_law_473 dL_law_474 dL_law_475 dL_law_476 dL_law_477 ?_
  refine zx_if_eq hF0 dL_law_478 (tgt := 485) (by decide) (fun hx => ?_) (fun hx => ?_)
  · refine zx_iconst hF0 dL_law_485 (v := v) (by rcases hvx with ⟨_, e⟩ | ⟨e, _⟩; rw [e]; rfl; exact absurd hx e) ?_
    exact mid
  · refine zx_iconst hF0 dL_law_481 (v := v) (by rcases hvx with ⟨e, _⟩ | ⟨_, e⟩; exact absurd e hx; rw [e]; rfl) ?_
    exact zx_goto hF0 dL_law_482 (tgt := 486) (by decide) mid
set_option maxRecDepth 100000 in
theorem lc_again {C : zC} {Gc Gr : zG} {mc mr : zM} {f o b N i k n : Nat} {xs : Nat → Int32} (hv : zLv C Gc Gr mc mr f o) (hs : zSp9 C b N xs) (hi : i + 6 ≤ N) (hR : zRm C = room_1) (hk : k + 123 ≤ 600000 ∧ n + 1378 ≤ 7302250) (K : ∀ Gc' Gr' mc' mr', zLv C Gc' Gr' mc' mr' f o → zX C 4 (k + 123) (n + 1378) 939 (zLL f o b i) [] (zl2 Gc' Gr' mc' mr')) : zX C 4 k n 916 (zLL f o b i) [] (zl2 Gc Gr mc mr) := by
  have hF0 := hv.1
  have hFc := zLv_c hv
  have hFr := zLv_r hv
  have hts := hF0.2.2.2.2
  have hLc := hv.2.2.2.2.1
  have hLr := hv.2.2.2.2.2.1
  have hDj := hv.2.2.2.2.2.2.1
  have kf := hv.2.2.2.2.2.2.2.1
  have ko := hv.2.2.2.2.2.2.2.2.1
  have h := hv.2.2.2.2.2.2.2.2.2.1
  have hkk : k ≤ (zRm C).cells ∧ n ≤ (zRm C).slots := by rw [hR]; exact ⟨by show k ≤ 600000; omega, by show n ≤ 7302250; omega⟩
  refine zx_aload_n hF0 2 dL_law_916 rfl ?_
  refine zl_arg (c := 1) hF0 hs hi (by decide) rfl dL_law_917 dL_law_918 dL_law_919 dL_law_920 dL_law_921 ?_
  refine zl_callVi (As := [.int (xs (i + 1))]) (rest := []) hFc hDj (C_X5_again hLc f (xs (i + 1)) mc kf (fun k hk b2 hq => ⟨by have := (img_9 h k b2 hk hq).1; omega, (img_9 h k b2 hk hq).2.2.1⟩)) (bytes := cX5_again) (maxL := 3) (nn := 1) (cwV 1 hts nL_X5_again rfl rfl rfl (by decide +kernel) (by rw [hR]; exact ⟨Nat.le_of_ble_eq_true rfl, Nat.le_of_ble_eq_true rfl⟩)) kf (by decide) rfl dL_law_922 rfl rfl (Nat.le_of_ble_eq_true rfl) hkk (fun r m' hp => ?_)
  refine zx_aload_n hF0 1 dL_law_925 rfl ?_
  refine zl_arg (c := 1) hF0 hs hi (by decide) rfl dL_law_926 dL_law_927 dL_law_928 dL_law_929 dL_law_930 ?_
  refine zX_mo ?_ (fun H h => h.symm)
  refine zl_callVi (As := [.int (xs (i + 1))]) (rest := [.int r]) hFr hDj.sy (C_X6_again hLr o (xs (i + 1)) mr ko h.2.2.2.2) (bytes := cX6_again) (maxL := 2) (nn := 1) (cwV 1 hts nL_X6_again rfl rfl rfl (by decide +kernel) (by rw [hR]; exact ⟨Nat.le_of_ble_eq_true rfl, Nat.le_of_ble_eq_true rfl⟩)) ko (by decide) rfl dL_law_931 rfl rfl (Nat.le_of_ble_eq_true rfl) hkk (fun r2 m2 hp2 => ?_)
  obtain ⟨er, hT⟩ := sim_again h hp hp2
  exact zx_icmp_eq hF0 dL_law_934 (tgt := 939) (by decide) (fun _ => (zX_wd (Nat.le_add_right _ _) (Nat.le_add_right _ _) (zX_mo (K Gc Gr _ _ (zLv_t hv hT)) (fun H h => h.symm)))) (fun ne => absurd er ne)
