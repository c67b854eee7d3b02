set_option maxRecDepth 100000 in
theorem lc_tell {C : zC} {Gc Gr : zG} {mc mr : zM} {f o b N i k n : Nat} {xs : Nat → Int32} (hv : zLv C Gc Gr mc mr f o) (hs : zSp9 C b N xs) (hi : i + 6 ≤ N) (hR : zRm C = room_1) (hk : k + 123 ≤ 600000 ∧ n + 1378 ≤ 7302250) (K : ∀ Gc' Gr' mc' mr', zLv C Gc' Gr' mc' mr' f o → zX C 4 (k + 123) (n + 1378) 939 (zLL f o b i) [] (zl2 Gc' Gr' mc' mr')) : zX C 4 k n 602 (zLL f o b i) [] (zl2 Gc Gr mc mr) := by
  have hF0 := hv.1
  have hFc := zLv_c hv
  have hFr := zLv_r hv
  have hts := hF0.2.2.2.2
  have hLc := hv.2.2.2.2.1
  have hLr := hv.2.2.2.2.2.1
  have hDj := hv.2.2.2.2.2.2.1
  have kf := hv.2.2.2.2.2.2.2.1
  have ko := hv.2.2.2.2.2.2.2.2.1
  have h := hv.2.2.2.2.2.2.2.2.2.1
  have hkk : k ≤ (zRm C).cells ∧ n ≤ (zRm C).slots := by rw [hR]; exact ⟨by show k ≤ 600000; omega, by show n ≤ 7302250; omega⟩
  refine zx_aload_n hF0 2 dL_law_602 rfl ?_
  refine zl_arg (c := 1) hF0 hs hi (by decide) rfl dL_law_603 dL_law_604 dL_law_605 dL_law_606 dL_law_607 ?_
  refine zl_arg (c := 2) hF0 hs hi (by decide) rfl dL_law_608 dL_law_609 dL_law_610 dL_law_611 dL_law_612 ?_
  refine zl_callVi (As := [.int (xs (i + 1)), .int (xs (i + 2))]) (rest := []) hFc hDj (C_X5_tell hLc f (xs (i + 1)) (xs (i + 2)) mc kf (zSq_b h.1.1)) (bytes := cX5_tell) (maxL := 4) (nn := 2) (cwV 2 hts nL_X5_tell rfl rfl rfl (by decide +kernel) (by rw [hR]; exact ⟨Nat.le_of_ble_eq_true rfl, Nat.le_of_ble_eq_true rfl⟩)) kf (by decide) rfl dL_law_613 rfl rfl (Nat.le_of_ble_eq_true rfl) hkk (fun r m' hp => ?_)
  obtain ⟨em, hp⟩ := hp
  subst em
  refine zx_aload_n hF0 1 dL_law_616 rfl ?_
  refine zl_arg (c := 1) hF0 hs hi (by decide) rfl dL_law_617 dL_law_618 dL_law_619 dL_law_620 dL_law_621 ?_
  refine zl_arg (c := 2) hF0 hs hi (by decide) rfl dL_law_622 dL_law_623 dL_law_624 dL_law_625 dL_law_626 ?_
  refine zX_mo ?_ (fun H h => h.symm)
  refine zl_callVi (As := [.int (xs (i + 1)), .int (xs (i + 2))]) (rest := [.int r]) hFr hDj.sy (C_X6_tell hLr o (xs (i + 1)) (xs (i + 2)) mr ko (zSq_C h.1.1)) (bytes := cX6_tell) (maxL := 3) (nn := 2) (cwV 2 hts nL_X6_tell rfl rfl rfl (by decide +kernel) (by rw [hR]; exact ⟨Nat.le_of_ble_eq_true rfl, Nat.le_of_ble_eq_true rfl⟩)) ko (by decide) rfl dL_law_627 rfl rfl (Nat.le_of_ble_eq_true rfl) hkk (fun r2 m2 hp2 => ?_)
  obtain ⟨er, hT⟩ := law_fin h (sim_tell h.1 hp hp2) (z49_e hp2.1)
  exact zx_icmp_eq hF0 dL_law_630 (tgt := 939) (by decide) (fun _ => (zX_wd (Nat.le_add_right _ _) (Nat.le_add_right _ _) (zX_mo (K Gc Gr _ _ (zLv_t hv hT)) (fun H h => h.symm)))) (fun ne => absurd er ne)
set_option maxRecDepth 100000 in
theorem lc_money {C : zC} {Gc Gr : zG} {mc mr : zM} {f o b N i k n : Nat} {xs : Nat → Int32} (hv : zLv C Gc Gr mc mr f o) (hs : zSp9 C b N xs) (hi : i + 6 ≤ N) (hR : zRm C = room_1) (hk : k + 123 ≤ 600000 ∧ n + 1378 ≤ 7302250) (K : ∀ Gc' Gr' mc' mr', zLv C Gc' Gr' mc' mr' f o → zX C 4 (k + 123) (n + 1378) 939 (zLL f o b i) [] (zl2 Gc' Gr' mc' mr')) : zX C 4 k n 635 (zLL f o b i) [] (zl2 Gc Gr mc mr) := by
  have hF0 := hv.1
  have hFc := zLv_c hv
  have hFr := zLv_r hv
  have hts := hF0.2.2.2.2
  have hLc := hv.2.2.2.2.1
  have hLr := hv.2.2.2.2.2.1
  have hDj := hv.2.2.2.2.2.2.1
  have kf := hv.2.2.2.2.2.2.2.1
  have ko := hv.2.2.2.2.2.2.2.2.1
  have h := hv.2.2.2.2.2.2.2.2.2.1
  have hkk : k ≤ (zRm C).cells ∧ n ≤ (zRm C).slots := by rw [hR]; exact ⟨by show k ≤ 600000; omega, by show n ≤ 7302250; omega⟩
  refine zx_aload_n hF0 2 dL_law_635 rfl ?_
  refine zl_arg (c := 1) hF0 hs hi (by decide) rfl dL_law_636 dL_law_637 dL_law_638 dL_law_639 dL_law_640 ?_
  refine zl_arg (c := 2) hF0 hs hi (by decide) rfl dL_law_641 dL_law_642 dL_law_643 dL_law_644 dL_law_645 ?_
  refine zl_callVl (As := [.int (xs (i + 1)), .int (xs (i + 2))]) (rest := []) hFc hDj (C_X5_money hLc f (xs (i + 1)) (xs (i + 2)) mc kf (zSq_b h.1.1)) (bytes := cX5_money) (maxL := 4) (nn := 2) (cwV 2 hts nL_X5_money rfl rfl rfl (by decide +kernel) (by rw [hR]; exact ⟨Nat.le_of_ble_eq_true rfl, Nat.le_of_ble_eq_true rfl⟩)) kf (by decide) rfl dL_law_646 rfl rfl (Nat.le_of_ble_eq_true rfl) hkk (fun r m' hp => ?_)
  obtain ⟨em, hp⟩ := hp
  subst em
  refine zx_aload_n hF0 1 dL_law_649 rfl ?_
  refine zl_arg (c := 1) hF0 hs hi (by decide) rfl dL_law_650 dL_law_651 dL_law_652 dL_law_653 dL_law_654 ?_
  refine zl_arg (c := 2) hF0 hs hi (by decide) rfl dL_law_655 dL_law_656 dL_law_657 dL_law_658 dL_law_659 ?_
  refine zX_mo ?_ (fun H h => h.symm)
  refine zl_callVl (As := [.int (xs (i + 1)), .int (xs (i + 2))]) (rest := [.long r]) hFr hDj.sy (C_X6_money hLr o (xs (i + 1)) (xs (i + 2)) mr ko ⟨zSq_C h.1.1, zSq_lh h.1.1⟩) (bytes := cX6_money) (maxL := 3) (nn := 2) (cwV 2 hts nL_X6_money rfl rfl rfl (by decide +kernel) (by rw [hR]; exact ⟨Nat.le_of_ble_eq_true rfl, Nat.le_of_ble_eq_true rfl⟩)) ko (by decide) rfl dL_law_660 rfl rfl (Nat.le_of_ble_eq_true rfl) hkk (fun r2 m2 hp2 => ?_)
  obtain ⟨er, hT⟩ := law_fin h (sim_money h.1 hp hp2) (z49_e hp2.1)
  exact zx_lcmp_eq hF0 dL_law_663 dL_law_664 (tgt := 939) (by decide) (fun _ => (zX_wd (Nat.le_add_right _ _) (Nat.le_add_right _ _) (zX_mo (K Gc Gr _ _ (zLv_t hv hT)) (fun H h => h.symm)))) (fun ne => absurd er ne)
set_option maxRecDepth 100000 in
theorem lc_fee {C : zC} {Gc Gr : zG} {mc mr : zM} {f o b N i k n : Nat} {xs : Nat → Int32} (hv : zLv C Gc Gr mc mr f o) (hs : zSp9 C b N xs) (hi : i + 6 ≤ N) (hR : zRm C = room_1) (hk : k + 123 ≤ 600000 ∧ n + 1378 ≤ 7302250) (K : ∀ Gc' Gr' mc' mr', zLv C Gc' Gr' mc' mr' f o → zX C 4 (k + 123) (n + 1378) 939 (zLL f o b i) [] (zl2 Gc' Gr' mc' mr')) : zX C 4 k n 669 (zLL f o b i) [] (zl2 Gc Gr mc mr) := by
  have hF0 := hv.1
  have hFc := zLv_c hv
  have hFr := zLv_r hv
  have hts := hF0.2.2.2.2
  have hLc := hv.2.2.2.2.1
  have hLr := hv.2.2.2.2.2.1
  have hDj := hv.2.2.2.2.2.2.1
  have kf := hv.2.2.2.2.2.2.2.1
  have ko := hv.2.2.2.2.2.2.2.2.1
  have h := hv.2.2.2.2.2.2.2.2.2.1
  have hkk : k ≤ (zRm C).cells ∧ n ≤ (zRm C).slots := by rw [hR]; exact ⟨by show k ≤ 600000; omega, by show n ≤ 7302250; omega⟩
  refine zx_aload_n hF0 2 dL_law_669 rfl ?_
  refine zl_arg (c := 1) hF0 hs hi (by decide) rfl dL_law_670 dL_law_671 dL_law_672 dL_law_673 dL_law_674 ?_
  refine zl_arg (c := 2) hF0 hs hi (by decide) rfl dL_law_675 dL_law_676 dL_law_677 dL_law_678 dL_law_679 ?_
  refine zl_callVi (As := [.int (xs (i + 1)), .int (xs (i + 2))]) (rest := []) hFc hDj (C_X5_fee hLc f (xs (i + 1)) (xs (i + 2)) mc kf (zSq_b h.1.1)) (bytes := cX5_fee) (maxL := 4) (nn := 2) (cwV 2 hts nL_X5_fee rfl rfl rfl (by decide +kernel) (by rw [hR]; exact ⟨Nat.le_of_ble_eq_true rfl, Nat.le_of_ble_eq_true rfl⟩)) kf (by decide) rfl dL_law_680 rfl rfl (Nat.le_of_ble_eq_true rfl) hkk (fun r m' hp => ?_)
  refine zx_aload_n hF0 1 dL_law_683 rfl ?_
  refine zl_arg (c := 1) hF0 hs hi (by decide) rfl dL_law_684 dL_law_685 dL_law_686 dL_law_687 dL_law_688 ?_
  refine zl_arg (c := 2) hF0 hs hi (by decide) rfl dL_law_689 dL_law_690 dL_law_691 dL_law_692 dL_law_693 ?_
  refine zX_mo ?_ (fun H h => h.symm)
  refine zl_callVi (As := [.int (xs (i + 1)), .int (xs (i + 2))]) (rest := [.int r]) hFr hDj.sy (C_X6_fee hLr o (xs (i + 1)) (xs (i + 2)) mr ko (zRC_N (zSq_C h.1.1))) (bytes := cX6_fee) (maxL := 3) (nn := 2) (cwV 2 hts nL_X6_fee rfl rfl rfl (by decide +kernel) (by rw [hR]; exact ⟨Nat.le_of_ble_eq_true rfl, Nat.le_of_ble_eq_true rfl⟩)) ko (by decide) rfl dL_law_694 rfl rfl (Nat.le_of_ble_eq_true rfl) hkk (fun r2 m2 hp2 => ?_)
  obtain ⟨er, hT⟩ := law_fin h (sim_fee h.1 hp (n_fee h hp2)) (z49_At (n_fee h hp2) (fun c hi => z49_It hi (z49_I (by decide) z49_0) z49_0) (fun e => z49_e e.2))
  exact zx_icmp_eq hF0 dL_law_697 (tgt := 939) (by decide) (fun _ => (zX_wd (Nat.le_add_right _ _) (Nat.le_add_right _ _) (zX_mo (K Gc Gr _ _ (zLv_t hv hT)) (fun H h => h.symm)))) (fun ne => absurd er ne)
set_option maxRecDepth 100000 in
theorem lc_lien {C : zC} {Gc Gr : zG} {mc mr : zM} {f o b N i k n : Nat} {xs : Nat → Int32} (hv : zLv C Gc Gr mc mr f o) (hs : zSp9 C b N xs) (hi : i + 6 ≤ N) (hR : zRm C = room_1) (hk : k + 123 ≤ 600000 ∧ n + 1378 ≤ 7302250) (K : ∀ Gc' Gr' mc' mr', zLv C Gc' Gr' mc' mr' f o → zX C 4 (k + 123) (n + 1378) 939 (zLL f o b i) [] (zl2 Gc' Gr' mc' mr')) : zX C 4 k n 702 (zLL f o b i) [] (zl2 Gc Gr mc mr) := by
  have hF0 := hv.1
  have hFc := zLv_c hv
  have hFr := zLv_r hv
  have hts := hF0.2.2.2.2
  have hLc := hv.2.2.2.2.1
  have hLr := hv.2.2.2.2.2.1
  have hDj := hv.2.2.2.2.2.2.1
  have kf := hv.2.2.2.2.2.2.2.1
  have ko := hv.2.2.2.2.2.2.2.2.1
  have h := hv.2.2.2.2.2.2.2.2.2.1
  have hkk : k ≤ (zRm C).cells ∧ n ≤ (zRm C).slots := by rw [hR]; exact ⟨by show k ≤ 600000; omega, by show n ≤ 7302250; omega⟩
  refine zx_aload_n hF0 2 dL_law_702 rfl ?_
  refine zl_arg (c := 1) hF0 hs hi (by decide) rfl dL_law_703 dL_law_704 dL_law_705 dL_law_706 dL_law_707 ?_
  refine zl_arg (c := 2) hF0 hs hi (by decide) rfl dL_law_708 dL_law_709 dL_law_710 dL_law_711 dL_law_712 ?_
  refine zl_arg (c := 3) hF0 hs hi (by decide) rfl dL_law_713 dL_law_714 dL_law_715 dL_law_716 dL_law_717 ?_
  refine zx_i2l hF0 dL_law_718 rfl ?_
  refine zx_bipush hF0 dL_law_719 (v := 32) (by decide) ?_
  refine zx_lshl hF0 dL_law_721 rfl ?_
  refine zl_arg (c := 4) hF0 hs hi (by decide) rfl dL_law_722 dL_law_723 dL_law_724 dL_law_725 dL_law_726 ?_
  refine zx_i2l hF0 dL_law_727 rfl ?_
  refine zx_ldc2 hF0 (v := 4294967295) (wsL_law_in _ (List.mem_of_getElem? (i := 6) (by decide +kernel))) dL_law_728 ?_
  refine zx_land hF0 dL_law_731 ?_
  refine zx_lor hF0 dL_law_732 ?_
  refine zl_callVi (As := [.int (xs (i + 1)), .int (xs (i + 2)), .long ((((xs (i + 3))).toInt64 <<< ((Int32.toInt64 32) &&& 63)) ||| (((xs (i + 4))).toInt64 &&& 4294967295))]) (rest := []) hFc hDj (C_X5_lien hLc f (xs (i + 1)) (xs (i + 2)) ((((xs (i + 3))).toInt64 <<< ((Int32.toInt64 32) &&& 63)) ||| (((xs (i + 4))).toInt64 &&& 4294967295)) mc kf (zSq_b h.1.1)) (bytes := cX5_lien) (maxL := 7) (nn := 3) (cwV 3 hts nL_X5_lien rfl rfl rfl (by decide +kernel) (by rw [hR]; exact ⟨Nat.le_of_ble_eq_true rfl, Nat.le_of_ble_eq_true rfl⟩)) kf (by decide) rfl dL_law_733 rfl rfl (Nat.le_of_ble_eq_true rfl) hkk (fun r m' hp => ?_)
  refine zx_aload_n hF0 1 dL_law_736 rfl ?_
  refine zl_arg (c := 1) hF0 hs hi (by decide) rfl dL_law_737 dL_law_738 dL_law_739 dL_law_740 dL_law_741 ?_
  refine zl_arg (c := 2) hF0 hs hi (by decide) rfl dL_law_742 dL_law_743 dL_law_744 dL_law_745 dL_law_746 ?_
  refine zl_arg (c := 3) hF0 hs hi (by decide) rfl dL_law_747 dL_law_748 dL_law_749 dL_law_750 dL_law_751 ?_
  refine zx_i2l hF0 dL_law_752 rfl ?_
  refine zx_bipush hF0 dL_law_753 (v := 32) (by decide) ?_
  refine zx_lshl hF0 dL_law_755 rfl ?_
  refine zl_arg (c := 4) hF0 hs hi (by decide) rfl dL_law_756 dL_law_757 dL_law_758 dL_law_759 dL_law_760 ?_
  refine zx_i2l hF0 dL_law_761 rfl ?_
  refine zx_ldc2 hF0 (v := 4294967295) (wsL_law_in _ (List.mem_of_getElem? (i := 6) (by decide +kernel))) dL_law_762 ?_
  refine zx_land hF0 dL_law_765 ?_
  refine zx_lor hF0 dL_law_766 ?_
  refine zX_mo ?_ (fun H h => h.symm)
  refine zl_callVi (As := [.int (xs (i + 1)), .int (xs (i + 2)), .long ((((xs (i + 3))).toInt64 <<< ((Int32.toInt64 32) &&& 63)) ||| (((xs (i + 4))).toInt64 &&& 4294967295))]) (rest := [.int r]) hFr hDj.sy (C_X6_lien hLr o (xs (i + 1)) (xs (i + 2)) ((((xs (i + 3))).toInt64 <<< ((Int32.toInt64 32) &&& 63)) ||| (((xs (i + 4))).toInt64 &&& 4294967295)) mr ko ⟨(zRC_N (zSq_C h.1.1)), zSq_lh h.1.1⟩) (bytes := cX6_lien) (maxL := 6) (nn := 3) (cwV 3 hts nL_X6_lien rfl rfl rfl (by decide +kernel) (by rw [hR]; exact ⟨Nat.le_of_ble_eq_true rfl, Nat.le_of_ble_eq_true rfl⟩)) ko (by decide) rfl dL_law_767 rfl rfl (Nat.le_of_ble_eq_true rfl) hkk (fun r2 m2 hp2 => ?_)
  obtain ⟨er, hT⟩ := law_fin h (sim_lien h.1 hp hp2) (z49_At hp2 (fun c hi => hi.elim fun L hL => z49_It hL.2.2 (z49_I (by decide) (z49_J (z49_J (z49_I (by decide) z49_0)))) z49_0) (fun e => z49_e e.2))
  exact zx_icmp_eq hF0 dL_law_770 (tgt := 939) (by decide) (fun _ => (zX_wd (Nat.le_add_right _ _) (Nat.le_add_right _ _) (zX_mo (K Gc Gr _ _ (zLv_t hv hT)) (fun H h => h.symm)))) (fun ne => absurd er ne)
set_option maxRecDepth 100000 in
theorem lc_heir {C : zC} {Gc Gr : zG} {mc mr : zM} {f o b N i k n : Nat} {xs : Nat → Int32} (hv : zLv C Gc Gr mc mr f o) (hs : zSp9 C b N xs) (hi : i + 6 ≤ N) (hR : zRm C = room_1) (hk : k + 123 ≤ 600000 ∧ n + 1378 ≤ 7302250) (K : ∀ Gc' Gr' mc' mr', zLv C Gc' Gr' mc' mr' f o → zX C 4 (k + 123) (n + 1378) 939 (zLL f o b i) [] (zl2 Gc' Gr' mc' mr')) : zX C 4 k n 775 (zLL f o b i) [] (zl2 Gc Gr mc mr) := by
  have hF0 := hv.1
  have hFc := zLv_c hv
  have hFr := zLv_r hv
  have hts := hF0.2.2.2.2
  have hLc := hv.2.2.2.2.1
  have hLr := hv.2.2.2.2.2.1
  have hDj := hv.2.2.2.2.2.2.1
  have kf := hv.2.2.2.2.2.2.2.1
  have ko := hv.2.2.2.2.2.2.2.2.1
  have h := hv.2.2.2.2.2.2.2.2.2.1
  have hkk : k ≤ (zRm C).cells ∧ n ≤ (zRm C).slots := by rw [hR]; exact ⟨by show k ≤ 600000; omega, by show n ≤ 7302250; omega⟩
  refine zx_aload_n hF0 2 dL_law_775 rfl ?_
  refine zl_arg (c := 1) hF0 hs hi (by decide) rfl dL_law_776 dL_law_777 dL_law_778 dL_law_779 dL_law_780 ?_
  refine zl_arg (c := 2) hF0 hs hi (by decide) rfl dL_law_781 dL_law_782 dL_law_783 dL_law_784 dL_law_785 ?_
  refine zl_callVi (As := [.int (xs (i + 1)), .int (xs (i + 2))]) (rest := []) hFc hDj (C_X5_heir hLc f (xs (i + 1)) (xs (i + 2)) mc kf (zSq_b h.1.1)) (bytes := cX5_heir) (maxL := 4) (nn := 2) (cwV 2 hts nL_X5_heir rfl rfl rfl (by decide +kernel) (by rw [hR]; exact ⟨Nat.le_of_ble_eq_true rfl, Nat.le_of_ble_eq_true rfl⟩)) kf (by decide) rfl dL_law_786 rfl rfl (Nat.le_of_ble_eq_true rfl) hkk (fun r m' hp => ?_)
  refine zx_aload_n hF0 1 dL_law_789 rfl ?_
  refine zl_arg (c := 1) hF0 hs hi (by decide) rfl dL_law_790 dL_law_791 dL_law_792 dL_law_793 dL_law_794 ?_
  refine zl_arg (c := 2) hF0 hs hi (by decide) rfl dL_law_795 dL_law_796 dL_law_797 dL_law_798 dL_law_799 ?_
  refine zX_mo ?_ (fun H h => h.symm)
  refine zl_callVi (As := [.int (xs (i + 1)), .int (xs (i + 2))]) (rest := [.int r]) hFr hDj.sy (C_X6_heir hLr o (xs (i + 1)) (xs (i + 2)) mr ko ⟨(zRC_N (zSq_C h.1.1)), zSq_lh h.1.1⟩) (bytes := cX6_heir) (maxL := 4) (nn := 2) (cwV 2 hts nL_X6_heir rfl rfl rfl (by decide +kernel) (by rw [hR]; exact ⟨Nat.le_of_ble_eq_true rfl, Nat.le_of_ble_eq_true rfl⟩)) ko (by decide) rfl dL_law_800 rfl rfl (Nat.le_of_ble_eq_true rfl) hkk (fun r2 m2 hp2 => ?_)
  obtain ⟨er, hT⟩ := law_fin h (sim_heir h.1 hp hp2) (z49_At hp2 (fun c hi => hi.elim fun L hL => z49_It hL.2.2 (z49_I (by decide) (z49_J (z49_I (by decide) z49_0))) z49_0) (fun e => z49_e e.2))
  exact zx_icmp_eq hF0 dL_law_803 (tgt := 939) (by decide) (fun _ => (zX_wd (Nat.le_add_right _ _) (Nat.le_add_right _ _) (zX_mo (K Gc Gr _ _ (zLv_t hv hT)) (fun H h => h.symm)))) (fun ne => absurd er ne)
set_option maxRecDepth 100000 in
theorem lc_wave {C : zC} {Gc Gr : zG} {mc mr : zM} {f o b N i k n : Nat} {xs : Nat → Int32} (hv : zLv C Gc Gr mc mr f o) (hs : zSp9 C b N xs) (hi : i + 6 ≤ N) (hR : zRm C = room_1) (hk : k + 123 ≤ 600000 ∧ n + 1378 ≤ 7302250) (K : ∀ Gc' Gr' mc' mr', zLv C Gc' Gr' mc' mr' f o → zX C 4 (k + 123) (n + 1378) 939 (zLL f o b i) [] (zl2 Gc' Gr' mc' mr')) : zX C 4 k n 808 (zLL f o b i) [] (zl2 Gc Gr mc mr) := by
  have hF0 := hv.1
  have hFc := zLv_c hv
  have hFr := zLv_r hv
  have hts := hF0.2.2.2.2
  have hLc := hv.2.2.2.2.1
  have hLr := hv.2.2.2.2.2.1
  have hDj := hv.2.2.2.2.2.2.1
  have kf := hv.2.2.2.2.2.2.2.1
  have ko := hv.2.2.2.2.2.2.2.2.1
  have h := hv.2.2.2.2.2.2.2.2.2.1
  have hkk : k ≤ (zRm C).cells ∧ n ≤ (zRm C).slots := by rw [hR]; exact ⟨by show k ≤ 600000; omega, by show n ≤ 7302250; omega⟩
  refine zx_aload_n hF0 2 dL_law_808 rfl ?_
  refine zl_arg (c := 1) hF0 hs hi (by decide) rfl dL_law_809 dL_law_810 dL_law_811 dL_law_812 dL_law_813 ?_
  refine zl_callVl (As := [.int (xs (i + 1))]) (rest := []) hFc hDj (C_X5_wave hLc f (xs (i + 1)) mc kf (zSq_b h.1.1)) (bytes := cX5_wave) (maxL := 2) (nn := 1) (cwV 1 hts nL_X5_wave rfl rfl rfl (by decide +kernel) (by rw [hR]; exact ⟨Nat.le_of_ble_eq_true rfl, Nat.le_of_ble_eq_true rfl⟩)) kf (by decide) rfl dL_law_814 rfl rfl (Nat.le_of_ble_eq_true rfl) hkk (fun r m' hp => ?_)
  refine zx_aload_n hF0 1 dL_law_817 rfl ?_
  refine zl_arg (c := 1) hF0 hs hi (by decide) rfl dL_law_818 dL_law_819 dL_law_820 dL_law_821 dL_law_822 ?_
  refine zX_mo ?_ (fun H h => h.symm)
  refine zl_callVl (As := [.int (xs (i + 1))]) (rest := [.long r]) hFr hDj.sy (C_X6_wave hLr o (xs (i + 1)) mr ko ⟨zSq_C h.1.1, zSq_pp h.1.1⟩) (bytes := cX6_wave) (maxL := 7) (nn := 1) (cwV 1 hts nL_X6_wave rfl rfl rfl (by decide +kernel) (by rw [hR]; exact ⟨Nat.le_of_ble_eq_true rfl, Nat.le_of_ble_eq_true rfl⟩)) ko (by decide) rfl dL_law_823 rfl rfl (Nat.le_of_ble_eq_true rfl) hkk (fun r2 m2 hp2 => ?_)
  obtain ⟨er, hT⟩ := law_fin h (sim_wave h.1 hp hp2) (z49_It hp2 (z49_I (by decide) (z49_wv z49_0)) z49_0)
  exact zx_lcmp_eq hF0 dL_law_826 dL_law_827 (tgt := 939) (by decide) (fun _ => (zX_wd (Nat.le_add_right _ _) (Nat.le_add_right _ _) (zX_mo (K Gc Gr _ _ (zLv_t hv hT)) (fun H h => h.symm)))) (fun ne => absurd er ne)
set_option maxRecDepth 100000 in
theorem lc_finish {C : zC} {Gc Gr : zG} {mc mr : zM} {f o b N i k n : Nat} {xs : Nat → Int32} (hv : zLv C Gc Gr mc mr f o) (hs : zSp9 C b N xs) (hi : i + 6 ≤ N) (hR : zRm C = room_1) (hk : k + 123 ≤ 600000 ∧ n + 1378 ≤ 7302250) (K : ∀ Gc' Gr' mc' mr', zLv C Gc' Gr' mc' mr' f o → zX C 4 (k + 123) (n + 1378) 939 (zLL f o b i) [] (zl2 Gc' Gr' mc' mr')) : zX C 4 k n 832 (zLL f o b i) [] (zl2 Gc Gr mc mr) := by
  have hF0 := hv.1
  have hFc := zLv_c hv
  have hFr := zLv_r hv
  have hts := hF0.2.2.2.2
  have hLc := hv.2.2.2.2.1
  have hLr := hv.2.2.2.2.2.1
  have hDj := hv.2.2.2.2.2.2.1
  have kf := hv.2.2.2.2.2.2.2.1
  have ko := hv.2.2.2.2.2.2.2.2.1
  have h := hv.2.2.2.2.2.2.2.2.2.1
  have hkk : k ≤ (zRm C).cells ∧ n ≤ (zRm C).slots := by rw [hR]; exact ⟨by show k ≤ 600000; omega, by show n ≤ 7302250; omega⟩
  refine zx_aload_n hF0 2 dL_law_832 rfl ?_
  refine zl_callVl (As := []) (rest := []) hFc hDj (C_X5_finish hLc f  mc kf (zSq_b h.1.1)) (bytes := cX5_finish) (maxL := 1) (nn := 0) (cwV 0 hts nL_X5_finish rfl rfl rfl (by decide +kernel) (by rw [hR]; exact ⟨Nat.le_of_ble_eq_true rfl, Nat.le_of_ble_eq_true rfl⟩)) kf (by decide) rfl dL_law_833 rfl rfl (Nat.le_of_ble_eq_true rfl) hkk (fun r m' hp => ?_)
  refine zx_aload_n hF0 1 dL_law_836 rfl ?_
  refine zX_mo ?_ (fun H h => h.symm)
  refine zl_callVl (As := []) (rest := [.long r]) hFr hDj.sy (C_X6_finish hLr o  mr ko ⟨zSq_C h.1.1, zSq_pp h.1.1, fun z => zFk_of h.1 z⟩) (bytes := cX6_finish) (maxL := 10) (nn := 0) (cwV 0 hts nL_X6_finish rfl rfl rfl (by decide +kernel) (by rw [hR]; exact ⟨Nat.le_of_ble_eq_true rfl, Nat.le_of_ble_eq_true rfl⟩)) ko (by decide) rfl dL_law_837 rfl rfl (Nat.le_of_ble_eq_true rfl) hkk (fun r2 m2 hp2 => ?_)
  obtain ⟨er, hT⟩ := law_fin h (sim_finish h.1 hp hp2) (n49_finish hp2)
  exact zx_lcmp_eq hF0 dL_law_840 dL_law_841 (tgt := 939) (by decide) (fun _ => (zX_wd (Nat.le_add_right _ _) (Nat.le_add_right _ _) (zX_mo (K Gc Gr _ _ (zLv_t hv hT)) (fun H h => h.symm)))) (fun ne => absurd er ne)
set_option maxRecDepth 100000 in
theorem lc_sum {C : zC} {Gc Gr : zG} {mc mr : zM} {f o b N i k n : Nat} {xs : Nat → Int32} (hv : zLv C Gc Gr mc mr f o) (hs : zSp9 C b N xs) (hi : i + 6 ≤ N) (hR : zRm C = room_1) (hk : k + 123 ≤ 600000 ∧ n + 1378 ≤ 7302250) (K : ∀ Gc' Gr' mc' mr', zLv C Gc' Gr' mc' mr' f o → zX C 4 (k + 123) (n + 1378) 939 (zLL f o b i) [] (zl2 Gc' Gr' mc' mr')) : zX C 4 k n 846 (zLL f o b i) [] (zl2 Gc Gr mc mr) := by
  have hF0 := hv.1
  have hFc := zLv_c hv
  have hFr := zLv_r hv
  have hts := hF0.2.2.2.2
  have hLc := hv.2.2.2.2.1
  have hLr := hv.2.2.2.2.2.1
  have hDj := hv.2.2.2.2.2.2.1
  have kf := hv.2.2.2.2.2.2.2.1
  have ko := hv.2.2.2.2.2.2.2.2.1
  have h := hv.2.2.2.2.2.2.2.2.2.1
  have hkk : k ≤ (zRm C).cells ∧ n ≤ (zRm C).slots := by rw [hR]; exact ⟨by show k ≤ 600000; omega, by show n ≤ 7302250; omega⟩
  refine zx_aload_n hF0 2 dL_law_846 rfl ?_
  refine zl_arg (c := 1) hF0 hs hi (by decide) rfl dL_law_847 dL_law_848 dL_law_849 dL_law_850 dL_law_851 ?_
  refine zl_callVl (As := [.int (xs (i + 1))]) (rest := []) hFc hDj (C_X5_sum hLc f (xs (i + 1)) mc kf trivial) (bytes := cX5_sum) (maxL := 2) (nn := 1) (cwV 1 hts nL_X5_sum rfl rfl rfl (by decide +kernel) (by rw [hR]; exact ⟨Nat.le_of_ble_eq_true rfl, Nat.le_of_ble_eq_true rfl⟩)) kf (by decide) rfl dL_law_852 rfl rfl (Nat.le_of_ble_eq_true rfl) hkk (fun r m' hp => ?_)
  obtain ⟨em, hp⟩ := hp
  subst em
  refine zx_aload_n hF0 1 dL_law_855 rfl ?_
  refine zl_arg (c := 1) hF0 hs hi (by decide) rfl dL_law_856 dL_law_857 dL_law_858 dL_law_859 dL_law_860 ?_
  refine zX_mo ?_ (fun H h => h.symm)
  refine zl_callVl (As := [.int (xs (i + 1))]) (rest := [.long r]) hFr hDj.sy (C_X6_sum hLr o (xs (i + 1)) mr ko (zSq_C h.1.1)) (bytes := cX6_sum) (maxL := 5) (nn := 1) (cwV 1 hts nL_X6_sum rfl rfl rfl (by decide +kernel) (by rw [hR]; exact ⟨Nat.le_of_ble_eq_true rfl, Nat.le_of_ble_eq_true rfl⟩)) ko (by decide) rfl dL_law_861 rfl rfl (Nat.le_of_ble_eq_true rfl) hkk (fun r2 m2 hp2 => ?_)
  obtain ⟨er, hT⟩ := law_fin h (sim_sum h.1 hp hp2) (z49_e hp2.1)
  exact zx_lcmp_eq hF0 dL_law_864 dL_law_865 (tgt := 939) (by decide) (fun _ => (zX_wd (Nat.le_add_right _ _) (Nat.le_add_right _ _) (zX_mo (K Gc Gr _ _ (zLv_t hv hT)) (fun H h => h.symm)))) (fun ne => absurd er ne)
set_option maxRecDepth 100000 in
theorem lc_count {C : zC} {Gc Gr : zG} {mc mr : zM} {f o b N i k n : Nat} {xs : Nat → Int32} (hv : zLv C Gc Gr mc mr f o) (hs : zSp9 C b N xs) (hi : i + 6 ≤ N) (hR : zRm C = room_1) (hk : k + 123 ≤ 600000 ∧ n + 1378 ≤ 7302250) (K : ∀ Gc' Gr' mc' mr', zLv C Gc' Gr' mc' mr' f o → zX C 4 (k + 123) (n + 1378) 939 (zLL f o b i) [] (zl2 Gc' Gr' mc' mr')) : zX C 4 k n 870 (zLL f o b i) [] (zl2 Gc Gr mc mr) := by
  have hF0 := hv.1
  have hFc := zLv_c hv
  have hFr := zLv_r hv
  have hts := hF0.2.2.2.2
  have hLc := hv.2.2.2.2.1
  have hLr := hv.2.2.2.2.2.1
  have hDj := hv.2.2.2.2.2.2.1
  have kf := hv.2.2.2.2.2.2.2.1
  have ko := hv.2.2.2.2.2.2.2.2.1
  have h := hv.2.2.2.2.2.2.2.2.2.1
  have hkk : k ≤ (zRm C).cells ∧ n ≤ (zRm C).slots := by rw [hR]; exact ⟨by show k ≤ 600000; omega, by show n ≤ 7302250; omega⟩
  refine zx_aload_n hF0 2 dL_law_870 rfl ?_
  refine zl_arg (c := 1) hF0 hs hi (by decide) rfl dL_law_871 dL_law_872 dL_law_873 dL_law_874 dL_law_875 ?_
  refine zl_callVi (As := [.int (xs (i + 1))]) (rest := []) hFc hDj (C_X5_count hLc f (xs (i + 1)) mc kf trivial) (bytes := cX5_count) (maxL := 2) (nn := 1) (cwV 1 hts nL_X5_count rfl rfl rfl (by decide +kernel) (by rw [hR]; exact ⟨Nat.le_of_ble_eq_true rfl, Nat.le_of_ble_eq_true rfl⟩)) kf (by decide) rfl dL_law_876 rfl rfl (Nat.le_of_ble_eq_true rfl) hkk (fun r m' hp => ?_)
  obtain ⟨em, hp⟩ := hp
  subst em
  refine zx_aload_n hF0 1 dL_law_879 rfl ?_
  refine zl_arg (c := 1) hF0 hs hi (by decide) rfl dL_law_880 dL_law_881 dL_law_882 dL_law_883 dL_law_884 ?_
  refine zX_mo ?_ (fun H h => h.symm)
  refine zl_callVi (As := [.int (xs (i + 1))]) (rest := [.int r]) hFr hDj.sy (C_X6_count hLr o (xs (i + 1)) mr ko (zRC_N (zSq_C h.1.1))) (bytes := cX6_count) (maxL := 2) (nn := 1) (cwV 1 hts nL_X6_count rfl rfl rfl (by decide +kernel) (by rw [hR]; exact ⟨Nat.le_of_ble_eq_true rfl, Nat.le_of_ble_eq_true rfl⟩)) ko (by decide) rfl dL_law_885 rfl rfl (Nat.le_of_ble_eq_true rfl) hkk (fun r2 m2 hp2 => ?_)
  obtain ⟨er, hT⟩ := law_fin h (sim_count h.1 hp hp2) (z49_e hp2.1)
  exact zx_icmp_eq hF0 dL_law_888 (tgt := 939) (by decide) (fun _ => (zX_wd (Nat.le_add_right _ _) (Nat.le_add_right _ _) (zX_mo (K Gc Gr _ _ (zLv_t hv hT)) (fun H h => h.symm)))) (fun ne => absurd er ne)
