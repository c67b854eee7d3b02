/-! the reference: claim, tell, money, lien, heir, sum, count -/
def zRtl (m : zM) (o c : Nat) (k : Nat) : Int32 := if k < 6 then zI m 1609 o (10 * c + k) else if k = 6 then zRle m o c else if k = 7 then zRmo m o c else if k = 8 then (if zI m 1609 o (10 * c + 5) = 2 then 0 else nI (zcb (ztw m o c (-1)) (zI m 1606 o 0).toNatClampNeg)) else zI m 1609 o (10 * c + (k - 2))
def zRmn (m : zM) (o c : Nat) (k : Nat) : Int64 := if k = 0 then zRw m o c (zRa m o) else if k = 1 then zJ m 1610 o c else if k = 2 then zJ m 1611 o c else if k = 3 then zsum (zsh (zJ m 1615 o) c) (zI m 1609 o (10 * c + 8)).toNatClampNeg else if k = 4 then zsum (zsh (zJ m 1617 o) c) (zI m 1609 o (10 * c + 9)).toNatClampNeg else if k = 5 then zJ m 1612 o c else if 10 ≤ k ∧ k < 10 + (zI m 1609 o (10 * c + 8)).toNatClampNeg then zsh (zJ m 1615 o) c (k - 10) else if 20 ≤ k ∧ k < 20 + (zI m 1609 o (10 * c + 9)).toNatClampNeg then zsh (zJ m 1617 o) c (k - 20) else -1
/-- claims with at most four liens and heirs each -/
def zRLH (m : zM) (o : Nat) : Prop := ∀ c, c < (zI m 1606 o 0).toNatClampNeg → (∃ L, L ≤ 4 ∧ zI m 1609 o (10 * c + 8) = nI L) ∧ ∃ H, H ≤ 4 ∧ zI m 1609 o (10 * c + 9) = nI H
section ZR6
variable {l : Launch} {G : zG}
theorem C_X6_claim (hL : zLay G) : Con_X6_claim l G (fun o _ _ _ _ _ m => zRC m o) (fun o x1 x2 x3 x4 x5 m r m' => ((¬ zI m 1606 o 0 = 16 ∧ (0 ≤ x1 ∧ x1 ≤ 99) ∧ zRcb x2 x3 x4 x5 ∧ zI m 1608 o 0 = 0) ∧ ∃ n, n < 16 ∧ zI m 1606 o 0 = nI n ∧ zIt r m' (zRH (zRnew (zc0 m o) o n x1 x2 x3 x4 x5) o) (nI n) (zRnew (zc0 m o) o n x1 x2 x3 x4 x5) (-1) (zsI (zRnew (zc0 m o) o n x1 x2 x3 x4 x5) 1606 o 0 (nI n))) ∨ (¬ (¬ zI m 1606 o 0 = 16 ∧ (0 ≤ x1 ∧ x1 ≤ 99) ∧ zRcb x2 x3 x4 x5 ∧ zI m 1608 o 0 = 0) ∧ r = -1 ∧ m' = zc0 m o)) := by
  refine con_X6_claim hL fun C Qc S hl o x1 x2 x3 x4 x5 m ko hp hr => sg_X6_claim_0 S (C_X6_in hL) (C_X6_canBe hL) ko ⟨fun q => hr _ _ (Or.inr ⟨fun y => y.1 q, rfl, rfl⟩), fun n16 => ⟨trivial, fun r2 h2 => ⟨fun q => hr _ _ (Or.inr ⟨fun y => zB_f h2 q y.2.1, rfl, rfl⟩), fun q2 => ⟨trivial, fun r4 h4 => ⟨fun q => hr _ _ (Or.inr ⟨fun y => zB_f h4 q y.2.2.1, rfl, rfl⟩), fun q4 => ⟨fun q0 => ?_, fun q0 => hr _ _ (Or.inr ⟨fun y => q0 y.2.2.2, rfl, rfl⟩)⟩⟩⟩⟩⟩⟩
  have hC := zc0_C hp
  obtain ⟨hg, n, hn, hn2, hpa⟩ := hp
  have hn3 : n < 16 := by
    by_cases e : n = 16
    · rw [e] at hn2; exact absurd hn2 n16
    · omega
  have z0 : 10 * nI n = nI (10 * n) := by rw [show (10 : Int32) = nI 10 from rfl, pk_mul]
  rw [hn2, z10 n 1 1 rfl, z10 n 2 2 rfl, z10 n 3 3 rfl, z10 n 4 4 rfl, z0, nI_clamp (by omega), nI_clamp (by omega), nI_clamp (by omega), nI_clamp (by omega), nI_clamp (by omega)]
  refine ⟨vp_in_nI (by omega) (by omega), vp_in_nI (by omega) (by omega), vp_in_nI (by omega) (by omega), vp_in_nI (by omega) (by omega), vp_in_nI (by omega) (by omega), ?_⟩
  have step : ∀ (k : Nat) (c : Int32) (M : zM), c = nI k → k < 10 → Pt_X6_claim_125 C G o (nI n) (nI (k + 1)) (zsI M 1609 o (10 * n + k) 0) → Pt_X6_claim_125 C G o (nI n) c M := by
    intro k c M hc hk h
    subst hc
    refine sg_X6_claim_125 S (C_X6_holds hL) ko ⟨fun q => absurd q (zge 10 hk), fun _ => ?_⟩
    rw [z10 n k (nI k) rfl, nI_clamp (by omega), ← nI_succ]
    exact ⟨vp_in_nI (by omega) (by omega), h⟩
  refine step 5 5 _ rfl (by omega) (step 6 _ _ rfl (by omega) (step 7 _ _ rfl (by omega) (step 8 _ _ rfl (by omega) (step 9 _ _ rfl (by omega) ?_))))
  refine sg_X6_claim_125 S (C_X6_holds hL) ko ⟨fun _ => ⟨vp_in_nI (by omega) (by omega), ?_⟩, fun q => absurd (by decide) q⟩
  rw [nI_clamp (n := n) (by omega)]
  have e6 : ∀ M, zI (zsI (zsI (zsI (zsI (zsI (zsI (zsI (zsI (zsI (zsI M 1609 o (10 * n) x1) 1609 o (10 * n + 1) x2) 1609 o (10 * n + 2) x3) 1609 o (10 * n + 3) x4) 1609 o (10 * n + 4) x5) 1609 o (10 * n + 5) 0) 1609 o (10 * n + 6) 0) 1609 o (10 * n + 7) 0) 1609 o (10 * n + 8) 0) 1609 o (10 * n + 9) 0) 1606 o 0 = zI M 1606 o 0 := fun _ => rfl
  rw [e6, show zI (zsI m 600 o 0 0) 1606 o 0 = nI n from hn2]
  have e7 : nI n + 1 - 1 = nI n := by rw [← nI_succ, nI_pred]
  rw [e7]
  refine ⟨?_, fun r3 h3 => ?_⟩
  · show zRC (zRnew (zc0 m o) o n x1 x2 x3 x4 x5) o
    refine ⟨zRG_ext (m := zc0 m o) (fun f h1 h2 => ?_) hC.1, n + 1, by omega, ?_, fun c hc => ?_⟩
    · funext j
      unfold zRnew
      rw [zI_n (by omega), zI_sJ, zI_sJ, zI_sJ, zI_n (by omega), zI_n (by omega), zI_n (by omega), zI_n (by omega), zI_n (by omega), zI_n (by omega), zI_n (by omega), zI_n (by omega), zI_n (by omega), zI_n (by omega)]
    · unfold zRnew
      rw [zI_e, ← nI_succ]
    · by_cases e : c = n
      · subst e
        obtain ⟨a, ha, ha2⟩ := z_in2 63 rfl (by omega) (zB_t h4 q4).2.2.2
        refine ⟨a, by omega, ?_⟩
        rw [← ha2]
        unfold zRnew
        simp only [zI_sI, zI_sJ]
        rw [if_neg (by omega), if_neg (by omega), if_neg (by omega), if_neg (by omega), if_neg (by omega), if_neg (by omega), if_pos (by simp)]
      · obtain ⟨a, ha, ha2⟩ := hpa c (by omega)
        refine ⟨a, ha, ?_⟩
        rw [← ha2]
        unfold zRnew zc0
        simp only [zI_sI, zI_sJ]
        rw [if_neg (by omega), if_neg (by omega), if_neg (by omega), if_neg (by omega), if_neg (by omega), if_neg (by omega), if_neg (by omega), if_neg (by omega), if_neg (by omega), if_neg (by omega), if_neg (by omega), if_neg (by omega)]
  · have hcond : ¬ zI m 1606 o 0 = 16 ∧ (0 ≤ x1 ∧ x1 ≤ 99) ∧ zRcb x2 x3 x4 x5 ∧ zI m 1608 o 0 = 0 := ⟨n16, zB_t h2 q2, zB_t h4 q4, q0⟩
    have h3 : zB r3 (zRH (zRnew (zc0 m o) o n x1 x2 x3 x4 x5) o) := h3
    exact ⟨fun q => hr _ _ (Or.inl ⟨hcond, n, hn3, hn2, zIt_y (zB_t h3 q)⟩), fun q => hr _ _ (Or.inl ⟨hcond, n, hn3, hn2, zIt_n (zB_f h3 q)⟩)⟩
theorem C_X6_fee' (hL : zLay G) : Con_X6_fee l G (fun o _ _ m => zRN m o) (fun o x1 x2 m r m' => zAt m o x1 (fun c => zIt r m' ((0 ≤ x2 ∧ x2 ≤ 40) ∧ zI m 1608 o 0 = 0) 1 (zsI (zc0 m o) 1609 o (10 * c + 7) x2) 0 (zc0 m o)) (r = 0 ∧ m' = zc0 m o)) := by
  refine con_X6_fee hL fun C Qc S hl o x1 x2 m ko hp hr => sg_X6_fee_0 S (C_X6_isClaim hL) (C_X6_in hL) ko ⟨hp, fun r h => ⟨fun q => hr _ _ (Or.inr ⟨zB_f h q, rfl, rfl⟩), fun q => ?_⟩⟩
  obtain ⟨c, hcn, e⟩ := zB_t h q
  have hc := (z_uniq hp hcn e).1
  subst e
  refine ⟨trivial, fun r2 h2 => ⟨fun q2 => hr _ _ (Or.inl ⟨c, hc, hcn, rfl, zIt_n fun z => zB_f h2 q2 z.1⟩), fun q2 => ⟨fun q3 => ?_, fun q3 => hr _ _ (Or.inl ⟨c, hc, hcn, rfl, zIt_n fun z => q3 z.2⟩)⟩⟩⟩
  rw [z10 c 7 7 rfl, nI_clamp (by omega)]
  exact ⟨vp_in_nI (by omega) (by omega), hr _ _ (Or.inl ⟨c, hc, hcn, rfl, zIt_y ⟨zB_t h2 q2, q3⟩⟩)⟩
theorem C_X6_lien (hL : zLay G) : Con_X6_lien l G (fun o _ _ _ m => zRN m o ∧ zRLH m o) (fun o x1 x2 l3 m r m' => zAt m o x1 (fun c => ∃ L, L ≤ 4 ∧ zI m 1609 o (10 * c + 8) = nI L ∧ zIt r m' (¬ L = 4 ∧ (0 ≤ x2 ∧ x2 ≤ 9) ∧ ¬ l3 < 1 ∧ ¬ 1000000000 < l3 ∧ zI m 1608 o 0 = 0) (nI L) (zsI (zsJ (zsJ (zsI (zc0 m o) 1613 o (4 * c + L) x2) 1614 o (4 * c + L) l3) 1615 o (4 * c + L) 0) 1609 o (10 * c + 8) (nI (L + 1))) (-1) (zc0 m o)) (r = -1 ∧ m' = zc0 m o)) := by
  refine con_X6_lien hL fun C Qc S hl o x1 x2 l3 m ko hp hr => sg_X6_lien_0 S (C_X6_isClaim hL) (C_X6_of hL) (C_X6_in hL) ko ⟨hp.1, fun r h => ⟨fun q => hr _ _ (Or.inr ⟨zB_f h q, rfl, rfl⟩), fun q => ?_⟩⟩
  obtain ⟨c, hcn, e⟩ := zB_t h q
  have hc := (z_uniq hp.1 hcn e).1
  subst e
  obtain ⟨⟨L, hLn, hL2⟩, -⟩ := hp.2 c hcn
  refine ⟨⟨c, 8, hc, by decide, rfl, rfl⟩, fun r4 h4 => ?_⟩
  have e4 : r4 = nI L := (h4 c 8 hc (by decide) rfl rfl).trans hL2
  subst e4
  have e4 : nI L = 4 ↔ L = 4 := by rw [show (4 : Int32) = nI 4 from rfl, nI_eq (by omega) (by omega)]
  have no : ¬ (¬ L = 4 ∧ (0 ≤ x2 ∧ x2 ≤ 9) ∧ ¬ l3 < 1 ∧ ¬ 1000000000 < l3 ∧ zI m 1608 o 0 = 0) → zRet C G Qc (some (.int (-1))) (zsI m 600 o 0 0) := fun z => hr _ _ (Or.inl ⟨c, hc, hcn, rfl, L, hLn, hL2, zIt_n z⟩)
  refine ⟨fun z => no fun y => y.1 (e4.1 z), fun z => ⟨trivial, fun r6 h6 => ⟨fun q6 => no fun y => zB_f h6 q6 y.2.1, fun q6 => ⟨fun q7 => no fun y => y.2.2.1 q7, fun q7 => ⟨fun q8 => no fun y => y.2.2.2.1 q8, fun q8 => ⟨fun q0 r7 h7 => ?_, fun q0 => no fun y => q0 y.2.2.2.2⟩⟩⟩⟩⟩⟩
  have e7 : r7 = nI L := (h7 c 8 hc (by decide) rfl rfl).trans hL2
  subst e7
  rw [z4, z10 c 8 8 rfl, nI_clamp (by omega), nI_clamp (by omega), hL2, ← nI_succ]
  exact ⟨vp_in_nI (by omega) (by omega), vp_in_nI (by omega) (by omega), hr _ _ (Or.inl ⟨c, hc, hcn, rfl, L, hLn, hL2, zIt_y ⟨fun y => z (e4.2 y), zB_t h6 q6, q7, q8, q0⟩⟩)⟩
theorem C_X6_heir (hL : zLay G) : Con_X6_heir l G (fun o _ _ m => zRN m o ∧ zRLH m o) (fun o x1 x2 m r m' => zAt m o x1 (fun c => ∃ H, H ≤ 4 ∧ zI m 1609 o (10 * c + 9) = nI H ∧ zIt r m' (¬ H = 4 ∧ (1 ≤ x2 ∧ x2 ≤ 9) ∧ zI m 1608 o 0 = 0) (nI H) (zsI (zsJ (zsI (zc0 m o) 1616 o (4 * c + H) x2) 1617 o (4 * c + H) 0) 1609 o (10 * c + 9) (nI (H + 1))) (-1) (zc0 m o)) (r = -1 ∧ m' = zc0 m o)) := by
  refine con_X6_heir hL fun C Qc S hl o x1 x2 m ko hp hr => sg_X6_heir_0 S (C_X6_isClaim hL) (C_X6_of hL) (C_X6_in hL) ko ⟨hp.1, fun r h => ⟨fun q => hr _ _ (Or.inr ⟨zB_f h q, rfl, rfl⟩), fun q => ?_⟩⟩
  obtain ⟨c, hcn, e⟩ := zB_t h q
  have hc := (z_uniq hp.1 hcn e).1
  subst e
  obtain ⟨-, H, hLn, hL2⟩ := hp.2 c hcn
  refine ⟨⟨c, 9, hc, by decide, rfl, rfl⟩, fun r4 h4 => ?_⟩
  have e4 : r4 = nI H := (h4 c 9 hc (by decide) rfl rfl).trans hL2
  subst e4
  have e4 : nI H = 4 ↔ H = 4 := by rw [show (4 : Int32) = nI 4 from rfl, nI_eq (by omega) (by omega)]
  have no : ¬ (¬ H = 4 ∧ (1 ≤ x2 ∧ x2 ≤ 9) ∧ zI m 1608 o 0 = 0) → zRet C G Qc (some (.int (-1))) (zsI m 600 o 0 0) := fun z => hr _ _ (Or.inl ⟨c, hc, hcn, rfl, H, hLn, hL2, zIt_n z⟩)
  refine ⟨fun z => no fun y => y.1 (e4.1 z), fun z => ⟨trivial, fun r6 h6 => ⟨fun q6 => no fun y => zB_f h6 q6 y.2.1, fun q6 => ⟨fun q0 r7 h7 => ?_, fun q0 => no fun y => q0 y.2.2⟩⟩⟩⟩
  have e7 : r7 = nI H := (h7 c 9 hc (by decide) rfl rfl).trans hL2
  subst e7
  rw [z4, z10 c 9 9 rfl, nI_clamp (by omega), nI_clamp (by omega), hL2, ← nI_succ]
  exact ⟨vp_in_nI (by omega) (by omega), vp_in_nI (by omega) (by omega), hr _ _ (Or.inl ⟨c, hc, hcn, rfl, H, hLn, hL2, zIt_y ⟨fun y => z (e4.2 y), zB_t h6 q6, q0⟩⟩)⟩
theorem C_X6_tell (hL : zLay G) : Con_X6_tell l G (fun o _ _ m => zRC m o) (fun o x1 x2 m r m' => m' = zc0 m o ∧ zAt m o x1 (fun c => r = zsw 12 (zRtl m o c) (-1) x2) (r = -1)) := by
  refine con_X6_tell hL fun C Qc S hl o x1 x2 m ko hp hr => sg_X6_tell_0 S (C_X6_isClaim hL) (C_X6_of hL) (C_X6_leastOf hL) (C_X6_mostOf hL) (C_X6_is hL) (C_X6_twins hL) ko ⟨zRC_N hp, fun r h => ⟨fun q => ?_, fun q => hr _ _ ⟨rfl, Or.inr ⟨zB_f h q, rfl⟩⟩⟩⟩
  obtain ⟨c, hcn, e⟩ := zB_t h q
  have hc := (z_uniq (zRC_N hp) hcn e).1
  subst e
  obtain ⟨hg, n, hn, hn2, hpa⟩ := zc0_C hp
  have hn3 : (zI m 1606 o 0).toNatClampNeg = n := by rw [show zI m 1606 o 0 = nI n from hn2, nI_clamp (by omega)]
  have hP := hpa c (by rw [← hn3]; exact hcn)
  have yes : ∀ r, r = zsw 12 (zRtl m o c) (-1) x2 → zRet C G Qc (some (.int r)) (zsI m 600 o 0 0) := fun r z => hr _ _ ⟨rfl, Or.inl ⟨c, hc, hcn, rfl, z⟩⟩
  refine ⟨fun z => yes _ (zsw_o (by omega)).symm, fun z => ⟨⟨c, 0, hc, by decide, rfl, z⟩, fun r4 h4 => yes _ ?_⟩, fun z => ⟨⟨c, 1, hc, by decide, rfl, z⟩, fun r4 h4 => yes _ ?_⟩, fun z => ⟨⟨c, 2, hc, by decide, rfl, z⟩, fun r4 h4 => yes _ ?_⟩, fun z => ⟨⟨c, 3, hc, by decide, rfl, z⟩, fun r4 h4 => yes _ ?_⟩, fun z => ⟨⟨c, 4, hc, by decide, rfl, z⟩, fun r4 h4 => yes _ ?_⟩, fun z => ⟨⟨c, 5, hc, by decide, rfl, z⟩, fun r4 h4 => yes _ ?_⟩, fun z => ⟨⟨hg, c, hc, rfl, hP⟩, fun r4 h4 => yes _ ?_⟩, fun z => ⟨⟨hg, c, hc, rfl, hP⟩, fun r4 h4 => yes _ ?_⟩, fun z => ⟨zRC_N hp, fun r4 h4 => ⟨fun q4 => ⟨⟨zRC_N hp, c, hc, rfl⟩, fun r5 h5 => yes _ ?_⟩, fun q4 => yes _ ?_⟩⟩, fun z => ⟨⟨c, 7, hc, by decide, rfl, rfl⟩, fun r4 h4 => yes _ ?_⟩, fun z => ⟨⟨c, 8, hc, by decide, rfl, rfl⟩, fun r4 h4 => yes _ ?_⟩, fun z => ⟨⟨c, 9, hc, by decide, rfl, rfl⟩, fun r4 h4 => yes _ ?_⟩⟩
  · rw [zsw_k 0 (by omega) (by omega) z]; exact h4 c 0 hc (by decide) rfl z
  · rw [zsw_k 1 (by omega) (by omega) z]; exact h4 c 1 hc (by decide) rfl z
  · rw [zsw_k 2 (by omega) (by omega) z]; exact h4 c 2 hc (by decide) rfl z
  · rw [zsw_k 3 (by omega) (by omega) z]; exact h4 c 3 hc (by decide) rfl z
  · rw [zsw_k 4 (by omega) (by omega) z]; exact h4 c 4 hc (by decide) rfl z
  · rw [zsw_k 5 (by omega) (by omega) z]; exact h4 c 5 hc (by decide) rfl z
  · rw [zsw_k 6 (by omega) (by omega) z]
    exact (h4 c hc rfl).trans (zc0_le m o c)
  · rw [zsw_k 7 (by omega) (by omega) z]
    exact (h4 c hc rfl).trans (zc0_mo m o c)
  · rw [zsw_k 8 (by omega) (by omega) z]
    have n2 : ¬ zI m 1609 o (10 * c + 5) = 2 := fun y => zB_f h4 q4 ⟨c, hcn, rfl, y⟩
    rw [nI_clamp (by omega)] at h5
    show r5 = if zI m 1609 o (10 * c + 5) = 2 then 0 else _
    rw [if_neg n2]
    exact h5
  · rw [zsw_k 8 (by omega) (by omega) z]
    obtain ⟨i, hi, e, y⟩ := zB_t h4 q4
    have hi2 := (z_uniq (zRC_N hp) hi e).1
    rw [nI_eq (by omega) (by omega)] at e
    subst e
    exact (if_pos y).symm
  · rw [zsw_k 9 (by omega) (by omega) z]; exact h4 c 7 hc (by decide) rfl rfl
  · rw [zsw_k 10 (by omega) (by omega) z]; exact h4 c 8 hc (by decide) rfl rfl
  · rw [zsw_k 11 (by omega) (by omega) z]; exact h4 c 9 hc (by decide) rfl rfl
theorem C_X6_count (hL : zLay G) : Con_X6_count l G (fun o _ m => zRN m o) (fun o x m r m' => m' = zc0 m o ∧ r = zsw 7 (fun k => if k = 0 then zI m 1606 o 0 else if k < 4 then nI (zcb (fun c => decide (zI m 1609 o (10 * c + 5) = nI (k - 1))) (zI m 1606 o 0).toNatClampNeg) else if k = 4 then zI m 1618 o 0 else if k = 5 then zI m 1607 o 0 else if zI m 1608 o 0 = 0 then 0 else 1) (-1) x) := by
  refine con_X6_count hL fun C Qc S hl o x m ko hp hr => sg_X6_count_0 S (C_X6_states hL) ko ⟨fun z => hr _ _ ⟨rfl, (zsw_o (by omega)).symm⟩, fun z => hr _ _ ⟨rfl, ?_⟩, fun z => ⟨hp, fun r h => hr _ _ ⟨rfl, ?_⟩⟩, fun z => ⟨hp, fun r h => hr _ _ ⟨rfl, ?_⟩⟩, fun z => ⟨hp, fun r h => hr _ _ ⟨rfl, ?_⟩⟩, fun z => hr _ _ ⟨rfl, ?_⟩, fun z => hr _ _ ⟨rfl, ?_⟩, fun z => ⟨fun q => hr _ _ ⟨rfl, ?_⟩, fun q => hr _ _ ⟨rfl, ?_⟩⟩⟩
  · rw [zsw_k 0 (by omega) (by omega) z]; rfl
  · rw [zsw_k 1 (by omega) (by omega) z]; exact h
  · rw [zsw_k 2 (by omega) (by omega) z]; exact h
  · rw [zsw_k 3 (by omega) (by omega) z]; exact h
  · rw [zsw_k 4 (by omega) (by omega) z]; rfl
  · rw [zsw_k 5 (by omega) (by omega) z]; rfl
  · rw [zsw_k 6 (by omega) (by omega) z]; exact (if_pos q).symm
  · rw [zsw_k 6 (by omega) (by omega) z]; exact (if_neg q).symm
theorem C_X6_sum (hL : zLay G) : Con_X6_sum l G (fun o _ m => zRC m o) (fun o x m r m' => m' = zc0 m o ∧ r = zsw 4 (fun k => if k = 0 then zJ m 1605 o 0 else if k = 1 then zsum (zJ m 1610 o) (zI m 1606 o 0).toNatClampNeg else if k = 2 then zRa m o else zsum (fun c => (zRle m o c).toInt64) (zI m 1606 o 0).toNatClampNeg) (-1) x) := by
  refine con_X6_sum hL fun C Qc S hl o x m ko hp hr => sg_X6_sum_0 S (C_X6_paidAll hL) (C_X6_all hL) ko ⟨fun z => hr _ _ ⟨rfl, (zsw_o (by omega)).symm⟩, fun z => hr _ _ ⟨rfl, ?_⟩, fun z => ⟨zRC_N hp, fun r h => hr _ _ ⟨rfl, ?_⟩⟩, fun z => ⟨zc0_C hp, fun r h => hr _ _ ⟨rfl, ?_⟩⟩, fun z => ?_⟩
  · rw [zsw_k 0 (by omega) (by omega) z]; rfl
  · rw [zsw_k 1 (by omega) (by omega) z]; exact h
  · rw [zsw_k 2 (by omega) (by omega) z]; exact h.trans (zc0_a m o)
  · have hr2 : ∀ r, r = zsum (fun c => (zRle m o c).toInt64) (zI m 1606 o 0).toNatClampNeg → zRet C G Qc (some (.long r)) (zsI m 600 o 0 0) := fun r h => hr _ _ ⟨rfl, by rw [zsw_k 3 (by omega) (by omega) z]; exact h⟩
    obtain ⟨hg, n, hn, hn2, hpa⟩ := zc0_C hp
    have hn2' : zI m 1606 o 0 = nI n := hn2
    rw [hn2', nI_clamp (by omega)] at hr2
    refine z_loop (P := fun i => Pt_X6_sum_58 C G o (zsum (fun c => (zRle m o c).toInt64) i) (nI i) (zsI m 600 o 0 0)) n ?_ (fun i hi ih => ?_) 0 (Nat.zero_le n)
    · exact sg_X6_sum_58 S (C_X6_leastOf hL) ko ⟨fun _ => hr2 _ rfl, fun q => by rw [show zI (zsI m 600 o 0 0) 1606 o 0 = nI n from hn2] at q; exact absurd (nI_le (Nat.le_refl n) (by omega)) q⟩
    · refine sg_X6_sum_58 S (C_X6_leastOf hL) ko ⟨fun q => by rw [show zI (zsI m 600 o 0 0) 1606 o 0 = nI n from hn2] at q; exact absurd q (nI_ge hi (by omega)), fun _ => ⟨⟨hg, i, by omega, rfl, hpa i hi⟩, fun r h => ?_⟩⟩
      have e := (h i (by omega) rfl).trans (zc0_le m o i)
      rw [e, ← nI_succ]
      exact ih
theorem z_lt_of_in {x : Int32} {a k : Nat} {c d : Int32} (hc : c = nI a) (hd : d = nI (a + k) - 1) (hk : k < 2 ^ 20) (ha : a < 2 ^ 20) (h0 : 0 < a) (h : c ≤ x ∧ x ≤ d) : ∃ j, j < k ∧ x = nI (a + j) := by
  subst hc hd
  obtain ⟨j, hj, rfl⟩ := nI_of (x := x) (by
    rw [Int32.not_lt]
    exact Int32.le_trans (nI_pos' (by omega)) h.1)
  have h1 := h.1
  have h2 := h.2
  rw [nI_leI (by omega) hj] at h1
  have e : nI (a + k) - 1 = nI (a + k - 1) := by
    rw [show a + k = (a + k - 1) + 1 by omega, nI_pred]; rfl
  rw [e, nI_leI hj (by omega)] at h2
  exact ⟨j - a, by omega, by rw [show a + (j - a) = j by omega]⟩
theorem C_X6_money (hL : zLay G) : Con_X6_money l G (fun o _ _ m => zRC m o ∧ zRLH m o) (fun o x1 x2 m r m' => m' = zc0 m o ∧ zAt m o x1 (fun c => r = zsw 24 (zRmn m o c) (-1) x2) (r = -1)) := by
  refine con_X6_money hL fun C Qc S hl o x1 x2 m ko hp hr => sg_X6_money_0 S (C_X6_isClaim hL) (C_X6_of hL) (C_X6_in hL) (C_X6_all hL) (C_X6_worst hL) (C_X6_sumOf hL) ko ⟨zRC_N hp.1, fun r h => ⟨fun q => ?_, fun q => hr _ _ ⟨rfl, Or.inr ⟨zB_f h q, rfl⟩⟩⟩⟩
  obtain ⟨c, hcn, e⟩ := zB_t h q
  have hc := (z_uniq (zRC_N hp.1) hcn e).1
  subst e
  obtain ⟨⟨L, hLn, hL2⟩, H, hHn, hH2⟩ := hp.2 c hcn
  obtain ⟨hg, n, hn, hn2, hpa⟩ := zc0_C hp.1
  have hn3 : (zI m 1606 o 0).toNatClampNeg = n := by rw [show zI m 1606 o 0 = nI n from hn2, nI_clamp (by omega)]
  have hP := hpa c (by rw [← hn3]; exact hcn)
  have yes : ∀ r, r = zsw 24 (zRmn m o c) (-1) x2 → zRet C G Qc (some (.long r)) (zsI m 600 o 0 0) := fun r z => hr _ _ ⟨rfl, Or.inl ⟨c, hc, hcn, rfl, z⟩⟩
  rw [nI_clamp (by omega)]
  refine ⟨fun z => ⟨⟨c, 8, hc, by decide, rfl, rfl⟩, fun r4 h4 => ⟨trivial, fun r6 h6 => ⟨fun q6 => ⟨⟨c, 9, hc, by decide, rfl, rfl⟩, fun r8 h8 => ⟨trivial, fun r10 h10 => ⟨fun q10 => yes _ ?_, fun q10 => ?_⟩⟩⟩, fun q6 => ?_⟩⟩⟩, fun z => ⟨zc0_C hp.1, fun r4 h4 => ⟨⟨hg, c, hc, rfl, hP⟩, fun r5 h5 => yes _ ?_⟩⟩, fun z => ⟨vp_in_nI (by omega) (by omega), yes _ ?_⟩, fun z => ⟨vp_in_nI (by omega) (by omega), yes _ ?_⟩, fun z => ⟨⟨c, hc, rfl, ⟨L, hLn, hL2⟩, H, hHn, hH2⟩, fun r4 h4 => yes _ ?_⟩, fun z => ⟨⟨c, hc, rfl, ⟨L, hLn, hL2⟩, H, hHn, hH2⟩, fun r4 h4 => yes _ ?_⟩, fun z => ⟨vp_in_nI (by omega) (by omega), yes _ ?_⟩⟩
  · -- nothing of that number
    have e4 : r4 = nI L := (h4 c 8 hc (by decide) rfl rfl).trans hL2
    have e8 : r8 = nI H := (h8 c 9 hc (by decide) rfl rfl).trans hH2
    by_cases w : x2.toInt < 0 ∨ 24 ≤ x2.toInt
    · exact (zsw_o w).symm
    · obtain ⟨j, hj, e⟩ := nI_of (x := x2) (by rw [Int32.lt_iff_toInt_lt]; intro y; apply w; left; exact y)
      have w2 := w
      rw [e, nI_toInt hj] at w2 z
      rw [zsw_k j (by omega) (by omega) e]
      have n6 := zB_f h6 q6
      have n10 := zB_f h10 q10
      rw [e4, e, show (9 : Int32) = nI 9 from rfl, show (10 : Int32) = nI 10 from rfl, nI_add, nI_leI (by omega) (by omega), nI_leI (by omega) (by omega)] at n6
      rw [e8, e, show (19 : Int32) = nI 19 from rfl, show (20 : Int32) = nI 20 from rfl, nI_add, nI_leI (by omega) (by omega), nI_leI (by omega) (by omega)] at n10
      unfold zRmn
      rw [hL2, hH2, nI_clamp (by omega), nI_clamp (by omega)]
      rw [if_neg (by omega), if_neg (by omega), if_neg (by omega), if_neg (by omega), if_neg (by omega), if_neg (by omega), if_neg (by omega), if_neg (by omega)]
  · -- an heir's
    have e8 : r8 = nI H := (h8 c 9 hc (by decide) rfl rfl).trans hH2
    have y10 := zB_t h10 q10
    rw [e8] at y10
    obtain ⟨j, hj, e⟩ := z_lt_of_in (a := 20) (k := H) rfl (by rw [show (19 : Int32) = nI 19 from rfl, nI_add, show 20 + H = (19 + H) + 1 by omega, nI_pred]) (by omega) (by omega) (by omega) y10
    have hz : 4 * nI c + x2 - 20 = nI (4 * c + j) := by
      rw [e, z4, show (20 : Int32) = nI 20 from rfl, pk_sub (by omega)]
      congr 1
      omega
    rw [hz, nI_clamp (by omega)]
    refine ⟨vp_in_nI (by omega) (by omega), yes _ ?_⟩
    rw [zsw_k (20 + j) (by omega) (by omega) e]
    unfold zRmn
    rw [hL2, hH2, nI_clamp (by omega), nI_clamp (by omega)]
    rw [if_neg (by omega), if_neg (by omega), if_neg (by omega), if_neg (by omega), if_neg (by omega), if_neg (by omega), if_neg (by omega), if_pos (by omega), show 20 + j - 20 = j by omega]
    rfl
  · -- a lien's
    have e4 : r4 = nI L := (h4 c 8 hc (by decide) rfl rfl).trans hL2
    have y6 := zB_t h6 q6
    rw [e4] at y6
    obtain ⟨j, hj, e⟩ := z_lt_of_in (a := 10) (k := L) rfl (by rw [show (9 : Int32) = nI 9 from rfl, nI_add, show 10 + L = (9 + L) + 1 by omega, nI_pred]) (by omega) (by omega) (by omega) y6
    have hz : 4 * nI c + x2 - 10 = nI (4 * c + j) := by
      rw [e, z4, show (10 : Int32) = nI 10 from rfl, pk_sub (by omega)]
      congr 1
      omega
    rw [hz, nI_clamp (by omega)]
    refine ⟨vp_in_nI (by omega) (by omega), yes _ ?_⟩
    rw [zsw_k (10 + j) (by omega) (by omega) e]
    unfold zRmn
    rw [hL2, hH2, nI_clamp (by omega), nI_clamp (by omega)]
    rw [if_neg (by omega), if_neg (by omega), if_neg (by omega), if_neg (by omega), if_neg (by omega), if_neg (by omega), if_pos (by omega), show 10 + j - 10 = j by omega]
    rfl
  · rw [zsw_k 0 (by omega) (by omega) z]
    have e5 := (h5 c hc rfl).trans (zc0_w m o c r4)
    rw [e5, h4, show zsI m 600 o 0 0 = zc0 m o from rfl, zc0_a]
    rfl
  · rw [zsw_k 1 (by omega) (by omega) z]; rfl
  · rw [zsw_k 2 (by omega) (by omega) z]; rfl
  · rw [zsw_k 3 (by omega) (by omega) z]
    exact (h4 c hc rfl).trans (if_pos z)
  · rw [zsw_k 4 (by omega) (by omega) z]
    exact (h4 c hc rfl).trans (if_neg (by rw [z]; decide))
  · rw [zsw_k 5 (by omega) (by omega) z]; rfl
end ZR6
