/-! ClaimsFundModel.grid once more: what it leaves in the other slots -/
/-- beyond the slot at hand, all stays -/
def zFt (o : Nat) (m m' : zM) : Prop := ∀ f j, 1601 ≤ f → f ≤ 1624 → zww f ≤ j → zI m' f o j = zI m f o j ∧ zJ m' f o j = zJ m f o j
theorem zFt_rf {o : Nat} {m : zM} : zFt o m m := fun _ _ _ _ _ => ⟨rfl, rfl⟩
theorem zFt_tr {o : Nat} {m m1 m2 : zM} (h : zFt o m m1) (h2 : zFt o m1 m2) : zFt o m m2 := fun f j a b c => ⟨(h2 f j a b c).1.trans (h f j a b c).1, (h2 f j a b c).2.trans (h f j a b c).2⟩
theorem zww_1 : ∀ f, 1601 ≤ f → f ≤ 1624 → 1 ≤ zww f := by
  intro f h1 h2
  exact (by decide : ∀ i, i < 24 → 1 ≤ zww (1601 + i)) (f - 1601) (by omega) |> fun h => by rw [show 1601 + (f - 1601) = f by omega] at h; exact h
theorem zFt_s {o f j : Nat} {m : zM} {v : Int32} (h : 1601 ≤ f ∧ f ≤ 1624 → j < zww f) : zFt o m (zsI m f o j v) := fun f' j' a b c => ⟨by
  rw [zI_sI, if_neg]
  rintro ⟨rfl, -, rfl⟩
  have := h ⟨a, b⟩
  omega, rfl⟩
theorem zFt_0 {o f : Nat} {m : zM} {v : Int32} : zFt o m (zsI m f o 0 v) := zFt_s fun h => zww_1 f h.1 h.2
theorem zFt_E {o : Nat} {m : zM} : zFt o m (zRgE m o) := zFt_tr zFt_0 (zFt_tr zFt_0 (zFt_tr zFt_0 (zFt_tr zFt_0 zFt_0)))
theorem zFt_B {o : Nat} {m : zM} : zFt o m (zRgB m o) := zFt_tr zFt_E (zFt_tr zFt_0 (zFt_tr zFt_0 (zFt_tr zFt_0 zFt_0)))
theorem zFt_P {o : Nat} {m m' : zM} (h : zPh m m') : zFt o m m' := fun f j a b _ => ⟨h.1 f (by omega) (by omega) o j, h.2 f (by omega) o j⟩
theorem zFt_K {o : Nat} {m m' : zM} (h : zKp o m m') : zFt o m m' := fun f j a b _ => ⟨congrFun (zFo_r h.1 (by unfold zFk; omega)) j, zFo_J h.1 f o j⟩
theorem zFt_2 {o : Nat} {m m' : zM} (h : zFo zFs o m m') (h2 : ∀ f j, 1618 ≤ f → f ≤ 1624 → zww f ≤ j → zI m' f o j = zI m f o j) : zFt o m m' := fun f j a b c => ⟨by
  by_cases q : 1618 ≤ f
  · exact h2 f j q b c
  · exact congrFun (zFo_r h (by unfold zFs; omega)) j, zFo_J h f o j⟩
def zF2 (o : Nat) (m m' : zM) : Prop := zFo zFs o m m' ∧ ∀ f j, 1618 ≤ f → f ≤ 1624 → zww f ≤ j → zI m' f o j = zI m f o j
theorem zF2_tr {o : Nat} {m m1 m2 : zM} (h : zF2 o m m1) (h2 : zF2 o m1 m2) : zF2 o m m2 := ⟨zFo_tr h.1 h2.1, fun f j a b c => (h2.2 f j a b c).trans (h.2 f j a b c)⟩
theorem zF2_s {o f j : Nat} {m : zM} {v : Int32} (hf : zFs f) (h : j < zww f) : zF2 o m (zsI m f o j v) := ⟨zFo_s hf, fun f' j' a b c => ((zFt_s (fun _ => h)) f' j' (by omega) b c).1⟩
theorem zF2_0 {o : Nat} {m : zM} {v : Int32} : zF2 o m (zsI m 1618 o 0 v) := zF2_s (by decide) (by decide)
theorem zF2_r {o : Nat} {m m1 : zM} (h : zF2 o m m1) {f : Nat} (hf : ¬ zFs f) : zI m1 f o = zI m f o := zFo_r h.1 hf
theorem zF2_a {o k : Nat} {m : zM} {v1 v2 v3 : Int32} (hk : k < 16) : zF2 o m (zsI (zsI (zsI m 1619 o k v1) 1623 o k v2) 1624 o k v3) := zF2_tr (zF2_s (by decide) (by have : zww 1619 = 16 := rfl; omega)) (zF2_tr (zF2_s (by decide) (by have : zww 1623 = 16 := rfl; omega)) (zF2_s (by decide) (by have : zww 1624 = 16 := rfl; omega)))
theorem zF2_b {o k : Nat} {m : zM} {v1 v2 v3 : Int32} (hk : k < 64) : zF2 o m (zsI (zsI (zsI m 1620 o k v1) 1621 o k v2) 1622 o k v3) := zF2_tr (zF2_s (by decide) (by have : zww 1620 = 64 := rfl; omega)) (zF2_tr (zF2_s (by decide) (by have : zww 1621 = 64 := rfl; omega)) (zF2_s (by decide) (by have : zww 1622 = 64 := rfl; omega)))
def zOl2 (o : Nat) (m m' : zM) : Prop := zOl o m m' ∧ ∀ f j, 1618 ≤ f → f ≤ 1624 → zww f ≤ j → zI m' f o j = zI m f o j
def zSt2 (o : Nat) (m m' : zM) : Prop := zSt o m m' ∧ ∀ f j, 1618 ≤ f → f ≤ 1624 → zww f ≤ j → zI m' f o j = zI m f o j
section ZR19
variable {l : Launch} {G : zG}
theorem C_X6_oldGrid2 (hL : zLay G) : Con_X6_oldGrid l G (fun _ _ => True) (fun o m m' => zOl2 o m m') := by
  refine con_X6_oldGrid hL fun C Qc S hl o m ko _ hr => sg_X6_oldGrid_0 S ko ?_
  have f0 : zF2 o m (zsI m 1618 o 0 (zI m 641 o 0)) := zF2_0
  have key2 : ∀ k, k ≤ 64 → ∀ M, zF2 o m M ∧ zI M 1618 o 0 = zI m 641 o 0 ∧ zC3 m M o 16 1619 1642 1623 1646 1624 1647 ∧ zC3 m M o k 1620 1643 1621 1644 1622 1645 → Pt_X6_oldGrid_62 C G o (nI k) M := by
    refine z_loop (P := fun k => ∀ M, zF2 o m M ∧ zI M 1618 o 0 = zI m 641 o 0 ∧ zC3 m M o 16 1619 1642 1623 1646 1624 1647 ∧ zC3 m M o k 1620 1643 1621 1644 1622 1645 → Pt_X6_oldGrid_62 C G o (nI k) M) 64 (fun M hM => ?_) (fun k hk ih M hM => ?_)
    · exact sg_X6_oldGrid_62 S ko ⟨fun _ => hr M ⟨⟨hM.1.1, hM.2⟩, hM.1.2⟩, fun q => absurd (by decide) q⟩
    · refine sg_X6_oldGrid_62 S ko ⟨fun q => absurd q (zge 64 hk), fun _ => ⟨vp_in_nI hk (by omega), vp_in_nI (by omega) (by omega), ?_⟩⟩
      rw [← nI_succ, nI_clamp (by omega)]
      obtain ⟨h1, h2, h3, h4⟩ := hM
      refine ih _ ⟨zF2_tr h1 (zF2_b hk), ?_, ?_, ?_⟩
      · rw [zI_n (by decide), zI_n (by decide), zI_n (by decide)]; exact h2
      · exact zC3_f h3 (funext fun j => by rw [zI_n (by decide), zI_n (by decide), zI_n (by decide)]) (funext fun j => by rw [zI_n (by decide), zI_n (by decide), zI_n (by decide)]) (funext fun j => by rw [zI_n (by decide), zI_n (by decide), zI_n (by decide)])
      · exact zC3_s h4 (congrFun (zF2_r h1 (by decide)) k) (congrFun (zF2_r h1 (by decide)) k) (congrFun (zF2_r h1 (by decide)) k) (by decide) (by decide) (by decide)
  have key1 : ∀ k, k ≤ 16 → ∀ M, zF2 o m M ∧ zI M 1618 o 0 = zI m 641 o 0 ∧ zC3 m M o k 1619 1642 1623 1646 1624 1647 → Pt_X6_oldGrid_12 C G o (nI k) M := by
    refine z_loop (P := fun k => ∀ M, zF2 o m M ∧ zI M 1618 o 0 = zI m 641 o 0 ∧ zC3 m M o k 1619 1642 1623 1646 1624 1647 → Pt_X6_oldGrid_12 C G o (nI k) M) 16 (fun M hM => ?_) (fun k hk ih M hM => ?_)
    · exact sg_X6_oldGrid_12 S ko ⟨fun _ => key2 0 (by omega) M ⟨hM.1, hM.2.1, hM.2.2, zC3_0⟩, fun q => absurd (by decide) q⟩
    · refine sg_X6_oldGrid_12 S ko ⟨fun q => absurd q (zge 16 hk), fun _ => ⟨vp_in_nI hk (by omega), vp_in_nI (by omega) (by omega), ?_⟩⟩
      rw [← nI_succ, nI_clamp (by omega)]
      obtain ⟨h1, h2, h4⟩ := hM
      refine ih _ ⟨zF2_tr h1 (zF2_a hk), ?_, ?_⟩
      · rw [zI_n (by decide), zI_n (by decide), zI_n (by decide)]; exact h2
      · exact zC3_s h4 (congrFun (zF2_r h1 (by decide)) k) (congrFun (zF2_r h1 (by decide)) k) (congrFun (zF2_r h1 (by decide)) k) (by decide) (by decide) (by decide)
  exact key1 0 (by omega) _ ⟨f0, zI_e, zC3_0⟩
theorem C_X6_setGrid2 (hL : zLay G) : Con_X6_setGrid l G (fun o m => ∃ N, N ≤ 16 ∧ zI m 634 o 0 = nI N ∧ ∀ l, l < N → ∃ t, t ≤ 4 ∧ zI m 1635 o l = nI t) (fun o m m' => zSt2 o m m') := by
  refine con_X6_setGrid hL fun C Qc S hl o m ko hp hr => sg_X6_setGrid_0 S ko ?_
  obtain ⟨N, hN, eN, ht⟩ := hp
  have f0 : zF2 o m (zsI m 1618 o 0 (zI m 634 o 0)) := zF2_0
  have key1 : ∀ k, k ≤ N → ∀ M, (zF2 o m M ∧ zI M 1618 o 0 = zI m 634 o 0 ∧ zC3 m M o k 1619 1635 1623 1639 1624 1640 ∧ ∀ l, l < k → ∀ x, 4 * l ≤ x → x < 4 * l + (zI m 1635 o l).toNatClampNeg → zI M 1620 o x = zI m 1636 o x ∧ zI M 1621 o x = zI m 1637 o x ∧ zI M 1622 o x = zI m 1638 o x) → Pt_X6_setGrid_12 C G o (nI k) M := by
    refine z_loop (P := fun k => ∀ M, (zF2 o m M ∧ zI M 1618 o 0 = zI m 634 o 0 ∧ zC3 m M o k 1619 1635 1623 1639 1624 1640 ∧ ∀ l, l < k → ∀ x, 4 * l ≤ x → x < 4 * l + (zI m 1635 o l).toNatClampNeg → zI M 1620 o x = zI m 1636 o x ∧ zI M 1621 o x = zI m 1637 o x ∧ zI M 1622 o x = zI m 1638 o x) → Pt_X6_setGrid_12 C G o (nI k) M) N (fun M hM => ?_) (fun k hk ih M hM => ?_)
    · obtain ⟨h1, h2, h3, h4⟩ := hM
      have e : zI M 634 o 0 = nI N := (congrFun (zF2_r h1 (by decide)) 0).trans eN
      refine sg_X6_setGrid_12 S ko ⟨fun _ => hr M ⟨⟨h1.1, h2, ?_, ?_⟩, h1.2⟩, fun q => absurd (by rw [e]; exact nI_le (Nat.le_refl N) (by omega)) q⟩
      · rw [eN, nI_clamp (by omega)]; exact h3
      · rw [eN, nI_clamp (by omega)]; exact h4
    · obtain ⟨h1, h2, h3, h4⟩ := hM
      have e : zI M 634 o 0 = nI N := (congrFun (zF2_r h1 (by decide)) 0).trans eN
      refine sg_X6_setGrid_12 S ko ⟨fun q => absurd q (by rw [e]; exact nI_ge hk (by omega)), fun _ => ⟨vp_in_nI (by omega) (by omega), vp_in_nI (by omega) (by omega), ?_⟩⟩
      obtain ⟨t, ht4, et⟩ := ht k hk
      rw [nI_clamp (by omega), show (4 : Int32) = nI 4 from rfl, pk_mul]
      have g1 : ∀ {M1 : zM}, zF2 o m M1 → zI M1 1635 o k = nI t := fun h => (congrFun (zF2_r h (by decide)) k).trans et
      have key2 : ∀ x, 4 * k ≤ x → x ≤ 4 * k + t → ∀ M, (zF2 o m M ∧ zI M 1618 o 0 = zI m 634 o 0 ∧ zC3 m M o (k + 1) 1619 1635 1623 1639 1624 1640 ∧ (∀ l, l < k → ∀ x, 4 * l ≤ x → x < 4 * l + (zI m 1635 o l).toNatClampNeg → zI M 1620 o x = zI m 1636 o x ∧ zI M 1621 o x = zI m 1637 o x ∧ zI M 1622 o x = zI m 1638 o x) ∧ ∀ y, 4 * k ≤ y → y < x → zI M 1620 o y = zI m 1636 o y ∧ zI M 1621 o y = zI m 1637 o y ∧ zI M 1622 o y = zI m 1638 o y) → Pt_X6_setGrid_60 C G o (nI k) (nI x) M := by
        intro x hx1 hx2
        revert hx1
        refine z_loop (P := fun x => 4 * k ≤ x → ∀ M, (zF2 o m M ∧ zI M 1618 o 0 = zI m 634 o 0 ∧ zC3 m M o (k + 1) 1619 1635 1623 1639 1624 1640 ∧ (∀ l, l < k → ∀ x, 4 * l ≤ x → x < 4 * l + (zI m 1635 o l).toNatClampNeg → zI M 1620 o x = zI m 1636 o x ∧ zI M 1621 o x = zI m 1637 o x ∧ zI M 1622 o x = zI m 1638 o x) ∧ ∀ y, 4 * k ≤ y → y < x → zI M 1620 o y = zI m 1636 o y ∧ zI M 1621 o y = zI m 1637 o y ∧ zI M 1622 o y = zI m 1638 o y) → Pt_X6_setGrid_60 C G o (nI k) (nI x) M) (4 * k + t) (fun _ M hM => ?_) (fun x hx ih2 hx1 M hM => ?_) x hx2
        · obtain ⟨h1, h2, h3, h4, h5⟩ := hM
          refine sg_X6_setGrid_60 S ko ⟨vp_in_nI (by omega) (by omega), fun _ => ?_, fun q => absurd ?_ q⟩
          · rw [← nI_succ]
            refine ih M ⟨h1, h2, h3, fun l hl y hy1 hy2 => ?_⟩
            by_cases el : l = k
            · subst el
              rw [et, nI_clamp (by omega)] at hy2
              exact h5 y hy1 hy2
            · exact h4 l (by omega) y hy1 hy2
          · rw [nI_clamp (by omega), g1 h1, show (4 : Int32) = nI 4 from rfl, pk_mul, nI_add]
            exact nI_le (Nat.le_refl _) (by omega)
        · obtain ⟨h1, h2, h3, h4, h5⟩ := hM
          refine sg_X6_setGrid_60 S ko ⟨vp_in_nI (by omega) (by omega), fun q => absurd q ?_, fun _ => ⟨vp_in_nI (by omega) (by omega), vp_in_nI (by omega) (by omega), ?_⟩⟩
          · rw [nI_clamp (by omega), g1 h1, show (4 : Int32) = nI 4 from rfl, pk_mul, nI_add]
            exact nI_ge hx (by omega)
          · rw [← nI_succ, nI_clamp (by omega)]
            have keep : ∀ f, f = 1618 ∨ f = 1619 ∨ f = 1623 ∨ f = 1624 → zI (zsI (zsI (zsI M 1620 o x (zI M 1636 o x)) 1621 o x (zI M 1637 o x)) 1622 o x (zI M 1638 o x)) f o = zI M f o := fun f hf => funext fun j => by
              rw [zI_n (by omega), zI_n (by omega), zI_n (by omega)]
            have upd : ∀ y, y ≠ x → zI (zsI (zsI (zsI M 1620 o x (zI M 1636 o x)) 1621 o x (zI M 1637 o x)) 1622 o x (zI M 1638 o x)) 1620 o y = zI M 1620 o y ∧ zI (zsI (zsI (zsI M 1620 o x (zI M 1636 o x)) 1621 o x (zI M 1637 o x)) 1622 o x (zI M 1638 o x)) 1621 o y = zI M 1621 o y ∧ zI (zsI (zsI (zsI M 1620 o x (zI M 1636 o x)) 1621 o x (zI M 1637 o x)) 1622 o x (zI M 1638 o x)) 1622 o y = zI M 1622 o y := fun y hy => by
              refine ⟨?_, ?_, ?_⟩
              · rw [zI_n (by decide), zI_n (by decide), zI_sI, if_neg (fun q => hy q.2.2)]
              · rw [zI_n (by decide), zI_sI, if_neg (fun q => hy q.2.2), zI_n (by decide)]
              · rw [zI_sI, if_neg (fun q => hy q.2.2), zI_n (by decide), zI_n (by decide)]
            refine ih2 (by omega) _ ⟨zF2_tr h1 (zF2_b (by omega)), ?_, ?_, fun l hl y hy1 hy2 => ?_, fun y hy1 hy2 => ?_⟩
            · rw [keep 1618 (by omega)]; exact h2
            · exact zC3_f h3 (keep 1619 (by omega)) (keep 1623 (by omega)) (keep 1624 (by omega))
            · obtain ⟨t', ht', et'⟩ := ht l (by omega)
              have hy3 := hy2
              rw [et', nI_clamp (by omega)] at hy3
              obtain ⟨u1, u2, u3⟩ := upd y (by omega)
              rw [u1, u2, u3]
              exact h4 l hl y hy1 hy2
            · by_cases ey : y = x
              · subst ey
                refine ⟨?_, ?_, ?_⟩
                · rw [zI_n (by decide), zI_n (by decide), zI_e]
                  exact congrFun (zF2_r h1 (by decide)) y
                · rw [zI_n (by decide), zI_e]
                  exact congrFun (zF2_r h1 (by decide)) y
                · rw [zI_e]
                  exact congrFun (zF2_r h1 (by decide)) y
              · obtain ⟨u1, u2, u3⟩ := upd y ey
                rw [u1, u2, u3]
                exact h5 y hy1 (by omega)
      refine key2 (4 * k) (Nat.le_refl _) (by omega) _ ⟨zF2_tr h1 (zF2_a (by omega)), ?_, ?_, fun l hl y hy1 hy2 => ?_, fun y hy1 hy2 => by omega⟩
      · rw [zI_n (by decide), zI_n (by decide), zI_n (by decide)]; exact h2
      · exact zC3_s h3 (congrFun (zF2_r h1 (by decide)) k) (congrFun (zF2_r h1 (by decide)) k) (congrFun (zF2_r h1 (by decide)) k) (by decide) (by decide) (by decide)
      · rw [zI_n (by decide), zI_n (by decide), zI_n (by decide), zI_n (by decide), zI_n (by decide), zI_n (by decide), zI_n (by decide), zI_n (by decide), zI_n (by decide)]
        exact h4 l hl y hy1 hy2
  exact key1 0 (by omega) _ ⟨f0, zI_e, zC3_0, fun l hl => by omega⟩
theorem C_X6_grid2 (hL : zLay G) : Con_X6_grid l G (fun o m => zRC m o ∧ ∃ k, k ≤ 400 ∧ zI m 1602 o 0 = nI k) (fun o m r m' => zRgQ m o r m' ∧ zFt o m m') := by
  refine con_X6_grid hL fun C Qc S hl o m ko hp hr => ?_
  obtain ⟨hC, k, hk, ek⟩ := hp
  have hB := zRgB_p hk ek
  refine sg_X6_grid_0 S (C_X6_next hL) ko ⟨fun q => ⟨zRp_x hB, fun m2 h2 => ?_⟩, fun q => hr _ _ ⟨⟨fun _ => ⟨rfl, rfl⟩, fun z => absurd z q⟩, zFt_E⟩⟩
  have h2 : m2 = zRnx (zRgB m o) o := h2
  subst h2
  obtain ⟨p0, -, hx0, -⟩ := zRp_nx hB
  -- what stays of the claims
  have hpf : zPh (zRgB m o) (zRgX m o).2 := zPh_tr zPh_nx (zPh_lo _ _ _)
  have hX : ∀ f m2, (f, m2) = zRgX m o → Pt_X6_grid_93 C G o f m2 → Pt_X6_grid_93 C G o (zRgX m o).1 (zRgX m o).2 := fun f m2 e h => by rw [← e]; exact h
  -- behind the loop
  have hend : (¬ (zRgX m o).1 = 0 → ∃ N, N ≤ 400 ∧ zIv (zRgX m o).2 o N) → Pt_X6_grid_93 C G o (zRgX m o).1 (zRgX m o).2 := by
    intro hv
    refine sg_X6_grid_93 S (C_X6_keepGrid hL) (C_X6_setGrid2 hL) (C_X6_holds hL) (C_X6_oldGrid2 hL) ko ⟨fun q1 => ⟨fun q2 => ?_, fun q2 => ?_⟩, fun q1 => ?_⟩
    · obtain ⟨N, hN, hv⟩ := hv q1
      have q3 : zI (zRgX m o).2 632 o 0 = 0 := hv.2.1.resolve_right (fun z => absurd z (Int32.not_lt.2 q2))
      obtain ⟨hN16, hg⟩ := hv.2.2 q3
      refine ⟨trivial, fun m2 h2 => ⟨?_, fun m4 h4 => ?_⟩⟩
      · refine ⟨N, hN16, (congrFun (zFo_r h2.1 (by decide)) 0).trans hv.1, fun l hl => ?_⟩
        obtain ⟨t, a, v, ht, ha, hv, e1, e2, e3⟩ := hg l hl
        exact ⟨t, ht, (congrFun (zFo_r h2.1 (by decide)) l).trans e1⟩
      · have f634 : zI m2 634 o 0 = nI N := (congrFun (zFo_r h2.1 (by decide)) 0).trans hv.1
        have hC4 : zRC m4 o := by
          obtain ⟨-, n, hn, en, hP⟩ := hC
          have far : ∀ f, f = 1606 ∨ f = 1609 → zI m4 f o = zI m f o := fun f hf => by
            rw [zFo_r h4.1.1 (by unfold zFs; omega), zFo_r h2.1 (by unfold zFk; omega)]
            funext j
            rw [hpf.1 f (by omega) (by omega)]
            unfold zRgB zRgE
            rw [zI_n (by omega), zI_n (by omega), zI_n (by omega), zI_n (by omega), zI_n (by omega), zI_n (by omega), zI_n (by omega), zI_n (by omega), zI_n (by omega)]
          refine ⟨⟨N, hN16, h4.1.2.1.trans f634, fun l hl => ?_⟩, n, hn, (congrFun (far 1606 (by omega)) 0).trans en, fun c hc => ?_⟩
          · obtain ⟨t, a, v, ht, ha, hv, e1, e2, e3⟩ := hg l hl
            have h5 := h4.1.2.2.1 l (by rw [f634, nI_clamp (by omega)]; exact hl)
            have g : ∀ f, 1635 ≤ f → f ≤ 1640 → zI m2 f o = zI (zRgX m o).2 f o := fun f h1 h2' => zFo_r h2.1 (by unfold zFk; omega)
            refine ⟨t, a, v, ht, ha, hv, ?_, ?_, ?_⟩
            · rw [h5.1, g 1635 (by omega) (by omega)]; exact e1
            · rw [h5.2.1, g 1639 (by omega) (by omega)]; exact e2
            · rw [h5.2.2, g 1640 (by omega) (by omega)]; exact e3
          · have := hP c hc
            unfold zRP at this ⊢
            rw [far 1609 (by omega)]
            exact this
        refine ⟨hC4, fun r6 h6 => ⟨fun q6 => ⟨trivial, fun m8 h8 => hr _ _ ?_⟩, fun q6 => hr _ _ ?_⟩⟩
        · have nh : ¬ zRH m4 o := by
            rcases h6 with h6 | h6
            · rw [h6.1] at q6; exact absurd q6 (by decide)
            · exact h6.2
          exact ⟨⟨fun z => absurd q z, fun _ => ⟨fun z => absurd z q1, fun _ => ⟨fun z => absurd q3 z, fun _ => ⟨N, m2, m4, hN16, hv, h2, h4.1, hC4, fun z => absurd z nh, fun _ => ⟨rfl, h8.1⟩⟩⟩⟩⟩, zFt_tr (zFt_tr zFt_B (zFt_P hpf)) (zFt_tr (zFt_K h2) (zFt_tr (zFt_2 h4.1.1 h4.2) (zFt_2 h8.1.1 h8.2)))⟩
        · have yh : zRH m4 o := by
            rcases h6 with h6 | h6
            · exact h6.2
            · exact absurd h6.1 q6
          have e634 : zI m4 634 o 0 = nI N := (congrFun (zFo_r h4.1.1 (by decide)) 0).trans f634
          exact ⟨⟨fun z => absurd q z, fun _ => ⟨fun z => absurd z q1, fun _ => ⟨fun z => absurd q3 z, fun _ => ⟨N, m2, m4, hN16, hv, h2, h4.1, hC4, fun _ => ⟨e634, rfl⟩, fun z => absurd yh z⟩⟩⟩⟩, zFt_tr (zFt_tr zFt_B (zFt_P hpf)) (zFt_tr (zFt_K h2) (zFt_2 h4.1.1 h4.2))⟩
    · have q3 : ¬ zI (zRgX m o).2 632 o 0 = 0 := fun z => q2 (by rw [z]; decide)
      exact hr _ _ ⟨⟨fun z => absurd q z, fun _ => ⟨fun z => absurd z q1, fun _ => ⟨fun _ => ⟨rfl, rfl⟩, fun z => absurd z q3⟩⟩⟩, zFt_tr (zFt_tr zFt_B (zFt_P hpf)) (zFt_tr (zFt_s (by decide)) (zFt_s (by decide)))⟩
    · exact hr _ _ ⟨⟨fun z => absurd q z, fun _ => ⟨fun _ => ⟨rfl, rfl⟩, fun z => absurd q1 z⟩⟩, zFt_tr (zFt_tr zFt_B (zFt_P hpf)) (zFt_tr (zFt_s (by decide)) (zFt_s (by decide)))⟩
  have loop : ∀ d f M p N, k < p + d → zRp M o k p → (f = 0 ∨ (zIv M o N ∧ N ≤ p)) → Pt_X6_grid_93 C G o (zXlo o d f M).1 (zXlo o d f M).2 → Pt_X6_grid_74 C G o f M := by
    intro d
    induction d with
    | zero => intro f M p N hd hx _ _; exact absurd hx.2.1 (by omega)
    | succ d ih =>
      intro f M p N hd hx h hP
      rw [zXlo] at hP
      refine sg_X6_grid_74 S (C_X6_oneLine hL) ko ⟨fun q1 => ?_, fun q1 => ⟨fun q2 => ?_, fun q2 => ?_⟩⟩
      · rw [if_pos (Or.inl q1)] at hP; exact hP
      · rw [if_pos (Or.inr q2)] at hP; exact hP
      · rw [if_neg (fun z => z.elim q1 q2)] at hP
        obtain ⟨h, hNp⟩ := h.resolve_left q1
        have hN4 : N ≤ 400 := by have := hx.1; have := hx.2.1; omega
        refine ⟨⟨zRp_x hx, N, hN4, h.1⟩, fun r2 m3 h3 => ?_⟩
        have e1 : r2 = (zXl M o).1 := congrArg Prod.fst h3
        have e2 : m3 = (zXl M o).2 := congrArg Prod.snd h3
        subst e1 e2
        by_cases hs : (zXl M o).1 = 0
        · rw [hs] at hP ⊢
          have : zXlo o d 0 (zXl M o).2 = (0, (zXl M o).2) := by
            cases d with
            | zero => rfl
            | succ d => rw [zXlo, if_pos (Or.inl rfl)]
          rw [this] at hP
          exact sg_X6_grid_74 S (C_X6_oneLine hL) ko ⟨fun _ => hP, fun z => absurd rfl z⟩
        · obtain ⟨h1, p', h2, h4⟩ := zXl_v hx hN4 h hs
          exact ih _ _ p' (N + 1) (by omega) h4 (Or.inr ⟨h1, by omega⟩) hP
  refine loop 500 1 _ p0 0 (by omega) hx0 (Or.inr ⟨zRgB_v, by omega⟩) (hend ?_)
  have := zXlo_v (o := o) (n := k) (P := fun f M => ¬ f = 0 → ∃ N, N ≤ 400 ∧ zIv M o N) (fun f M p N hx h hNp _ _ => ⟨N, by have := hx.1; have := hx.2.1; omega, h⟩) (fun M z => absurd rfl z) 500 1 _ p0 0 (by omega) hx0 (Or.inr ⟨zRgB_v, by omega⟩)
  exact this
end ZR19
