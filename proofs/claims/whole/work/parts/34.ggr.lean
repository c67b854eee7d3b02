/-! the reference: the change of grids -/
def zFo (F : Nat → Prop) (o : Nat) (m m' : zM) : Prop := (∀ f a j, ¬ (F f ∧ a = o) → zI m' f a j = zI m f a j) ∧ m'.2 = m.2
theorem zFo_rf {F : Nat → Prop} {o : Nat} {m : zM} : zFo F o m m := ⟨fun _ _ _ _ => rfl, rfl⟩
theorem zFo_tr {F : Nat → Prop} {o : Nat} {m m1 m2 : zM} (h : zFo F o m m1) (h2 : zFo F o m1 m2) : zFo F o m m2 := ⟨fun f a j q => (h2.1 f a j q).trans (h.1 f a j q), h2.2.trans h.2⟩
theorem zFo_mo {F F' : Nat → Prop} {o : Nat} {m m1 : zM} (h : zFo F o m m1) (hf : ∀ f, F f → F' f) : zFo F' o m m1 := ⟨fun f a j q => h.1 f a j (fun z => q ⟨hf f z.1, z.2⟩), h.2⟩
theorem zFo_s {F : Nat → Prop} {m : zM} {o f j : Nat} {v : Int32} (h : F f) : zFo F o m (zsI m f o j v) := ⟨fun f' a j' h2 => by rw [zI_sI, if_neg (fun q => h2 ⟨by rw [q.1]; exact h, q.2.1⟩)], rfl⟩
theorem zFo_r {F : Nat → Prop} {o : Nat} {m m1 : zM} (h : zFo F o m m1) {f : Nat} (hf : ¬ F f) : zI m1 f o = zI m f o := funext fun j => h.1 f o j (fun q => hf q.1)
theorem zFo_J {F : Nat → Prop} {o : Nat} {m m1 : zM} (h : zFo F o m m1) (f a j : Nat) : zJ m1 f a j = zJ m f a j := by
  show m1.2.1 f a j = m.2.1 f a j
  rw [h.2]
/-- three rows copied, k places -/
def zC3 (m M : zM) (o k f1 g1 f2 g2 f3 g3 : Nat) : Prop := ∀ j, j < k → zI M f1 o j = zI m g1 o j ∧ zI M f2 o j = zI m g2 o j ∧ zI M f3 o j = zI m g3 o j
theorem zC3_0 {m M : zM} {o f1 g1 f2 g2 f3 g3 : Nat} : zC3 m M o 0 f1 g1 f2 g2 f3 g3 := fun j h => by omega
theorem zC3_s {m M : zM} {o k f1 g1 f2 g2 f3 g3 : Nat} {v1 v2 v3 : Int32} (h : zC3 m M o k f1 g1 f2 g2 f3 g3) (h1 : v1 = zI m g1 o k) (h2 : v2 = zI m g2 o k) (h3 : v3 = zI m g3 o k) (n12 : f1 ≠ f2) (n13 : f1 ≠ f3) (n23 : f2 ≠ f3) : zC3 m (zsI (zsI (zsI M f1 o k v1) f2 o k v2) f3 o k v3) o (k + 1) f1 g1 f2 g2 f3 g3 := by
  intro j hj
  by_cases e : j = k
  · subst e
    exact ⟨(zI_n n13).trans ((zI_n n12).trans (zI_e.trans h1)), (zI_n n23).trans (zI_e.trans h2), zI_e.trans h3⟩
  · obtain ⟨a, b, c⟩ := h j (by omega)
    refine ⟨(zI_n n13).trans ((zI_n n12).trans ?_), (zI_n n23).trans ?_, ?_⟩
    · rw [zI_sI, if_neg (fun q => e q.2.2)]; exact a
    · rw [zI_sI, if_neg (fun q => e q.2.2), zI_n n12.symm]; exact b
    · rw [zI_sI, if_neg (fun q => e q.2.2), zI_n n23.symm, zI_n n13.symm]; exact c
theorem zC3_f {m M M' : zM} {o k f1 g1 f2 g2 f3 g3 : Nat} (h : zC3 m M o k f1 g1 f2 g2 f3 g3) (h1 : zI M' f1 o = zI M f1 o) (h2 : zI M' f2 o = zI M f2 o) (h3 : zI M' f3 o = zI M f3 o) : zC3 m M' o k f1 g1 f2 g2 f3 g3 := by
  intro j hj
  rw [h1, h2, h3]
  exact h j hj
theorem zC3_g {m m0 M : zM} {o k f1 g1 f2 g2 f3 g3 : Nat} (h : zC3 m M o k f1 g1 f2 g2 f3 g3) (h1 : zI m g1 o = zI m0 g1 o) (h2 : zI m g2 o = zI m0 g2 o) (h3 : zI m g3 o = zI m0 g3 o) : zC3 m0 M o k f1 g1 f2 g2 f3 g3 := by
  intro j hj
  rw [← h1, ← h2, ← h3]
  exact h j hj
abbrev zFk (f : Nat) : Prop := f = 641 ∨ (1642 ≤ f ∧ f ≤ 1647)
abbrev zFs (f : Nat) : Prop := 1618 ≤ f ∧ f ≤ 1624
def zKp (o : Nat) (m m' : zM) : Prop := zFo zFk o m m' ∧ zI m' 641 o 0 = zI m 1618 o 0 ∧ zC3 m m' o 16 1642 1619 1646 1623 1647 1624 ∧ zC3 m m' o 64 1643 1620 1644 1621 1645 1622
def zOl (o : Nat) (m m' : zM) : Prop := zFo zFs o m m' ∧ zI m' 1618 o 0 = zI m 641 o 0 ∧ zC3 m m' o 16 1619 1642 1623 1646 1624 1647 ∧ zC3 m m' o 64 1620 1643 1621 1644 1622 1645
def zSt (o : Nat) (m m' : zM) : Prop := zFo zFs o m m' ∧ zI m' 1618 o 0 = zI m 634 o 0 ∧ zC3 m m' o (zI m 634 o 0).toNatClampNeg 1619 1635 1623 1639 1624 1640 ∧ ∀ l, l < (zI m 634 o 0).toNatClampNeg → ∀ x, 4 * l ≤ x → x < 4 * l + (zI m 1635 o l).toNatClampNeg → zI m' 1620 o x = zI m 1636 o x ∧ zI m' 1621 o x = zI m 1637 o x ∧ zI m' 1622 o x = zI m 1638 o x
section ZR9
variable {l : Launch} {G : zG}
theorem C_X6_keepGrid (hL : zLay G) : Con_X6_keepGrid l G (fun _ _ => True) (fun o m m' => zKp o m m') := by
  refine con_X6_keepGrid hL fun C Qc S hl o m ko _ hr => sg_X6_keepGrid_0 S ko ?_
  have f0 : zFo zFk o m (zsI m 641 o 0 (zI m 1618 o 0)) := zFo_s (by decide)
  have key2 : ∀ k, k ≤ 64 → ∀ M, zFo zFk o m M ∧ zI M 641 o 0 = zI m 1618 o 0 ∧ zC3 m M o 16 1642 1619 1646 1623 1647 1624 ∧ zC3 m M o k 1643 1620 1644 1621 1645 1622 → Pt_X6_keepGrid_62 C G o (nI k) M := by
    refine z_loop (P := fun k => ∀ M, zFo zFk o m M ∧ zI M 641 o 0 = zI m 1618 o 0 ∧ zC3 m M o 16 1642 1619 1646 1623 1647 1624 ∧ zC3 m M o k 1643 1620 1644 1621 1645 1622 → Pt_X6_keepGrid_62 C G o (nI k) M) 64 (fun M hM => ?_) (fun k hk ih M hM => ?_)
    · exact sg_X6_keepGrid_62 S ko ⟨fun _ => hr M hM, fun q => absurd (by decide) q⟩
    · refine sg_X6_keepGrid_62 S ko ⟨fun q => absurd q (zge 64 hk), fun _ => ⟨vp_in_nI (by omega) (by omega), vp_in_nI hk (by omega), ?_⟩⟩
      rw [← nI_succ, nI_clamp (by omega)]
      obtain ⟨h1, h2, h3, h4⟩ := hM
      refine ih _ ⟨zFo_tr h1 (zFo_tr (zFo_s (by decide)) (zFo_tr (zFo_s (by decide)) (zFo_s (by decide)))), ?_, ?_, ?_⟩
      · rw [zI_n (by decide), zI_n (by decide), zI_n (by decide)]; exact h2
      · exact zC3_f h3 (funext fun j => by rw [zI_n (by decide), zI_n (by decide), zI_n (by decide)]) (funext fun j => by rw [zI_n (by decide), zI_n (by decide), zI_n (by decide)]) (funext fun j => by rw [zI_n (by decide), zI_n (by decide), zI_n (by decide)])
      · exact zC3_s h4 (congrFun (zFo_r h1 (by decide)) k) (congrFun (zFo_r h1 (by decide)) k) (congrFun (zFo_r h1 (by decide)) k) (by decide) (by decide) (by decide)
  have key1 : ∀ k, k ≤ 16 → ∀ M, zFo zFk o m M ∧ zI M 641 o 0 = zI m 1618 o 0 ∧ zC3 m M o k 1642 1619 1646 1623 1647 1624 → Pt_X6_keepGrid_12 C G o (nI k) M := by
    refine z_loop (P := fun k => ∀ M, zFo zFk o m M ∧ zI M 641 o 0 = zI m 1618 o 0 ∧ zC3 m M o k 1642 1619 1646 1623 1647 1624 → Pt_X6_keepGrid_12 C G o (nI k) M) 16 (fun M hM => ?_) (fun k hk ih M hM => ?_)
    · exact sg_X6_keepGrid_12 S ko ⟨fun _ => key2 0 (by omega) M ⟨hM.1, hM.2.1, hM.2.2, zC3_0⟩, fun q => absurd (by decide) q⟩
    · refine sg_X6_keepGrid_12 S ko ⟨fun q => absurd q (zge 16 hk), fun _ => ⟨vp_in_nI (by omega) (by omega), vp_in_nI hk (by omega), ?_⟩⟩
      rw [← nI_succ, nI_clamp (by omega)]
      obtain ⟨h1, h2, h4⟩ := hM
      refine ih _ ⟨zFo_tr h1 (zFo_tr (zFo_s (by decide)) (zFo_tr (zFo_s (by decide)) (zFo_s (by decide)))), ?_, ?_⟩
      · rw [zI_n (by decide), zI_n (by decide), zI_n (by decide)]; exact h2
      · exact zC3_s h4 (congrFun (zFo_r h1 (by decide)) k) (congrFun (zFo_r h1 (by decide)) k) (congrFun (zFo_r h1 (by decide)) k) (by decide) (by decide) (by decide)
  exact key1 0 (by omega) _ ⟨f0, zI_e, zC3_0⟩
theorem C_X6_oldGrid (hL : zLay G) : Con_X6_oldGrid l G (fun _ _ => True) (fun o m m' => zOl o m m') := by
  refine con_X6_oldGrid hL fun C Qc S hl o m ko _ hr => sg_X6_oldGrid_0 S ko ?_
  have f0 : zFo zFs o m (zsI m 1618 o 0 (zI m 641 o 0)) := zFo_s (by decide)
  have key2 : ∀ k, k ≤ 64 → ∀ M, zFo zFs o m M ∧ zI M 1618 o 0 = zI m 641 o 0 ∧ zC3 m M o 16 1619 1642 1623 1646 1624 1647 ∧ zC3 m M o k 1620 1643 1621 1644 1622 1645 → Pt_X6_oldGrid_62 C G o (nI k) M := by
    refine z_loop (P := fun k => ∀ M, zFo zFs o m M ∧ zI M 1618 o 0 = zI m 641 o 0 ∧ zC3 m M o 16 1619 1642 1623 1646 1624 1647 ∧ zC3 m M o k 1620 1643 1621 1644 1622 1645 → Pt_X6_oldGrid_62 C G o (nI k) M) 64 (fun M hM => ?_) (fun k hk ih M hM => ?_)
    · exact sg_X6_oldGrid_62 S ko ⟨fun _ => hr M hM, fun q => absurd (by decide) q⟩
    · refine sg_X6_oldGrid_62 S ko ⟨fun q => absurd q (zge 64 hk), fun _ => ⟨vp_in_nI hk (by omega), vp_in_nI (by omega) (by omega), ?_⟩⟩
      rw [← nI_succ, nI_clamp (by omega)]
      obtain ⟨h1, h2, h3, h4⟩ := hM
      refine ih _ ⟨zFo_tr h1 (zFo_tr (zFo_s (by decide)) (zFo_tr (zFo_s (by decide)) (zFo_s (by decide)))), ?_, ?_, ?_⟩
      · rw [zI_n (by decide), zI_n (by decide), zI_n (by decide)]; exact h2
      · exact zC3_f h3 (funext fun j => by rw [zI_n (by decide), zI_n (by decide), zI_n (by decide)]) (funext fun j => by rw [zI_n (by decide), zI_n (by decide), zI_n (by decide)]) (funext fun j => by rw [zI_n (by decide), zI_n (by decide), zI_n (by decide)])
      · exact zC3_s h4 (congrFun (zFo_r h1 (by decide)) k) (congrFun (zFo_r h1 (by decide)) k) (congrFun (zFo_r h1 (by decide)) k) (by decide) (by decide) (by decide)
  have key1 : ∀ k, k ≤ 16 → ∀ M, zFo zFs o m M ∧ zI M 1618 o 0 = zI m 641 o 0 ∧ zC3 m M o k 1619 1642 1623 1646 1624 1647 → Pt_X6_oldGrid_12 C G o (nI k) M := by
    refine z_loop (P := fun k => ∀ M, zFo zFs o m M ∧ zI M 1618 o 0 = zI m 641 o 0 ∧ zC3 m M o k 1619 1642 1623 1646 1624 1647 → Pt_X6_oldGrid_12 C G o (nI k) M) 16 (fun M hM => ?_) (fun k hk ih M hM => ?_)
    · exact sg_X6_oldGrid_12 S ko ⟨fun _ => key2 0 (by omega) M ⟨hM.1, hM.2.1, hM.2.2, zC3_0⟩, fun q => absurd (by decide) q⟩
    · refine sg_X6_oldGrid_12 S ko ⟨fun q => absurd q (zge 16 hk), fun _ => ⟨vp_in_nI hk (by omega), vp_in_nI (by omega) (by omega), ?_⟩⟩
      rw [← nI_succ, nI_clamp (by omega)]
      obtain ⟨h1, h2, h4⟩ := hM
      refine ih _ ⟨zFo_tr h1 (zFo_tr (zFo_s (by decide)) (zFo_tr (zFo_s (by decide)) (zFo_s (by decide)))), ?_, ?_⟩
      · rw [zI_n (by decide), zI_n (by decide), zI_n (by decide)]; exact h2
      · exact zC3_s h4 (congrFun (zFo_r h1 (by decide)) k) (congrFun (zFo_r h1 (by decide)) k) (congrFun (zFo_r h1 (by decide)) k) (by decide) (by decide) (by decide)
  exact key1 0 (by omega) _ ⟨f0, zI_e, zC3_0⟩
theorem C_X6_setGrid (hL : zLay G) : Con_X6_setGrid l G (fun o m => ∃ N, N ≤ 16 ∧ zI m 634 o 0 = nI N ∧ ∀ l, l < N → ∃ t, t ≤ 4 ∧ zI m 1635 o l = nI t) (fun o m m' => zSt o m m') := by
  refine con_X6_setGrid hL fun C Qc S hl o m ko hp hr => sg_X6_setGrid_0 S ko ?_
  obtain ⟨N, hN, eN, ht⟩ := hp
  have f0 : zFo zFs o m (zsI m 1618 o 0 (zI m 634 o 0)) := zFo_s (by decide)
  have key1 : ∀ k, k ≤ N → ∀ M, (zFo zFs o m M ∧ zI M 1618 o 0 = zI m 634 o 0 ∧ zC3 m M o k 1619 1635 1623 1639 1624 1640 ∧ ∀ l, l < k → ∀ x, 4 * l ≤ x → x < 4 * l + (zI m 1635 o l).toNatClampNeg → zI M 1620 o x = zI m 1636 o x ∧ zI M 1621 o x = zI m 1637 o x ∧ zI M 1622 o x = zI m 1638 o x) → Pt_X6_setGrid_12 C G o (nI k) M := by
    refine z_loop (P := fun k => ∀ M, (zFo zFs o m M ∧ zI M 1618 o 0 = zI m 634 o 0 ∧ zC3 m M o k 1619 1635 1623 1639 1624 1640 ∧ ∀ l, l < k → ∀ x, 4 * l ≤ x → x < 4 * l + (zI m 1635 o l).toNatClampNeg → zI M 1620 o x = zI m 1636 o x ∧ zI M 1621 o x = zI m 1637 o x ∧ zI M 1622 o x = zI m 1638 o x) → Pt_X6_setGrid_12 C G o (nI k) M) N (fun M hM => ?_) (fun k hk ih M hM => ?_)
    · obtain ⟨h1, h2, h3, h4⟩ := hM
      have e : zI M 634 o 0 = nI N := (congrFun (zFo_r h1 (by decide)) 0).trans eN
      refine sg_X6_setGrid_12 S ko ⟨fun _ => hr M ⟨h1, h2, ?_, ?_⟩, fun q => absurd (by rw [e]; exact nI_le (Nat.le_refl N) (by omega)) q⟩
      · rw [eN, nI_clamp (by omega)]; exact h3
      · rw [eN, nI_clamp (by omega)]; exact h4
    · obtain ⟨h1, h2, h3, h4⟩ := hM
      have e : zI M 634 o 0 = nI N := (congrFun (zFo_r h1 (by decide)) 0).trans eN
      refine sg_X6_setGrid_12 S ko ⟨fun q => absurd q (by rw [e]; exact nI_ge hk (by omega)), fun _ => ⟨vp_in_nI (by omega) (by omega), vp_in_nI (by omega) (by omega), ?_⟩⟩
      obtain ⟨t, ht4, et⟩ := ht k hk
      rw [nI_clamp (by omega), show (4 : Int32) = nI 4 from rfl, pk_mul]
      have g1 : ∀ {M1 : zM}, zFo zFs o m M1 → zI M1 1635 o k = nI t := fun h => (congrFun (zFo_r h (by decide)) k).trans et
      have key2 : ∀ x, 4 * k ≤ x → x ≤ 4 * k + t → ∀ M, (zFo zFs o m M ∧ zI M 1618 o 0 = zI m 634 o 0 ∧ zC3 m M o (k + 1) 1619 1635 1623 1639 1624 1640 ∧ (∀ l, l < k → ∀ x, 4 * l ≤ x → x < 4 * l + (zI m 1635 o l).toNatClampNeg → zI M 1620 o x = zI m 1636 o x ∧ zI M 1621 o x = zI m 1637 o x ∧ zI M 1622 o x = zI m 1638 o x) ∧ ∀ y, 4 * k ≤ y → y < x → zI M 1620 o y = zI m 1636 o y ∧ zI M 1621 o y = zI m 1637 o y ∧ zI M 1622 o y = zI m 1638 o y) → Pt_X6_setGrid_60 C G o (nI k) (nI x) M := by
        intro x hx1 hx2
        revert hx1
        refine z_loop (P := fun x => 4 * k ≤ x → ∀ M, (zFo zFs o m M ∧ zI M 1618 o 0 = zI m 634 o 0 ∧ zC3 m M o (k + 1) 1619 1635 1623 1639 1624 1640 ∧ (∀ l, l < k → ∀ x, 4 * l ≤ x → x < 4 * l + (zI m 1635 o l).toNatClampNeg → zI M 1620 o x = zI m 1636 o x ∧ zI M 1621 o x = zI m 1637 o x ∧ zI M 1622 o x = zI m 1638 o x) ∧ ∀ y, 4 * k ≤ y → y < x → zI M 1620 o y = zI m 1636 o y ∧ zI M 1621 o y = zI m 1637 o y ∧ zI M 1622 o y = zI m 1638 o y) → Pt_X6_setGrid_60 C G o (nI k) (nI x) M) (4 * k + t) (fun _ M hM => ?_) (fun x hx ih2 hx1 M hM => ?_) x hx2
        · obtain ⟨h1, h2, h3, h4, h5⟩ := hM
          refine sg_X6_setGrid_60 S ko ⟨vp_in_nI (by omega) (by omega), fun _ => ?_, fun q => absurd ?_ q⟩
          · rw [← nI_succ]
            refine ih M ⟨h1, h2, h3, fun l hl y hy1 hy2 => ?_⟩
            by_cases el : l = k
            · subst el
              rw [et, nI_clamp (by omega)] at hy2
              exact h5 y hy1 hy2
            · exact h4 l (by omega) y hy1 hy2
          · rw [nI_clamp (by omega), g1 h1, show (4 : Int32) = nI 4 from rfl, pk_mul, nI_add]
            exact nI_le (Nat.le_refl _) (by omega)
        · obtain ⟨h1, h2, h3, h4, h5⟩ := hM
          refine sg_X6_setGrid_60 S ko ⟨vp_in_nI (by omega) (by omega), fun q => absurd q ?_, fun _ => ⟨vp_in_nI (by omega) (by omega), vp_in_nI (by omega) (by omega), ?_⟩⟩
          · rw [nI_clamp (by omega), g1 h1, show (4 : Int32) = nI 4 from rfl, pk_mul, nI_add]
            exact nI_ge hx (by omega)
          · rw [← nI_succ, nI_clamp (by omega)]
            have keep : ∀ f, f = 1618 ∨ f = 1619 ∨ f = 1623 ∨ f = 1624 → zI (zsI (zsI (zsI M 1620 o x (zI M 1636 o x)) 1621 o x (zI M 1637 o x)) 1622 o x (zI M 1638 o x)) f o = zI M f o := fun f hf => funext fun j => by
              rw [zI_n (by omega), zI_n (by omega), zI_n (by omega)]
            have upd : ∀ y, y ≠ x → zI (zsI (zsI (zsI M 1620 o x (zI M 1636 o x)) 1621 o x (zI M 1637 o x)) 1622 o x (zI M 1638 o x)) 1620 o y = zI M 1620 o y ∧ zI (zsI (zsI (zsI M 1620 o x (zI M 1636 o x)) 1621 o x (zI M 1637 o x)) 1622 o x (zI M 1638 o x)) 1621 o y = zI M 1621 o y ∧ zI (zsI (zsI (zsI M 1620 o x (zI M 1636 o x)) 1621 o x (zI M 1637 o x)) 1622 o x (zI M 1638 o x)) 1622 o y = zI M 1622 o y := fun y hy => by
              refine ⟨?_, ?_, ?_⟩
              · rw [zI_n (by decide), zI_n (by decide), zI_sI, if_neg (fun q => hy q.2.2)]
              · rw [zI_n (by decide), zI_sI, if_neg (fun q => hy q.2.2), zI_n (by decide)]
              · rw [zI_sI, if_neg (fun q => hy q.2.2), zI_n (by decide), zI_n (by decide)]
            refine ih2 (by omega) _ ⟨zFo_tr h1 (zFo_tr (zFo_s (by decide)) (zFo_tr (zFo_s (by decide)) (zFo_s (by decide)))), ?_, ?_, fun l hl y hy1 hy2 => ?_, fun y hy1 hy2 => ?_⟩
            · rw [keep 1618 (by omega)]; exact h2
            · exact zC3_f h3 (keep 1619 (by omega)) (keep 1623 (by omega)) (keep 1624 (by omega))
            · obtain ⟨t', ht', et'⟩ := ht l (by omega)
              have hy3 := hy2
              rw [et', nI_clamp (by omega)] at hy3
              obtain ⟨u1, u2, u3⟩ := upd y (by omega)
              rw [u1, u2, u3]
              exact h4 l hl y hy1 hy2
            · by_cases ey : y = x
              · subst ey
                refine ⟨?_, ?_, ?_⟩
                · rw [zI_n (by decide), zI_n (by decide), zI_e]
                  exact congrFun (zFo_r h1 (by decide)) y
                · rw [zI_n (by decide), zI_e]
                  exact congrFun (zFo_r h1 (by decide)) y
                · rw [zI_e]
                  exact congrFun (zFo_r h1 (by decide)) y
              · obtain ⟨u1, u2, u3⟩ := upd y ey
                rw [u1, u2, u3]
                exact h5 y hy1 (by omega)
      refine key2 (4 * k) (Nat.le_refl _) (by omega) _ ⟨zFo_tr h1 (zFo_tr (zFo_s (by decide)) (zFo_tr (zFo_s (by decide)) (zFo_s (by decide)))), ?_, ?_, fun l hl y hy1 hy2 => ?_, fun y hy1 hy2 => by omega⟩
      · rw [zI_n (by decide), zI_n (by decide), zI_n (by decide)]; exact h2
      · exact zC3_s h3 (congrFun (zFo_r h1 (by decide)) k) (congrFun (zFo_r h1 (by decide)) k) (congrFun (zFo_r h1 (by decide)) k) (by decide) (by decide) (by decide)
      · rw [zI_n (by decide), zI_n (by decide), zI_n (by decide), zI_n (by decide), zI_n (by decide), zI_n (by decide), zI_n (by decide), zI_n (by decide), zI_n (by decide)]
        exact h4 l hl y hy1 hy2
  exact key1 0 (by omega) _ ⟨f0, zI_e, zC3_0, fun l hl => by omega⟩
/-- all but the parser's own fields and the number of lines stays -/
def zPh (m m' : zM) : Prop := (∀ f, ¬ (625 ≤ f ∧ f ≤ 634 ∧ f ≠ 626) → ¬ (1635 ≤ f ∧ f ≤ 1640) → ∀ a j, zI m' f a j = zI m f a j) ∧ (∀ f, f ≠ 630 → ∀ a j, zJ m' f a j = zJ m f a j)
theorem zPh_f {m m' : zM} (h : zPf m m') : zPh m m' := ⟨fun f h1 h2 => h.1 f (by omega) h2, h.2⟩
theorem zPh_rf {m : zM} : zPh m m := ⟨fun _ _ _ _ _ => rfl, fun _ _ _ _ => rfl⟩
theorem zPh_tr {m m1 m2 : zM} (h : zPh m m1) (h2 : zPh m1 m2) : zPh m m2 := ⟨fun f a b c d => (h2.1 f a b c d).trans (h.1 f a b c d), fun f a b c => (h2.2 f a b c).trans (h.2 f a b c)⟩
theorem zPh_s {m : zM} {f a j : Nat} {v : Int32} (h : (625 ≤ f ∧ f ≤ 634 ∧ f ≠ 626) ∨ (1635 ≤ f ∧ f ≤ 1640)) : zPh m (zsI m f a j v) := ⟨fun f' h1 h2 a' j' => zI_n (fun e => by subst e; exact h.elim h1 h2), fun _ _ _ _ => rfl⟩
theorem zPh_nx {m : zM} {o : Nat} : zPh m (zRnx m o) := zPh_f zPf_nx
theorem zPh_w {m : zM} {o : Nat} : zPh m (zXw m o) := zPh_f zPf_w
theorem zPh_la {m : zM} {o : Nat} {x : Int32} : zPh m (zXla m o x) := zPh_f zPf_la
theorem zPh_t {m : zM} {o l n : Nat} : zPh m (zXt m o l n).2 := zPh_f zPf_t
theorem zPh_228 {m : zM} {o : Nat} : zPh m (zX228 m o).2 := by
  unfold zX228 zXnd
  split
  · exact zPh_tr (zPh_s (by decide)) zPh_nx
  · exact zPh_tr (zPh_s (by decide)) zPh_w
theorem zPh_102 {m : zM} {o l : Nat} : zPh m (zX102 m o l).2 := by
  unfold zX102 zX164
  split
  · exact zPh_tr (zPh_s (by decide)) zPh_w
  split
  · exact zPh_tr (zPh_s (by decide)) (zPh_tr zPh_nx (zPh_tr (zPh_s (by decide)) zPh_228))
  split
  · exact zPh_tr (zPh_s (by decide)) (zPh_tr zPh_nx (zPh_tr (zPh_s (by decide)) (zPh_tr (zPh_s (by decide)) (zPh_tr zPh_nx zPh_228))))
  · exact zPh_tr (zPh_s (by decide)) (zPh_tr zPh_nx (zPh_tr (zPh_s (by decide)) zPh_w))
theorem zPh_58 {o l : Nat} : ∀ d (more : Bool) n (m : zM), zPh m (zX58 o l d more n m).2
  | 0, _, _, _ => zPh_rf
  | d + 1, more, n, m => by
    rw [zX58]
    split
    · split
      · exact zPh_tr zPh_nx zPh_t
      · exact zPh_tr zPh_nx (zPh_tr zPh_t (zPh_58 d _ _ _))
    · split
      · exact zPh_tr zPh_nx zPh_102
      · exact zPh_w
theorem zPh_l {m : zM} {o : Nat} : zPh m (zXl m o).2 := by
  have h : ∀ (M : zM) l, zPh M (zX37 M o l).2 := fun M l => by
    unfold zX37
    split
    · exact zPh_tr (zPh_s (by decide)) (zPh_58 _ _ _ _)
    · exact zPh_tr (zPh_s (by decide)) zPh_102
  unfold zXl
  split
  · exact zPh_tr zPh_la (h _ _)
  · exact h _ _
theorem zPh_lo {o : Nat} : ∀ d f (m : zM), zPh m (zXlo o d f m).2
  | 0, _, _ => zPh_rf
  | d + 1, f, m => by
    rw [zXlo]
    split
    · exact zPh_rf
    · exact zPh_tr zPh_l (zPh_lo d _ _)
def zRgE (m : zM) (o : Nat) : zM := zsI (zsI (zsI (zsI (zsI m 600 o 0 0) 626 o 0 (zI m 1602 o 0)) 1602 o 0 0) 1603 o 0 0) 1604 o 0 (-1)
def zRgB (m : zM) (o : Nat) : zM := zsI (zsI (zsI (zsI (zRgE m o) 625 o 0 0) 631 o 0 (-1)) 632 o 0 0) 634 o 0 0
def zRgX (m : zM) (o : Nat) : Int32 × zM := zXlo o 500 1 (zRnx (zRgB m o) o)
/-- the grid as it was, in all places that count -/
def zGb (o : Nat) (m m' : zM) : Prop := zI m' 1618 o 0 = zI m 1618 o 0 ∧ zC3 m m' o 16 1619 1619 1623 1623 1624 1624 ∧ zC3 m m' o 64 1620 1620 1621 1621 1622 1622
def zRgQ (m : zM) (o : Nat) (r : Int32) (m' : zM) : Prop :=
  (¬ zI m 1608 o 0 = 0 → r = -2 ∧ m' = zRgE m o) ∧ (zI m 1608 o 0 = 0 →
    ((zRgX m o).1 = 0 → r = -1 ∧ m' = zsI (zsI (zRgX m o).2 1603 o 0 1) 1604 o 0 (zI (zRgX m o).2 631 o 0)) ∧
    (¬ (zRgX m o).1 = 0 → ((¬ zI (zRgX m o).2 632 o 0 = 0 → r = -1 ∧ m' = zsI (zsI (zRgX m o).2 1603 o 0 (zI (zRgX m o).2 632 o 0)) 1604 o 0 (zI (zRgX m o).2 633 o 0)) ∧
      (zI (zRgX m o).2 632 o 0 = 0 → ∃ N m2 m4, N ≤ 16 ∧ zIv (zRgX m o).2 o N ∧ zKp o (zRgX m o).2 m2 ∧ zSt o m2 m4 ∧ zRC m4 o ∧ (zRH m4 o → r = nI N ∧ m' = m4) ∧ (¬ zRH m4 o → r = -2 ∧ zOl o m4 m')))))
theorem zXlo_v {o n : Nat} {P : Int32 → zM → Prop} (hE : ∀ f m p N, zRp m o n p → zIv m o N → N ≤ p → (f = 0 ∨ zI m 628 o 0 = 0) → P f m) (hF : ∀ m, P 0 m) : ∀ d f m p N, n < p + d → zRp m o n p → (f = 0 ∨ (zIv m o N ∧ N ≤ p)) → P (zXlo o d f m).1 (zXlo o d f m).2
  | 0, f, m, p, N, hd, hx, _ => absurd hx.2.1 (by omega)
  | d + 1, f, m, p, N, hd, hx, h => by
    rw [zXlo]
    split
    · rename_i q
      rcases h with rfl | h
      · exact hF m
      · exact hE f m p N hx h.1 h.2 q
    · rename_i q
      have h := h.resolve_left (fun z => q (Or.inl z))
      by_cases hs : (zXl m o).1 = 0
      · rw [hs]
        have : zXlo o d 0 (zXl m o).2 = (0, (zXl m o).2) := by
          cases d with
          | zero => rfl
          | succ d => rw [zXlo, if_pos (Or.inl rfl)]
        rw [this]
        exact hF _
      · obtain ⟨h1, p', h2, h3⟩ := zXl_v hx (by have := hx.1; have := hx.2.1; omega) h.1 hs
        exact zXlo_v hE hF d _ _ p' (N + 1) (by omega) h3 (Or.inr ⟨h1, by omega⟩)
theorem zRgB_p {m : zM} {o k : Nat} (hk : k ≤ 400) (ek : zI m 1602 o 0 = nI k) : zRp (zRgB m o) o k 0 := by
  refine ⟨hk, Nat.zero_le _, ?_, ?_⟩
  · unfold zRgB zRgE
    rw [zI_n (by decide), zI_n (by decide), zI_n (by decide), zI_n (by decide), zI_n (by decide), zI_n (by decide), zI_n (by decide), zI_e]
    exact ek
  · unfold zRgB zRgE
    rw [zI_n (by decide), zI_n (by decide), zI_n (by decide), zI_e]
    rfl
theorem zRgB_v {m : zM} {o : Nat} : zIv (zRnx (zRgB m o) o) o 0 := by
  have nx : ∀ f, f ≠ 625 → f ≠ 627 → f ≠ 628 → f ≠ 629 → zI (zRnx (zRgB m o) o) f o 0 = zI (zRgB m o) f o 0 := fun f h1 h2 h3 h4 => zRnx_I h1 h2 h3 h4 o 0
  refine ⟨?_, Or.inl ?_, fun _ => ⟨by omega, fun l hl => by omega⟩⟩
  · rw [nx 634 (by decide) (by decide) (by decide) (by decide)]
    exact zI_e
  · rw [nx 632 (by decide) (by decide) (by decide) (by decide)]
    unfold zRgB
    rw [zI_n (by decide), zI_e]
theorem C_X6_grid (hL : zLay G) : Con_X6_grid l G (fun o m => zRC m o ∧ ∃ k, k ≤ 400 ∧ zI m 1602 o 0 = nI k) (fun o m r m' => zRgQ m o r m') := by
  refine con_X6_grid hL fun C Qc S hl o m ko hp hr => ?_
  obtain ⟨hC, k, hk, ek⟩ := hp
  have hB := zRgB_p hk ek
  refine sg_X6_grid_0 S (C_X6_next hL) ko ⟨fun q => ⟨zRp_x hB, fun m2 h2 => ?_⟩, fun q => hr _ _ ⟨fun _ => ⟨rfl, rfl⟩, fun z => absurd z q⟩⟩
  have h2 : m2 = zRnx (zRgB m o) o := h2
  subst h2
  obtain ⟨p0, -, hx0, -⟩ := zRp_nx hB
  -- what stays of the claims
  have hpf : zPh (zRgB m o) (zRgX m o).2 := zPh_tr zPh_nx (zPh_lo _ _ _)
  have hX : ∀ f m2, (f, m2) = zRgX m o → Pt_X6_grid_93 C G o f m2 → Pt_X6_grid_93 C G o (zRgX m o).1 (zRgX m o).2 := fun f m2 e h => by rw [← e]; exact h
  -- behind the loop
  have hend : (¬ (zRgX m o).1 = 0 → ∃ N, N ≤ 400 ∧ zIv (zRgX m o).2 o N) → Pt_X6_grid_93 C G o (zRgX m o).1 (zRgX m o).2 := by
    intro hv
    refine sg_X6_grid_93 S (C_X6_keepGrid hL) (C_X6_setGrid hL) (C_X6_holds hL) (C_X6_oldGrid hL) ko ⟨fun q1 => ⟨fun q2 => ?_, fun q2 => ?_⟩, fun q1 => ?_⟩
    · obtain ⟨N, hN, hv⟩ := hv q1
      have q3 : zI (zRgX m o).2 632 o 0 = 0 := hv.2.1.resolve_right (fun z => absurd z (Int32.not_lt.2 q2))
      obtain ⟨hN16, hg⟩ := hv.2.2 q3
      refine ⟨trivial, fun m2 h2 => ⟨?_, fun m4 h4 => ?_⟩⟩
      · refine ⟨N, hN16, (congrFun (zFo_r h2.1 (by decide)) 0).trans hv.1, fun l hl => ?_⟩
        obtain ⟨t, a, v, ht, ha, hv, e1, e2, e3⟩ := hg l hl
        exact ⟨t, ht, (congrFun (zFo_r h2.1 (by decide)) l).trans e1⟩
      · have f634 : zI m2 634 o 0 = nI N := (congrFun (zFo_r h2.1 (by decide)) 0).trans hv.1
        have hC4 : zRC m4 o := by
          obtain ⟨-, n, hn, en, hP⟩ := hC
          have far : ∀ f, f = 1606 ∨ f = 1609 → zI m4 f o = zI m f o := fun f hf => by
            rw [zFo_r h4.1 (by unfold zFs; omega), zFo_r h2.1 (by unfold zFk; omega)]
            funext j
            rw [hpf.1 f (by omega) (by omega)]
            unfold zRgB zRgE
            rw [zI_n (by omega), zI_n (by omega), zI_n (by omega), zI_n (by omega), zI_n (by omega), zI_n (by omega), zI_n (by omega), zI_n (by omega), zI_n (by omega)]
          refine ⟨⟨N, hN16, h4.2.1.trans f634, fun l hl => ?_⟩, n, hn, (congrFun (far 1606 (by omega)) 0).trans en, fun c hc => ?_⟩
          · obtain ⟨t, a, v, ht, ha, hv, e1, e2, e3⟩ := hg l hl
            have h5 := h4.2.2.1 l (by rw [f634, nI_clamp (by omega)]; exact hl)
            have g : ∀ f, 1635 ≤ f → f ≤ 1640 → zI m2 f o = zI (zRgX m o).2 f o := fun f h1 h2' => zFo_r h2.1 (by unfold zFk; omega)
            refine ⟨t, a, v, ht, ha, hv, ?_, ?_, ?_⟩
            · rw [h5.1, g 1635 (by omega) (by omega)]; exact e1
            · rw [h5.2.1, g 1639 (by omega) (by omega)]; exact e2
            · rw [h5.2.2, g 1640 (by omega) (by omega)]; exact e3
          · have := hP c hc
            unfold zRP at this ⊢
            rw [far 1609 (by omega)]
            exact this
        refine ⟨hC4, fun r6 h6 => ⟨fun q6 => ⟨trivial, fun m8 h8 => hr _ _ ?_⟩, fun q6 => hr _ _ ?_⟩⟩
        · have nh : ¬ zRH m4 o := by
            rcases h6 with h6 | h6
            · rw [h6.1] at q6; exact absurd q6 (by decide)
            · exact h6.2
          exact ⟨fun z => absurd q z, fun _ => ⟨fun z => absurd z q1, fun _ => ⟨fun z => absurd q3 z, fun _ => ⟨N, m2, m4, hN16, hv, h2, h4, hC4, fun z => absurd z nh, fun _ => ⟨rfl, h8⟩⟩⟩⟩⟩
        · have yh : zRH m4 o := by
            rcases h6 with h6 | h6
            · exact h6.2
            · exact absurd h6.1 q6
          have e634 : zI m4 634 o 0 = nI N := (congrFun (zFo_r h4.1 (by decide)) 0).trans f634
          exact ⟨fun z => absurd q z, fun _ => ⟨fun z => absurd z q1, fun _ => ⟨fun z => absurd q3 z, fun _ => ⟨N, m2, m4, hN16, hv, h2, h4, hC4, fun _ => ⟨e634, rfl⟩, fun z => absurd yh z⟩⟩⟩⟩
    · have q3 : ¬ zI (zRgX m o).2 632 o 0 = 0 := fun z => q2 (by rw [z]; decide)
      exact hr _ _ ⟨fun z => absurd q z, fun _ => ⟨fun z => absurd z q1, fun _ => ⟨fun _ => ⟨rfl, rfl⟩, fun z => absurd z q3⟩⟩⟩
    · exact hr _ _ ⟨fun z => absurd q z, fun _ => ⟨fun _ => ⟨rfl, rfl⟩, fun z => absurd q1 z⟩⟩
  have loop : ∀ d f M p N, k < p + d → zRp M o k p → (f = 0 ∨ (zIv M o N ∧ N ≤ p)) → Pt_X6_grid_93 C G o (zXlo o d f M).1 (zXlo o d f M).2 → Pt_X6_grid_74 C G o f M := by
    intro d
    induction d with
    | zero => intro f M p N hd hx _ _; exact absurd hx.2.1 (by omega)
    | succ d ih =>
      intro f M p N hd hx h hP
      rw [zXlo] at hP
      refine sg_X6_grid_74 S (C_X6_oneLine hL) ko ⟨fun q1 => ?_, fun q1 => ⟨fun q2 => ?_, fun q2 => ?_⟩⟩
      · rw [if_pos (Or.inl q1)] at hP; exact hP
      · rw [if_pos (Or.inr q2)] at hP; exact hP
      · rw [if_neg (fun z => z.elim q1 q2)] at hP
        obtain ⟨h, hNp⟩ := h.resolve_left q1
        have hN4 : N ≤ 400 := by have := hx.1; have := hx.2.1; omega
        refine ⟨⟨zRp_x hx, N, hN4, h.1⟩, fun r2 m3 h3 => ?_⟩
        have e1 : r2 = (zXl M o).1 := congrArg Prod.fst h3
        have e2 : m3 = (zXl M o).2 := congrArg Prod.snd h3
        subst e1 e2
        by_cases hs : (zXl M o).1 = 0
        · rw [hs] at hP ⊢
          have : zXlo o d 0 (zXl M o).2 = (0, (zXl M o).2) := by
            cases d with
            | zero => rfl
            | succ d => rw [zXlo, if_pos (Or.inl rfl)]
          rw [this] at hP
          exact sg_X6_grid_74 S (C_X6_oneLine hL) ko ⟨fun _ => hP, fun z => absurd rfl z⟩
        · obtain ⟨h1, p', h2, h4⟩ := zXl_v hx hN4 h hs
          exact ih _ _ p' (N + 1) (by omega) h4 (Or.inr ⟨h1, by omega⟩) hP
  refine loop 500 1 _ p0 0 (by omega) hx0 (Or.inr ⟨zRgB_v, by omega⟩) (hend ?_)
  have := zXlo_v (o := o) (n := k) (P := fun f M => ¬ f = 0 → ∃ N, N ≤ 400 ∧ zIv M o N) (fun f M p N hx h hNp _ _ => ⟨N, by have := hx.1; have := hx.2.1; omega, h⟩) (fun M z => absurd rfl z) 500 1 _ p0 0 (by omega) hx0 (Or.inr ⟨zRgB_v, by omega⟩)
  exact this
end ZR9
