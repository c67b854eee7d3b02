theorem zSg_new {m4 x2 y2 y4 : zM} {sp o N : Nat} (hN : N ≤ 16) (hv : zI x2 634 o 0 = nI N) (h632 : zI x2 632 o 0 = 0) (hG : zGc m4 x2 sp o N) (hk : zKp o x2 y2) (hs : zSt o y2 y4) (hC : zRC y4 o) : zSg m4 y4 sp o := by
  obtain ⟨hW, h200, hx⟩ := hG
  have hx := hx h632
  have kI : ∀ g, ¬ zFk g → zI y2 g o = zI x2 g o := fun g hg => zFo_r hk.1 hg
  have e634 : zI y2 634 o 0 = nI N := (congrFun (kI 634 (by decide)) 0).trans hv
  have e1618 : zI y4 1618 o 0 = nI N := hs.2.1.trans e634
  refine ⟨hW, hC.1, ?_, fun l hl => ?_⟩
  · rw [h200, e1618]
    split
    · rw [show N = 16 by omega]
    · rfl
  · rw [e1618, nI_clamp (by omega)] at hl
    obtain ⟨s1, s2, s3⟩ := hs.2.2.1 l (by rw [e634, nI_clamp (by omega)]; exact hl)
    obtain ⟨x1, x2', x3, x4⟩ := hx l hl
    have k1 := congrFun (kI 1635 (by decide)) l
    have k2 := congrFun (kI 1639 (by decide)) l
    have k3 := congrFun (kI 1640 (by decide)) l
    refine ⟨x1.trans (k2.symm.trans s2.symm), x2'.trans (k3.symm.trans s3.symm), x3.trans (k1.symm.trans s1.symm), fun i hi => ?_⟩
    rw [s1, k1] at hi
    obtain ⟨t1, t2, t3, t4⟩ := x4 i hi
    obtain ⟨u1, u2, u3⟩ := hs.2.2.2 l (by rw [e634, nI_clamp (by omega)]; exact hl) (4 * l + i) (by omega) (by rw [k1]; omega)
    have v1 := u1.trans (congrFun (kI 1636 (by decide)) _)
    have v2 := u2.trans (congrFun (kI 1637 (by decide)) _)
    have v3 := u3.trans (congrFun (kI 1638 (by decide)) _)
    unfold zTy zwS zwN
    rw [v1, v2, v3]
    exact ⟨t1, t2, t3, t4⟩
theorem zGrM3_r {m : zM} {f a : Nat} : zR (zGrM3 m f a) 402 a = zR m 502 f ∧ zR (zGrM3 m f a) 400 a = f + 1 ∧ zI (zGrM3 m f a) 401 a 0 = zI m 2 (f + 1) 0 ∧ zI (zGrM3 m f a) 404 a 0 = 0 ∧ zI (zGrM3 m f a) 406 a 0 = 0 := by
  unfold zGrM3
  refine ⟨?_, ?_, ?_, ?_, ?_⟩
  · rw [zR_sI, zR_sI, zR_e]
  · rw [zR_sI, zR_sI, zR_n (by decide), zR_e]
  · rw [zI_n (by decide), zI_e]
  · rw [zI_n (by decide), zI_n (by decide), zI_sR, zI_sR, zM0_I, if_neg (by omega)]
    rfl
  · rw [zI_n (by decide), zI_n (by decide), zI_sR, zI_sR, zM0_I, if_neg (by omega)]
    rfl
theorem zGrM3_o {m : zM} {f a g x j : Nat} (hx : x < a) (hn : ¬ (x = f + 1 ∧ (g = 2 ∨ g = 4 ∨ g = 5))) : zI (zGrM3 m f a) g x j = zI m g x j := by
  have e : zI (zGrM3 m f a) g x j = zI (zGrM2 m f) g x j := by
    unfold zGrM3
    rw [zI_sI, if_neg (fun z => by omega), zI_sI, if_neg (fun z => by omega), zI_sR, zI_sR, zM0_I, if_pos hx]
  exact e.trans (zGrM2_I hn)
/-- what the reader asks -/
theorem grid_pre {mc mr : zM} {f o a : Nat} (h : zTot mc mr f o) (ha : f + 133 ≤ a) : ∃ n, zLp (zGrM3 mc f a) (zRgB mr o) a o n 0 ∧ zI (zGrM3 mc f a) 406 a 0 = 0 ∧ zI (zRgB mr o) 632 o 0 = 0 ∧ zI (zRgB mr o) 634 o 0 = 0 ∧ zWG (zGrM3 mc f a) (zR (zGrM3 mc f a) 402 a) := by
  obtain ⟨e402, e400, e401, e404, e406⟩ := zGrM3_r (m := mc) (f := f) (a := a)
  obtain ⟨-, h2, ⟨h3, k, hk, ek⟩, -⟩ := h.1.1.1
  have hb := h.2.2.2.2.1
  have hsp := h.2.1
  have t1 : ∀ j, j < 400 → zI (zGrM3 mc f a) 1001 (f + 1) j = zI mr 1601 o j := fun j hj => (zGrM3_o (by omega) (by omega)).trans (h2 j hj)
  have b1 : zI (zRgB mr o) 1601 o = zI mr 1601 o := by
    funext j
    unfold zRgB
    rw [zI_n (by decide), zI_n (by decide), zI_n (by decide), zI_n (by decide), zRgE_I (by decide)]
  have b6 : zI (zRgB mr o) 626 o 0 = zI mr 1602 o 0 := by
    unfold zRgB zRgE
    rw [zI_n (by decide), zI_n (by decide), zI_n (by decide), zI_n (by decide), zI_n (by decide), zI_n (by decide), zI_n (by decide), zI_e]
  refine ⟨k, ⟨⟨hk, Nat.zero_le _, e401.trans (h3.trans ek), e404, fun j hj => ?_⟩, ⟨hk, Nat.zero_le _, b6.trans ek, ?_⟩, fun j hj => ?_⟩, e406, ?_, ?_, ?_⟩
  · rw [e400, t1 j (by omega)]
    exact hb j
  · unfold zRgB
    rw [zI_n (by decide), zI_n (by decide), zI_n (by decide), zI_e]
    rfl
  · unfold zcT
    rw [b1, e400]
    exact (t1 j (by omega)).symm
  · unfold zRgB
    rw [zI_n (by decide), zI_e]
  · unfold zRgB
    rw [zI_e]
  · rw [e402]
    exact zWG_ext (m := mc) (fun g hg => funext fun j => (zGrM3_o (by omega) (by omega)).symm) h.2.2.1
section SGR
variable {mc mr : zM} {f o a : Nat}
/-- behind the reader -/
theorem grid_mid (h : zTot mc mr f o) (ha : f + 133 ≤ a) {m4 : zM} {X : Int32 × zM} (hX : X = zRgX mr o) (hq : zRdQ (zGrM3 mc f a) m4 a o X) : zGf a (zR mc 502 f) (zGrM2 mc f) m4 ∧ zWG m4 (zR mc 502 f) ∧ zR m4 3 (f + 1) = zR mc 3 (f + 1) ∧ zR m4 502 f = zR mc 502 f ∧ (∀ y, (∀ g j, 1601 ≤ g → g ≤ 1624 → zI y g o j = zI X.2 g o j ∧ zJ y g o j = zJ X.2 g o j) → zSm m4 y (f + 1) o) ∧ (∀ g, g = 1601 ∨ g = 1649 ∨ g = 1608 → zI X.2 g o = zI mr g o) ∧ (∀ g x j, f + 133 ≤ x → x < a → zI m4 g x j = zI mc g x j ∧ zJ m4 g x j = zJ mc g x j) ∧ (∀ x, f + 133 ≤ x → x < a → zR m4 3 x = zR mc 3 x) ∧ ∀ j, zQ m4 1501 f j = zQ mc 1501 f j := by
  subst hX
  have e402 := (zGrM3_r (m := mc) (f := f) (a := a)).1
  obtain ⟨hcf, hwg, -⟩ := hq
  rw [e402] at hcf hwg
  have hgf := zGf_rd hcf
  have hsp := h.2.1
  have hpx : zPh (zRgB mr o) (zRgX mr o).2 := zPh_tr zPh_nx (zPh_lo _ _ _)
  have hx : ∀ g j, 1601 ≤ g → (g ≤ 1624 ∨ g = 1649) → zI (zRgX mr o).2 g o j = zI (zRgE mr o) g o j ∧ zJ (zRgX mr o).2 g o j = zJ (zRgE mr o) g o j := fun g j h1 h2 => by
    refine ⟨(hpx.1 g (by omega) (by omega) o j).trans ?_, (hpx.2 g (by omega) o j).trans rfl⟩
    unfold zRgB
    rw [zI_n (by omega), zI_n (by omega), zI_n (by omega), zI_n (by omega)]
  refine ⟨hgf, hwg, hgf.2.2.1 3 (f + 1) (by omega), hgf.2.2.1 502 f (by omega), fun y hy => ?_, fun g hg => ?_, fun g x j h1 h2 => ⟨?_, hgf.2.1 g x j h2⟩, fun x h1 h2 => hgf.2.2.1 3 x h2, fun j => hgf.2.2.2 1501 f j (by omega)⟩
  · refine zSm_t (zSm_S1 h.1) (zCo_g hgf (by omega) (by show zR mc 3 (f + 1) < a; omega) (by show zR mc 3 (f + 1) ≠ zR mc 502 f; omega)) (zLe_P fun g j h1 h2 => ?_)
    exact ⟨(hy g j h1 h2).1.trans (hx g j h1 (Or.inl h2)).1, (hy g j h1 h2).2.trans (hx g j h1 (Or.inl h2)).2⟩
  · funext j
    rw [(hx g j (by omega) (by omega)).1, zRgE_I (by omega)]
  · rw [hgf.1 g x j h2 (fun z => by omega)]
    exact zGrM2_I (by omega)
end SGR
