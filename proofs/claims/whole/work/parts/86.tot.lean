/-! at the law's start class and reference agree -/
def zMz : zM := (fun f _ _ => zi0 f, fun f _ _ => zj0 f, fun f o => if f = 3 then o + 2 else o + 125, fun _ _ _ => none)
theorem zWT_z {G : zG} (h : ∀ q, zK G q = none) : zWT G zMz := by
  refine ⟨fun f _ _ => zfit0 f, fun o ho => ?_, fun o ho => ?_, fun o ho => ?_⟩ <;> rw [h] at ho <;> cases ho
theorem zLay_z {G : zG} (h : ∀ q, zK G q = none) (hz : zbs G ≤ zsz G) : zLay G := by
  refine ⟨⟨hz, fun a k ha => ?_⟩, fun a b k k' ha => ?_, fun c o ho => ?_⟩
  · rw [h] at ha; cases ha
  · rw [h] at ha; cases ha
  · rw [h] at ho; cases ho
theorem zTot_i {m1 m2 : zM} {f o : Nat} (h1 : zIni m1 f) (h2 : zIni m2 o) : zTot m1 (zF6 m2 o) f o := by
  have cI : ∀ g x j, f ≤ x → zI m1 g x j = zi0 g := fun g x j hx => ((h1 x hx).1 g j).1
  have cJ : ∀ g x j, f ≤ x → zJ m1 g x j = zj0 g := fun g x j hx => ((h1 x hx).1 g j).2.1
  have rI : ∀ g j, g ≠ 1604 → zI (zF6 m2 o) g o j = zi0 g := fun g j hg => (zF6_I (Or.inl hg)).trans ((h2 o (Nat.le_refl o)).1 g j).1
  have rJ : ∀ g j, g ≠ 1605 → zJ (zF6 m2 o) g o j = zj0 g := fun g j hg => (zF6_J (Or.inl hg)).trans ((h2 o (Nat.le_refl o)).1 g j).2.1
  have r4 : zI (zF6 m2 o) 1604 o 0 = -1 := by unfold zF6; rw [zI_e]
  have r5 : zJ (zF6 m2 o) 1605 o 0 = 1000 := by
    unfold zF6
    rw [zJ_sI, zJ_e]
  have e3 : zR m1 3 (f + 1) = f + 3 := (h1 (f + 1) (Nat.le_add_right _ _)).2.1
  have e5 : zR m1 502 f = f + 125 := (h1 f (Nat.le_refl f)).2.2
  have n6 : zI (zF6 m2 o) 1606 o 0 = 0 := rI 1606 0 (by decide)
  have n6c : (zI (zF6 m2 o) 1606 o 0).toNatClampNeg = 0 := by rw [n6]; rfl
  have hW : ∀ x, f ≤ x → zWG m1 x := fun x hx => ⟨⟨0, by omega, cI 200 x 0 hx⟩, fun l _ => ⟨0, by omega, cI 1203 x l hx⟩⟩
  have hq : zSq m1 (zF6 m2 o) (f + 1) o := by
    refine ⟨⟨⟨?_, 1000, by decide, by decide, ?_⟩, fun j _ => ?_, ⟨?_, 0, by omega, rI 1602 0 (by decide)⟩, ?_, ?_, ⟨?_, 0, by omega, n6⟩, ?_, ?_, Or.inl (rI 1608 0 (by decide))⟩, ⟨?_, ⟨0, by omega, rI 1618 0 (by decide), fun l hl => absurd hl (Nat.not_lt_zero l)⟩, ?_, fun l hl => ?_⟩, fun c hc => ?_, fun c _ hc => ?_⟩
    · rw [r5, cJ 0 _ _ (Nat.le_add_right _ _)]; rfl
    · rw [r5]; rfl
    · rw [cI 1001 _ _ (Nat.le_add_right _ _), rI 1601 j (by decide)]; rfl
    · rw [cI 2 _ _ (Nat.le_add_right _ _), rI 1602 0 (by decide)]; rfl
    · rw [cI 4 _ _ (Nat.le_add_right _ _), rI 1603 0 (by decide)]; rfl
    · rw [cI 5 _ _ (Nat.le_add_right _ _), r4]; rfl
    · rw [cI 7 _ _ (Nat.le_add_right _ _), n6]; rfl
    · rw [cI 8 _ _ (Nat.le_add_right _ _), rI 1607 0 (by decide)]; rfl
    · rw [cI 9 _ _ (Nat.le_add_right _ _), rI 1608 0 (by decide)]; rfl
    · rw [e3]; exact hW _ (by omega)
    · rw [e3, cI 200 _ _ (by omega), rI 1618 0 (by decide)]; rfl
    · rw [rI 1618 0 (by decide)] at hl
      exact absurd hl (Nat.not_lt_zero l)
    · rw [n6c] at hc
      exact absurd hc (Nat.not_lt_zero c)
    · have hx : f ≤ zkq (f + 1) c := by
        have : zkq (f + 1) c = f + 1 + 11 + 7 * c := rfl
        omega
      have hx1 : f ≤ zkq (f + 1) c + 1 := by omega
      refine ⟨⟨cI 105 _ _ hx, cI 106 _ _ hx, cI 107 _ _ hx, 0, by omega, cI 104 _ _ hx⟩, cI 300 _ _ hx1, cI 301 _ _ hx1, cI 302 _ _ hx1, cJ 303 _ _ hx1, cJ 304 _ _ hx1, cJ 305 _ _ hx1, fun k _ => ⟨cJ 1308 _ _ hx1, cJ 1310 _ _ hx1⟩⟩
  refine ⟨⟨hq, fun _ c hc => ?_⟩, Or.inl ⟨e3, e5⟩, ?_, fun k _ => Or.inl ⟨rI 1649 k (by decide), ?_⟩, fun j => ?_, fun j => Or.inl (rI 1608 j (by decide))⟩
  · rw [n6c] at hc
    exact absurd hc (Nat.not_lt_zero c)
  · rw [e5]; exact hW _ (by omega)
  · exact ((h1 f (Nat.le_refl f)).1 1501 k).2.2
  · rw [rI 1601 j (by decide)]
    rfl
/-- the two worlds at the loop's begin -/
def zGcs (G : zG) : zG := zGz (zGx2 G 5) (zsz G + zln 5 + zln 6)
def zGrs (G : zG) : zG := zGx2 (zGz G (zsz G + zln 5)) 6
theorem zl2_i {G : zG} (hn : ∀ q, zK G q = none) (hz : zbs G ≤ zsz G) {E1 : Nat → Option va_E} {H : Heap} (h : zNp G (zsz G + zln 5 + zln 6) (fun q => if zsz G + zln 5 ≤ q then zEl G 6 (zsz G + zln 5) (zF6 (zM0 zMz (zsz G + zln 5)) (zsz G + zln 5)) q else E1 q) H) (hE : ∀ q, zsz G ≤ q → q < zsz G + zln 5 → E1 q = zEl G 5 (zsz G) (zM0 zMz (zsz G)) q) : zl2 (zGcs G) (zGrs G) (zM0 zMz (zsz G)) (zF6 (zM0 zMz (zsz G + zln 5)) (zsz G + zln 5)) H := by
  have hL := zLay_z hn hz
  have hn2 : ∀ q, zK (zGz G (zsz G + zln 5)) q = none := hn
  have hL2 : zLay (zGz G (zsz G + zln 5)) := zLay_z hn2 (Nat.le_trans hz (Nat.le_add_right _ _))
  refine ⟨⟨h.1, fun q k hk => ?_, ?_⟩, ⟨h.1, fun q k hk => ?_, ?_⟩⟩
  · have hk : zK (zGx2 G 5) q = some k := hk
    by_cases hq : zsz G ≤ q
    · rw [zGx2_n hq] at hk
      have hlt := zLy_lt (c := 5) (by decide) hk
      refine h.2 q _ ?_
      show (if zsz G + zln 5 ≤ q then _ else E1 q) = _
      rw [if_neg (by omega), hE q hq hlt.2]
      unfold zEl
      rw [hk]
      rfl
    · rw [zGx2_o (by omega), hn] at hk
      cases hk
  · exact zWT_M0 hL (zWT_z hn) zlw_5
  · have hk : zK (zGx2 (zGz G (zsz G + zln 5)) 6) q = some k := hk
    have hzz : zsz (zGz G (zsz G + zln 5)) = zsz G + zln 5 := rfl
    by_cases hq : zsz G + zln 5 ≤ q
    · rw [zGx2_n (by rw [hzz]; exact hq), hzz] at hk
      refine h.2 q _ ?_
      show (if zsz G + zln 5 ≤ q then _ else E1 q) = _
      rw [if_pos hq]
      unfold zEl
      rw [hk]
      rfl
    · rw [zGx2_o (by rw [hzz]; omega), hn2] at hk
      cases hk
  · exact zWT_sI (zWT_sJ (zWT_M0 hL2 (zWT_z hn2) zlw_6)) ⟨fun h => by omega, fun h => by omega⟩
theorem zLv_i {C : zC} {G : zG} (hn : ∀ q, zK G q = none) (hz : zsz G = zbs G) (hF : zF0 C cL_law 4 lw_tbl RL) (hK : zKs G (zs C)) (hN : zNs (zs C)) (hA : ∀ q, zA C q ↔ zbs G ≤ q) : zLv C (zGcs G) (zGrs G) (zM0 zMz (zsz G)) (zF6 (zM0 zMz (zsz G + zln 5)) (zsz G + zln 5)) (zsz G) (zsz G + zln 5) := by
  have hzb : zbs G ≤ zsz G := by rw [hz]; exact Nat.le_refl _
  have hL := zLay_z hn hzb
  have hn2 : ∀ q, zK (zGz G (zsz G + zln 5)) q = none := hn
  have hL2 : zLay (zGz G (zsz G + zln 5)) := zLay_z hn2 (Nat.le_trans hzb (Nat.le_add_right _ _))
  refine ⟨hF, hK, hK, hN, zGz_L (zGx2_l hL (by decide) zlk_5) (Nat.le_add_right _ _), zGx2_l hL2 (by decide) zlk_6, ⟨rfl, fun q a b => ?_⟩, zGx2_i (G := G) (c := 5) (i := 0) (k := (5, 0)) rfl, zGx2_i (G := zGz G (zsz G + zln 5)) (c := 6) (i := 0) (k := (6, 0)) rfl, zTot_i zM0_ini zM0_ini, hA, rfl⟩
  obtain ⟨k, hk⟩ := a
  obtain ⟨k2, hk2⟩ := b
  have hk : zK (zGx2 G 5) q = some k := hk
  rcases zGx2_s hk with ⟨_, h2⟩ | ⟨i, k0, rfl, h3, _⟩
  · rw [hn] at h2; cases h2
  · rcases zGx2_s hk2 with ⟨_, h5⟩ | ⟨i2, k02, e, _, _⟩
    · rw [hn2] at h5; cases h5
    · have hi : i < zln 5 := (List.getElem?_eq_some_iff.mp h3).1
      have e : zsz G + i = zsz G + zln 5 + i2 := e
      omega
