theorem zTot_mk {mc mr mc' mr' : zM} {f o a : Nat} (h : zTot mc mr f o) (h1 : zSm mc' mr' (f + 1) o) (h2 : (zR mc' 3 (f + 1) = f + 3 ∧ zR mc' 502 f = f + 125) ∨ (zR mc' 3 (f + 1) = f + 125 ∧ zR mc' 502 f = f + 3)) (h3 : zWG mc' (zR mc' 502 f)) (e1 : ∀ g x j, f + 133 ≤ x → x < a → zI mc' g x j = zI mc g x j ∧ zJ mc' g x j = zJ mc g x j) (e2 : ∀ x, f + 133 ≤ x → x < a → zR mc' 3 x = zR mc 3 x) (e3 : ∀ j, zQ mc' 1501 f j = zQ mc 1501 f j) (hb2 : ∀ k b2, k < 3 → zQ mc 1501 f k = some b2 → b2 + 123 ≤ a) (e4 : zFr o mr mr') (h49 : ∀ j, zI mr' 1649 o j = zI mr 1649 o j) : zTot mc' mr' f o := by
  obtain ⟨-, -, -, h4, h5, h6⟩ := h
  refine ⟨h1, h2, h3, fun k hk => ?_, e4.2 h5, fun j => ?_⟩
  · rw [h49, e3]
    rcases h4 k hk with h4 | ⟨a1, b2, a2, a3, a4, a5, a6⟩
    · exact Or.inl h4
    · have hlt := hb2 k b2 hk a2
      refine Or.inr ⟨a1, b2, a2, (e2 b2 (by omega) (by omega)).trans a3, a4, fun k' b3 => by rw [e3]; exact a5 k' b3, ?_⟩
      exact zSm_t a6 (zCo_st (fun g x j x1 x2 => e1 g x j (by omega) (by omega)) (e2 b2 (by omega) (by omega)) (fun g hg => by rw [a3]; exact funext fun j => (e1 g (b2 + 2) j (by omega) (by omega)).1)) (zsl_Fr (by omega) e4)
  · by_cases e : j = 0
    · subst e
      exact h1.1.1.2.2.2.2.2.2.2.2
    · rw [(e4.1 1608 j (by omega) (by omega) (by
        have : zww 1608 = 1 := rfl
        omega)).1]
      exact h6 j
theorem zGrM2_I {m : zM} {f g x j : Nat} (h : ¬ (x = f + 1 ∧ (g = 2 ∨ g = 4 ∨ g = 5))) : zI (zGrM2 m f) g x j = zI m g x j := by
  unfold zGrM2
  rw [zI_sI, if_neg (fun z => h ⟨z.2.1, by omega⟩), zI_sI, if_neg (fun z => h ⟨z.2.1, by omega⟩), zI_sI, if_neg (fun z => h ⟨z.2.1, by omega⟩)]
theorem zRgE_I {m : zM} {o g a j : Nat} (h : g ≠ 600 ∧ g ≠ 626 ∧ g ≠ 1602 ∧ g ≠ 1603 ∧ g ≠ 1604) : zI (zRgE m o) g a j = zI m g a j := by
  unfold zRgE
  rw [zI_n (by omega), zI_n (by omega), zI_n (by omega), zI_n (by omega), zI_n (by omega)]
theorem zSm_S1 {mc mr : zM} {f o : Nat} (h : zSm mc mr (f + 1) o) : zSm (zGrM2 mc f) (zRgE mr o) (f + 1) o := by
  have rI : ∀ g, (g ≠ 600 ∧ g ≠ 626 ∧ g ≠ 1602 ∧ g ≠ 1603 ∧ g ≠ 1604) → zI (zRgE mr o) g o = zI mr g o := fun g hg => funext fun j => zRgE_I hg
  have e602 : zI (zRgE mr o) 1602 o 0 = 0 := by
    unfold zRgE
    rw [zI_n (by decide), zI_n (by decide), zI_e]
  have e603 : zI (zRgE mr o) 1603 o 0 = 0 := by
    unfold zRgE
    rw [zI_n (by decide), zI_e]
  have e604 : zI (zRgE mr o) 1604 o 0 = -1 := by
    unfold zRgE
    rw [zI_e]
  have c2 : zI (zGrM2 mc f) 2 (f + 1) 0 = 0 := by
    unfold zGrM2
    rw [zI_n (by decide), zI_n (by decide), zI_e]
  have c4 : zI (zGrM2 mc f) 4 (f + 1) 0 = 0 := by
    unfold zGrM2
    rw [zI_n (by decide), zI_e]
  have c5 : zI (zGrM2 mc f) 5 (f + 1) 0 = -1 := by
    unfold zGrM2
    rw [zI_e]
  have hq : zSq (zGrM2 mc f) (zRgE mr o) (f + 1) o := by
    refine zSq_S h.1 ⟨fun g hg => ⟨funext fun x => funext fun j => zGrM2_I (by omega), rfl⟩, rfl⟩ ⟨fun g hg => rI g (by omega), fun _ _ => rfl⟩ (congrFun (rI 1606 (by decide)) 0) ?_
    obtain ⟨h1, h2, h3, h4, h5, h6, h7, h8⟩ := h.1.1
    refine ⟨h1, fun j hj => ?_, ⟨c2.trans e602.symm, 0, by omega, e602⟩, c4.trans e603.symm, c5.trans e604.symm, ?_, ?_, ?_⟩
    · rw [zGrM2_I (by omega), rI 1601 (by decide)]
      exact h2 j hj
    · rw [zGrM2_I (by omega), rI 1606 (by decide)]
      exact h6
    · rw [zGrM2_I (by omega), rI 1607 (by decide)]
      exact h7
    · rw [zGrM2_I (by omega), rI 1608 (by decide)]
      exact h8
  refine ⟨hq, fun z => ?_⟩
  rw [rI 1608 (by decide)] at z
  exact (zRH_q (fun g hg => rI g (by omega)) (fun _ _ => rfl)).1 (h.2 z)
/-- class memory behind the reader: what stays -/
def zGf (a sp : Nat) (m m' : zM) : Prop := (∀ g x j, x < a → ¬ (x = sp ∧ (g = 200 ∨ (1201 ≤ g ∧ g ≤ 1207))) → zI m' g x j = zI m g x j) ∧ (∀ g x j, x < a → zJ m' g x j = zJ m g x j) ∧ (∀ g x, x < a → zR m' g x = zR m g x) ∧ ∀ g x j, x < a → zQ m' g x j = zQ m g x j
theorem zGf_rd {m m4 : zM} {f a : Nat} (h : zCf a (zR m 502 f) (zGrM3 m f a) m4) : zGf a (zR m 502 f) (zGrM2 m f) m4 := by
  have key : ∀ g x, x < a → ∃ c, zkf g = zkey c := fun g x _ => by
    by_cases hg : g < 1000
    · refine ⟨g / 100, ?_⟩
      unfold zkf zkey
      rw [if_pos hg, if_pos (by omega), Nat.mod_eq_of_lt (by omega)]
    · refine ⟨g, ?_⟩
      unfold zkf zkey
      rw [if_neg hg, if_neg hg]
  refine ⟨fun g x j hx hn => ?_, fun g x j hx => ?_, fun g x hx => ?_, fun g x j hx => ?_⟩
  · obtain ⟨c, hc⟩ := key g x hx
    exact (h.1 g x j (fun z => by omega) hn).trans ((zGrM3_ag (c := c) hx g hc).1 j)
  · obtain ⟨c, hc⟩ := key g x hx
    exact (zJ_2 h.2 g x ▸ rfl : zJ m4 g x j = zJ (zGrM3 m f a) g x j).trans ((zGrM3_ag (c := c) hx g hc).2.1 j)
  · obtain ⟨c, hc⟩ := key g x hx
    have e : zR m4 g x = zR (zGrM3 m f a) g x := by
      show m4.2.2.1 g x = _
      rw [h.2]
      rfl
    exact e.trans (zGrM3_ag (c := c) hx g hc).2.2.1
  · obtain ⟨c, hc⟩ := key g x hx
    have e : zQ m4 g x j = zQ (zGrM3 m f a) g x j := by
      show m4.2.2.2 g x j = _
      rw [h.2]
      rfl
    exact e.trans ((zGrM3_ag (c := c) hx g hc).2.2.2 j)
theorem zCo_g {m m' : zM} {a sp b : Nat} (h : zGf a sp m m') (hb : b + 123 ≤ a) (hr : zR m 3 b < a) (hne : zR m 3 b ≠ sp) : zCo m b m' b := by
  obtain ⟨hI, hJ, hR, -⟩ := h
  have eR : zR m' 3 b = zR m 3 b := hR 3 b (by omega)
  have ekq : ∀ c, zkq b c = b + 11 + 7 * c := fun _ => rfl
  refine ⟨hJ 0 b 0 (by omega), fun j => hI 1001 b j (by omega) (fun z => by omega), fun g hg => hI g b 0 (by omega) (fun z => by omega), fun c hc => ⟨fun g h1 h2 => hI g _ 0 (by rw [ekq]; omega) (fun z => by omega), fun g h1 h2 => hI g _ 0 (by rw [ekq]; omega) (fun z => by omega), fun g h1 h2 => hJ g _ 0 (by rw [ekq]; omega), fun j => ⟨hI 1306 _ j (by rw [ekq]; omega) (fun z => by omega), hJ 1307 _ j (by rw [ekq]; omega), hJ 1308 _ j (by rw [ekq]; omega), hI 1309 _ j (by rw [ekq]; omega) (fun z => by omega), hJ 1310 _ j (by rw [ekq]; omega)⟩⟩, ?_, fun g h1 h2 => ?_⟩
  · rw [eR]
    exact hI 200 _ 0 hr (fun z => hne z.1)
  · rw [eR]
    exact funext fun j => hI g _ j hr (fun z => hne z.1)
theorem zLe_P {m m' : zM} {o : Nat} (h : ∀ g j, 1601 ≤ g → g ≤ 1624 → zI m' g o j = zI m g o j ∧ zJ m' g o j = zJ m g o j) : zLe m m' o := fun g j _ => ⟨fun hg => (h g j (zFI_r hg).1 (zFI_r hg).2).1, fun hg => (h g j (zFJ_r hg).1 (zFJ_r hg).2).2⟩
/-- a fault, on both sides -/
theorem zSm_45 {mc mr : zM} {b o : Nat} {v w : Int32} (h : zSm mc mr b o) : zSm (zsI (zsI mc 4 b 0 v) 5 b 0 w) (zsI (zsI mr 1603 o 0 v) 1604 o 0 w) b o := by
  have cI : ∀ g, g ≠ 4 → g ≠ 5 → zI (zsI (zsI mc 4 b 0 v) 5 b 0 w) g = zI mc g := fun g h1 h2 => funext fun x => funext fun j => by rw [zI_n h2, zI_n h1]
  have rI : ∀ g, g ≠ 1603 → g ≠ 1604 → zI (zsI (zsI mr 1603 o 0 v) 1604 o 0 w) g = zI mr g := fun g h1 h2 => funext fun x => funext fun j => by rw [zI_n h2, zI_n h1]
  have hq : zSq (zsI (zsI mc 4 b 0 v) 5 b 0 w) (zsI (zsI mr 1603 o 0 v) 1604 o 0 w) b o := by
    refine zSq_S h.1 ⟨fun g hg => ⟨cI g (by omega) (by omega), rfl⟩, rfl⟩ ⟨fun g hg => by rw [rI g (by omega) (by omega)], fun _ _ => rfl⟩ (by rw [rI 1606 (by decide) (by decide)]) ?_
    obtain ⟨h1, h2, h3, h4, h5, h6, h7, h8⟩ := h.1.1
    refine ⟨h1, fun j hj => ?_, ?_, ?_, ?_, ?_, ?_, ?_⟩
    · rw [cI 1001 (by decide) (by decide), rI 1601 (by decide) (by decide)]
      exact h2 j hj
    · rw [cI 2 (by decide) (by decide), rI 1602 (by decide) (by decide)]
      exact h3
    · rw [zI_n (by decide), zI_e, zI_n (by decide), zI_e]
    · rw [zI_e, zI_e]
    · rw [cI 7 (by decide) (by decide), rI 1606 (by decide) (by decide)]
      exact h6
    · rw [cI 8 (by decide) (by decide), rI 1607 (by decide) (by decide)]
      exact h7
    · rw [cI 9 (by decide) (by decide), rI 1608 (by decide) (by decide)]
      exact h8
  refine ⟨hq, fun z => ?_⟩
  rw [rI 1608 (by decide) (by decide)] at z
  exact (zRH_q (fun g hg => by rw [rI g (by omega) (by omega)]) (fun _ _ => rfl)).1 (h.2 z)
