/-! books carried to other places; images -/
/-- the slot at hand agrees -/
def zLe (mr mr' : zM) (o : Nat) : Prop := ∀ f j, j < zww f → (f ∈ zFI → zI mr' f o j = zI mr f o j) ∧ (f ∈ zFJ → zJ mr' f o j = zJ mr f o j)
section ZLE
variable {mr mr' : zM} {o : Nat}
theorem zLe_t (h : zLe mr mr' o) {j : Nat} (hj : j < 400) : zI mr' 1601 o j = zI mr 1601 o j := (h 1601 j (by
  have : zww 1601 = 400 := rfl
  omega)).1 (by decide)
theorem zLe_9 (h : zLe mr mr' o) {j : Nat} (hj : j < 160) : zI mr' 1609 o j = zI mr 1609 o j := (h 1609 j (by
  have : zww 1609 = 160 := rfl
  omega)).1 (by decide)
theorem zLe_0 (h : zLe mr mr' o) {f : Nat} (hf : f = 1602 ∨ f = 1603 ∨ f = 1604 ∨ f = 1606 ∨ f = 1607 ∨ f = 1608 ∨ f = 1618) : zI mr' f o 0 = zI mr f o 0 := (h f 0 (by
  rcases hf with rfl | rfl | rfl | rfl | rfl | rfl | rfl <;> decide)).1 (by
  rcases hf with rfl | rfl | rfl | rfl | rfl | rfl | rfl <;> decide)
theorem zLe_5 (h : zLe mr mr' o) : zJ mr' 1605 o 0 = zJ mr 1605 o 0 := (h 1605 0 (by decide)).2 (by decide)
theorem zLe_1 (h : zLe mr mr' o) {f j : Nat} (hf : 1610 ≤ f ∧ f ≤ 1612) (hj : j < 16) : zJ mr' f o j = zJ mr f o j := by
  rcases (show f = 1610 ∨ f = 1611 ∨ f = 1612 by omega) with rfl | rfl | rfl
  · exact (h 1610 j hj).2 (by decide)
  · exact (h 1611 j hj).2 (by decide)
  · exact (h 1612 j hj).2 (by decide)
theorem zLe_g (h : zLe mr mr' o) {f j : Nat} (hf : f = 1619 ∨ f = 1623 ∨ f = 1624) (hj : j < 16) : zI mr' f o j = zI mr f o j := by
  rcases hf with rfl | rfl | rfl
  · exact (h 1619 j hj).1 (by decide)
  · exact (h 1623 j hj).1 (by decide)
  · exact (h 1624 j hj).1 (by decide)
theorem zLe_6 (h : zLe mr mr' o) {f j : Nat} (hf : f = 1613 ∨ f = 1616 ∨ f = 1620 ∨ f = 1621 ∨ f = 1622) (hj : j < 64) : zI mr' f o j = zI mr f o j := by
  rcases hf with rfl | rfl | rfl | rfl | rfl
  · exact (h 1613 j hj).1 (by decide)
  · exact (h 1616 j hj).1 (by decide)
  · exact (h 1620 j hj).1 (by decide)
  · exact (h 1621 j hj).1 (by decide)
  · exact (h 1622 j hj).1 (by decide)
theorem zLe_6J (h : zLe mr mr' o) {f j : Nat} (hf : f = 1614 ∨ f = 1615 ∨ f = 1617) (hj : j < 64) : zJ mr' f o j = zJ mr f o j := by
  rcases hf with rfl | rfl | rfl
  · exact (h 1614 j hj).2 (by decide)
  · exact (h 1615 j hj).2 (by decide)
  · exact (h 1617 j hj).2 (by decide)
theorem zrp_t (h : zLe mr mr' o) (hg : zRG mr o) (k y l p : Int32) : zrp mr' o k y l p = zrp mr o k y l p := by
  obtain ⟨L, hL, eL, hG⟩ := hg
  unfold zrp
  rw [(zLe_0 h (by omega)), eL, nI_clamp (by omega)]
  refine zpf_x _ _ _ (fun x _ hx => ?_)
  obtain ⟨t, a, q, ht, -, -, et, -, -⟩ := hG x (by omega)
  refine ⟨zLe_g h (by omega) (by omega), zLe_g h (by omega) (by omega), zLe_g h (by omega) (by omega), fun j hj => ?_⟩
  rw [et, nI_clamp (by omega)] at hj
  unfold zwS zwN
  rw [(zLe_6 h (by omega) (show 4 * x + j < 64 by omega) (f := 1620)), (zLe_6 h (by omega) (show 4 * x + j < 64 by omega) (f := 1621)), (zLe_6 h (by omega) (show 4 * x + j < 64 by omega) (f := 1622))]
  exact ⟨rfl, rfl, rfl, fun _ => rfl⟩
theorem zrw_t (h : zLe mr mr' o) (hg : zRG mr o) {c : Nat} (hc : c < 16) : zrw mr' o c = zrw mr o c := funext fun p => by
  unfold zrw
  rw [zLe_9 h (by omega), zLe_9 h (by omega), zLe_9 h (by omega), zrp_t h hg]
theorem zRle_t (h : zLe mr mr' o) (hg : zRG mr o) {c : Nat} (hc : c < 16) : zRle mr' o c = zRle mr o c := by
  unfold zRle
  rw [zLe_9 h (by omega), zLe_9 h (by omega), zLe_9 h (by omega), zrw_t h hg hc]
theorem zRmo_t (h : zLe mr mr' o) (hg : zRG mr o) {c : Nat} (hc : c < 16) : zRmo mr' o c = zRmo mr o c := by
  unfold zRmo
  rw [zLe_9 h (by omega), zLe_9 h (by omega), zLe_9 h (by omega), zrw_t h hg hc]
theorem zRH_t (h : zLe mr mr' o) (hg : zRG mr o) {n : Nat} (hn : n ≤ 16) (en : zI mr 1606 o 0 = nI n) (H : zRH mr o) : zRH mr' o := by
  have n6 : zI mr' 1606 o 0 = nI n := (zLe_0 h (by omega)).trans en
  intro c hc q
  rw [n6, nI_clamp (by omega)] at hc
  have ea : zRa mr' o = zRa mr o := by
    unfold zRa
    rw [n6, en, nI_clamp (by omega)]
    exact zsum_ext (fun c hc => by rw [zRmo_t h hg (by omega)])
  have e10 : zJ mr' 1610 o c = zJ mr 1610 o c := zLe_1 h (by omega) (by omega)
  rw [e10] at q ⊢
  have := H c (by rw [en, nI_clamp (by omega)]; exact hc) q
  unfold zRw at this ⊢
  rw [ea, zRle_t h hg (by omega), (zLe_5 h)]
  exact this
end ZLE
/-- a book is what another one was -/
def zCo (mc : zM) (b : Nat) (mc' : zM) (b' : Nat) : Prop :=
  zJ mc' 0 b' 0 = zJ mc 0 b 0 ∧ (∀ j, zI mc' 1001 b' j = zI mc 1001 b j) ∧ (∀ f, f = 2 ∨ f = 4 ∨ f = 5 ∨ f = 7 ∨ f = 8 ∨ f = 9 → zI mc' f b' 0 = zI mc f b 0) ∧
  (∀ c, c < 16 → (∀ f, 100 ≤ f → f ≤ 107 → zI mc' f (zkq b' c) 0 = zI mc f (zkq b c) 0) ∧ (∀ f, 300 ≤ f → f ≤ 302 → zI mc' f (zkq b' c + 1) 0 = zI mc f (zkq b c + 1) 0) ∧ (∀ f, 303 ≤ f → f ≤ 305 → zJ mc' f (zkq b' c + 1) 0 = zJ mc f (zkq b c + 1) 0) ∧
    ∀ j, zI mc' 1306 (zkq b' c + 1) j = zI mc 1306 (zkq b c + 1) j ∧ zJ mc' 1307 (zkq b' c + 1) j = zJ mc 1307 (zkq b c + 1) j ∧ zJ mc' 1308 (zkq b' c + 1) j = zJ mc 1308 (zkq b c + 1) j ∧ zI mc' 1309 (zkq b' c + 1) j = zI mc 1309 (zkq b c + 1) j ∧ zJ mc' 1310 (zkq b' c + 1) j = zJ mc 1310 (zkq b c + 1) j) ∧
  zI mc' 200 (zR mc' 3 b') 0 = zI mc 200 (zR mc 3 b) 0 ∧ ∀ f, 1201 ≤ f → f ≤ 1207 → zI mc' f (zR mc' 3 b') = zI mc f (zR mc 3 b)
theorem zSg_t {mc mc' mr mr' : zM} {g g' o : Nat} (h : zSg mc mr g o) (h2 : zI mc' 200 g' 0 = zI mc 200 g 0) (hg : ∀ f, 1201 ≤ f → f ≤ 1207 → zI mc' f g' = zI mc f g) (hr : zLe mr mr' o) : zSg mc' mr' g' o := by
  obtain ⟨⟨⟨n, hn, en⟩, ht⟩, ⟨L, hL, eL, hG⟩, e2, hl⟩ := h
  have eL' : zI mr' 1618 o 0 = nI L := (zLe_0 hr (by omega)).trans eL
  refine ⟨⟨⟨n, hn, h2.trans en⟩, fun l hl => by rw [hg 1203 (by omega) (by omega)]; exact ht l hl⟩, ⟨L, hL, eL', fun l hl => ?_⟩, h2.trans (e2.trans (eL.trans eL'.symm)), fun l hl' => ?_⟩
  · rw [zLe_g hr (by omega) (by omega), zLe_g hr (by omega) (by omega), zLe_g hr (by omega) (by omega)]
    exact hG l hl
  · rw [eL', nI_clamp (by omega)] at hl'
    obtain ⟨a1, a2, a3, a4⟩ := hl l (by rw [eL, nI_clamp (by omega)]; exact hl')
    obtain ⟨t, a, q, h3, -, -, et, -, -⟩ := hG l hl'
    rw [hg 1201 (by omega) (by omega), hg 1202 (by omega) (by omega), hg 1203 (by omega) (by omega), zLe_g hr (by omega) (by omega), zLe_g hr (by omega) (by omega), zLe_g hr (by omega) (by omega)]
    refine ⟨a1, a2, a3, fun i hi => ?_⟩
    have hi' := hi
    rw [et, nI_clamp (by omega)] at hi'
    have := a4 i hi
    unfold zTy zwS zwN at this ⊢
    rw [hg 1204 (by omega) (by omega), hg 1205 (by omega) (by omega), hg 1206 (by omega) (by omega), hg 1207 (by omega) (by omega), (zLe_6 hr (by omega) (show 4 * l + i < 64 by omega) (f := 1620)), (zLe_6 hr (by omega) (show 4 * l + i < 64 by omega) (f := 1621)), (zLe_6 hr (by omega) (show 4 * l + i < 64 by omega) (f := 1622))]
    exact this
theorem zSm_t {mc mc' mr mr' : zM} {b b' o : Nat} (h : zSm mc mr b o) (hc : zCo mc b mc' b') (hr : zLe mr mr' o) : zSm mc' mr' b' o := by
  obtain ⟨hq, hH⟩ := h
  obtain ⟨n, hn, en, en2⟩ := zSq_n hq
  obtain ⟨c0, c1, ch, cc, cg, cg2⟩ := hc
  have hG := hq.2.1.2.1
  have n6 : (zI mr' 1606 o 0).toNatClampNeg = n := by rw [(zLe_0 hr (by omega))]; exact en2
  obtain ⟨⟨⟨s1, K, k1, k2, k3⟩, s2, ⟨s3, s3'⟩, s4, s5, ⟨s6, s6'⟩, s7, s8, s8'⟩, hg, hcl, hfr⟩ := id hq
  refine ⟨⟨⟨⟨c0.trans (s1.trans (zLe_5 hr).symm), K, k1, k2, (zLe_5 hr).trans k3⟩, fun j hj => (c1 j).trans ((s2 j hj).trans (zLe_t hr hj).symm), ⟨(ch 2 (by omega)).trans (s3.trans (zLe_0 hr (by omega)).symm), ?_⟩, (ch 4 (by omega)).trans (s4.trans (zLe_0 hr (by omega)).symm), (ch 5 (by omega)).trans (s5.trans (zLe_0 hr (by omega)).symm), ⟨(ch 7 (by omega)).trans (s6.trans (zLe_0 hr (by omega)).symm), ?_⟩, (ch 8 (by omega)).trans (s7.trans (zLe_0 hr (by omega)).symm), (ch 9 (by omega)).trans (s8.trans (zLe_0 hr (by omega)).symm), ?_⟩, zSg_t hg cg cg2 hr, fun c hc => ?_, fun c hc hc2 => ?_⟩, fun z => ?_⟩
  · rw [(zLe_0 hr (by omega))]; exact s3'
  · rw [(zLe_0 hr (by omega))]; exact s6'
  · rw [(zLe_0 hr (by omega))]; exact s8'
  · rw [n6] at hc
    obtain ⟨⟨a0, a1, a2, a3, a4, a5⟩, ⟨hP, hs, hj⟩, e6, e7, ⟨p0, p1, p2, p3, p4, p5, p6, p7, p8, p9, p10⟩, hd⟩ := hcl c (by omega)
    obtain ⟨q1, q2, q3, q4⟩ := cc c (by omega)
    have r9 : ∀ k, k < 10 → zI mr' 1609 o (10 * c + k) = zI mr 1609 o (10 * c + k) := fun k hk => zLe_9 hr (by omega)
    obtain ⟨⟨L, hL, eL⟩, H, hH', eH, hpt⟩ := id p3
    refine ⟨⟨(q1 100 (by omega) (by omega)).trans (a0.trans (r9 0 (by omega)).symm), (q1 101 (by omega) (by omega)).trans (a1.trans (r9 1 (by omega)).symm), (q1 102 (by omega) (by omega)).trans (a2.trans (r9 2 (by omega)).symm), (q1 103 (by omega) (by omega)).trans (a3.trans (r9 3 (by omega)).symm), (q1 104 (by omega) (by omega)).trans (a4.trans (r9 4 (by omega)).symm), (q1 105 (by omega) (by omega)).trans (a5.trans (r9 5 (by omega)).symm)⟩, ⟨?_, ?_, ?_⟩, ?_, ?_, ⟨?_, ?_, ?_, ?_, ?_, ?_, ?_, ?_, ?_, ?_, ?_⟩, ?_⟩
    · unfold zRP
      rw [r9 4 (by omega)]
      exact hP
    · rw [r9 5 (by omega)]; exact hs
    · rw [r9 5 (by omega), r9 6 (by omega)]; exact hj
    · rw [q1 106 (by omega) (by omega), zRle_t hr hG (by omega)]; exact e6
    · rw [q1 107 (by omega) (by omega), zRmo_t hr hG (by omega)]; exact e7
    · rw [q2 300 (by omega) (by omega), r9 7 (by omega)]; exact p0
    · rw [q2 301 (by omega) (by omega), r9 8 (by omega)]; exact p1
    · rw [q2 302 (by omega) (by omega), r9 9 (by omega)]; exact p2
    · refine ⟨⟨L, hL, (r9 8 (by omega)).trans eL⟩, H, hH', (r9 9 (by omega)).trans eH, fun k hk => ?_⟩
      rw [(zLe_6 hr (by omega) (by omega))]
      exact hpt k hk
    · rw [q3 303 (by omega) (by omega), zLe_1 hr (by omega) (by omega)]; exact p4
    · rw [q3 304 (by omega) (by omega), zLe_1 hr (by omega) (by omega)]; exact p5
    · rw [q3 305 (by omega) (by omega), zLe_1 hr (by omega) (by omega)]; exact p6
    · rw [r9 8 (by omega)]
      intro k hk
      obtain ⟨x, y, z⟩ := p7 k hk
      obtain ⟨j6, j7, j8, -, -⟩ := q4 k
      rw [eL, nI_clamp (by omega)] at hk
      exact ⟨j6.trans (x.trans (zLe_6 hr (by omega) (show 4 * c + k < 64 by omega)).symm), j7.trans (y.trans (zLe_6J hr (by omega) (show 4 * c + k < 64 by omega)).symm), j8.trans (z.trans (zLe_6J hr (by omega) (show 4 * c + k < 64 by omega)).symm)⟩
    · rw [r9 9 (by omega)]
      intro k hk
      obtain ⟨x, y⟩ := p8 k hk
      obtain ⟨-, -, -, j9, j10⟩ := q4 k
      rw [eH, nI_clamp (by omega)] at hk
      exact ⟨j9.trans (x.trans (zLe_6 hr (by omega) (show 4 * c + k < 64 by omega)).symm), j10.trans (y.trans (zLe_6J hr (by omega) (show 4 * c + k < 64 by omega)).symm)⟩
    · rw [r9 8 (by omega)]
      exact fun k h1 h2 => (q4 k).2.2.1.trans (p9 k h1 h2)
    · rw [r9 9 (by omega)]
      exact fun k h1 h2 => (q4 k).2.2.2.2.trans (p10 k h1 h2)
    · unfold zSd
      rw [zLe_1 hr (by omega) (by omega), r9 5 (by omega)]
      exact hd
  · rw [n6] at hc
    obtain ⟨⟨a5, a6, a7, a4⟩, b0, b1, b2, b3, b4, b5, b8⟩ := hfr c (by omega) hc2
    obtain ⟨q1, q2, q3, q4⟩ := cc c (by omega)
    refine ⟨⟨(q1 105 (by omega) (by omega)).trans a5, (q1 106 (by omega) (by omega)).trans a6, (q1 107 (by omega) (by omega)).trans a7, ?_⟩, (q2 300 (by omega) (by omega)).trans b0, (q2 301 (by omega) (by omega)).trans b1, (q2 302 (by omega) (by omega)).trans b2, (q3 303 (by omega) (by omega)).trans b3, (q3 304 (by omega) (by omega)).trans b4, (q3 305 (by omega) (by omega)).trans b5, fun k hk => ⟨(q4 k).2.2.1.trans (b8 k hk).1, (q4 k).2.2.2.2.trans (b8 k hk).2⟩⟩
    rw [q1 104 (by omega) (by omega)]
    exact a4
  · rw [(zLe_0 hr (by omega))] at z
    exact zRH_t hr hG hn en (hH z)
/-- a book that stays where it is -/
theorem zCo_st {mc mc' : zM} {b : Nat} (h : ∀ f a j, b ≤ a → a < b + 123 → zI mc' f a j = zI mc f a j ∧ zJ mc' f a j = zJ mc f a j) (hR : zR mc' 3 b = zR mc 3 b) (hg : ∀ f, f = 200 ∨ (1201 ≤ f ∧ f ≤ 1207) → zI mc' f (zR mc 3 b) = zI mc f (zR mc 3 b)) : zCo mc b mc' b := by
  have q : ∀ c, c < 16 → b ≤ zkq b c ∧ zkq b c + 1 < b + 123 := fun c hc => by
    show b ≤ b + 11 + 7 * c ∧ b + 11 + 7 * c + 1 < b + 123
    omega
  refine ⟨(h 0 b 0 (by omega) (by omega)).2, fun j => (h 1001 b j (by omega) (by omega)).1, fun f _ => (h f b 0 (by omega) (by omega)).1, fun c hc => ?_, ?_, fun f h1 h2 => ?_⟩
  · have := q c hc
    exact ⟨fun f _ _ => (h f _ 0 (by omega) (by omega)).1, fun f _ _ => (h f _ 0 (by omega) (by omega)).1, fun f _ _ => (h f _ 0 (by omega) (by omega)).2, fun j => ⟨(h 1306 _ j (by omega) (by omega)).1, (h 1307 _ j (by omega) (by omega)).2, (h 1308 _ j (by omega) (by omega)).2, (h 1309 _ j (by omega) (by omega)).1, (h 1310 _ j (by omega) (by omega)).2⟩⟩
  · rw [hR, hg 200 (by omega)]
  · rw [hR, hg f (by omega)]
/-- slot s of the reference as if it were the one at hand -/
def zsl (s : Nat) (m : zM) : zM := (fun f a j => if 1601 ≤ f ∧ f ≤ 1624 then m.1 f a (zww f * s + j) else m.1 f a j, fun f a j => if 1601 ≤ f ∧ f ≤ 1624 then m.2.1 f a (zww f * s + j) else m.2.1 f a j, m.2.2)
theorem zsl_I {s : Nat} {m : zM} {f : Nat} (h : 1601 ≤ f ∧ f ≤ 1624) (a j : Nat) : zI (zsl s m) f a j = zI m f a (zww f * s + j) := if_pos h
theorem zsl_J {s : Nat} {m : zM} {f : Nat} (h : 1601 ≤ f ∧ f ≤ 1624) (a j : Nat) : zJ (zsl s m) f a j = zJ m f a (zww f * s + j) := if_pos h
theorem zLe_rf {m : zM} {o : Nat} : zLe m m o := fun _ _ _ => ⟨fun _ => rfl, fun _ => rfl⟩
theorem zFI_r {f : Nat} (h : f ∈ zFI) : 1601 ≤ f ∧ f ≤ 1624 := by
  simp only [zFI, List.mem_cons, List.not_mem_nil, or_false] at h
  omega
theorem zFJ_r {f : Nat} (h : f ∈ zFJ) : 1601 ≤ f ∧ f ≤ 1624 := by
  simp only [zFJ, List.mem_cons, List.not_mem_nil, or_false] at h
  omega
theorem zsl_Fr {mr mr' : zM} {o s : Nat} (hs : 1 ≤ s) (h : zFr o mr mr') : zLe (zsl s mr) (zsl s mr') o := fun f j _ => by
  have hw : zww f ≤ zww f * s + j := by
    have := Nat.mul_le_mul_left (zww f) hs
    omega
  refine ⟨fun hf => ?_, fun hf => ?_⟩
  · rw [zsl_I (zFI_r hf), zsl_I (zFI_r hf)]
    exact (h.1 f _ (zFI_r hf).1 (zFI_r hf).2 hw).1
  · rw [zsl_J (zFJ_r hf), zsl_J (zFJ_r hf)]
    exact (h.1 f _ (zFJ_r hf).1 (zFJ_r hf).2 hw).2
def zImg (mc mr : zM) (f o : Nat) : Prop := ∀ k, k < 3 → (zI mr 1649 o k = 0 ∧ zQ mc 1501 f k = none) ∨ (¬ zI mr 1649 o k = 0 ∧ ∃ b2, zQ mc 1501 f k = some b2 ∧ zR mc 3 b2 = b2 + 2 ∧ f + 133 ≤ b2 ∧ (∀ k' b3, k' < 3 → k' ≠ k → zQ mc 1501 f k' = some b3 → b2 + 123 ≤ b3 ∨ b3 + 123 ≤ b2) ∧ zSm mc (zsl (k + 1) mr) b2 o)
/-- the whole standing of class and reference -/
def zTot (mc mr : zM) (f o : Nat) : Prop := zSm mc mr (f + 1) o ∧ ((zR mc 3 (f + 1) = f + 3 ∧ zR mc 502 f = f + 125) ∨ (zR mc 3 (f + 1) = f + 125 ∧ zR mc 502 f = f + 3)) ∧ zWG mc (zR mc 502 f) ∧ zImg mc mr f o ∧ zbyte mr o ∧ ∀ j, zI mr 1608 o j = 0 ∨ zI mr 1608 o j = 1
theorem zTot_ok {mc mr mc' mr' : zM} {f o : Nat} (h : zTot mc mr f o) (k : zOK (f + 1) o mc mr mc' mr') (h49 : ∀ j, zI mr' 1649 o j = zI mr 1649 o j) : zTot mc' mr' f o := by
  obtain ⟨h1, h2, h3, h4, h5, h6⟩ := h
  obtain ⟨k1, ⟨c1, c2, c3⟩, k3⟩ := k
  have eR : ∀ g a, zR mc' g a = zR mc g a := fun g a => zR_22 c1 g a
  have eQ : ∀ g a j, zQ mc' g a j = zQ mc g a j := fun g a j => by
    show mc'.2.2.2 g a j = mc.2.2.2 g a j
    rw [c1]
  refine ⟨k1, ?_, ?_, fun k hk => ?_, k3.2 h5, fun j => ?_⟩
  · rw [eR, eR]; exact h2
  · rw [eR]
    unfold zWG at h3 ⊢
    rw [c3 200 (by omega), c3 1203 (by omega)]
    exact h3
  · rw [h49, eQ]
    rcases h4 k hk with h4 | ⟨a1, b2, a2, a3, a4, a5, a6⟩
    · exact Or.inl h4
    · refine Or.inr ⟨a1, b2, a2, by rw [eR]; exact a3, a4, fun k' b3 => by rw [eQ]; exact a5 k' b3, ?_⟩
      exact zSm_t a6 (zCo_st (fun g a j x1 x2 => c2 g a j (by omega)) (eR 3 b2) (fun g hg => by rw [c3 g hg])) (zsl_Fr (by omega) k3)
  · by_cases e : j = 0
    · subst e
      exact k1.1.1.2.2.2.2.2.2.2.2
    · rw [(k3.1 1608 j (by omega) (by omega) (by
        have : zww 1608 = 1 := rfl
        omega)).1]
      exact h6 j
