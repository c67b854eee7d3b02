/-! the reference: claims, judgements, money -/
def zGe (m m' : zM) (o : Nat) : Prop := ∀ f, 1618 ≤ f → f ≤ 1624 → zI m f o = zI m' f o
def zCe (m m' : zM) (o c : Nat) : Prop := ∀ k, 1 ≤ k → k ≤ 6 → zI m 1609 o (10 * c + k) = zI m' 1609 o (10 * c + k)
theorem zRG_ext {m m' : zM} {o : Nat} (h : zGe m m' o) (hg : zRG m o) : zRG m' o := by
  obtain ⟨L, h1, h2, h3⟩ := hg
  refine ⟨L, h1, by rw [← h 1618 (by omega) (by omega)]; exact h2, ?_⟩
  rw [← h 1623 (by omega) (by omega), ← h 1624 (by omega) (by omega), ← h 1619 (by omega) (by omega)]
  exact h3
theorem zrp_ext {m m' : zM} {o : Nat} (h : zGe m m' o) (k y l p : Int32) : zrp m o k y l p = zrp m' o k y l p := by
  have e1 : zwS m o = zwS m' o := funext fun x => by unfold zwS; rw [h 1620 (by omega) (by omega)]
  have e2 : zwN m o = zwN m' o := funext fun x => by unfold zwN; rw [h 1620 (by omega) (by omega)]
  unfold zrp
  rw [e1, e2, h 1618 (by omega) (by omega), h 1619 (by omega) (by omega), h 1621 (by omega) (by omega), h 1622 (by omega) (by omega), h 1623 (by omega) (by omega), h 1624 (by omega) (by omega)]
theorem zrw_ext {m m' : zM} {o c : Nat} (h : zGe m m' o) (hc : zCe m m' o c) : zrw m o c = zrw m' o c := by
  funext p
  unfold zrw
  rw [hc 1 (by omega) (by omega), hc 2 (by omega) (by omega), hc 3 (by omega) (by omega), zrp_ext h]
theorem zRle_ext {m m' : zM} {o c : Nat} (h : zGe m m' o) (hc : zCe m m' o c) : zRle m o c = zRle m' o c := by
  unfold zRle
  rw [hc 4 (by omega) (by omega), hc 5 (by omega) (by omega), hc 6 (by omega) (by omega), zrw_ext h hc]
theorem zRmo_ext {m m' : zM} {o c : Nat} (h : zGe m m' o) (hc : zCe m m' o c) : zRmo m o c = zRmo m' o c := by
  unfold zRmo
  rw [hc 4 (by omega) (by omega), hc 5 (by omega) (by omega), hc 6 (by omega) (by omega), zrw_ext h hc]
theorem zRa_ext {m m' : zM} {o : Nat} (h : zGe m m' o) (hn : zI m 1606 o 0 = zI m' 1606 o 0) (hc : ∀ c, c < (zI m 1606 o 0).toNatClampNeg → zCe m m' o c) : zRa m o = zRa m' o := by
  unfold zRa
  rw [← hn]
  exact zsum_ext (fun c hc' => by rw [zRmo_ext h (hc c hc')])
theorem zRw_ext {m m' : zM} {o c : Nat} (h : zGe m m' o) (hc : zCe m m' o c) (h5 : zJ m 1605 o 0 = zJ m' 1605 o 0) (a : Int64) : zRw m o c a = zRw m' o c a := by
  unfold zRw
  rw [zRle_ext h hc, h5]
theorem zRH_ext {m m' : zM} {o : Nat} (h : zGe m m' o) (hn : zI m 1606 o 0 = zI m' 1606 o 0) (hc : ∀ c, c < (zI m 1606 o 0).toNatClampNeg → zCe m m' o c) (h5 : zJ m 1605 o 0 = zJ m' 1605 o 0) (hp : ∀ c, c < (zI m 1606 o 0).toNatClampNeg → zJ m 1610 o c = zJ m' 1610 o c) : zRH m o ↔ zRH m' o := by
  unfold zRH
  rw [← hn, zRa_ext h hn hc]
  constructor
  · intro H c hc'
    rw [← hp c hc', ← zRw_ext h (hc c hc') h5]
    exact H c hc'
  · intro H c hc'
    rw [hp c hc', zRw_ext h (hc c hc') h5]
    exact H c hc'
theorem zRC_ext {m m' : zM} {o : Nat} (h : zGe m m' o) (hn : zI m 1606 o 0 = zI m' 1606 o 0) (hc : ∀ c, c < (zI m 1606 o 0).toNatClampNeg → zRP m o c → zRP m' o c) (H : zRC m o) : zRC m' o := by
  obtain ⟨hg, n, h1, h2, h3⟩ := H
  refine ⟨zRG_ext h hg, n, h1, by rw [← hn]; exact h2, fun c q => hc c ?_ (h3 c q)⟩
  rw [h2, nI_clamp (by omega)]
  exact q
theorem zc0_e {m : zM} {o f a j : Nat} (h : f ≠ 600) : zI (zc0 m o) f a j = zI m f a j := zI_n h
theorem zc0_g (m : zM) (o : Nat) : zGe m (zc0 m o) o := fun f h1 h2 => funext fun j => (zc0_e (by omega)).symm
theorem zc0_c (m : zM) (o c : Nat) : zCe m (zc0 m o) o c := fun k h1 h2 => (zc0_e (by decide)).symm
theorem zc0_C {m : zM} {o : Nat} (H : zRC m o) : zRC (zc0 m o) o := zRC_ext (zc0_g m o) (zc0_e (by decide)).symm (fun c _ h => by
  obtain ⟨a, h1, h2⟩ := h
  exact ⟨a, h1, (zc0_e (by decide)).trans h2⟩) H
theorem zc0_a (m : zM) (o : Nat) : zRa (zc0 m o) o = zRa m o := (zRa_ext (zc0_g m o) (zc0_e (by decide)).symm (fun c _ => zc0_c m o c)).symm
theorem zc0_w (m : zM) (o c : Nat) (a : Int64) : zRw (zc0 m o) o c a = zRw m o c a := (zRw_ext (zc0_g m o) (zc0_c m o c) rfl a).symm
theorem zc0_rw (m : zM) (o c : Nat) : zrw (zc0 m o) o c = zrw m o c := (zrw_ext (zc0_g m o) (zc0_c m o c)).symm
theorem zc0_le (m : zM) (o c : Nat) : zRle (zc0 m o) o c = zRle m o c := (zRle_ext (zc0_g m o) (zc0_c m o c)).symm
theorem zc0_mo (m : zM) (o c : Nat) : zRmo (zc0 m o) o c = zRmo m o c := (zRmo_ext (zc0_g m o) (zc0_c m o c)).symm
/-- a claim's number, or none -/
def zAt (m : zM) (o : Nat) (x : Int32) (F : Nat → Prop) (E : Prop) : Prop := (∃ c, c < 16 ∧ c < (zI m 1606 o 0).toNatClampNeg ∧ x = nI c ∧ F c) ∨ (¬ zIsC x (zI m 1606 o 0) ∧ E)
theorem zRN_c {m : zM} {o : Nat} {x : Int32} (hp : zRN m o) (h : zIsC x (zI m 1606 o 0)) : ∃ c, c < 16 ∧ c < (zI m 1606 o 0).toNatClampNeg ∧ x = nI c := by
  obtain ⟨n, hn, hn2⟩ := hp
  obtain ⟨c, hc, rfl⟩ := h
  exact ⟨c, by rw [hn2, nI_clamp (by omega)] at hc; omega, hc, rfl⟩
theorem zAt_no {m : zM} {o : Nat} {x s : Int32} {F : Nat → Prop} {E : Prop} (hp : zRN m o) (h : ¬ ∃ i, i < (zI m 1606 o 0).toNatClampNeg ∧ x = nI i ∧ zI m 1609 o (10 * i + 5) = s) (hF : ∀ c, ¬ zI m 1609 o (10 * c + 5) = s → F c) (hE : E) : zAt m o x F E := by
  by_cases q : zIsC x (zI m 1606 o 0)
  · obtain ⟨c, h1, h2, h3⟩ := zRN_c hp q
    exact Or.inl ⟨c, h1, h2, h3, hF c (fun z => h ⟨c, h2, h3, z⟩)⟩
  · exact Or.inr ⟨q, hE⟩
/-- a change that is taken back unless m1 holds -/
def zHo {ρ : Type} (o : Nat) (r : ρ) (m' : zM) (P : Prop) (r1 : ρ) (m1 : zM) (r0 : ρ) (m0 : zM) (m2 : zM) : Prop := (P ∧ zIt r m' (zRH m1 o) r1 m1 r0 m2) ∨ (¬ P ∧ r = r0 ∧ m' = m0)
section ZR5
variable {l : Launch} {G : zG}
theorem C_X6_paper (hL : zLay G) : Con_X6_paper l G (fun o _ _ m => zRN m o) (fun o x1 x2 m r m' => zAt m o x1 (fun c => zIt r m' (zI m 1609 o (10 * c + 5) = 0 ∧ (0 ≤ x2 ∧ x2 ≤ 5) ∧ ((zI m 1609 o (10 * c + 4) >>> (x2 &&& 31)) &&& 1) = 0 ∧ zI m 1608 o 0 = 0) 1 (zsI (zc0 m o) 1609 o (10 * c + 4) (zI m 1609 o (10 * c + 4) ||| (1 <<< (x2 &&& 31)))) 0 (zc0 m o)) (r = 0 ∧ m' = zc0 m o)) := by
  refine con_X6_paper hL fun C Qc S hl o x1 x2 m ko hp hr => sg_X6_paper_0 S (C_X6_is hL) (C_X6_in hL) (C_X6_of hL) ko ⟨hp, fun r h => ⟨fun q => hr _ _ (zAt_no hp (zB_f h q) (fun c z => zIt_n fun y => z y.1) ⟨rfl, rfl⟩), fun q => ?_⟩⟩
  obtain ⟨i, hi, e, hs⟩ := zB_t h q
  obtain ⟨c, hc, hcn, e2⟩ := zRN_c (m := m) hp ⟨i, hi, e⟩
  subst e2
  rw [nI_eq (by omega) (by obtain ⟨n, hn, hn2⟩ := hp; have h9 : i < (zI m 1606 o 0).toNatClampNeg := hi; rw [hn2, nI_clamp (by omega)] at h9; omega)] at e
  subst e
  have hs : zI m 1609 o (10 * c + 5) = 0 := hs
  refine ⟨trivial, fun r4 h4 => ⟨fun q4 => hr _ _ (Or.inl ⟨c, hc, hcn, rfl, zIt_n fun y => zB_f h4 q4 y.2.1⟩), fun q4 => ⟨⟨c, 4, hc, by decide, rfl, rfl⟩, fun r6 h6 => ?_⟩⟩⟩
  have e6 : r6 = zI m 1609 o (10 * c + 4) := h6 c 4 hc (by decide) rfl rfl
  subst e6
  refine ⟨fun z => hr _ _ (Or.inl ⟨c, hc, hcn, rfl, zIt_n fun y => z y.2.2.1⟩), fun z => ⟨fun q0 => ?_, fun q0 => hr _ _ (Or.inl ⟨c, hc, hcn, rfl, zIt_n fun y => q0 y.2.2.2⟩)⟩⟩
  rw [z10 c 4 4 rfl, nI_clamp (by omega)]
  exact ⟨vp_in_nI (by omega) (by omega), hr _ _ (Or.inl ⟨c, hc, hcn, rfl, zIt_y ⟨hs, zB_t h4 q4, z, q0⟩⟩)⟩
theorem z_uniq {m : zM} {o i : Nat} {x : Int32} (hp : zRN m o) (hi : i < (zI m 1606 o 0).toNatClampNeg) (e : x = nI i) : i < 16 ∧ zIsC x (zI m 1606 o 0) := by
  obtain ⟨n, hn, hn2⟩ := hp
  refine ⟨?_, i, hi, e⟩
  rw [hn2, nI_clamp (by omega)] at hi
  omega
theorem C_X6_judge (hL : zLay G) : Con_X6_judge l G (fun o _ m => zRC m o) (fun o x1 m r m' => zAt m o x1 (fun c => zIt r m' (zI m 1609 o (10 * c + 5) = 0 ∧ zcb (ztw m o c 1) (zI m 1606 o 0).toNatClampNeg = 0 ∧ zI m 1608 o 0 = 0) (zrw m o c (zI m 1609 o (10 * c + 4))) (zsI (zsI (zc0 m o) 1609 o (10 * c + 6) (zrw m o c (zI m 1609 o (10 * c + 4)))) 1609 o (10 * c + 5) 1) (-1) (zc0 m o)) (r = -1 ∧ m' = zc0 m o)) := by
  refine con_X6_judge hL fun C Qc S hl o x1 m ko hp hr => sg_X6_judge_0 S (C_X6_is hL) (C_X6_twins hL) (C_X6_of hL) (C_X6_pointsNow hL) ko ⟨zRC_N hp, fun r h => ⟨fun q => hr _ _ (zAt_no (zRC_N hp) (zB_f h q) (fun c z => zIt_n fun y => z y.1) ⟨rfl, rfl⟩), fun q => ?_⟩⟩
  obtain ⟨c, hcn, e, hs⟩ := zB_t h q
  have hc := (z_uniq (zRC_N hp) hcn e).1
  subst e
  have hs : zI m 1609 o (10 * c + 5) = 0 := hs
  obtain ⟨hg, n, hn, hn2, hpa⟩ := zc0_C hp
  refine ⟨⟨zRC_N hp, c, hc, rfl⟩, fun r4 h4 => ?_⟩
  rw [nI_clamp (by omega)] at h4
  have h4 : r4 = nI (zcb (ztw m o c 1) (zI m 1606 o 0).toNatClampNeg) := h4
  have hle := zcb_le (ztw m o c 1) (zI m 1606 o 0).toNatClampNeg
  have hn3 : (zI m 1606 o 0).toNatClampNeg = n := by rw [show zI m 1606 o 0 = nI n from hn2, nI_clamp (by omega)]
  have hle2 : zcb (ztw m o c 1) (zI m 1606 o 0).toNatClampNeg ≤ 16 := by omega
  refine ⟨fun z => hr _ _ (Or.inl ⟨c, hc, hcn, rfl, zIt_n fun y => ?_⟩), fun z => ⟨fun q0 => ?_, fun q0 => hr _ _ (Or.inl ⟨c, hc, hcn, rfl, zIt_n fun y => q0 y.2.2⟩)⟩⟩
  · rw [h4, y.2.1] at z
    revert z; decide
  · have h40 : zcb (ztw m o c 1) (zI m 1606 o 0).toNatClampNeg = 0 := by
      rw [h4, show (0 : Int32) = nI 0 from rfl, nI_ltI (by omega) (by omega)] at z
      omega
    refine ⟨⟨c, 4, hc, by decide, rfl, rfl⟩, fun r6 h6 => ?_⟩
    have e6 : r6 = zI m 1609 o (10 * c + 4) := h6 c 4 hc (by decide) rfl rfl
    subst e6
    refine ⟨⟨hg, ⟨c, hc, rfl⟩, hpa c (by rw [← hn3]; exact hcn)⟩, fun r8 h8 => ?_⟩
    have e8 : r8 = zrw m o c (zI m 1609 o (10 * c + 4)) := (h8 c hc rfl).trans (by rw [show zsI m 600 o 0 0 = zc0 m o from rfl, zc0_rw])
    rw [z10 c 6 6 rfl, z10 c 5 5 rfl, nI_clamp (by omega), nI_clamp (by omega)]
    refine ⟨vp_in_nI (by omega) (by omega), vp_in_nI (by omega) (by omega), ⟨c, 6, hc, by decide, rfl, rfl⟩, fun r12 h12 => ?_⟩
    have e12 := h12 c 6 hc (by decide) rfl rfl
    rw [zI_sI, if_neg (by omega), zI_e] at e12
    subst e8
    subst e12
    exact hr _ _ (Or.inl ⟨c, hc, hcn, rfl, zIt_y ⟨hs, h40, q0⟩⟩)
theorem C_X6_appeal (hL : zLay G) : Con_X6_appeal l G (fun o _ _ m => zRC m o) (fun o x1 x2 m r m' => zAt m o x1 (fun c => zHo o r m' (zI m 1609 o (10 * c + 5) = 1 ∧ (0 ≤ x2 ∧ x2 ≤ 1000000) ∧ zI m 1608 o 0 = 0) 1 (zsI (zc0 m o) 1609 o (10 * c + 6) x2) 0 (zc0 m o) (zsI (zsI (zc0 m o) 1609 o (10 * c + 6) x2) 1609 o (10 * c + 6) (zI m 1609 o (10 * c + 6)))) (r = 0 ∧ m' = zc0 m o)) := by
  refine con_X6_appeal hL fun C Qc S hl o x1 x2 m ko hp hr => sg_X6_appeal_0 S (C_X6_is hL) (C_X6_in hL) (C_X6_of hL) (C_X6_holds hL) ko ⟨zRC_N hp, fun r h => ⟨fun q => hr _ _ (zAt_no (zRC_N hp) (zB_f h q) (fun c z => Or.inr ⟨fun y => z y.1, rfl, rfl⟩) ⟨rfl, rfl⟩), fun q => ?_⟩⟩
  obtain ⟨c, hcn, e, hs⟩ := zB_t h q
  have hc := (z_uniq (zRC_N hp) hcn e).1
  subst e
  have hs : zI m 1609 o (10 * c + 5) = 1 := hs
  refine ⟨trivial, fun r4 h4 => ⟨fun q4 => hr _ _ (Or.inl ⟨c, hc, hcn, rfl, Or.inr ⟨fun y => zB_f h4 q4 y.2.1, rfl, rfl⟩⟩), fun q4 => ⟨fun q0 => ?_, fun q0 => hr _ _ (Or.inl ⟨c, hc, hcn, rfl, Or.inr ⟨fun y => q0 y.2.2, rfl, rfl⟩⟩)⟩⟩⟩
  refine ⟨⟨c, 6, hc, by decide, rfl, rfl⟩, fun r6 h6 => ?_⟩
  have e6 : r6 = zI m 1609 o (10 * c + 6) := h6 c 6 hc (by decide) rfl rfl
  subst e6
  rw [z10 c 6 6 rfl, nI_clamp (by omega)]
  refine ⟨vp_in_nI (by omega) (by omega), ?_, fun r9 h9 => ⟨fun q9 => hr _ _ (Or.inl ⟨c, hc, hcn, rfl, Or.inl ⟨⟨hs, zB_t h4 q4, q0⟩, zIt_y (zB_t h9 q9)⟩⟩), fun q9 => ?_⟩⟩
  · refine zRC_ext (m := zc0 m o) (fun f h1 h2 => funext fun j => (zI_n (by omega)).symm) rfl (fun c' _ hz => ?_) (zc0_C hp)
    obtain ⟨a, ha, ha2⟩ := hz
    refine ⟨a, ha, ?_⟩
    rw [zI_sI, if_neg (by omega)]
    exact ha2
  · have h0 := zB_f h9 q9
    subst q9
    exact hr _ _ (Or.inl ⟨c, hc, hcn, rfl, Or.inl ⟨⟨hs, zB_t h4 q4, q0⟩, zIt_n h0⟩⟩)
theorem C_X6_out (hL : zLay G) : Con_X6_out l G (fun o _ x2 m => zRC m o ∧ (x2 = 0 ∨ x2 = 1)) (fun o x1 x2 m r m' => zAt m o x1 (fun c => zHo o r m' (zI m 1608 o 0 = 0 ∧ ¬ (x2 = 1 ↔ zI m 1609 o (10 * c + 5) = 2) ∧ zJ m 1610 o c ≤ 0) 1 (zsI (zc0 m o) 1609 o (10 * c + 5) (if x2 = 0 then 0 else 2)) 0 (zc0 m o) (zsI (zsI (zc0 m o) 1609 o (10 * c + 5) (if x2 = 0 then 0 else 2)) 1609 o (10 * c + 5) (zI m 1609 o (10 * c + 5)))) (r = 0 ∧ m' = zc0 m o)) := by
  refine con_X6_out hL fun C Qc S hl o x1 x2 m ko hp hr => sg_X6_out_0 S (C_X6_isClaim hL) (C_X6_is hL) (C_X6_of hL) ko ⟨zRC_N hp.1, fun r h => ⟨fun q => hr _ _ (Or.inr ⟨zB_f h q, rfl, rfl⟩), fun q => ?_⟩⟩
  obtain ⟨c, hcn, e⟩ := zB_t h q
  have hc := (z_uniq (zRC_N hp.1) hcn e).1
  subst e
  refine ⟨fun q0 => hr _ _ (Or.inl ⟨c, hc, hcn, rfl, Or.inr ⟨fun y => q0 y.1, rfl, rfl⟩⟩), fun q0 => ⟨zRC_N hp.1, fun r4 h4 => ?_⟩⟩
  have h4' : zB r4 (zI m 1609 o (10 * c + 5) = 2) := by
    refine zB_iff h4 ⟨?_, fun z => ⟨c, hcn, rfl, z⟩⟩
    rintro ⟨i, hi, e, z⟩
    have hi2 := (z_uniq (zRC_N hp.1) hi e).1
    rw [nI_eq (by omega) (by omega)] at e
    subst e
    exact z
  have hx : ∀ z : Int32, z = 0 ∨ z = 1 → (z = 1 ↔ ¬ z = 0) := by
    rintro z (rfl | rfl) <;> decide
  have heq : x2 = r4 ↔ (x2 = 1 ↔ zI m 1609 o (10 * c + 5) = 2) := by
    rcases h4' with ⟨rfl, z⟩ | ⟨rfl, z⟩
    · exact ⟨fun y => ⟨fun _ => z, fun _ => y⟩, fun y => y.2 z⟩
    · refine ⟨fun y => ⟨fun w => absurd (y.symm.trans w) (by decide), fun w => absurd w z⟩, fun y => ?_⟩
      rcases hp.2 with w | w
      · exact w
      · exact absurd (y.1 w) z
  refine ⟨fun z => hr _ _ (Or.inl ⟨c, hc, hcn, rfl, Or.inr ⟨fun y => y.2.1 (heq.1 z), rfl, rfl⟩⟩), fun z => ?_⟩
  rw [nI_clamp (by omega)]
  refine ⟨vp_in_nI (by omega) (by omega), fun q1 => ⟨⟨c, 5, hc, by decide, rfl, rfl⟩, fun r7 h7 => ?_⟩, fun q1 => hr _ _ (Or.inl ⟨c, hc, hcn, rfl, Or.inr ⟨fun y => q1 y.2.2, rfl, rfl⟩⟩)⟩
  have e7 : r7 = zI m 1609 o (10 * c + 5) := h7 c 5 hc (by decide) rfl rfl
  subst e7
  have k71 : ∀ s0, s0 = (if x2 = 0 then 0 else 2) → Pt_X6_out_71 C G o (nI c) (zI m 1609 o (10 * c + 5)) s0 (nI (10 * c + 5)) (zsI m 600 o 0 0) := by
    intro s0 hs0
    subst hs0
    refine sg_X6_out_71 S (C_X6_holds hL) ko ?_
    rw [z10 c 5 5 rfl, nI_clamp (by omega)]
    refine ⟨vp_in_nI (by omega) (by omega), ?_, fun r9 h9 => ⟨fun q9 => hr _ _ (Or.inl ⟨c, hc, hcn, rfl, Or.inl ⟨⟨q0, fun y => z (heq.2 y), q1⟩, zIt_y (zB_t h9 q9)⟩⟩), fun q9 => ⟨vp_in_nI (by omega) (by omega), hr _ _ (Or.inl ⟨c, hc, hcn, rfl, Or.inl ⟨⟨q0, fun y => z (heq.2 y), q1⟩, zIt_n (zB_f h9 q9)⟩⟩)⟩⟩⟩
    refine zRC_ext (m := zc0 m o) (fun f h1 h2 => funext fun j => (zI_n (by omega)).symm) rfl (fun c' _ hz => ?_) (zc0_C hp.1)
    obtain ⟨a, ha, ha2⟩ := hz
    refine ⟨a, ha, ?_⟩
    rw [zI_sI, if_neg (by omega)]
    exact ha2
  rw [z10 c 5 5 rfl]
  exact ⟨fun y => k71 0 (by rw [if_pos y]), fun y => k71 2 (by rw [if_neg y])⟩
theorem C_X6_lacks (hL : zLay G) : Con_X6_lacks l G (fun o _ _ m => zRC m o) (fun o x1 x2 m r m' => m' = zc0 m o ∧ zAt m o x1 (fun c => ((zI m 1609 o (10 * c + 5) = 0 ∧ (0 ≤ x2 ∧ x2 ≤ 5) ∧ ((zI m 1609 o (10 * c + 4) >>> (x2 &&& 31)) &&& 1) = 0) ∧ r = zrw m o c (zI m 1609 o (10 * c + 4) ||| (1 <<< (x2 &&& 31))) - zrw m o c (zI m 1609 o (10 * c + 4))) ∨ (¬ (zI m 1609 o (10 * c + 5) = 0 ∧ (0 ≤ x2 ∧ x2 ≤ 5) ∧ ((zI m 1609 o (10 * c + 4) >>> (x2 &&& 31)) &&& 1) = 0) ∧ r = -10000000)) (r = -10000000)) := by
  refine con_X6_lacks hL fun C Qc S hl o x1 x2 m ko hp hr => sg_X6_lacks_0 S (C_X6_is hL) (C_X6_in hL) (C_X6_of hL) (C_X6_pointsNow hL) ko ⟨zRC_N hp, fun r h => ⟨fun q => hr _ _ ⟨rfl, zAt_no (zRC_N hp) (zB_f h q) (fun c z => Or.inr ⟨fun y => z y.1, rfl⟩) rfl⟩, fun q => ?_⟩⟩
  obtain ⟨c, hcn, e, hs⟩ := zB_t h q
  have hc := (z_uniq (zRC_N hp) hcn e).1
  subst e
  have hs : zI m 1609 o (10 * c + 5) = 0 := hs
  obtain ⟨hg, n, hn, hn2, hpa⟩ := zc0_C hp
  have hn3 : (zI m 1606 o 0).toNatClampNeg = n := by rw [show zI m 1606 o 0 = nI n from hn2, nI_clamp (by omega)]
  obtain ⟨a, ha, ha2⟩ := hpa c (by rw [← hn3]; exact hcn)
  have ha2 : zI m 1609 o (10 * c + 4) = nI a := ha2
  refine ⟨trivial, fun r4 h4 => ⟨fun q4 => hr _ _ ⟨rfl, Or.inl ⟨c, hc, hcn, rfl, Or.inr ⟨fun y => zB_f h4 q4 y.2.1, rfl⟩⟩⟩, fun q4 => ⟨⟨c, 4, hc, by decide, rfl, rfl⟩, fun r6 h6 => ?_⟩⟩⟩
  have e6 : r6 = zI m 1609 o (10 * c + 4) := h6 c 4 hc (by decide) rfl rfl
  subst e6
  refine ⟨fun z r7 h7 => ?_, fun z => hr _ _ ⟨rfl, Or.inl ⟨c, hc, hcn, rfl, Or.inr ⟨fun y => z y.2.2, rfl⟩⟩⟩⟩
  have e7 : r7 = zI m 1609 o (10 * c + 4) := h7 c 4 hc (by decide) rfl rfl
  subst e7
  refine ⟨⟨hg, ⟨c, hc, rfl⟩, ?_⟩, fun r9 h9 r10 h10 => ?_⟩
  · obtain ⟨k, hk, e⟩ := z_in2 5 rfl (by omega) (zB_t h4 q4)
    rw [ha2, e]
    exact zbit_N a ha k (by omega)
  · have e9 := (h9 c hc rfl).trans (by rw [show zsI m 600 o 0 0 = zc0 m o from rfl, zc0_rw])
    have e10 : r10 = zI m 1609 o (10 * c + 4) := h10 c 4 hc (by decide) rfl rfl
    subst e10
    refine ⟨⟨hg, ⟨c, hc, rfl⟩, a, ha, ha2⟩, fun r12 h12 => ?_⟩
    have e12 := (h12 c hc rfl).trans (by rw [show zsI m 600 o 0 0 = zc0 m o from rfl, zc0_rw])
    rw [e9, e12]
    exact hr _ _ ⟨rfl, Or.inl ⟨c, hc, hcn, rfl, Or.inl ⟨⟨hs, zB_t h4 q4, z⟩, rfl⟩⟩⟩
end ZR5
