/-! calls side by side: those that change nothing, or the head alone -/
def zFc (b : Nat) (mc mc' : zM) : Prop := mc'.2.2 = mc.2.2 ∧ (∀ f a j, ¬ (b ≤ a ∧ a < b + 123) → zI mc' f a j = zI mc f a j ∧ zJ mc' f a j = zJ mc f a j) ∧ (∀ f, f = 200 ∨ (1201 ≤ f ∧ f ≤ 1207) → zI mc' f = zI mc f)
def zFr (o : Nat) (mr mr' : zM) : Prop := (∀ f j, 1601 ≤ f → f ≤ 1624 → zww f ≤ j → zI mr' f o j = zI mr f o j ∧ zJ mr' f o j = zJ mr f o j) ∧ (zbyte mr o → zbyte mr' o)
def zOK (b o : Nat) (mc mr mc' mr' : zM) : Prop := zSm mc' mr' b o ∧ zFc b mc mc' ∧ zFr o mr mr'
theorem zFc_rf {b : Nat} {mc : zM} : zFc b mc mc := ⟨rfl, fun _ _ _ _ => ⟨rfl, rfl⟩, fun _ _ => rfl⟩
theorem zFc_tr {b : Nat} {m m1 m2 : zM} (h : zFc b m m1) (h2 : zFc b m1 m2) : zFc b m m2 := ⟨h2.1.trans h.1, fun f a j q => ⟨(h2.2.1 f a j q).1.trans (h.2.1 f a j q).1, (h2.2.1 f a j q).2.trans (h.2.1 f a j q).2⟩, fun f q => (h2.2.2 f q).trans (h.2.2 f q)⟩
theorem zFc_sI {b : Nat} {m : zM} {f a j : Nat} {v : Int32} (ha : b ≤ a ∧ a < b + 123) (hf : ¬ (f = 200 ∨ (1201 ≤ f ∧ f ≤ 1207))) : zFc b m (zsI m f a j v) := ⟨rfl, fun f' a' j' q => ⟨by rw [zI_sI, if_neg (fun z => q (by rw [z.2.1]; exact ha))], rfl⟩, fun f' q => funext fun a' => funext fun j' => zI_n (fun z => hf (by rw [← z]; exact q))⟩
theorem zFc_sJ {b : Nat} {m : zM} {f a j : Nat} {v : Int64} (ha : b ≤ a ∧ a < b + 123) : zFc b m (zsJ m f a j v) := ⟨rfl, fun f' a' j' q => ⟨rfl, by rw [zJ_sJ, if_neg (fun z => q (by rw [z.2.1]; exact ha))]⟩, fun _ _ => rfl⟩
theorem zFc_cJ {b : Nat} {m : zM} {f a : Nat} {g : Nat → Int64} (ha : b ≤ a ∧ a < b + 123) : zFc b m (zcJ m f a g) := ⟨rfl, fun f' a' j' q => ⟨rfl, by rw [zJ_cJ, if_neg (fun z => q (by rw [z.2]; exact ha))]⟩, fun _ _ => rfl⟩
theorem zFr_rf {o : Nat} {mr : zM} : zFr o mr mr := ⟨fun _ _ _ _ _ => ⟨rfl, rfl⟩, fun h => h⟩
theorem zFr_tr {o : Nat} {m m1 m2 : zM} (h : zFr o m m1) (h2 : zFr o m1 m2) : zFr o m m2 := ⟨fun f j a b c => ⟨(h2.1 f j a b c).1.trans (h.1 f j a b c).1, (h2.1 f j a b c).2.trans (h.1 f j a b c).2⟩, fun z => h2.2 (h.2 z)⟩
theorem zFr_sI {o : Nat} {m : zM} {f j : Nat} {v : Int32} (hj : 1601 ≤ f → f ≤ 1624 → j < zww f) (hf : f ≠ 1601) : zFr o m (zsI m f o j v) := ⟨fun f' j' h1 h2 h3 => ⟨by
  rw [zI_sI, if_neg]
  rintro ⟨rfl, -, rfl⟩
  exact absurd (hj h1 h2) (by omega), rfl⟩, fun h j' => by rw [zI_n (fun z => hf z.symm)]; exact h j'⟩
theorem zFr_sJ {o : Nat} {m : zM} {f j : Nat} {v : Int64} (hj : 1601 ≤ f → f ≤ 1624 → j < zww f) : zFr o m (zsJ m f o j v) := ⟨fun f' j' h1 h2 h3 => ⟨rfl, by
  rw [zJ_sJ, if_neg]
  rintro ⟨rfl, -, rfl⟩
  exact absurd (hj h1 h2) (by omega)⟩, fun h j' => h j'⟩
theorem zFr_0 {o : Nat} {mr : zM} : zFr o mr (zc0 mr o) := zFr_sI (fun h _ => by omega) (by decide)
theorem zOK_0 {b o : Nat} {mc mr : zM} (h : zSm mc mr b o) : zOK b o mc mr mc (zc0 mr o) := ⟨zSm_0 h, zFc_rf, zFr_0⟩
theorem zSh_I {mc mr : zM} {b o : Nat} (h : zSh0 mc mr b o) (x : Int32) : zIsC x (zI mc 7 b 0) ↔ zIsC x (zI mr 1606 o 0) := by
  rw [h.2.2.2.2.2.1.1]
/-- a call on a claim, on both sides -/
theorem zCtAt {mc mr : zM} {b o : Nat} (h : zSh0 mc mr b o) {x : Int32} {F F' : Nat → Prop} {E E' R : Prop} (hc : zCt mc b x F E) (hr : zAt mr o x F' E') (h1 : ∀ c, c < (zI mr 1606 o 0).toNatClampNeg → c < 16 → F c → F' c → R) (h2 : E → E' → R) : R := by
  rcases hc with ⟨c, c16, cn, e, hF⟩ | ⟨hn, hE⟩
  · rcases hr with ⟨c', c16', cn', e', hF'⟩ | ⟨hn', hE'⟩
    · rw [e, nI_eq (by omega) (by omega)] at e'
      subst e'
      exact h1 c cn' c16 hF hF'
    · exact absurd ((zSh_I h x).1 ⟨c, cn, e⟩) hn'
  · rcases hr with ⟨c', c16', cn', e', hF'⟩ | ⟨hn', hE'⟩
    · exact absurd ((zSh_I h x).2 ⟨c', cn', e'⟩) hn
    · exact h2 hE hE'
theorem zIt_2 {ρ : Type} {r r' : ρ} {m' mr' : zM} {P P' : Prop} {a1 b1 : ρ} {m1 m0 : zM} {r1 r0 : ρ} {mr1 mr0 : zM} {R : Prop} (e : P ↔ P') (h : zIt r m' P r1 m1 r0 m0) (h' : zIt r' mr' P' a1 mr1 b1 mr0) (h1 : P → r = r1 → m' = m1 → r' = a1 → mr' = mr1 → R) (h2 : ¬ P → r = r0 → m' = m0 → r' = b1 → mr' = mr0 → R) : R := by
  rcases h with ⟨p, x, y⟩ | ⟨p, x, y⟩
  · rcases h' with ⟨p', x', y'⟩ | ⟨p', x', y'⟩
    · exact h1 p x y x' y'
    · exact absurd (e.1 p) p'
  · rcases h' with ⟨p', x', y'⟩ | ⟨p', x', y'⟩
    · exact absurd (e.2 p') p
    · exact h2 p x y x' y'
theorem sim_fault {mc mr : zM} {b o : Nat} (h : zSm mc mr b o) {x r r' : Int32} {mr' : zM} (hc : r = if x = 0 then zI mc 4 b 0 else if x = 1 then zI mc 5 b 0 else -1) (hr : mr' = zc0 mr o ∧ r' = if x = 0 then zI mr 1603 o 0 else if x = 1 then zI mr 1604 o 0 else -1) : r = r' ∧ zOK b o mc mr mc mr' := by
  obtain ⟨rfl, hr⟩ := hr
  refine ⟨?_, zOK_0 h⟩
  rw [hc, hr, h.1.1.2.2.2.1, h.1.1.2.2.2.2.1]
theorem sim_end {mc mr : zM} {b o : Nat} (h : zSm mc mr b o) {x r r' : Int32} {mc' mr' : zM} (hc : zIt r mc' (0 ≤ x ∧ x ≤ zI mc 2 b 0) x (zsI mc 2 b 0 x) (-1) mc) (hr : zIt r' mr' (0 ≤ x ∧ x ≤ zI mr 1602 o 0) x (zsI (zc0 mr o) 1602 o 0 x) (-1) (zc0 mr o)) : r = r' ∧ zOK b o mc mr mc' mr' := by
  obtain ⟨e2, k, hk, ek⟩ := h.1.1.2.2.1
  refine zIt_2 (by rw [e2]) hc hr (fun p e1 e2' e3 e4 => ?_) (fun _ e1 e2 e3 e4 => ?_)
  · subst e2' e4
    refine ⟨e1.trans e3.symm, ⟨?_, ?_⟩, zFc_sI (by omega) (by decide), zFr_tr zFr_0 (zFr_sI (fun _ _ => by decide) (by decide))⟩
    · have h0 := zSq_0 h.1
      refine zSq_S h0 ⟨fun f hf => ⟨funext fun a => funext fun j => zI_n (by omega), rfl⟩, rfl⟩ ⟨fun f hf => funext fun j => zI_n (by omega), fun _ _ => rfl⟩ (zI_n (by decide)) ?_
      have hx : ∃ k, k ≤ 400 ∧ x = nI k := by
        obtain ⟨j, hj, rfl⟩ := nI_of (x := x) (Int32.not_lt.2 p.1)
        have := p.2
        rw [e2, ek, nI_leI hj (by omega)] at this
        exact ⟨j, by omega, rfl⟩
      obtain ⟨s1, s2, s3, s4, s5, s6, s7, s8⟩ := h0.1
      refine ⟨s1, fun j hj => ?_, ⟨?_, ?_⟩, ?_, ?_, ?_, ?_, ?_⟩
      · rw [zI_n (by decide), zI_n (by decide)]; exact s2 j hj
      · rw [zI_e, zI_e]
      · rw [zI_e]; exact hx
      · rw [zI_n (by decide), zI_n (by decide)]; exact s4
      · rw [zI_n (by decide), zI_n (by decide)]; exact s5
      · rw [zI_n (by decide), zI_n (by decide)]; exact s6
      · rw [zI_n (by decide), zI_n (by decide)]; exact s7
      · rw [zI_n (by decide), zI_n (by decide)]; exact s8
    · intro z
      rw [zI_n (by decide)] at z
      have hr0 : zrS (zc0 mr o) (zsI (zc0 mr o) 1602 o 0 x) o := ⟨fun f hf => funext fun j => zI_n (by omega), fun _ _ => rfl⟩
      exact (zRH_ext (fun f h1 h2 => (hr0.1 f (by omega)).symm) (zI_n (by decide)).symm (fun c _ => fun k h1 h2 => by rw [hr0.1 1609 (by omega)]) rfl (fun _ _ => rfl)).1 ((zSm_0 h).2 z)
  · subst e1 e2 e3 e4
    exact ⟨rfl, zOK_0 h⟩
theorem zsum_0 {f : Nat → Int64} {n : Nat} (hn : n ≤ 16) (h : ∀ i, i < n → ∃ v, v ≤ 1000000000000 ∧ f i = lN v) (h0 : zsum f n ≤ 0) : ∀ i, i < n → f i = 0 := fun i hi => by
  obtain ⟨V, h1, h2, h3⟩ := zsum_N (B := 1000000000000) n h
  obtain ⟨v, hv, ev⟩ := h i hi
  have hb : n * 1000000000000 ≤ 16000000000000 := by omega
  have := h3 i v hi ev (by omega) (by omega)
  rw [h2] at h0
  have h4 := (pk_lLE (a := V) (b := 0) (by omega) (by omega)).1 h0
  rw [ev, show v = 0 by omega]
  rfl
theorem sim_fund {mc mr : zM} {b o : Nat} (h : zSm mc mr b o) {x : Int64} {r r' : Int32} {mc' mr' : zM} (hc : zIt r mc' (¬ x < 1 ∧ ¬ 1000000000000 < x ∧ zI mc 9 b 0 = 0 ∧ zbPa mc b ≤ 0) 1 (zsJ mc 0 b 0 x) 0 mc) (hr : zIt r' mr' (¬ x < 1 ∧ ¬ 1000000000000 < x ∧ zI mr 1608 o 0 = 0 ∧ zsum (zJ mr 1610 o) (zI mr 1606 o 0).toNatClampNeg ≤ 0) 1 (zsJ (zc0 mr o) 1605 o 0 x) 0 (zc0 mr o)) : r = r' ∧ zOK b o mc mr mc' mr' := by
  have e9 := h.1.1.2.2.2.2.2.2.2.1
  obtain ⟨n, hn, en, en2⟩ := zSq_n h.1
  refine zIt_2 (by rw [e9, zSq_Pa h.1]) hc hr (fun p e1 e2 e3 e4 => ?_) (fun _ e1 e2 e3 e4 => ?_)
  · subst e1 e2 e3 e4
    refine ⟨rfl, ⟨?_, ?_⟩, zFc_sJ (by omega), zFr_tr zFr_0 (zFr_sJ (fun _ _ => by decide))⟩
    · have h0 := zSq_0 h.1
      refine zSq_S h0 ⟨fun f hf => ⟨rfl, funext fun a => funext fun j => zJ_n (by omega)⟩, rfl⟩ ⟨fun _ _ => rfl, fun f hf => funext fun j => zJ_n (by omega)⟩ rfl ?_
      obtain ⟨s1, s2, s3, s4, s5, s6, s7, s8⟩ := h0.1
      refine ⟨⟨by rw [zJ_e, zJ_e], ?_⟩, s2, s3, s4, s5, s6, s7, s8⟩
      rw [zJ_e]
      obtain ⟨K, hK, rfl⟩ := pk_lOf (x := x) (fun z => p.1 (Int64.lt_trans z (by decide)))
      have p1 := p.1
      have p2 := p.2.1
      rw [show (1 : Int64) = lN 1 from rfl, pk_lLT hK (by omega)] at p1
      rw [show (1000000000000 : Int64) = lN 1000000000000 from rfl, pk_lLT (by omega) hK] at p2
      exact ⟨K, by omega, by omega, rfl⟩
    · intro _ c hc q
      exfalso
      have h5 := p.2.2.2
      rw [zSq_Pa h.1, en2] at h5
      have := zsum_0 hn (fun i hi => (h.1.2.2.1 i (by omega)).2.2.2.2.2.1) h5 c (by
        rw [← en2]
        exact hc)
      exact q (by
        show zJ mr 1610 o c ≤ 0
        rw [this]
        decide)
  · subst e1 e2 e3 e4
    exact ⟨rfl, zOK_0 h⟩
theorem z8_k (x s : Int32) (k : Nat) (hk : k = 24 ∨ k = 16 ∨ k = 8 ∨ k = 0) (h1 : ((s &&& 31).toBitVec.smod 32).toNat = k) (h2 : ((s.toUInt32 &&& Int32.toUInt32 31).toBitVec % 32).toNat = k) : z8 (x >>> (s &&& 31)) = z8 (zushr x s) := by
  unfold z8
  congr 1
  apply Int8.toInt_inj.1
  rw [Int32.toInt_toInt8, Int32.toInt_toInt8, pk_shr x (s &&& 31) k h1, Int.shiftRight_eq_div_pow]
  have e : (zushr x s).toBitVec.toNat = x.toBitVec.toNat / 2 ^ k := pk_ushr x s k h2
  have e1 : (zushr x s).toInt = ((zushr x s).toBitVec.toNat : Int).bmod (2 ^ 32) := BitVec.toInt_eq_toNat_bmod _
  have e2 : x.toInt = (x.toBitVec.toNat : Int).bmod (2 ^ 32) := BitVec.toInt_eq_toNat_bmod _
  rw [e1, e2, e]
  have hN : x.toBitVec.toNat < 2 ^ 32 := x.toBitVec.isLt
  generalize x.toBitVec.toNat = N at hN
  rcases hk with rfl | rfl | rfl | rfl
  all_goals
    simp only [Int.bmod_def, Nat.reducePow]
    (repeat' split) <;> omega
theorem z8_sh (x : Int32) : z8 (x >>> (24 &&& 31)) = z8 (zushr x 24) ∧ z8 (x >>> (16 &&& 31)) = z8 (zushr x 16) ∧ z8 (x >>> (8 &&& 31)) = z8 (zushr x 8) ∧ z8 (x >>> (0 &&& 31)) = z8 (zushr x 0) :=
  ⟨z8_k x 24 24 (by omega) (by decide) (by decide), z8_k x 16 16 (by omega) (by decide) (by decide), z8_k x 8 8 (by omega) (by decide) (by decide), z8_k x 0 0 (by omega) (by decide) (by decide)⟩
theorem sim_points {mc mr : zM} {b o : Nat} (h : zSm mc mr b o) {x1 x2 x3 x4 r r' : Int32} {mr' : zM} (hc : (zRcb x1 x2 x3 x4 ∧ r = zpg mc (zR mc 3 b) x1 x2 x3 x4) ∨ (¬ zRcb x1 x2 x3 x4 ∧ r = -1)) (hr : mr' = zc0 mr o ∧ ((zRcb x1 x2 x3 x4 ∧ r' = zrp mr o x1 x2 x3 x4) ∨ (¬ zRcb x1 x2 x3 x4 ∧ r' = -1))) : r = r' ∧ zOK b o mc mr mc mr' := by
  obtain ⟨rfl, hr⟩ := hr
  refine ⟨?_, zOK_0 h⟩
  rcases hc with ⟨p, e⟩ | ⟨p, e⟩
  · rcases hr with ⟨p', e'⟩ | ⟨p', e'⟩
    · rw [e, e', zSg_p h.1.2.1]
    · exact absurd p p'
  · rcases hr with ⟨p', e'⟩ | ⟨p', e'⟩
    · exact absurd p' p
    · rw [e, e']
theorem sim_sum {mc mr : zM} {b o : Nat} (h : zSm mc mr b o) {x : Int32} {r r' : Int64} {mr' : zM} (hc : r = zsw 4 (fun k => if k = 0 then zJ mc 0 b 0 else if k = 1 then zbPa mc b else if k = 2 then zbMa mc b else zbLa mc b) (-1) x) (hr : mr' = zc0 mr o ∧ r' = zsw 4 (fun k => if k = 0 then zJ mr 1605 o 0 else if k = 1 then zsum (zJ mr 1610 o) (zI mr 1606 o 0).toNatClampNeg else if k = 2 then zRa mr o else zsum (fun c => (zRle mr o c).toInt64) (zI mr 1606 o 0).toNatClampNeg) (-1) x) : r = r' ∧ zOK b o mc mr mc mr' := by
  obtain ⟨rfl, hr⟩ := hr
  refine ⟨?_, zOK_0 h⟩
  rw [hc, hr, h.1.1.1.1, zSq_Pa h.1, zSq_Ma h.1, zSq_La h.1]
/-- states counted on both sides -/
theorem zSq_st {mc mr : zM} {b o : Nat} (h : zSq mc mr b o) {s : Nat} (hs : s < 3) : zcb (fun c => decide (zI mc 105 (zkq b c) 0 = nI s)) 16 = zcb (fun c => decide (zI mr 1609 o (10 * c + 5) = nI s)) (zI mr 1606 o 0).toNatClampNeg := by
  obtain ⟨n, hn, en, en2⟩ := zSq_n h
  rw [zcb_more (n := n) hn (fun c h1 h2 => decide_eq_false (by rw [(h.2.2.2 c (by omega) h2).1.1, show (3 : Int32) = nI 3 from rfl, nI_eq (by omega) (by omega)]; omega)), en2]
  exact zcb_ext (fun c hc => by rw [(h.2.2.1 c (by omega)).1.2.2.2.2.2])
theorem sim_count {mc mr : zM} {b o : Nat} (h : zSm mc mr b o) {x r r' : Int32} {mr' : zM} (hc : r = zsw 7 (fun k => if k = 0 then zI mc 7 b 0 else if k < 4 then nI (zcb (fun c => decide (zI mc 105 (zkq b c) 0 = nI (k - 1))) 16) else if k = 4 then zI mc 200 (zR mc 3 b) 0 else if k = 5 then zI mc 8 b 0 else if zI mc 9 b 0 = 0 then 0 else 1) (-1) x) (hr : mr' = zc0 mr o ∧ r' = zsw 7 (fun k => if k = 0 then zI mr 1606 o 0 else if k < 4 then nI (zcb (fun c => decide (zI mr 1609 o (10 * c + 5) = nI (k - 1))) (zI mr 1606 o 0).toNatClampNeg) else if k = 4 then zI mr 1618 o 0 else if k = 5 then zI mr 1607 o 0 else if zI mr 1608 o 0 = 0 then 0 else 1) (-1) x) : r = r' ∧ zOK b o mc mr mc mr' := by
  obtain ⟨rfl, hr⟩ := hr
  refine ⟨?_, zOK_0 h⟩
  rw [hc, hr]
  refine zsw_ext (fun k hk => ?_)
  obtain ⟨-, -, -, -, -, ⟨s7, -⟩, s8, s9, -⟩ := h.1.1
  rw [s7, s8, s9, h.1.2.1.2.2.1]
  by_cases q : k < 4
  · rw [zSq_st h.1 (by omega)]
  · rw [if_neg q, if_neg q]
