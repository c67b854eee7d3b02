/-! calls side by side: the tape; changes of one claim -/
theorem z8_8 (x : Int32) : (z8 x).toInt8.toInt32 = z8 x := by
  unfold z8
  simp
theorem zJ_2 {m m' : zM} (h : m'.2 = m.2) (f a : Nat) : zJ m' f a = zJ m f a := by
  show m'.2.1 f a = m.2.1 f a
  rw [h]
theorem zFr_by {o k : Nat} {m : zM} {v : Int32} (hk : k < 400) (hv : v.toInt8.toInt32 = v) : zFr o m (zsI m 1601 o k v) := ⟨fun f' j' h1 h2 h3 => ⟨by
  rw [zI_sI, if_neg]
  rintro ⟨rfl, -, rfl⟩
  have : zww 1601 = 400 := rfl
  omega, rfl⟩, fun h j' => by
  rw [zI_sI]
  split
  · exact hv
  · exact h j'⟩
theorem zRH_q {m m' : zM} {o : Nat} (hI : ∀ f, f = 1606 ∨ f = 1609 ∨ (1618 ≤ f ∧ f ≤ 1624) → zI m' f o = zI m f o) (hJ : ∀ f, f = 1605 ∨ f = 1610 → zJ m' f o = zJ m f o) : zRH m o ↔ zRH m' o :=
  zRH_ext (fun f h1 h2 => (hI f (by omega)).symm) (by rw [hI 1606 (by omega)]) (fun c _ k _ _ => by rw [hI 1609 (by omega)]) (by rw [hJ 1605 (by omega)]) (fun c _ => by rw [hJ 1610 (by omega)])
def zBy (b o k : Nat) (mc mr mc' mr' : zM) : Prop := zSq mc' mr' b o ∧ zFc b mc mc' ∧ (∀ f, f ≠ 1601 → f ≠ 1602 → zI mr' f = zI mr f) ∧ mr'.2 = mr.2 ∧ zFr o mr mr' ∧ zI mr' 1602 o 0 = nI k
theorem zBy_tr {b o k1 k2 : Nat} {mc mr m1 r1 m2 r2 : zM} (h1 : zBy b o k1 mc mr m1 r1) (h2 : zBy b o k2 m1 r1 m2 r2) : zBy b o k2 mc mr m2 r2 :=
  ⟨h2.1, zFc_tr h1.2.1 h2.2.1, fun f a b => (h2.2.2.1 f a b).trans (h1.2.2.1 f a b), h2.2.2.2.1.trans h1.2.2.2.1, zFr_tr h1.2.2.2.2.1 h2.2.2.2.2.1, h2.2.2.2.2.2⟩
theorem zBy_1 {mc mr : zM} {b o k : Nat} {v : Int32} (hv : v.toInt8.toInt32 = v) (h : zSq mc mr b o) (hk : k < 400) (ek : zI mr 1602 o 0 = nI k) : zBy b o (k + 1) mc mr (zbby mc b v) (zRby mr o v) := by
  have e2 : zI mc 2 b 0 = nI k := h.1.2.2.1.1.trans ek
  unfold zbby zRby
  rw [e2, ek, nI_clamp (by omega), ← nI_succ]
  refine ⟨?_, ?_, ?_, rfl, ?_, zI_e⟩
  · refine zSq_S h ⟨fun f hf => ⟨funext fun a => funext fun j => ?_, rfl⟩, rfl⟩ ⟨fun f hf => funext fun j => ?_, fun _ _ => rfl⟩ ?_ ?_
    · rw [zI_n (by omega), zI_n (by omega)]
    · rw [zI_n (by omega), zI_n (by omega)]
    · rw [zI_n (by decide), zI_n (by decide)]
    · obtain ⟨s1, s2, s3, s4, s5, s6, s7, s8⟩ := h.1
      refine ⟨s1, fun j hj => ?_, ⟨by rw [zI_e, zI_e], k + 1, by omega, zI_e⟩, ?_, ?_, ?_, ?_, ?_⟩
      · rw [zI_n (by decide), zI_sI, zI_n (by decide), zI_sI]
        by_cases e : j = k
        · rw [if_pos ⟨rfl, rfl, e⟩, if_pos ⟨rfl, rfl, e⟩]
        · rw [if_neg (fun z => e z.2.2), if_neg (fun z => e z.2.2)]
          exact s2 j hj
      · rw [zI_n (by decide), zI_n (by decide), zI_n (by decide), zI_n (by decide)]; exact s4
      · rw [zI_n (by decide), zI_n (by decide), zI_n (by decide), zI_n (by decide)]; exact s5
      · rw [zI_n (by decide), zI_n (by decide), zI_n (by decide), zI_n (by decide)]; exact s6
      · rw [zI_n (by decide), zI_n (by decide), zI_n (by decide), zI_n (by decide)]; exact s7
      · rw [zI_n (by decide), zI_n (by decide), zI_n (by decide), zI_n (by decide)]; exact s8
  · exact zFc_tr (zFc_sI (by omega) (by decide)) (zFc_sI (by omega) (by decide))
  · intro f h1 h2
    funext a j
    rw [zI_n h2, zI_n h1]
  · exact zFr_tr (zFr_by hk hv) (zFr_sI (fun _ _ => by decide) (by decide))
theorem zBy_4 {mc mr : zM} {b o k : Nat} {x : Int32} (h : zSq mc mr b o) (hk : k + 4 ≤ 400) (ek : zI mr 1602 o 0 = nI k) : zBy b o (k + 4) mc mr (zbfo mc b x) (zRfo mr o x) := by
  unfold zbfo zRfo
  obtain ⟨e1, e2, e3, e4⟩ := z8_sh x
  rw [e1, e2, e3, e4]
  have a1 := zBy_1 (v := z8 (z8 (zushr x 24))) (z8_8 _) h (by omega) ek
  have a2 := zBy_1 (v := z8 (z8 (zushr x 16))) (z8_8 _) a1.1 (by omega) a1.2.2.2.2.2
  have a3 := zBy_1 (v := z8 (z8 (zushr x 8))) (z8_8 _) a2.1 (by omega) a2.2.2.2.2.2
  have a4 := zBy_1 (v := z8 (z8 (zushr x 0))) (z8_8 _) a3.1 (by omega) a3.2.2.2.2.2
  exact zBy_tr (zBy_tr (zBy_tr a1 a2) a3) a4
theorem sim_feed {mc mr : zM} {b o : Nat} (h : zSm mc mr b o) {x1 x2 x3 x4 x5 r r' : Int32} {mc' mr' : zM} (hc : ∀ k, k ≤ 400 → zI mc 2 b 0 = nI k → zIt r mc' (k ≤ 380) (nI (k + 20)) (zbfo (zbfo (zbfo (zbfo (zbfo mc b x1) b x2) b x3) b x4) b x5) (-1) mc) (hr : ∀ k, k ≤ 400 → zI mr 1602 o 0 = nI k → zIt r' mr' (k ≤ 380) (nI (k + 20)) (zRfo (zRfo (zRfo (zRfo (zRfo (zc0 mr o) o x1) o x2) o x3) o x4) o x5) (-1) (zc0 mr o)) : r = r' ∧ zOK b o mc mr mc' mr' := by
  obtain ⟨e2, k, hk, ek⟩ := h.1.1.2.2.1
  refine zIt_2 Iff.rfl (hc k hk (e2.trans ek)) (hr k hk ek) (fun p e1 e2 e3 e4 => ?_) (fun _ e1 e2 e3 e4 => ?_)
  · subst e1 e2 e3 e4
    have h0 := zSq_0 h.1
    have e0 : zI (zc0 mr o) 1602 o 0 = nI k := (zc0_e (by decide)).trans ek
    have a1 := zBy_4 (x := x1) h0 (by omega) e0
    have a2 := zBy_4 (x := x2) a1.1 (by omega) a1.2.2.2.2.2
    have a3 := zBy_4 (x := x3) a2.1 (by omega) a2.2.2.2.2.2
    have a4 := zBy_4 (x := x4) a3.1 (by omega) a3.2.2.2.2.2
    have a5 := zBy_4 (x := x5) a4.1 (by omega) a4.2.2.2.2.2
    obtain ⟨g1, g2, g3, g4, g5, -⟩ := zBy_tr (zBy_tr (zBy_tr (zBy_tr a1 a2) a3) a4) a5
    refine ⟨rfl, ⟨g1, fun z => ?_⟩, g2, zFr_tr zFr_0 g5⟩
    rw [g3 1608 (by decide) (by decide)] at z
    exact (zRH_q (fun f hf => by rw [g3 f (by omega) (by omega)]) (fun f _ => zJ_2 g4 f o)).1 ((zSm_0 h).2 z)
  · subst e1 e2 e3 e4
    exact ⟨rfl, zOK_0 h⟩
/-! one claim -/
def zF1 (b c : Nat) (mc mc' : zM) : Prop := mc'.2.2 = mc.2.2 ∧ (∀ f a j, ¬ (b + 11 + 7 * c ≤ a ∧ a < b + 11 + 7 * c + 7) → zI mc' f a j = zI mc f a j ∧ zJ mc' f a j = zJ mc f a j) ∧ ∀ f, f = 200 ∨ (1201 ≤ f ∧ f ≤ 1207) → zI mc' f = zI mc f
theorem zF1_rf {b c : Nat} {m : zM} : zF1 b c m m := ⟨rfl, fun _ _ _ _ => ⟨rfl, rfl⟩, fun _ _ => rfl⟩
theorem zF1_tr {b c : Nat} {m m1 m2 : zM} (h : zF1 b c m m1) (h2 : zF1 b c m1 m2) : zF1 b c m m2 := ⟨h2.1.trans h.1, fun f a j q => ⟨(h2.2.1 f a j q).1.trans (h.2.1 f a j q).1, (h2.2.1 f a j q).2.trans (h.2.1 f a j q).2⟩, fun f q => (h2.2.2 f q).trans (h.2.2 f q)⟩
theorem zF1_sI {b c : Nat} {m : zM} {f a j : Nat} {v : Int32} (ha : b + 11 + 7 * c ≤ a ∧ a < b + 11 + 7 * c + 7) (hf : ¬ (f = 200 ∨ (1201 ≤ f ∧ f ≤ 1207))) : zF1 b c m (zsI m f a j v) := ⟨rfl, fun f' a' j' q => ⟨by rw [zI_sI, if_neg (fun z => q (by rw [z.2.1]; exact ha))], rfl⟩, fun f' q => funext fun a' => funext fun j' => zI_n (fun z => hf (by rw [← z]; exact q))⟩
theorem zF1_sJ {b c : Nat} {m : zM} {f a j : Nat} {v : Int64} (ha : b + 11 + 7 * c ≤ a ∧ a < b + 11 + 7 * c + 7) : zF1 b c m (zsJ m f a j v) := ⟨rfl, fun f' a' j' q => ⟨rfl, by rw [zJ_sJ, if_neg (fun z => q (by rw [z.2.1]; exact ha))]⟩, fun _ _ => rfl⟩
theorem zF1_cJ {b c : Nat} {m : zM} {f a : Nat} {g : Nat → Int64} (ha : b + 11 + 7 * c ≤ a ∧ a < b + 11 + 7 * c + 7) : zF1 b c m (zcJ m f a g) := ⟨rfl, fun f' a' j' q => ⟨rfl, by rw [zJ_cJ, if_neg (fun z => q (by rw [z.2]; exact ha))]⟩, fun _ _ => rfl⟩
theorem zkq_in {b c : Nat} : b + 11 + 7 * c ≤ zkq b c ∧ zkq b c < b + 11 + 7 * c + 7 := ⟨Nat.le_refl _, by
  show b + 11 + 7 * c < _
  omega⟩
theorem zkq_in1 {b c : Nat} : b + 11 + 7 * c ≤ zkq b c + 1 ∧ zkq b c + 1 < b + 11 + 7 * c + 7 := ⟨by
  show _ ≤ b + 11 + 7 * c + 1
  omega, by
  show b + 11 + 7 * c + 1 < _
  omega⟩
theorem zF1_LM {b c : Nat} {m : zM} {L M : Int32} : zF1 b c m (zLM m (zkq b c) L M) := zF1_tr (zF1_sI zkq_in (by decide)) (zF1_sI zkq_in (by decide))
theorem zF1_ME {b c g : Nat} {m : zM} : zF1 b c m (zME m (zkq b c) g) := by
  unfold zME
  split
  · exact zF1_LM
  · exact zF1_rf
theorem zF1_ST {b c : Nat} {m : zM} {s p : Int32} : zF1 b c m (zST m (zkq b c) s p) := zF1_tr (zF1_sI zkq_in (by decide)) (zF1_tr (zF1_sI zkq_in (by decide)) (zF1_sI zkq_in (by decide)))
theorem zF1_BG {b c : Nat} {m : zM} {x1 x2 x3 x4 x5 : Int32} : zF1 b c m (zBG m (zkq b c) x1 x2 x3 x4 x5) := zF1_tr (zF1_sI zkq_in (by decide)) (zF1_tr (zF1_sI zkq_in (by decide)) (zF1_tr (zF1_sI zkq_in (by decide)) (zF1_tr (zF1_sI zkq_in (by decide)) (zF1_tr (zF1_sI zkq_in (by decide)) (zF1_sI zkq_in (by decide))))))
theorem zF1_Fc {b c : Nat} {m m' : zM} (hc : c < 16) (h : zF1 b c m m') : zFc b m m' := ⟨h.1, fun f a j q => h.2.1 f a j (by omega), h.2.2⟩
def zR1 (o c : Nat) (mr mr' : zM) : Prop := ∀ f j, 1601 ≤ f → f ≤ 1624 → ¬ (f = 1609 ∧ 10 * c ≤ j ∧ j < 10 * c + 10) → ¬ (1610 ≤ f ∧ f ≤ 1612 ∧ j = c) → ¬ (1613 ≤ f ∧ f ≤ 1617 ∧ 4 * c ≤ j ∧ j < 4 * c + 4) → zI mr' f o j = zI mr f o j ∧ zJ mr' f o j = zJ mr f o j
theorem zR1_rf {o c : Nat} {m : zM} : zR1 o c m m := fun _ _ _ _ _ _ _ => ⟨rfl, rfl⟩
theorem zR1_tr {o c : Nat} {m m1 m2 : zM} (h : zR1 o c m m1) (h2 : zR1 o c m1 m2) : zR1 o c m m2 := fun f j a1 a2 a3 a4 a5 => ⟨(h2 f j a1 a2 a3 a4 a5).1.trans (h f j a1 a2 a3 a4 a5).1, (h2 f j a1 a2 a3 a4 a5).2.trans (h f j a1 a2 a3 a4 a5).2⟩
theorem zR1_0 {o c : Nat} {m : zM} : zR1 o c m (zc0 m o) := fun f j a1 a2 _ _ _ => ⟨zc0_e (by omega), rfl⟩
theorem zR1_9 {o c k : Nat} {m : zM} {v : Int32} (hk : k < 10) : zR1 o c m (zsI m 1609 o (10 * c + k) v) := fun f j _ _ a3 _ _ => ⟨by
  rw [zI_sI, if_neg]
  rintro ⟨rfl, -, rfl⟩
  exact a3 ⟨rfl, by omega, by omega⟩, rfl⟩
theorem zR1_I {o c f k : Nat} {m : zM} {v : Int32} (hf : 1613 ≤ f ∧ f ≤ 1617) (hk : k < 4) : zR1 o c m (zsI m f o (4 * c + k) v) := fun f' j _ _ _ _ a5 => ⟨by
  rw [zI_sI, if_neg]
  rintro ⟨rfl, -, rfl⟩
  exact a5 ⟨hf.1, hf.2, by omega, by omega⟩, rfl⟩
theorem zR1_J {o c f k : Nat} {m : zM} {v : Int64} (hf : 1613 ≤ f ∧ f ≤ 1617) (hk : k < 4) : zR1 o c m (zsJ m f o (4 * c + k) v) := fun f' j _ _ _ _ a5 => ⟨rfl, by
  rw [zJ_sJ, if_neg]
  rintro ⟨rfl, -, rfl⟩
  exact a5 ⟨hf.1, hf.2, by omega, by omega⟩⟩
theorem zR1_J1 {o c f : Nat} {m : zM} {v : Int64} (hf : 1610 ≤ f ∧ f ≤ 1612) : zR1 o c m (zsJ m f o c v) := fun f' j _ _ _ a4 _ => ⟨rfl, by
  rw [zJ_sJ, if_neg]
  rintro ⟨rfl, -, rfl⟩
  exact a4 ⟨hf.1, hf.2, rfl⟩⟩
theorem zR1_Fr {o c : Nat} {m m' : zM} (hc : c < 16) (h : zR1 o c m m') : zFr o m m' := ⟨fun f j h1 h2 h3 => h f j h1 h2 (by
    rintro ⟨rfl, a, b⟩
    have : zww 1609 = 160 := rfl
    omega) (by
    rintro ⟨a, b, rfl⟩
    have : zww f = 16 := by rcases (show f = 1610 ∨ f = 1611 ∨ f = 1612 by omega) with rfl | rfl | rfl <;> rfl
    omega) (by
    rintro ⟨a, b, a', b'⟩
    have : zww f = 64 := by rcases (show f = 1613 ∨ f = 1614 ∨ f = 1615 ∨ f = 1616 ∨ f = 1617 by omega) with rfl | rfl | rfl | rfl | rfl <;> rfl
    omega), fun hb j => by rw [(h 1601 j (by omega) (by omega) (by omega) (by omega) (by omega)).1]; exact hb j⟩
def zAq (mc mc' : zM) (q : Nat) : Prop := ∀ f j, (zI mc' f q j = zI mc f q j ∧ zJ mc' f q j = zJ mc f q j) ∧ (zI mc' f (q + 1) j = zI mc f (q + 1) j ∧ zJ mc' f (q + 1) j = zJ mc f (q + 1) j)
def zAp (mr mr' : zM) (o c : Nat) : Prop := (∀ k, 7 ≤ k → k < 10 → zI mr' 1609 o (10 * c + k) = zI mr 1609 o (10 * c + k)) ∧ (∀ f, 1610 ≤ f → f ≤ 1612 → zJ mr' f o c = zJ mr f o c) ∧ ∀ f, 1613 ≤ f → f ≤ 1617 → ∀ k, k < 4 → zI mr' f o (4 * c + k) = zI mr f o (4 * c + k) ∧ zJ mr' f o (4 * c + k) = zJ mr f o (4 * c + k)
def zAr (mr mr' : zM) (o c : Nat) : Prop := (∀ k, k < 7 → zI mr' 1609 o (10 * c + k) = zI mr 1609 o (10 * c + k)) ∧ zAp mr mr' o c
theorem zSp_x {mc mc' mr mr' : zM} {p o c : Nat} (h : zSp mc mr p o c) (hc : ∀ f j, zI mc' f p j = zI mc f p j ∧ zJ mc' f p j = zJ mc f p j) (hr : zAp mr mr' o c) : zSp mc' mr' p o c := by
  obtain ⟨p0, p1, p2, p3, p4, p5, p6, p7, p8, p9, p10⟩ := h
  obtain ⟨r9, r1, r4⟩ := hr
  obtain ⟨⟨L, hL, eL⟩, H, hH, eH, hpt⟩ := id p3
  have c8 : (zI mr 1609 o (10 * c + 8)).toNatClampNeg = L := by rw [eL, nI_clamp (by omega)]
  have c9 : (zI mr 1609 o (10 * c + 9)).toNatClampNeg = H := by rw [eH, nI_clamp (by omega)]
  refine ⟨?_, ?_, ?_, ?_, ?_, ?_, ?_, fun k hk => ?_, fun k hk => ?_, fun k h1 h2 => ?_, fun k h1 h2 => ?_⟩
  · rw [(hc 300 0).1, r9 7 (by omega) (by omega)]; exact p0
  · rw [(hc 301 0).1, r9 8 (by omega) (by omega)]; exact p1
  · rw [(hc 302 0).1, r9 9 (by omega) (by omega)]; exact p2
  · refine ⟨⟨L, hL, (r9 8 (by omega) (by omega)).trans eL⟩, H, hH, (r9 9 (by omega) (by omega)).trans eH, fun k hk => ?_⟩
    rw [(r4 1616 (by omega) (by omega) k (by omega)).1]
    exact hpt k hk
  · rw [(hc 303 0).2, r1 1610 (by omega) (by omega)]; exact p4
  · rw [(hc 304 0).2, r1 1611 (by omega) (by omega)]; exact p5
  · rw [(hc 305 0).2, r1 1612 (by omega) (by omega)]; exact p6
  · rw [r9 8 (by omega) (by omega)] at hk
    obtain ⟨x, y, z⟩ := p7 k hk
    exact ⟨(hc 1306 k).1.trans (x.trans (r4 1613 (by omega) (by omega) k (by omega)).1.symm), (hc 1307 k).2.trans (y.trans (r4 1614 (by omega) (by omega) k (by omega)).2.symm), (hc 1308 k).2.trans (z.trans (r4 1615 (by omega) (by omega) k (by omega)).2.symm)⟩
  · rw [r9 9 (by omega) (by omega)] at hk
    obtain ⟨x, y⟩ := p8 k hk
    exact ⟨(hc 1309 k).1.trans (x.trans (r4 1616 (by omega) (by omega) k (by omega)).1.symm), (hc 1310 k).2.trans (y.trans (r4 1617 (by omega) (by omega) k (by omega)).2.symm)⟩
  · rw [r9 8 (by omega) (by omega)] at h1
    rw [(hc 1308 k).2]
    exact p9 k h1 h2
  · rw [r9 9 (by omega) (by omega)] at h1
    rw [(hc 1310 k).2]
    exact p10 k h1 h2
theorem zSc_x {mc mc' mr mr' : zM} {q o c : Nat} (h : zSc mc mr q o c) (hc : zAq mc mc' q) (hg : zGe mr' mr o) (hr : zAr mr mr' o c) : zSc mc' mr' q o c := by
  obtain ⟨⟨a0, a1, a2, a3, a4, a5⟩, ⟨hP, hs, hj⟩, e6, e7, hp, hd⟩ := h
  obtain ⟨r9, rp⟩ := hr
  have hCe : zCe mr' mr o c := fun k h1 h2 => r9 k (by omega)
  refine ⟨⟨(hc 100 0).1.1.trans (a0.trans (r9 0 (by omega)).symm), (hc 101 0).1.1.trans (a1.trans (r9 1 (by omega)).symm), (hc 102 0).1.1.trans (a2.trans (r9 2 (by omega)).symm), (hc 103 0).1.1.trans (a3.trans (r9 3 (by omega)).symm), (hc 104 0).1.1.trans (a4.trans (r9 4 (by omega)).symm), (hc 105 0).1.1.trans (a5.trans (r9 5 (by omega)).symm)⟩, ⟨?_, ?_, ?_⟩, ?_, ?_, zSp_x hp (fun f j => (hc f j).2) rp, ?_⟩
  · unfold zRP
    rw [r9 4 (by omega)]
    exact hP
  · rw [r9 5 (by omega)]; exact hs
  · rw [r9 5 (by omega), r9 6 (by omega)]; exact hj
  · rw [(hc 106 0).1.1, zRle_ext hg hCe]; exact e6
  · rw [(hc 107 0).1.1, zRmo_ext hg hCe]; exact e7
  · unfold zSd
    rw [rp.2.1 1610 (by omega) (by omega), r9 5 (by omega)]
    exact hd
/-- only the purse -/
theorem zSc_p {mc mc' mr mr' : zM} {q o c : Nat} (h : zSc mc mr q o c) (hc : ∀ f j, zI mc' f q j = zI mc f q j) (hg : zGe mr' mr o) (r9 : ∀ k, k < 7 → zI mr' 1609 o (10 * c + k) = zI mr 1609 o (10 * c + k)) (hp : zSp mc' mr' (q + 1) o c) (hd : zSd mr' o c) : zSc mc' mr' q o c := by
  obtain ⟨⟨a0, a1, a2, a3, a4, a5⟩, ⟨hP, hs, hj⟩, e6, e7, -, -⟩ := h
  have hCe : zCe mr' mr o c := fun k h1 h2 => r9 k (by omega)
  refine ⟨⟨(hc 100 0).trans (a0.trans (r9 0 (by omega)).symm), (hc 101 0).trans (a1.trans (r9 1 (by omega)).symm), (hc 102 0).trans (a2.trans (r9 2 (by omega)).symm), (hc 103 0).trans (a3.trans (r9 3 (by omega)).symm), (hc 104 0).trans (a4.trans (r9 4 (by omega)).symm), (hc 105 0).trans (a5.trans (r9 5 (by omega)).symm)⟩, ⟨?_, ?_, ?_⟩, ?_, ?_, hp, hd⟩
  · unfold zRP
    rw [r9 4 (by omega)]
    exact hP
  · rw [r9 5 (by omega)]; exact hs
  · rw [r9 5 (by omega), r9 6 (by omega)]; exact hj
  · rw [hc 106 0, zRle_ext hg hCe]; exact e6
  · rw [hc 107 0, zRmo_ext hg hCe]; exact e7
theorem zSf_x {mc mc' : zM} {q : Nat} (h : zSf mc q) (hc : zAq mc mc' q) : zSf mc' q := by
  obtain ⟨⟨a5, a6, a7, a4⟩, b0, b1, b2, b3, b4, b5, b8⟩ := h
  refine ⟨⟨(hc 105 0).1.1.trans a5, (hc 106 0).1.1.trans a6, (hc 107 0).1.1.trans a7, ?_⟩, (hc 300 0).2.1.trans b0, (hc 301 0).2.1.trans b1, (hc 302 0).2.1.trans b2, (hc 303 0).2.2.trans b3, (hc 304 0).2.2.trans b4, (hc 305 0).2.2.trans b5, fun k hk => ⟨(hc 1308 k).2.2.trans (b8 k hk).1, (hc 1310 k).2.2.trans (b8 k hk).2⟩⟩
  rw [(hc 104 0).1.1]
  exact a4
theorem zSg_y {mc mc' mr mr' : zM} {g o : Nat} (h : zSg mc mr g o) (hc : ∀ f, f = 200 ∨ (1201 ≤ f ∧ f ≤ 1207) → zI mc' f = zI mc f) (hr : zGe mr' mr o) : zSg mc' mr' g o := by
  unfold zSg zTy zWG zwS zwN zRG at h ⊢
  rw [hc 200 (by omega), hc 1201 (by omega), hc 1202 (by omega), hc 1203 (by omega), hc 1204 (by omega), hc 1205 (by omega), hc 1206 (by omega), hc 1207 (by omega), hr 1618 (by omega) (by omega), hr 1619 (by omega) (by omega), hr 1620 (by omega) (by omega), hr 1621 (by omega) (by omega), hr 1622 (by omega) (by omega), hr 1623 (by omega) (by omega), hr 1624 (by omega) (by omega)]
  exact h
theorem zSh0_x {mc mc' mr mr' : zM} {b o : Nat} (h : zSh0 mc mr b o) (hc : ∀ f j, zI mc' f b j = zI mc f b j ∧ zJ mc' f b j = zJ mc f b j) (hr : ∀ f, 1601 ≤ f → f ≤ 1608 → ∀ j, zI mr' f o j = zI mr f o j ∧ zJ mr' f o j = zJ mr f o j) : zSh0 mc' mr' b o := by
  have cI : ∀ f, zI mc' f b = zI mc f b := fun f => funext fun j => (hc f j).1
  have cJ : ∀ f, zJ mc' f b = zJ mc f b := fun f => funext fun j => (hc f j).2
  have rI : ∀ f, 1601 ≤ f → f ≤ 1608 → zI mr' f o = zI mr f o := fun f h1 h2 => funext fun j => (hr f h1 h2 j).1
  have rJ : ∀ f, 1601 ≤ f → f ≤ 1608 → zJ mr' f o = zJ mr f o := fun f h1 h2 => funext fun j => (hr f h1 h2 j).2
  unfold zSh0 at h ⊢
  rw [cJ 0, rJ 1605 (by omega) (by omega), cI 1001, rI 1601 (by omega) (by omega), cI 2, rI 1602 (by omega) (by omega), cI 4, rI 1603 (by omega) (by omega), cI 5, rI 1604 (by omega) (by omega), cI 7, rI 1606 (by omega) (by omega), cI 8, rI 1607 (by omega) (by omega), cI 9, rI 1608 (by omega) (by omega)]
  exact h
theorem zR1_G {mr mr' : zM} {o c : Nat} (r1 : zR1 o c mr mr') : zGe mr' mr o := fun f a b => funext fun j => (r1 f j (by omega) b (by omega) (by omega) (by omega)).1
theorem zR1_Ar {mr mr' : zM} {o c i : Nat} (r1 : zR1 o c mr mr') (hi : i ≠ c) : zAr mr mr' o i := ⟨fun k hk => (r1 1609 _ (by omega) (by omega) (by omega) (by omega) (by omega)).1, fun k _ hk => (r1 1609 _ (by omega) (by omega) (by omega) (by omega) (by omega)).1, fun f a b => (r1 f _ (by omega) (by omega) (by omega) (by omega) (by omega)).2, fun f a b k hk => r1 f _ (by omega) (by omega) (by omega) (by omega) (by omega)⟩
theorem zF1_Aq {mc mc' : zM} {b c i : Nat} (f1 : zF1 b c mc mc') (hi : i ≠ c) : zAq mc mc' (zkq b i) := fun f j => ⟨f1.2.1 f (b + 11 + 7 * i) j (by omega), f1.2.1 f (b + 11 + 7 * i + 1) j (by omega)⟩
theorem zSq_1 {mc mc' mr mr' : zM} {b o c : Nat} (h : zSq mc mr b o) (hcn : c < (zI mr 1606 o 0).toNatClampNeg) (f1 : zF1 b c mc mc') (r1 : zR1 o c mr mr') (hs : zSc mc' mr' (zkq b c) o c) : zSq mc' mr' b o := by
  have hG := zR1_G r1
  have n6 : zI mr' 1606 o 0 = zI mr 1606 o 0 := (r1 1606 0 (by omega) (by omega) (by omega) (by omega) (by omega)).1
  refine ⟨zSh0_x h.1 (fun f j => f1.2.1 f b j (by omega)) (fun f a b j => r1 f j (by omega) (by omega) (by omega) (by omega) (by omega)), ?_, fun i hi => ?_, fun i hi hi2 => ?_⟩
  · rw [zR_22 f1.1]
    exact zSg_y h.2.1 f1.2.2 hG
  · rw [n6] at hi
    by_cases e : i = c
    · subst e; exact hs
    · exact zSc_x (h.2.2.1 i hi) (zF1_Aq f1 e) hG (zR1_Ar r1 e)
  · rw [n6] at hi
    exact zSf_x (h.2.2.2 i hi hi2) (zF1_Aq f1 (fun e => by omega))
theorem zOK_1 {mc mc' mr mr' : zM} {b o c : Nat} (h : zSm mc mr b o) (c16 : c < 16) (hcn : c < (zI mr 1606 o 0).toNatClampNeg) (f1 : zF1 b c mc mc') (r1 : zR1 o c mr mr') (hs : zSc mc' mr' (zkq b c) o c) (hH : zSq mc' mr' b o → zI mr 1608 o 0 = 0 → zRH mr o → zRH mr' o) : zOK b o mc mr mc' mr' :=
  have hq := zSq_1 h.1 hcn f1 r1 hs
  ⟨⟨hq, fun z => by
    rw [(r1 1608 0 (by omega) (by omega) (by omega) (by omega) (by omega)).1] at z
    exact hH hq z (h.2 z)⟩, zF1_Fc c16 f1, zR1_Fr c16 r1⟩
/-- claim c alone changes: what holds goes on to hold when it narrows -/
theorem zRH_1 {mc mc' mr mr' : zM} {b o c : Nat} (h : zSq mc mr b o) (h' : zSq mc' mr' b o) (r1 : zR1 o c mr mr') (e10 : zJ mr' 1610 o c = zJ mr 1610 o c) (hL : ¬ zJ mr 1610 o c ≤ 0 → zRle mr o c ≤ zRle mr' o c) (hM : zRmo mr' o c ≤ zRmo mr o c) (H : zRH mr o) : zRH mr' o := by
  obtain ⟨n, hn, en, en2⟩ := zSq_n h
  have n6 : zI mr' 1606 o 0 = nI n := (r1 1606 0 (by omega) (by omega) (by omega) (by omega) (by omega)).1.trans en
  obtain ⟨-, K, -, hK, eK⟩ := h.1.1
  have eK' : zJ mr' 1605 o 0 = lN K := (r1 1605 0 (by omega) (by omega) (by omega) (by omega) (by omega)).2.trans eK
  have hG := zR1_G r1
  have hCe : ∀ i, i ≠ c → zCe mr' mr o i := fun i hi k h1 h2 => (zR1_Ar r1 hi).1 k (by omega)
  refine zRH_mono hn en n6 hK eK eK' h.2.1.2.1 h'.2.1.2.1 (fun i hi => (h.2.2.1 i (by omega)).2.1) (fun i hi => (h'.2.2.1 i (by rw [n6, nI_clamp (by omega)]; exact hi)).2.1) (fun i hi => ⟨?_, (h.2.2.1 i (by omega)).2.2.2.2.2.1⟩) (fun i hi q => ?_) (fun i hi => ?_) H
  · by_cases e : i = c
    · subst e; exact e10
    · exact (zR1_Ar r1 e).2.2.1 1610 (by omega) (by omega)
  · by_cases e : i = c
    · subst e; exact hL q
    · rw [zRle_ext hG (hCe i e)]; exact Int32.le_refl _
  · by_cases e : i = c
    · subst e; exact hM
    · rw [zRmo_ext hG (hCe i e)]; exact Int32.le_refl _
