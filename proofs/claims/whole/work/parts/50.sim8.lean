/-! calls side by side: payments, waves -/
theorem zpl1_x {rk rk' : Nat → Int32} {ow ow' : Nat → Int64} {t : Int32} {N : Nat} (hr : ∀ k, k < N → rk k = rk' k ∧ ow k = ow' k) {s s' : Int64 × (Nat → Int64)} (h1 : s.1 = s'.1) (h2 : ∀ k, k < N → s.2 k = s'.2 k) : ∀ n, n ≤ N → (zpl1 rk ow t n s).1 = (zpl1 rk' ow' t n s').1 ∧ ∀ k, k < N → (zpl1 rk ow t n s).2 k = (zpl1 rk' ow' t n s').2 k
  | 0, _ => ⟨h1, h2⟩
  | n + 1, hn => by
    obtain ⟨a, b⟩ := zpl1_x hr h1 h2 (t := t) n (by omega)
    obtain ⟨c, d⟩ := hr n (by omega)
    rw [zpl1, zpl1, c]
    by_cases q : rk' n = t
    · rw [if_pos q, if_pos q]
      refine ⟨?_, fun k hk => ?_⟩
      · show _ - _ = _ - _
        rw [a, b n (by omega), d]
      · show zupJ _ n _ k = zupJ _ n _ k
        unfold zupJ
        rw [a, b n (by omega), d, b k hk]
    · rw [if_neg q, if_neg q]
      exact ⟨a, b⟩
theorem zpl_x {rk rk' : Nat → Int32} {ow ow' : Nat → Int64} {N : Nat} (hr : ∀ k, k < N → rk k = rk' k ∧ ow k = ow' k) {s s' : Int64 × (Nat → Int64)} (h1 : s.1 = s'.1) (h2 : ∀ k, k < N → s.2 k = s'.2 k) : ∀ t, (zpl rk ow N t s).1 = (zpl rk' ow' N t s').1 ∧ ∀ k, k < N → (zpl rk ow N t s).2 k = (zpl rk' ow' N t s').2 k
  | 0 => ⟨h1, h2⟩
  | t + 1 => by
    obtain ⟨a, b⟩ := zpl_x hr h1 h2 t
    rw [zpl, zpl]
    exact zpl1_x hr a b N (Nat.le_refl N)
theorem zpl1_o {rk : Nat → Int32} {ow : Nat → Int64} {t : Int32} {s : Int64 × (Nat → Int64)} : ∀ n k, n ≤ k → (zpl1 rk ow t n s).2 k = s.2 k
  | 0, _, _ => rfl
  | n + 1, k, h => by
    rw [zpl1]
    split
    · show zupJ _ n _ k = _
      unfold zupJ
      rw [if_neg (by omega)]
      exact zpl1_o n k (by omega)
    · exact zpl1_o n k (by omega)
theorem zpl_o {rk : Nat → Int32} {ow : Nat → Int64} {N : Nat} {s : Int64 × (Nat → Int64)} {k : Nat} (h : N ≤ k) : ∀ t, (zpl rk ow N t s).2 k = s.2 k
  | 0 => rfl
  | t + 1 => by
    rw [zpl, zpl1_o N k h]
    exact zpl_o h t
theorem zph_x {pt pt' : Nat → Int32} {co al : Int64} {N : Nat} (hr : ∀ k, k < N → pt k = pt' k) {s s' : Int64 × (Nat → Int64)} (h1 : s.1 = s'.1) (h2 : ∀ k, k < N → s.2 k = s'.2 k) : ∀ n, n ≤ N → (zph pt co al n s).1 = (zph pt' co al n s').1 ∧ ∀ k, k < N → (zph pt co al n s).2 k = (zph pt' co al n s').2 k
  | 0, _ => ⟨h1, h2⟩
  | n + 1, hn => by
    obtain ⟨a, b⟩ := zph_x hr h1 h2 (co := co) (al := al) n (by omega)
    have c := hr n (by omega)
    rw [zph, zph, c]
    refine ⟨?_, fun k hk => ?_⟩
    · show _ - _ = _ - _
      rw [a]
    · show zupJ _ n _ k = zupJ _ n _ k
      unfold zupJ
      rw [b n (by omega), b k hk]
theorem zph_o {pt : Nat → Int32} {co al : Int64} {s : Int64 × (Nat → Int64)} : ∀ n k, n ≤ k → (zph pt co al n s).2 k = s.2 k
  | 0, _, _ => rfl
  | n + 1, k, h => by
    rw [zph]
    show zupJ _ n _ k = _
    unfold zupJ
    rw [if_neg (by omega)]
    exact zph_o n k (by omega)
theorem zsumI_ext {f g : Nat → Int32} : ∀ {n : Nat}, (∀ i, i < n → f i = g i) → zsumI f n = zsumI g n
  | 0, _ => rfl
  | n + 1, h => by
    unfold zsumI
    rw [h n (by omega), zsumI_ext (n := n) (fun i hi => h i (by omega))]
theorem zRpA_I (m : zM) (o c : Nat) (x : Int64) (f a j : Nat) : zI (zRpA m o c x) f a j = zI m f a j := by
  unfold zRpA
  rw [zRpH_I]
  rfl
theorem zpat_o {g h : Nat → Int64} {c j : Nat} (q : ¬ (4 * c ≤ j ∧ j < 4 * c + 4)) : zpat g c h j = g j := if_neg q
theorem zR1_cJ {o c f : Nat} {m : zM} {g : Nat → Int64} (hf : 1613 ≤ f ∧ f ≤ 1617) (hg : ∀ j, ¬ (4 * c ≤ j ∧ j < 4 * c + 4) → g j = zJ m f o j) : zR1 o c m (zcJ m f o g) := fun f' j _ _ _ _ a5 => ⟨rfl, by
  rw [zJ_cJ]
  split
  · rename_i q
    obtain ⟨rfl, -⟩ := q
    exact hg j (fun z => a5 ⟨hf.1, hf.2, z⟩)
  · rfl⟩
theorem zRpH_1 {m : zM} {o c : Nat} {x : Int64} : zR1 o c m (zRpH m o c x) := by
  unfold zRpH
  split
  · exact zR1_J1 (by omega)
  · exact zR1_cJ (by omega) (fun j q => zpat_o q)
theorem zRpA_1 {m : zM} {o c : Nat} {x : Int64} : zR1 o c m (zRpA m o c x) := by
  unfold zRpA
  refine zR1_tr ?_ zRpH_1
  refine zR1_tr ?_ (zR1_cJ (by omega) (fun j q => (zpat_o q).trans (by rw [zJ_n (by decide), zJ_n (by decide)])))
  refine zR1_tr ?_ (zR1_J1 (by omega))
  exact zR1_J1 (by omega)
theorem zPHm_1 {m : zM} {b c : Nat} {x : Int64} : zF1 b c m (zPHm m (zkq b c + 1) x) := by
  unfold zPHm
  split
  · exact zF1_sJ zkq_in1
  · exact zF1_cJ zkq_in1
theorem zPAm_1 {m : zM} {b c : Nat} {x : Int64} : zF1 b c m (zPAm m (zkq b c + 1) x) := by
  unfold zPAm
  refine zF1_tr ?_ zPHm_1
  refine zF1_tr ?_ (zF1_cJ zkq_in1)
  refine zF1_tr ?_ (zF1_sJ zkq_in1)
  exact zF1_sJ zkq_in1
theorem zPHm_e {m : zM} {p H : Nat} {y : Int64} (h : zI m 302 p 0 = nI H) (hH : H < 2 ^ 31) : zPHm m p y = if zsumI (zI m 1309 p) H = 0 then zsJ m 305 p 0 (zJ m 305 p 0 + y) else zcJ m 1310 p (zupJ (zph (zI m 1309 p) y (zsumI (zI m 1309 p) H).toInt64 H (y, zJ m 1310 p)).2 0 ((zph (zI m 1309 p) y (zsumI (zI m 1309 p) H).toInt64 H (y, zJ m 1310 p)).2 0 + (zph (zI m 1309 p) y (zsumI (zI m 1309 p) H).toInt64 H (y, zJ m 1310 p)).1)) := by
  unfold zPHm
  rw [h, nI_clamp hH]
theorem zRpH_e {m : zM} {o c H : Nat} {y : Int64} (h : zI m 1609 o (10 * c + 9) = nI H) (hH : H < 2 ^ 31) : zRpH m o c y = if zsumI (zsh (zI m 1616 o) c) H = 0 then zsJ m 1612 o c (zJ m 1612 o c + y) else zcJ m 1617 o (zpat (zJ m 1617 o) c (zupJ (zph (zsh (zI m 1616 o) c) y (zsumI (zsh (zI m 1616 o) c) H).toInt64 H (y, zsh (zJ m 1617 o) c)).2 0 ((zph (zsh (zI m 1616 o) c) y (zsumI (zsh (zI m 1616 o) c) H).toInt64 H (y, zsh (zJ m 1617 o) c)).2 0 + (zph (zsh (zI m 1616 o) c) y (zsumI (zsh (zI m 1616 o) c) H).toInt64 H (y, zsh (zJ m 1617 o) c)).1))) := by
  unfold zRpH zRph zRps
  rw [h, nI_clamp hH]
/-- one payment, parted alike on both sides -/
theorem zSp_pay {mc mr : zM} {p o c : Nat} {x : Int64} (h : zSp mc mr p o c) : zSp (zPAm mc p x) (zRpA mr o c x) p o c := by
  obtain ⟨p0, p1, p2, p3, p4, p5, p6, p7, p8, p9, p10⟩ := h
  obtain ⟨⟨L, hL, eL⟩, H, hH, eH, hpt⟩ := id p3
  have e301 := p1.trans eL
  have e302 := p2.trans eH
  rw [eL, nI_clamp (by omega)] at p7 p9
  rw [eH, nI_clamp (by omega)] at p8 p10
  -- liens
  have li : ∀ y, (zPLs mc p y).1 = (zRpl mr o c y).1 ∧ (∀ k, k < L → (zPLs mc p y).2 k = (zRpl mr o c y).2 k) ∧ ∀ k, L ≤ k → k < 4 → (zPLs mc p y).2 k = 0 := fun y => by
    unfold zPLs zRpl
    rw [e301, eL, nI_clamp (by omega)]
    obtain ⟨a, b⟩ := zpl_x (N := L) (rk := zI mc 1306 p) (rk' := zsh (zI mr 1613 o) c) (ow := zJ mc 1307 p) (ow' := zsh (zJ mr 1614 o) c) (fun k hk => ⟨(p7 k hk).1, (p7 k hk).2.1⟩) (s := (y, zJ mc 1308 p)) (s' := (y, zsh (zJ mr 1615 o) c)) rfl (fun k hk => (p7 k hk).2.2) 10
    exact ⟨a, b, fun k h1 h2 => (zpl_o h1 10).trans (p9 k h1 h2)⟩
  have hs : zsumI (zI mc 1309 p) H = zsumI (zsh (zI mr 1616 o) c) H := zsumI_ext (fun k hk => (p8 k hk).1)
  have rI := fun f j => zRpA_I mr o c x f o j
  have cI := fun f j => zPAm_I (m := mc) (p := p) (co := x) f p j
  generalize hfe : x * (zI mc 300 p 0).toInt64 / 100 = fe
  have hfe' : x * (zI mr 1609 o (10 * c + 7)).toInt64 / 100 = fe := by rw [← p0]; exact hfe
  obtain ⟨l1, l2, l3⟩ := li (x - fe)
  have u8 : zI (zRpA mr o c x) 1609 o (10 * c + 8) = nI L := (rI _ _).trans eL
  have u9 : zI (zRpA mr o c x) 1609 o (10 * c + 9) = nI H := (rI _ _).trans eH
  -- the longs
  have key : zJ (zPAm mc p x) 303 p 0 = zJ (zRpA mr o c x) 1610 o c ∧ zJ (zPAm mc p x) 304 p 0 = zJ (zRpA mr o c x) 1611 o c ∧ zJ (zPAm mc p x) 305 p 0 = zJ (zRpA mr o c x) 1612 o c ∧
      (∀ k, zJ (zPAm mc p x) 1307 p k = zJ mc 1307 p k) ∧ (∀ j, zJ (zRpA mr o c x) 1614 o j = zJ mr 1614 o j) ∧
      (∀ k, k < L → zJ (zPAm mc p x) 1308 p k = zJ (zRpA mr o c x) 1615 o (4 * c + k)) ∧ (∀ k, L ≤ k → k < 4 → zJ (zPAm mc p x) 1308 p k = 0) ∧
      (∀ k, k < H → zJ (zPAm mc p x) 1310 p k = zJ (zRpA mr o c x) 1617 o (4 * c + k)) ∧ (∀ k, H ≤ k → k < 4 → zJ (zPAm mc p x) 1310 p k = 0) := by
    unfold zPAm zRpA
    rw [hfe, hfe', l1]
    generalize (zRpl mr o c (x - fe)).1 = lf
    generalize zPLs mc p (x - fe) = A at *
    generalize zRpl mr o c (x - fe) = B at *
    generalize hX : zcJ (zsJ (zsJ mc 303 p 0 (zJ mc 303 p 0 + x)) 304 p 0 (zJ mc 304 p 0 + fe)) 1308 p A.2 = X
    generalize hY : zcJ (zsJ (zsJ mr 1610 o c (zJ mr 1610 o c + x)) 1611 o c (zJ mr 1611 o c + fe)) 1615 o (zpat (zJ mr 1615 o) c B.2) = Y
    have xI : ∀ f, zI X f p = zI mc f p := fun f => by rw [← hX]; rfl
    have yI : ∀ f, zI Y f o = zI mr f o := fun f => by rw [← hY]; rfl
    have x303 : zJ X 303 p 0 = zJ mc 303 p 0 + x := by rw [← hX, zJ_cn (by decide), zJ_n (by decide), zJ_e]
    have x304 : zJ X 304 p 0 = zJ mc 304 p 0 + fe := by rw [← hX, zJ_cn (by decide), zJ_e]
    have x1308 : ∀ k, zJ X 1308 p k = A.2 k := fun k => by rw [← hX, zJ_ce]
    have xo : ∀ f, f ≠ 303 → f ≠ 304 → f ≠ 1308 → zJ X f p = zJ mc f p := fun f h1 h2 h3 => funext fun j => by rw [← hX, zJ_cn h3, zJ_n h2, zJ_n h1]
    have y1610 : zJ Y 1610 o c = zJ mr 1610 o c + x := by rw [← hY, zJ_cn (by decide), zJ_n (by decide), zJ_e]
    have y1611 : zJ Y 1611 o c = zJ mr 1611 o c + fe := by rw [← hY, zJ_cn (by decide), zJ_e]
    have y1615 : ∀ k, k < 4 → zJ Y 1615 o (4 * c + k) = B.2 k := fun k hk => by rw [← hY, zJ_ce, zpat_at hk]
    have yo : ∀ f, f ≠ 1610 → f ≠ 1611 → f ≠ 1615 → zJ Y f o = zJ mr f o := fun f h1 h2 h3 => funext fun j => by rw [← hY, zJ_cn h3, zJ_n h2, zJ_n h1]
    rw [zPHm_e ((congrFun (xI 302) 0).trans e302) (by omega), zRpH_e ((congrFun (yI 1609) _).trans eH) (by omega), xI 1309, yI 1616, hs, xo 1310 (by decide) (by decide) (by decide), yo 1617 (by decide) (by decide) (by decide)]
    by_cases q : zsumI (zsh (zI mr 1616 o) c) H = 0
    · rw [if_pos q, if_pos q]
      refine ⟨?_, ?_, ?_, fun k => ?_, fun j => ?_, fun k hk => ?_, fun k h1 h2 => ?_, fun k hk => ?_, fun k h1 h2 => ?_⟩
      · rw [zJ_n (by decide), zJ_n (by decide), x303, y1610, p4]
      · rw [zJ_n (by decide), zJ_n (by decide), x304, y1611, p5]
      · rw [zJ_e, zJ_e, xo 305 (by decide) (by decide) (by decide), yo 1612 (by decide) (by decide) (by decide), p6]
      · rw [zJ_n (by decide), xo 1307 (by decide) (by decide) (by decide)]
      · rw [zJ_n (by decide), yo 1614 (by decide) (by decide) (by decide)]
      · rw [zJ_n (by decide), zJ_n (by decide), x1308, y1615 k (by omega)]
        exact l2 k hk
      · rw [zJ_n (by decide), x1308]
        exact l3 k h1 h2
      · rw [zJ_n (by decide), zJ_n (by decide), xo 1310 (by decide) (by decide) (by decide), yo 1617 (by decide) (by decide) (by decide)]
        exact (p8 k hk).2
      · rw [zJ_n (by decide), xo 1310 (by decide) (by decide) (by decide)]
        exact p10 k h1 h2
    · rw [if_neg q, if_neg q]
      have hH0 : 0 < H := by
        rcases Nat.eq_zero_or_pos H with z | z
        · exact absurd (by rw [z]; rfl) q
        · exact z
      obtain ⟨h1, h2⟩ := zph_x (N := H) (pt := zI mc 1309 p) (pt' := zsh (zI mr 1616 o) c) (co := lf) (al := (zsumI (zsh (zI mr 1616 o) c) H).toInt64) (fun k hk => (p8 k hk).1) (s := (lf, zJ mc 1310 p)) (s' := (lf, zsh (zJ mr 1617 o) c)) rfl (fun k hk => (p8 k hk).2) H (Nat.le_refl H)
      have h3 : ∀ k, H ≤ k → (zph (zI mc 1309 p) lf (zsumI (zsh (zI mr 1616 o) c) H).toInt64 H (lf, zJ mc 1310 p)).2 k = zJ mc 1310 p k := fun k hk => zph_o H k hk
      generalize zph (zI mc 1309 p) lf (zsumI (zsh (zI mr 1616 o) c) H).toInt64 H (lf, zJ mc 1310 p) = U at *
      generalize zph (zsh (zI mr 1616 o) c) lf (zsumI (zsh (zI mr 1616 o) c) H).toInt64 H (lf, zsh (zJ mr 1617 o) c) = V at *
      refine ⟨?_, ?_, ?_, fun k => ?_, fun j => ?_, fun k hk => ?_, fun k h1 h2 => ?_, fun k hk => ?_, fun k a1 a2 => ?_⟩
      · rw [zJ_cn (by decide), zJ_cn (by decide), x303, y1610, p4]
      · rw [zJ_cn (by decide), zJ_cn (by decide), x304, y1611, p5]
      · rw [zJ_cn (by decide), zJ_cn (by decide), xo 305 (by decide) (by decide) (by decide), yo 1612 (by decide) (by decide) (by decide), p6]
      · rw [zJ_cn (by decide), xo 1307 (by decide) (by decide) (by decide)]
      · rw [zJ_cn (by decide), yo 1614 (by decide) (by decide) (by decide)]
      · rw [zJ_cn (by decide), zJ_cn (by decide), x1308, y1615 k (by omega)]
        exact l2 k hk
      · rw [zJ_cn (by decide), x1308]
        exact l3 k h1 h2
      · rw [zJ_ce, zJ_ce, zpat_at (by omega)]
        unfold zupJ
        rw [h1, h2 0 hH0, h2 k hk]
      · rw [zJ_ce]
        unfold zupJ
        rw [if_neg (by omega), h3 k a1]
        exact p10 k a1 a2
  obtain ⟨k3, k4, k5, k7, k14, k8, k8', k10, k10'⟩ := key
  refine ⟨(cI 300 0).trans (p0.trans (rI _ _).symm), (cI 301 0).trans (p1.trans (rI _ _).symm), (cI 302 0).trans (p2.trans (rI _ _).symm), ⟨⟨L, hL, u8⟩, H, hH, u9, fun k hk => ?_⟩, k3, k4, k5, ?_, ?_, ?_, ?_⟩
  · obtain ⟨v, v1, v2, v3⟩ := hpt k hk
    exact ⟨v, v1, v2, (rI _ _).trans v3⟩
  · rw [u8, nI_clamp (by omega)]
    exact fun k hk => ⟨(cI 1306 k).trans ((p7 k hk).1.trans (rI 1613 (4 * c + k)).symm), (k7 k).trans ((p7 k hk).2.1.trans (k14 (4 * c + k)).symm), k8 k hk⟩
  · rw [u9, nI_clamp (by omega)]
    exact fun k hk => ⟨(cI 1309 k).trans ((p8 k hk).1.trans (rI 1616 (4 * c + k)).symm), k10 k hk⟩
  · rw [u8, nI_clamp (by omega)]
    exact k8'
  · rw [u9, nI_clamp (by omega)]
    exact k10'
theorem zRpA_p (m : zM) (o c : Nat) (x : Int64) : zJ (zRpA m o c x) 1610 o c = zJ m 1610 o c + x := by
  unfold zRpA zRpH
  split
  · rw [zJ_n (by decide), zJ_cn (by decide), zJ_n (by decide), zJ_e]
  · rw [zJ_cn (by decide), zJ_cn (by decide), zJ_n (by decide), zJ_e]
theorem zPAm_q (m : zM) (p : Nat) (x : Int64) : (zPAm m p x).2.2 = m.2.2 := by
  unfold zPAm zPHm
  split <;> rfl
theorem zSq_pay {mc mr : zM} {b o c P : Nat} {x : Int64} (h : zSq mc mr b o) (hc : c < (zI mr 1606 o 0).toNatClampNeg) (h1 : zI mr 1609 o (10 * c + 5) = 1) (hP : P ≤ 1000000000000) (eP : zJ mr 1610 o c + x = lN P) : zSq (zPAm mc (zkq b c + 1) x) (zRpA mr o c x) b o := by
  have hS := h.2.2.1 c hc
  refine zSq_1 h hc zPAm_1 zRpA_1 (zSc_p hS (fun f j => zPAm_I f _ j) (zR1_G zRpA_1) (fun k _ => zRpA_I mr o c x 1609 o (10 * c + k)) (zSp_pay hS.2.2.2.2.1) ⟨⟨P, hP, (zRpA_p mr o c x).trans eP⟩, fun z => ?_⟩)
  rw [zRpA_I, h1] at z
  exact absurd z (by decide)
/-- a claim is paid up to D, on both sides -/
theorem zSq_up {mc mr : zM} {b o c P D : Nat} (h : zSq mc mr b o) (hc : c < (zI mr 1606 o 0).toNatClampNeg) (h1 : zI mr 1609 o (10 * c + 5) = 1) (hP : P ≤ 1000000000000) (eP : zJ mr 1610 o c = lN P) (hD : D ≤ 1000000000000) : zSq (zPUm mc (zkq b c + 1) (lN D)) (zRpy mr o c (lN D - lN P)) b o ∧ zF1 b c mc (zPUm mc (zkq b c + 1) (lN D)) ∧ zR1 o c mr (zRpy mr o c (lN D - lN P)) ∧ zJ (zRpy mr o c (lN D - lN P)) 1610 o c = lN (if D ≤ P then P else D) := by
  have e3 : zJ mc 303 (zkq b c + 1) 0 = lN P := (h.2.2.1 c hc).2.2.2.2.1.2.2.2.2.1.trans eP
  unfold zPUm zRpy
  rw [e3]
  by_cases q : D ≤ P
  · rw [if_pos ((pk_lLE (by omega) (by omega)).2 q), if_neg, if_pos q]
    · exact ⟨h, zF1_rf, zR1_rf, eP⟩
    · intro z
      have e : lN D - lN P ≤ 0 := by
        rw [Int64.le_iff_toInt_le, Int64.toInt_sub, pk_lT (by omega), pk_lT (by omega)]
        have : ((D : Int) - (P : Int)).bmod (2 ^ 64) = (D : Int) - P := by rw [Int.bmod_eq_of_le] <;> omega
        rw [this]
        show _ ≤ (0 : Int)
        omega
      exact absurd z (Int64.not_lt.2 e)
  · have e : lN D - lN P = lN (D - P) := lN_sub (by omega)
    rw [if_neg (fun z => q ((pk_lLE (by omega) (by omega)).1 z)), e, if_pos (by rw [show (0 : Int64) = lN 0 from rfl, pk_lLT (by omega) (by omega)]; omega), if_neg q]
    have e2 : zJ mr 1610 o c + lN (D - P) = lN D := by
      rw [eP, lN_add]
      congr 1
      omega
    exact ⟨zSq_pay h hc h1 hD e2, zPAm_1, zRpA_1, (zRpA_p mr o c _).trans e2⟩
