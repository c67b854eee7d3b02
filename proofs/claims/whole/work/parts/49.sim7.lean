/-! calls side by side: a claim comes -/
def zRn9 (m : zM) (o n : Nat) (x1 x2 x3 x4 x5 : Int32) : zM :=
  zsJ (zsJ (zsJ (zsI (zsI (zsI (zsI (zsI (zsI (zsI (zsI (zsI (zsI m 1609 o (10 * n) x1) 1609 o (10 * n + 1) x2) 1609 o (10 * n + 2) x3) 1609 o (10 * n + 3) x4) 1609 o (10 * n + 4) x5) 1609 o (10 * n + 5) 0) 1609 o (10 * n + 6) 0) 1609 o (10 * n + 7) 0) 1609 o (10 * n + 8) 0) 1609 o (10 * n + 9) 0) 1610 o n 0) 1611 o n 0) 1612 o n 0
theorem zRnew_9 (m : zM) (o n : Nat) (x1 x2 x3 x4 x5 : Int32) : zRnew m o n x1 x2 x3 x4 x5 = zsI (zRn9 m o n x1 x2 x3 x4 x5) 1606 o 0 (nI (n + 1)) := by
  rw [nI_succ]
  rfl
theorem zRn9_1 {m : zM} {o n : Nat} {x1 x2 x3 x4 x5 : Int32} : zR1 o n m (zRn9 m o n x1 x2 x3 x4 x5) :=
  zR1_tr (zR1_9 (k := 0) (by omega)) (zR1_tr (zR1_9 (k := 1) (by omega)) (zR1_tr (zR1_9 (k := 2) (by omega)) (zR1_tr (zR1_9 (k := 3) (by omega)) (zR1_tr (zR1_9 (k := 4) (by omega)) (zR1_tr (zR1_9 (k := 5) (by omega)) (zR1_tr (zR1_9 (k := 6) (by omega)) (zR1_tr (zR1_9 (k := 7) (by omega)) (zR1_tr (zR1_9 (k := 8) (by omega)) (zR1_tr (zR1_9 (k := 9) (by omega)) (zR1_tr (zR1_J1 (by omega)) (zR1_tr (zR1_J1 (by omega)) (zR1_J1 (by omega)))))))))))))
theorem zRn9_v (m : zM) (o n : Nat) (x1 x2 x3 x4 x5 : Int32) : (zI (zRn9 m o n x1 x2 x3 x4 x5) 1609 o (10 * n) = x1 ∧ zI (zRn9 m o n x1 x2 x3 x4 x5) 1609 o (10 * n + 1) = x2 ∧ zI (zRn9 m o n x1 x2 x3 x4 x5) 1609 o (10 * n + 2) = x3 ∧ zI (zRn9 m o n x1 x2 x3 x4 x5) 1609 o (10 * n + 3) = x4 ∧ zI (zRn9 m o n x1 x2 x3 x4 x5) 1609 o (10 * n + 4) = x5) ∧ (zI (zRn9 m o n x1 x2 x3 x4 x5) 1609 o (10 * n + 5) = 0 ∧ zI (zRn9 m o n x1 x2 x3 x4 x5) 1609 o (10 * n + 7) = 0 ∧ zI (zRn9 m o n x1 x2 x3 x4 x5) 1609 o (10 * n + 8) = 0 ∧ zI (zRn9 m o n x1 x2 x3 x4 x5) 1609 o (10 * n + 9) = 0) ∧ zJ (zRn9 m o n x1 x2 x3 x4 x5) 1610 o n = 0 ∧ zJ (zRn9 m o n x1 x2 x3 x4 x5) 1611 o n = 0 ∧ zJ (zRn9 m o n x1 x2 x3 x4 x5) 1612 o n = 0 := by
  unfold zRn9
  refine ⟨⟨?_, ?_, ?_, ?_, ?_⟩, ⟨?_, ?_, ?_, ?_⟩, ?_, ?_, ?_⟩
  · rw [zI_sJ, zI_sJ, zI_sJ, zI_nj (by omega), zI_nj (by omega), zI_nj (by omega), zI_nj (by omega), zI_nj (by omega), zI_nj (by omega), zI_nj (by omega), zI_nj (by omega), zI_nj (by omega), zI_e]
  · rw [zI_sJ, zI_sJ, zI_sJ, zI_nj (by omega), zI_nj (by omega), zI_nj (by omega), zI_nj (by omega), zI_nj (by omega), zI_nj (by omega), zI_nj (by omega), zI_nj (by omega), zI_e]
  · rw [zI_sJ, zI_sJ, zI_sJ, zI_nj (by omega), zI_nj (by omega), zI_nj (by omega), zI_nj (by omega), zI_nj (by omega), zI_nj (by omega), zI_nj (by omega), zI_e]
  · rw [zI_sJ, zI_sJ, zI_sJ, zI_nj (by omega), zI_nj (by omega), zI_nj (by omega), zI_nj (by omega), zI_nj (by omega), zI_nj (by omega), zI_e]
  · rw [zI_sJ, zI_sJ, zI_sJ, zI_nj (by omega), zI_nj (by omega), zI_nj (by omega), zI_nj (by omega), zI_nj (by omega), zI_e]
  · rw [zI_sJ, zI_sJ, zI_sJ, zI_nj (by omega), zI_nj (by omega), zI_nj (by omega), zI_nj (by omega), zI_e]
  · rw [zI_sJ, zI_sJ, zI_sJ, zI_nj (by omega), zI_nj (by omega), zI_e]
  · rw [zI_sJ, zI_sJ, zI_sJ, zI_nj (by omega), zI_e]
  · rw [zI_sJ, zI_sJ, zI_sJ, zI_e]
  · rw [zJ_n (by decide), zJ_n (by decide), zJ_e]
  · rw [zJ_n (by decide), zJ_e]
  · rw [zJ_e]
theorem zBG_o (m : zM) (q : Nat) (x1 x2 x3 x4 x5 : Int32) (f j : Nat) : zI (zBG m q x1 x2 x3 x4 x5) f (q + 1) j = zI m f (q + 1) j := by
  unfold zBG
  rw [zI_sI, if_neg (fun z => by omega), zI_sI, if_neg (fun z => by omega), zI_sI, if_neg (fun z => by omega), zI_sI, if_neg (fun z => by omega), zI_sI, if_neg (fun z => by omega), zI_sI, if_neg (fun z => by omega)]
theorem zBG_v (m : zM) (q : Nat) (x1 x2 x3 x4 x5 : Int32) : zI (zBG m q x1 x2 x3 x4 x5) 100 q 0 = x1 ∧ zI (zBG m q x1 x2 x3 x4 x5) 101 q 0 = x2 ∧ zI (zBG m q x1 x2 x3 x4 x5) 102 q 0 = x3 ∧ zI (zBG m q x1 x2 x3 x4 x5) 103 q 0 = x4 ∧ zI (zBG m q x1 x2 x3 x4 x5) 104 q 0 = x5 ∧ zI (zBG m q x1 x2 x3 x4 x5) 105 q 0 = 0 := by
  unfold zBG
  refine ⟨?_, ?_, ?_, ?_, ?_, ?_⟩
  · rw [zI_n (by decide), zI_n (by decide), zI_n (by decide), zI_n (by decide), zI_n (by decide), zI_e]
  · rw [zI_n (by decide), zI_n (by decide), zI_n (by decide), zI_n (by decide), zI_e]
  · rw [zI_n (by decide), zI_n (by decide), zI_n (by decide), zI_e]
  · rw [zI_n (by decide), zI_n (by decide), zI_e]
  · rw [zI_n (by decide), zI_e]
  · rw [zI_e]
theorem zbH_7 {m : zM} {b : Nat} {v : Int32} : zbH (zsI m 7 b 0 v) b ↔ zbH m b := by
  unfold zbH zbSh zbMa
  simp only [zI_n (show (106 : Nat) ≠ 7 by decide), zI_n (show (107 : Nat) ≠ 7 by decide), zJ_sI]
theorem sim_claim {mc mr : zM} {b o : Nat} (h : zSm mc mr b o) {x1 x2 x3 x4 x5 r r' : Int32} {mc' mr' : zM} (hc : (((0 ≤ x1 ∧ x1 ≤ 99) ∧ zRcb x2 x3 x4 x5 ∧ zI mc 9 b 0 = 0) ∧ ((zI mc 7 b 0 = nI 16 ∧ r = -1 ∧ mc' = mc) ∨ ∃ n, n < 16 ∧ zI mc 7 b 0 = nI n ∧ zIt r mc' (zbH (zbAd mc b n x1 x2 x3 x4 x5) b) (nI n) (zsI (zbAd mc b n x1 x2 x3 x4 x5) 7 b 0 (nI (n + 1))) (-1) (zST (zbAd mc b n x1 x2 x3 x4 x5) (zkq b n) 3 0))) ∨ (¬ ((0 ≤ x1 ∧ x1 ≤ 99) ∧ zRcb x2 x3 x4 x5 ∧ zI mc 9 b 0 = 0) ∧ r = -1 ∧ mc' = mc)) (hr : ((¬ zI mr 1606 o 0 = 16 ∧ (0 ≤ x1 ∧ x1 ≤ 99) ∧ zRcb x2 x3 x4 x5 ∧ zI mr 1608 o 0 = 0) ∧ ∃ n, n < 16 ∧ zI mr 1606 o 0 = nI n ∧ zIt r' mr' (zRH (zRnew (zc0 mr o) o n x1 x2 x3 x4 x5) o) (nI n) (zRnew (zc0 mr o) o n x1 x2 x3 x4 x5) (-1) (zsI (zRnew (zc0 mr o) o n x1 x2 x3 x4 x5) 1606 o 0 (nI n))) ∨ (¬ (¬ zI mr 1606 o 0 = 16 ∧ (0 ≤ x1 ∧ x1 ≤ 99) ∧ zRcb x2 x3 x4 x5 ∧ zI mr 1608 o 0 = 0) ∧ r' = -1 ∧ mr' = zc0 mr o)) : r = r' ∧ zOK b o mc mr mc' mr' := by
  have e9 := h.1.1.2.2.2.2.2.2.2.1
  have e7 := h.1.1.2.2.2.2.2.1.1
  have no : r = -1 → mc' = mc → ¬ (¬ zI mr 1606 o 0 = 16 ∧ (0 ≤ x1 ∧ x1 ≤ 99) ∧ zRcb x2 x3 x4 x5 ∧ zI mr 1608 o 0 = 0) → r = r' ∧ zOK b o mc mr mc' mr' := fun a1 a2 a3 => by
    obtain ⟨-, a4, a5⟩ := hr.resolve_left (fun z => a3 z.1)
    subst a1 a2 a4 a5
    exact ⟨rfl, zOK_0 h⟩
  rcases hc with ⟨hP, hc⟩ | ⟨hP, a1, a2⟩
  · rcases hc with ⟨q, a1, a2⟩ | ⟨n, hn, en, hc⟩
    · exact no a1 a2 (fun z => z.1 (e7.symm.trans q))
    · rw [e7] at en
      obtain ⟨-, n', hn', en', hr⟩ := hr.resolve_right (fun z => z.1 ⟨fun y => by
        rw [en, show (16 : Int32) = nI 16 from rfl, nI_eq (by omega) (by omega)] at y
        omega, hP.1, hP.2.1, by rw [← e9]; exact hP.2.2⟩)
      rw [en, nI_eq (by omega) (by omega)] at en'
      subst en'
      have en2 : (zI mr 1606 o 0).toNatClampNeg = n := by rw [en, nI_clamp (by omega)]
      obtain ⟨a, ha, ea⟩ := z_in2 (x := x5) 63 rfl (by omega) hP.2.1.2.2.2
      rw [zRnew_9, zsI_sI] at hr
      have r9 : zR1 o n mr (zRn9 (zc0 mr o) o n x1 x2 x3 x4 x5) := zR1_tr zR1_0 zRn9_1
      obtain ⟨⟨v0, v1, v2, v3, v4⟩, ⟨v5, v7, v8, v9⟩, j0, j1, j2⟩ := zRn9_v (zc0 mr o) o n x1 x2 x3 x4 x5
      generalize zRn9 (zc0 mr o) o n x1 x2 x3 x4 x5 = R at *
      obtain ⟨g0, g1, g2, g3, g4, g5⟩ := zBG_v mc (zkq b n) x1 x2 x3 x4 x5
      have fB : zF1 b n mc (zBG mc (zkq b n) x1 x2 x3 x4 x5) := zF1_BG
      have fA : zF1 b n mc (zbAd mc b n x1 x2 x3 x4 x5) := zF1_tr fB zF1_ME
      have hfree := h.1.2.2.2 n (by omega) hn
      -- rows of the reference with another count
      have rv : ∀ v f j, f ≠ 1606 → zI (zsI R 1606 o 0 v) f o j = zI R f o j := fun v f j hf => zI_n hf
      have hGe : ∀ v, zGe (zsI R 1606 o 0 v) mr o := fun v f a b => funext fun j => (rv v f j (by omega)).trans (congrFun (zR1_G r9 f a b) j)
      have hAr : ∀ v i, i ≠ n → zAr mr (zsI R 1606 o 0 v) o i := fun v i hi => by
        obtain ⟨a1, a2, a3, a4⟩ := zR1_Ar r9 hi
        exact ⟨fun k hk => (rv v 1609 _ (by omega)).trans (a1 k hk), fun k h1 h2 => (rv v 1609 _ (by omega)).trans (a2 k h1 h2), a3, fun f h1 h2 k h3 => ⟨(rv v f _ (by omega)).trans (a4 f h1 h2 k h3).1, (a4 f h1 h2 k h3).2⟩⟩
      have hsp : ∀ v, zSp (zBG mc (zkq b n) x1 x2 x3 x4 x5) (zsI R 1606 o 0 v) (zkq b n + 1) o n := fun v => by
        obtain ⟨-, b0, b1, b2, b3, b4, b5, b8⟩ := hfree
        have o1 := fun f j => zBG_o mc (zkq b n) x1 x2 x3 x4 x5 f j
        have w8 : zI (zsI R 1606 o 0 v) 1609 o (10 * n + 8) = 0 := (rv v 1609 _ (by omega)).trans v8
        have w9 : zI (zsI R 1606 o 0 v) 1609 o (10 * n + 9) = 0 := (rv v 1609 _ (by omega)).trans v9
        refine ⟨(o1 300 0).trans (b0.trans ((rv v 1609 _ (by omega)).trans v7).symm), (o1 301 0).trans (b1.trans w8.symm), (o1 302 0).trans (b2.trans w9.symm), ⟨⟨0, by omega, w8⟩, 0, by omega, w9, fun k hk => by omega⟩, b3.trans j0.symm, b4.trans j1.symm, b5.trans j2.symm, ?_, ?_, fun k _ h2 => (b8 k h2).1, fun k _ h2 => (b8 k h2).2⟩
        · rw [w8]
          intro k hk
          exact absurd hk (Nat.not_lt_zero k)
        · rw [w9]
          intro k hk
          exact absurd hk (Nat.not_lt_zero k)
      have hsc : ∀ v, zSc (zbAd mc b n x1 x2 x3 x4 x5) (zsI R 1606 o 0 v) (zkq b n) o n := fun v => by
        have u : ∀ k, zI (zsI R 1606 o 0 v) 1609 o k = zI R 1609 o k := fun k => rv v 1609 k (by omega)
        exact zSc_ME (zSg_y h.1.2.1 fB.2.2 (hGe v)) ⟨g0.trans (v0.symm.trans (u _).symm), g1.trans (v1.symm.trans (u _).symm), g2.trans (v2.symm.trans (u _).symm), g3.trans (v3.symm.trans (u _).symm), g4.trans (v4.symm.trans (u _).symm)⟩ g5 ((u _).trans v5) ⟨a, by omega, (u _).trans (v4.trans ea)⟩ (hsp v) ⟨⟨0, by omega, j0⟩, fun _ => j0⟩
      generalize zbAd mc b n x1 x2 x3 x4 x5 = M at *
      have s1601 : ∀ v f, 1601 ≤ f → f ≤ 1608 → f ≠ 1606 → ∀ j, zI (zsI R 1606 o 0 v) f o j = zI mr f o j ∧ zJ (zsI R 1606 o 0 v) f o j = zJ mr f o j := fun v f h1 h2 h3 j => by
        have := r9 f j (by omega) (by omega) (by omega) (by omega) (by omega)
        exact ⟨(rv v f j h3).trans this.1, this.2⟩
      -- success
      have hq1 : zSq (zsI M 7 b 0 (nI (n + 1))) (zsI R 1606 o 0 (nI (n + 1))) b o := by
        have c7 : ∀ f, f ≠ 7 → ∀ j, zI (zsI M 7 b 0 (nI (n + 1))) f b j = zI mc f b j := fun f hf j => (zI_n hf).trans (fA.2.1 f b j (by omega)).1
        have cJ : ∀ f j, zJ (zsI M 7 b 0 (nI (n + 1))) f b j = zJ mc f b j := fun f j => (fA.2.1 f b j (by omega)).2
        have aq : ∀ i, i ≠ n → zAq mc (zsI M 7 b 0 (nI (n + 1))) (zkq b i) := fun i hi f j => by
          obtain ⟨a1, a2⟩ := zF1_Aq fA hi f j
          refine ⟨⟨?_, a1.2⟩, ?_, a2.2⟩
          · rw [zI_sI, if_neg (fun z => by simp only [zkq] at z; omega)]; exact a1.1
          · rw [zI_sI, if_neg (fun z => by simp only [zkq] at z; omega)]; exact a2.1
        have n1 : (zI (zsI R 1606 o 0 (nI (n + 1))) 1606 o 0).toNatClampNeg = n + 1 := by rw [zI_e, nI_clamp (by omega)]
        refine ⟨?_, ?_, fun i hi => ?_, fun i hi hi2 => ?_⟩
        · obtain ⟨⟨s1, K, s1a, s1b, s1c⟩, s2, ⟨s3, k, s3a, s3b⟩, s4, s5, s6, s7, s8, s8'⟩ := h.1.1
          have w := s1601 (nI (n + 1))
          refine ⟨⟨(cJ 0 0).trans (s1.trans (w 1605 (by omega) (by omega) (by omega) 0).2.symm), K, s1a, s1b, (w 1605 (by omega) (by omega) (by omega) 0).2.trans s1c⟩, fun j hj => (c7 1001 (by omega) j).trans ((s2 j hj).trans (w 1601 (by omega) (by omega) (by omega) j).1.symm), ⟨(c7 2 (by omega) 0).trans (s3.trans (w 1602 (by omega) (by omega) (by omega) 0).1.symm), k, s3a, (w 1602 (by omega) (by omega) (by omega) 0).1.trans s3b⟩, (c7 4 (by omega) 0).trans (s4.trans (w 1603 (by omega) (by omega) (by omega) 0).1.symm), (c7 5 (by omega) 0).trans (s5.trans (w 1604 (by omega) (by omega) (by omega) 0).1.symm), ⟨by rw [zI_e, zI_e], n + 1, by omega, zI_e⟩, (c7 8 (by omega) 0).trans (s7.trans (w 1607 (by omega) (by omega) (by omega) 0).1.symm), (c7 9 (by omega) 0).trans (s8.trans (w 1608 (by omega) (by omega) (by omega) 0).1.symm), ?_⟩
          rw [(w 1608 (by omega) (by omega) (by omega) 0).1]
          exact s8'
        · rw [show zR (zsI M 7 b 0 (nI (n + 1))) 3 b = zR mc 3 b from zR_22 fA.1 3 b]
          exact zSg_y h.1.2.1 (fun f hf => by rw [← fA.2.2 f hf]; exact funext fun x => funext fun j => zI_n (by omega)) (hGe _)
        · rw [n1] at hi
          by_cases e : i = n
          · subst e
            refine zSc_x (hsc (nI (i + 1))) (fun f j => ⟨⟨?_, rfl⟩, ?_, rfl⟩) (fun _ _ _ => rfl) ⟨fun _ _ => rfl, fun _ _ _ => rfl, fun _ _ _ => rfl, fun _ _ _ _ _ => ⟨rfl, rfl⟩⟩
            · rw [zI_sI, if_neg (fun z => by simp only [zkq] at z; omega)]
            · rw [zI_sI, if_neg (fun z => by simp only [zkq] at z; omega)]
          · exact zSc_x (h.1.2.2.1 i (by omega)) (aq i e) (hGe _) (hAr _ i e)
        · rw [n1] at hi
          exact zSf_x (h.1.2.2.2 i (by omega) hi2) (aq i (by omega))
      have frR : ∀ v, zFr o mr (zsI R 1606 o 0 v) := fun v => zFr_tr (zR1_Fr hn r9) (zFr_sI (fun _ _ => by decide) (by decide))
      refine zIt_2 (zbH_7.symm.trans (zSq_H hq1)) hc hr (fun p e1 e2 e3 e4 => ?_) (fun _ e1 e2 e3 e4 => ?_)
      · subst e1 e2 e3 e4
        exact ⟨rfl, ⟨hq1, fun _ => (zSq_H hq1).1 (zbH_7.2 p)⟩, zFc_tr (zF1_Fc hn fA) (zFc_sI (by omega) (by decide)), frR _⟩
      · subst e1 e2 e3 e4
        have fT : zF1 b n mc (zST M (zkq b n) 3 0) := zF1_tr fA zF1_ST
        have n1 : (zI (zsI R 1606 o 0 (nI n)) 1606 o 0).toNatClampNeg = n := by rw [zI_e, nI_clamp (by omega)]
        have s16 : ∀ f, 1601 ≤ f → f ≤ 1608 → ∀ j, zI (zsI R 1606 o 0 (nI n)) f o j = zI mr f o j ∧ zJ (zsI R 1606 o 0 (nI n)) f o j = zJ mr f o j := fun f h1 h2 j => by
          by_cases e : f = 1606
          · subst e
            refine ⟨?_, (r9 1606 j (by omega) (by omega) (by omega) (by omega) (by omega)).2⟩
            rw [zI_sI]
            split
            · rename_i z
              rw [z.2.2]
              exact en.symm
            · exact (r9 1606 j (by omega) (by omega) (by omega) (by omega) (by omega)).1
          · exact s1601 _ f h1 h2 e j
        refine ⟨rfl, ⟨⟨zSh0_x h.1.1 (fun f j => fT.2.1 f b j (by omega)) s16, ?_, fun i hi => ?_, fun i hi hi2 => ?_⟩, fun z => ?_⟩, zF1_Fc hn fT, frR _⟩
        · rw [zR_22 fT.1]
          exact zSg_y h.1.2.1 fT.2.2 (hGe _)
        · rw [n1] at hi
          exact zSc_x (h.1.2.2.1 i (by omega)) (zF1_Aq fT (by omega)) (hGe _) (hAr _ i (by omega))
        · rw [n1] at hi
          by_cases e : i = n
          · subst e
            have hM := hsc 0
            refine ⟨⟨?_, ?_, ?_, a, by omega, ?_⟩, ?_⟩
            · unfold zST
              rw [zI_n (by decide), zI_n (by decide), zI_e]
            · unfold zST
              rw [zI_n (by decide), zI_e]
            · unfold zST
              rw [zI_e]
            · unfold zST
              rw [zI_n (by decide), zI_n (by decide), zI_n (by decide), hM.1.2.2.2.2.1, rv 0 1609 _ (by omega), v4]
              exact ea
            · have hp := hM.2.2.2.2.1
              have o1 := fun f j => zST_o M (zkq b i) 3 0 f j
              obtain ⟨p0, p1, p2, p3, p4, p5, p6, p7, p8, p9, p10⟩ := hp
              have w8 : zI (zsI R 1606 o 0 0) 1609 o (10 * i + 8) = 0 := (rv 0 1609 _ (by omega)).trans v8
              have w9 : zI (zsI R 1606 o 0 0) 1609 o (10 * i + 9) = 0 := (rv 0 1609 _ (by omega)).trans v9
              refine ⟨(o1 300 0).trans (p0.trans ((rv 0 1609 _ (by omega)).trans v7)), (o1 301 0).trans (p1.trans w8), (o1 302 0).trans (p2.trans w9), p4.trans j0, p5.trans j1, p6.trans j2, fun k hk => ⟨p9 k (by rw [w8]; exact Nat.zero_le k) hk, p10 k (by rw [w9]; exact Nat.zero_le k) hk⟩⟩
          · exact zSf_x (h.1.2.2.2 i (by omega) hi2) (zF1_Aq fT e)
        · rw [(s16 1608 (by omega) (by omega) 0).1] at z
          refine (zRH_ext (m := mr) (fun f a b => (hGe _ f a b).symm) (s16 1606 (by omega) (by omega) 0).1.symm (fun c hc k h1 h2 => ((hAr _ c (by omega)).1 k (by omega)).symm) (s16 1605 (by omega) (by omega) 0).2.symm (fun c hc => ((hAr _ c (by omega)).2.2.1 1610 (by omega) (by omega)).symm)).1 (h.2 z)
  · exact no a1 a2 (fun z => hP ⟨z.2.1, z.2.2.1, by rw [e9]; exact z.2.2.2⟩)
