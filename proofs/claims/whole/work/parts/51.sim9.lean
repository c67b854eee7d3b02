/-! calls side by side: a wave -/
theorem zWv_rel {mc mr : zM} {b o : Nat} (h : zSq mc mr b o) (H : zRH mr o) {x : Int32} {y : Nat} (hy : y ≤ 100) (ex : x = nI y) : ∀ i, i ≤ (zI mr 1606 o 0).toNatClampNeg → zSq (zbWv mc b (zbMa mc b) x i) (zRwv mr o (zRa mr o) x i) b o ∧ zFc b mc (zbWv mc b (zbMa mc b) x i) ∧ zFr o mr (zRwv mr o (zRa mr o) x i) ∧ ∀ c, c < (zI mr 1606 o 0).toNatClampNeg → ¬ zJ (zRwv mr o (zRa mr o) x i) 1610 o c ≤ 0 → zJ (zRwv mr o (zRa mr o) x i) 1610 o c ≤ zRw mr o c (zRa mr o)
  | 0, _ => ⟨h, zFc_rf, zFr_rf, H⟩
  | i + 1, hi => by
    obtain ⟨i1, i2, i3, i4⟩ := zWv_rel h H hy ex i (by omega)
    obtain ⟨n, hn, en, en2⟩ := zSq_n h
    obtain ⟨K, A, -, hK, hA, eK, eA, hN⟩ := zSq_N h
    obtain ⟨L, M, P, hLM, hMA, hM, hP, eL, -, eP⟩ := hN i (by omega)
    have e5 : zI mc 105 (zkq b i) 0 = zI mr 1609 o (10 * i + 5) := (h.2.2.1 i (by omega)).1.2.2.2.2.2
    have hw : zRw mr o i (zRa mr o) = lN (zshN K L A) := by rw [eA]; exact zRw_N hK (by omega) hA eK eL
    have hW : zshN K L A ≤ K := zshN_le (by omega)
    have hD : zshN K L A * y / 100 ≤ zshN K L A := by
      have : zshN K L A * y ≤ zshN K L A * 100 := Nat.mul_le_mul_left _ hy
      omega
    have hB : zshN K L A * y ≤ 100000000000000 := by
      have h1 : zshN K L A * y ≤ zshN K L A * 100 := Nat.mul_le_mul_left _ hy
      omega
    have due : zRw mr o i (zRa mr o) * x.toInt64 / 100 = lN (zshN K L A * y / 100) := by
      rw [hw, ex, nI_l (by omega), lN_mul, show (100 : Int64) = lN 100 from rfl, pk_lDiv (by omega) (by omega) (by omega)]
    rw [zbWv, zRwv, e5, zSq_sh h (by omega), due]
    by_cases q : zI mr 1609 o (10 * i + 5) = 1
    · rw [if_pos q, if_pos q, eP]
      have hI := zRwv_I mr o (zRa mr o) x i
      have ep : zJ (zRwv mr o (zRa mr o) x i) 1610 o i = lN P := (zRwv_p mr o (zRa mr o) x i i (Nat.le_refl i)).trans eP
      obtain ⟨g1, g2, g3, g4⟩ := zSq_up i1 (c := i) (by rw [hI]; omega) ((hI _ _ _).trans q) hP ep (D := zshN K L A * y / 100) (by omega)
      refine ⟨g1, zFc_tr i2 (zF1_Fc (by omega) g2), zFr_tr i3 (zR1_Fr (by omega) g3), fun c hc z => ?_⟩
      by_cases e : c = i
      · subst e
        rw [g4] at z ⊢
        by_cases w : zshN K L A * y / 100 ≤ P
        · rw [if_pos w] at z ⊢
          have := i4 c hc
          rw [ep] at this
          exact this z
        · rw [if_neg w, hw, pk_lLE (by omega) (by omega)]
          exact hD
      · rw [zRpy_p _ _ _ _ e] at z ⊢
        exact i4 c hc z
    · rw [if_neg q, if_neg q]
      exact ⟨i1, i2, i3, i4⟩
theorem zbWv_more {mc mr : zM} {b o : Nat} (h : zSq mc mr b o) {al : Int64} {x : Int32} : ∀ i, (zI mr 1606 o 0).toNatClampNeg ≤ i → i ≤ 16 → zbWv mc b al x i = zbWv mc b al x (zI mr 1606 o 0).toNatClampNeg
  | 0, h1, _ => by rw [show (zI mr 1606 o 0).toNatClampNeg = 0 by omega]
  | i + 1, h1, h2 => by
    by_cases e : (zI mr 1606 o 0).toNatClampNeg = i + 1
    · rw [e]
    · rw [zbWv, if_neg]
      · exact zbWv_more h i (by omega) (by omega)
      · rw [(h.2.2.2 i (by omega) (by omega)).1.1]
        decide
/-- the head's count of waves, or its end -/
theorem zSq_w {mc mr : zM} {b o : Nat} (h : zSq mc mr b o) {v : Int32} : zSq (zsI mc 8 b 0 v) (zsI mr 1607 o 0 v) b o := by
  refine zSq_S h ⟨fun f hf => ⟨funext fun a => funext fun j => zI_n (by omega), rfl⟩, rfl⟩ ⟨fun f hf => funext fun j => zI_n (by omega), fun _ _ => rfl⟩ (zI_n (by decide)) ?_
  obtain ⟨s1, s2, s3, s4, s5, s6, s7, s8⟩ := h.1
  refine ⟨s1, fun j hj => ?_, ?_, ?_, ?_, ?_, ?_, ?_⟩
  · rw [zI_n (by decide), zI_n (by decide)]; exact s2 j hj
  · rw [zI_n (by decide), zI_n (by decide)]; exact s3
  · rw [zI_n (by decide), zI_n (by decide)]; exact s4
  · rw [zI_n (by decide), zI_n (by decide)]; exact s5
  · rw [zI_n (by decide), zI_n (by decide)]; exact s6
  · rw [zI_e, zI_e]
  · rw [zI_n (by decide), zI_n (by decide)]; exact s8
theorem sim_wave {mc mr : zM} {b o : Nat} (h : zSm mc mr b o) {x : Int32} {r r' : Int64} {mc' mr' : zM} (hc : zIt r mc' ((1 ≤ x ∧ x ≤ 100) ∧ zI mc 9 b 0 = 0) (zbPa (zsI (zbWv mc b (zbMa mc b) x 16) 8 b 0 (zI mc 8 b 0 + 1)) b - zbPa mc b) (zsI (zbWv mc b (zbMa mc b) x 16) 8 b 0 (zI mc 8 b 0 + 1)) (-1) mc) (hr : zIt r' mr' ((1 ≤ x ∧ x ≤ 100) ∧ zI mr 1608 o 0 = 0) (zsum (zJ (zRwv (zc0 mr o) o (zRa mr o) x (zI mr 1606 o 0).toNatClampNeg) 1610 o) (zI mr 1606 o 0).toNatClampNeg - zsum (zJ mr 1610 o) (zI mr 1606 o 0).toNatClampNeg) (zsI (zRwv (zc0 mr o) o (zRa mr o) x (zI mr 1606 o 0).toNatClampNeg) 1607 o 0 (zI mr 1607 o 0 + 1)) (-1) (zc0 mr o)) : r = r' ∧ zOK b o mc mr mc' mr' := by
  have e9 := h.1.1.2.2.2.2.2.2.2.1
  have e8 : zI mc 8 b 0 = zI mr 1607 o 0 := h.1.1.2.2.2.2.2.2.1
  refine zIt_2 (by rw [e9]) hc hr (fun p e1 e2 e3 e4 => ?_) (fun _ e1 e2 e3 e4 => ?_)
  · obtain ⟨y, hy, ey⟩ := z_in2 (x := x) 100 rfl (by omega) ⟨Int32.le_trans (by decide) p.1.1, p.1.2⟩
    have e9' : zI mr 1608 o 0 = 0 := e9.symm.trans p.2
    have h0 := zSq_0 h.1
    have hw := zWv_rel h0 (zRH_0.2 (h.2 e9')) hy ey (zI (zc0 mr o) 1606 o 0).toNatClampNeg (Nat.le_refl _)
    have hm := zbWv_more h0 (al := zbMa mc b) (x := x) 16 (by
      obtain ⟨n, hn, -, en2⟩ := zSq_n h0
      omega) (Nat.le_refl _)
    have n6 : zI (zc0 mr o) 1606 o 0 = zI mr 1606 o 0 := zc0_e (by decide)
    rw [zc0_a, n6] at hw
    rw [n6] at hm
    rw [hm, e8] at e1 e2
    have hI := zRwv_I (zc0 mr o) o (zRa mr o) x (zI mr 1606 o 0).toNatClampNeg
    have hJ5 := zRwv_J (zc0 mr o) o (zRa mr o) x (f := 1605) (by decide) (by decide) (by decide) (by decide) (by decide) (zI mr 1606 o 0).toNatClampNeg
    generalize zbWv mc b (zbMa mc b) x (zI mr 1606 o 0).toNatClampNeg = W at *
    generalize zRwv (zc0 mr o) o (zRa mr o) x (zI mr 1606 o 0).toNatClampNeg = V at *
    obtain ⟨w1, w2, w3, w4⟩ := hw
    have hf := zSq_w w1 (v := zI mr 1607 o 0 + 1)
    refine ⟨?_, ?_⟩
    · have ePa := zSq_Pa hf
      rw [zI_n (by decide), hI, n6] at ePa
      rw [e1, e3, ePa, zSq_Pa h.1]
      rfl
    · subst e2 e4
      refine ⟨⟨hf, fun _ => ?_⟩, zFc_tr w2 (zFc_sI (by omega) (by decide)), zFr_tr zFr_0 (zFr_tr w3 (zFr_sI (fun _ _ => by decide) (by decide)))⟩
      have hg : zGe (zsI V 1607 o 0 (zI mr 1607 o 0 + 1)) (zc0 mr o) o := fun f a b' => funext fun j => (zI_n (by omega)).trans (hI f o j)
      have hce : ∀ c, zCe (zsI V 1607 o 0 (zI mr 1607 o 0 + 1)) (zc0 mr o) o c := fun c k _ _ => (zI_n (by decide)).trans (hI _ _ _)
      have hn6 : zI (zsI V 1607 o 0 (zI mr 1607 o 0 + 1)) 1606 o 0 = zI (zc0 mr o) 1606 o 0 := (zI_n (by decide)).trans (hI _ _ _)
      intro c hc q
      rw [hn6, n6] at hc
      rw [zRa_ext hg hn6 (fun c _ => hce c), zc0_a, zRw_ext hg (hce c) (hJ5 o 0)]
      exact w4 c hc q
  · subst e1 e2 e3 e4
    exact ⟨rfl, zOK_0 h⟩
