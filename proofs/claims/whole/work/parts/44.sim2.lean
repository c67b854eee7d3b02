/-! side by side: what follows of it, and what changes only the head -/
theorem zSq_b {mc mr : zM} {b o : Nat} (h : zSq mc mr b o) : zPb mc b := by
  have hP := zSq_P h
  have hW := zSq_W h
  obtain ⟨⟨-, -, ⟨e2, k, hk, ek⟩, -, -, ⟨e7, n, hn, en⟩, -⟩, ⟨hG, -⟩, -⟩ := h
  exact ⟨⟨n, hn, e7.trans en⟩, hG, hP, hW, k, hk, e2.trans ek⟩
theorem zRa_N {mr : zM} {o n : Nat} (hn : n ≤ 16) (en : zI mr 1606 o 0 = nI n) (hg : zRG mr o) (hk : ∀ c, c < n → zRk mr o c) : ∃ A, A ≤ 16000000 ∧ zRa mr o = lN A ∧ ∀ c M, c < n → M ≤ 1000000 → zRmo mr o c = nI M → M ≤ A := by
  unfold zRa
  rw [en, nI_clamp (by omega)]
  obtain ⟨A, h1, h2, h3⟩ := zsum_N (f := fun c => (zRmo mr o c).toInt64) (B := 1000000) n (fun i hi => by
    obtain ⟨L, M, -, hM, -, eM⟩ := zRk_N hg (hk i hi)
    exact ⟨M, hM, by rw [eM, nI_l (by omega)]⟩)
  have hb : n * 1000000 ≤ 16000000 := by omega
  refine ⟨A, by omega, h2, fun c M hc hM eM => h3 c M hc ?_ (by omega) (by omega)⟩
  show (zRmo mr o c).toInt64 = lN M
  rw [eM, nI_l (by omega)]
/-- a share, in numbers -/
def zshN (K L A : Nat) : Nat := if A = 0 then 0 else K * L / A
theorem zKL {K L : Nat} (hK : K ≤ 1000000000000) (hL : L ≤ 1000000) : K * L ≤ 1000000000000000000 := Nat.le_trans (Nat.mul_le_mul hK hL) (by decide)
theorem zshN_le {K L A : Nat} (h : L ≤ A) : zshN K L A ≤ K := by
  unfold zshN
  split
  · omega
  · rename_i q
    exact Nat.div_le_of_le_mul (by rw [Nat.mul_comm]; exact Nat.mul_le_mul_right K h)
theorem zdivN {K L A : Nat} (hK : K ≤ 1000000000000) (hL : L ≤ 1000000) (hA : A ≤ 16000000) (h0 : ¬ A = 0) : lN K * (nI L).toInt64 / lN A = lN (K * L / A) := by
  have := zKL hK hL
  rw [nI_l (by omega), lN_mul, pk_lDiv (by omega) (by omega) (by omega)]
theorem zRw_N {mr : zM} {o c K L A : Nat} (hK : K ≤ 1000000000000) (hL : L ≤ 1000000) (hA : A ≤ 16000000) (eK : zJ mr 1605 o 0 = lN K) (eL : zRle mr o c = nI L) : zRw mr o c (lN A) = lN (zshN K L A) := by
  unfold zRw zshN
  rw [eK, eL]
  by_cases q : A = 0
  · rw [if_pos (by rw [q]; rfl), if_pos q]; rfl
  · have q' : ¬ lN A = (0 : Int64) := fun z => q ((pk_lEQ (a := A) (b := 0) (by omega) (by omega)).1 z)
    rw [if_neg q', if_neg q, zdivN hK hL hA q]
theorem zbSh_N {mc : zM} {b K L A : Nat} (hK : K ≤ 1000000000000) (hL : L ≤ 1000000) (hA : A ≤ 16000000) (eK : zJ mc 0 b 0 = lN K) : zbSh mc b (nI L) (lN A) = lN (zshN K L A) := by
  unfold zbSh zshN
  rw [eK]
  by_cases q : A = 0
  · rw [if_pos (by rw [q]; decide), if_pos q]; rfl
  · rw [if_neg (fun z => q (by have := (pk_lLE (a := A) (b := 0) (by omega) (by omega)).1 z; omega)), if_neg q, zdivN hK hL hA q]
/-- numbers of a claim, a sum -/
theorem zSq_N {mc mr : zM} {b o : Nat} (h : zSq mc mr b o) : ∃ K A, 1 ≤ K ∧ K ≤ 1000000000000 ∧ A ≤ 16000000 ∧ zJ mr 1605 o 0 = lN K ∧ zRa mr o = lN A ∧ ∀ c, c < (zI mr 1606 o 0).toNatClampNeg → ∃ L M P, L ≤ M ∧ M ≤ A ∧ M ≤ 1000000 ∧ P ≤ 1000000000000 ∧ zRle mr o c = nI L ∧ zRmo mr o c = nI M ∧ zJ mr 1610 o c = lN P := by
  obtain ⟨n, hn, en, en2⟩ := zSq_n h
  obtain ⟨-, K, h1, h2, eK⟩ := h.1.1
  obtain ⟨A, hA, eA, hA2⟩ := zRa_N hn en h.2.1.2.1 (fun c hc => (h.2.2.1 c (by omega)).2.1)
  refine ⟨K, A, h1, h2, hA, eK, eA, fun c hc => ?_⟩
  obtain ⟨L, M, hLM, hM, eL, eM⟩ := zRk_N h.2.1.2.1 (h.2.2.1 c hc).2.1
  obtain ⟨P, hP, eP⟩ := (h.2.2.1 c hc).2.2.2.2.2.1
  exact ⟨L, M, P, hLM, hA2 c M (by omega) hM eM, hM, hP, eL, eM, eP⟩
theorem zSq_sh {mc mr : zM} {b o : Nat} (h : zSq mc mr b o) {c : Nat} (hc : c < (zI mr 1606 o 0).toNatClampNeg) : zbSh mc b (zI mc 106 (zkq b c) 0) (zbMa mc b) = zRw mr o c (zRa mr o) := by
  obtain ⟨K, A, -, hK, hA, eK, eA, hN⟩ := zSq_N h
  obtain ⟨L, M, P, h1, h2, h3, h4, eL, -, -⟩ := hN c hc
  rw [zSq_Ma h, eA, (h.2.2.1 c hc).2.2.1, eL, zbSh_N hK (by omega) hA (h.1.1.1.trans eK), zRw_N hK (by omega) hA eK eL]
theorem zSq_H {mc mr : zM} {b o : Nat} (h : zSq mc mr b o) : zbH mc b ↔ zRH mr o := by
  obtain ⟨n, hn, en, en2⟩ := zSq_n h
  constructor
  · intro H c hc _
    have := H c (by omega)
    rw [zSq_sh h hc, (h.2.2.1 c hc).2.2.2.2.1.2.2.2.2.1] at this
    exact this
  · intro H c hc
    by_cases q : c < (zI mr 1606 o 0).toNatClampNeg
    · rw [zSq_sh h q, (h.2.2.1 c q).2.2.2.2.1.2.2.2.2.1]
      by_cases q2 : zJ mr 1610 o c ≤ 0
      · obtain ⟨K, A, -, hK, hA, eK, eA, hN⟩ := zSq_N h
        obtain ⟨L, M, P, h1, h2, h3, h4, eL, -, eP⟩ := hN c q
        have hs := zshN_le (K := K) (L := L) (A := A) (by omega)
        rw [eP] at q2 ⊢
        rw [eA, zRw_N hK (by omega) hA eK eL, pk_lLE (by omega) (by omega)]
        have := (pk_lLE (a := P) (b := 0) (by omega) (by omega)).1 q2
        omega
      · exact H c q q2
    · obtain ⟨⟨-, e6, -⟩, -, -, -, e303, -⟩ := h.2.2.2 c (by omega) hc
      rw [e303, e6]
      unfold zbSh
      split
      · decide
      · rw [show zJ mc 0 b 0 * (0 : Int32).toInt64 = 0 from Int64.mul_zero]
        obtain ⟨K, A, -, hK, hA, eK, eA, hN⟩ := zSq_N h
        rename_i q3
        rw [zSq_Ma h, eA] at q3 ⊢
        have hA0 : ¬ A = 0 := fun z => q3 (by rw [z]; decide)
        have := pk_lDiv (a := 0) (b := A) (by omega) (by omega) (by omega)
        rw [Nat.zero_div] at this
        rw [show (0 : Int64) = lN 0 from rfl, this]
        decide
/-- shares grow when points narrow -/
theorem zRH_mono {mr mr' : zM} {o n K : Nat} (hn : n ≤ 16) (en : zI mr 1606 o 0 = nI n) (en' : zI mr' 1606 o 0 = nI n) (hK : K ≤ 1000000000000) (eK : zJ mr 1605 o 0 = lN K) (eK' : zJ mr' 1605 o 0 = lN K) (hg : zRG mr o) (hg' : zRG mr' o) (hk : ∀ c, c < n → zRk mr o c) (hk' : ∀ c, c < n → zRk mr' o c) (hP : ∀ c, c < n → zJ mr' 1610 o c = zJ mr 1610 o c ∧ ∃ P, P ≤ 1000000000000 ∧ zJ mr 1610 o c = lN P) (hL : ∀ c, c < n → ¬ zJ mr 1610 o c ≤ 0 → zRle mr o c ≤ zRle mr' o c) (hM : ∀ c, c < n → zRmo mr' o c ≤ zRmo mr o c) (H : zRH mr o) : zRH mr' o := by
  intro c hc q
  rw [en', nI_clamp (by omega)] at hc
  obtain ⟨eP', P, hP1, eP⟩ := hP c hc
  rw [eP'] at q ⊢
  have H := H c (by rw [en, nI_clamp (by omega)]; exact hc) q
  have hL := hL c hc q
  obtain ⟨A, hA, eA, hA2⟩ := zRa_N hn en hg hk
  obtain ⟨A', hA', eA', hA2'⟩ := zRa_N hn en' hg' hk'
  obtain ⟨L, M, hLM, hM1, eL, eM⟩ := zRk_N hg (hk c hc)
  obtain ⟨L', M', hLM', hM1', eL', eM'⟩ := zRk_N hg' (hk' c hc)
  rw [eP, eA, zRw_N hK (by omega) hA eK eL, pk_lLE (by omega) (by have := zshN_le (K := K) (Nat.le_trans hLM (hA2 c M hc hM1 eM)); omega)] at H
  rw [eP, eA', zRw_N hK (by omega) hA' eK' eL', pk_lLE (by omega) (by have := zshN_le (K := K) (Nat.le_trans hLM' (hA2' c M' hc hM1' eM')); omega)]
  rw [eL, eL', nI_leI (by omega) (by omega)] at hL
  have hP0 : 0 < P := by
    rw [eP] at q
    rcases Nat.eq_zero_or_pos P with z | z
    · exact absurd (by rw [z]; decide) q
    · exact z
  -- all points
  have hAA : A' ≤ A := by
    have hs : ∀ i, i ≤ n → ∀ V V', zsum (fun c => (zRmo mr o c).toInt64) i = lN V → zsum (fun c => (zRmo mr' o c).toInt64) i = lN V' → V ≤ i * 1000000 → V' ≤ i * 1000000 → V' ≤ V := by
      intro i
      induction i with
      | zero =>
        intro _ V V' _ _ h1 h2
        rw [Nat.zero_mul] at h2
        exact Nat.le_trans h2 (Nat.zero_le V)
      | succ i ih =>
        intro hi V V' e e' h1 h2
        obtain ⟨W, w1, w2, -⟩ := zsum_N (f := fun c => (zRmo mr o c).toInt64) (B := 1000000) i (fun j hj => by
          obtain ⟨L, M, -, hM, -, eM⟩ := zRk_N hg (hk j (by omega))
          exact ⟨M, hM, by rw [eM, nI_l (by omega)]⟩)
        obtain ⟨W', w1', w2', -⟩ := zsum_N (f := fun c => (zRmo mr' o c).toInt64) (B := 1000000) i (fun j hj => by
          obtain ⟨L, M, -, hM, -, eM⟩ := zRk_N hg' (hk' j (by omega))
          exact ⟨M, hM, by rw [eM, nI_l (by omega)]⟩)
        have := ih (by omega) W W' w2 w2' w1 w1'
        obtain ⟨-, m, -, hm, -, em⟩ := zRk_N hg (hk i (by omega))
        obtain ⟨-, m', -, hm', -, em'⟩ := zRk_N hg' (hk' i (by omega))
        have hmm := hM i (by omega)
        rw [em, em', nI_leI (by omega) (by omega)] at hmm
        rw [zsum, w2, em, nI_l (by omega), lN_add] at e
        rw [zsum, w2', em', nI_l (by omega), lN_add] at e'
        have e := (pk_lEQ (by omega) (by omega)).1 e
        have e' := (pk_lEQ (by omega) (by omega)).1 e'
        omega
    have e1 := eA
    have e2 := eA'
    unfold zRa at e1 e2
    rw [en, nI_clamp (by omega)] at e1
    rw [en', nI_clamp (by omega)] at e2
    obtain ⟨W, w1, w2, -⟩ := zsum_N (f := fun c => (zRmo mr o c).toInt64) (B := 1000000) n (fun j hj => by
      obtain ⟨L, M, -, hM, -, eM⟩ := zRk_N hg (hk j hj)
      exact ⟨M, hM, by rw [eM, nI_l (by omega)]⟩)
    obtain ⟨W', w1', w2', -⟩ := zsum_N (f := fun c => (zRmo mr' o c).toInt64) (B := 1000000) n (fun j hj => by
      obtain ⟨L, M, -, hM, -, eM⟩ := zRk_N hg' (hk' j hj)
      exact ⟨M, hM, by rw [eM, nI_l (by omega)]⟩)
    have a1 := (pk_lEQ (by omega) (by omega)).1 (e1.symm.trans w2)
    have a2 := (pk_lEQ (by omega) (by omega)).1 (e2.symm.trans w2')
    rw [a1, a2]
    exact hs n (Nat.le_refl n) W W' w2 w2' w1 w1'
  unfold zshN at H ⊢
  by_cases qA : A = 0
  · rw [if_pos qA] at H; omega
  rw [if_neg qA] at H
  have hL1 : 1 ≤ L := by
    rcases Nat.eq_zero_or_pos L with z | z
    · rw [z, Nat.mul_zero, Nat.zero_div] at H; omega
    · exact z
  have hA1 : 1 ≤ A' := by
    have := hA2' c M' hc hM1' eM'
    omega
  rw [if_neg (by omega)]
  have h1 : K * L ≤ K * L' := Nat.mul_le_mul_left K hL
  have h2 : K * L / A ≤ K * L' / A' := by
    have h3 : K * L / A ≤ K * L' / A := Nat.div_le_div_right h1
    have h4 : K * L' / A ≤ K * L' / A' := Nat.div_le_div_left hAA hA1
    omega
  omega
/-! what stays when only the head changes -/
/-- class: claims, purses, grids stay -/
def zcS (mc mc' : zM) : Prop := (∀ f, (100 ≤ f ∧ f ≤ 107) ∨ (300 ≤ f ∧ f ≤ 305) ∨ (1306 ≤ f ∧ f ≤ 1310) ∨ f = 200 ∨ (1201 ≤ f ∧ f ≤ 1207) → zI mc' f = zI mc f ∧ zJ mc' f = zJ mc f) ∧ mc'.2.2 = mc.2.2
/-- reference: all behind the head stays -/
def zrS (mr mr' : zM) (o : Nat) : Prop := (∀ f, (1609 ≤ f ∧ f ≤ 1624) → zI mr' f o = zI mr f o) ∧ (∀ f, (1610 ≤ f ∧ f ≤ 1617) → zJ mr' f o = zJ mr f o)
theorem zR_22 {m m' : zM} (h : m'.2.2 = m.2.2) (f a : Nat) : zR m' f a = zR m f a := by
  show m'.2.2.1 f a = m.2.2.1 f a
  rw [h]
theorem zrS_G {mr mr' : zM} {o : Nat} (h : zrS mr mr' o) : zGe mr' mr o := fun f h1 h2 => h.1 f (by omega)
theorem zrS_C {mr mr' : zM} {o : Nat} (h : zrS mr mr' o) (c : Nat) : zCe mr' mr o c := fun k h1 h2 => by rw [h.1 1609 (by omega)]
theorem zSg_S {mc mc' mr mr' : zM} {g o : Nat} (h : zSg mc mr g o) (hc : zcS mc mc') (hr : zrS mr mr' o) : zSg mc' mr' g o := by
  unfold zSg zTy zWG zwS zwN zRG at h ⊢
  rw [(hc.1 200 (by omega)).1, (hc.1 1201 (by omega)).1, (hc.1 1202 (by omega)).1, (hc.1 1203 (by omega)).1, (hc.1 1204 (by omega)).1, (hc.1 1205 (by omega)).1, (hc.1 1206 (by omega)).1, (hc.1 1207 (by omega)).1, hr.1 1618 (by omega), hr.1 1619 (by omega), hr.1 1620 (by omega), hr.1 1621 (by omega), hr.1 1622 (by omega), hr.1 1623 (by omega), hr.1 1624 (by omega)]
  exact h
theorem zSc_S {mc mc' mr mr' : zM} {q o c : Nat} (h : zSc mc mr q o c) (hc : zcS mc mc') (hr : zrS mr mr' o) : zSc mc' mr' q o c := by
  unfold zSc zSp zSd zRk zRP zRPy at h ⊢
  rw [zRle_ext (zrS_G hr) (zrS_C hr c), zRmo_ext (zrS_G hr) (zrS_C hr c)]
  rw [(hc.1 100 (by omega)).1, (hc.1 101 (by omega)).1, (hc.1 102 (by omega)).1, (hc.1 103 (by omega)).1, (hc.1 104 (by omega)).1, (hc.1 105 (by omega)).1, (hc.1 106 (by omega)).1, (hc.1 107 (by omega)).1, (hc.1 300 (by omega)).1, (hc.1 301 (by omega)).1, (hc.1 302 (by omega)).1, (hc.1 303 (by omega)).2, (hc.1 304 (by omega)).2, (hc.1 305 (by omega)).2, (hc.1 1306 (by omega)).1, (hc.1 1307 (by omega)).2, (hc.1 1308 (by omega)).2, (hc.1 1309 (by omega)).1, (hc.1 1310 (by omega)).2]
  rw [hr.1 1609 (by omega), hr.1 1613 (by omega), hr.1 1616 (by omega), hr.2 1610 (by omega), hr.2 1611 (by omega), hr.2 1612 (by omega), hr.2 1614 (by omega), hr.2 1615 (by omega), hr.2 1617 (by omega)]
  exact h
theorem zSf_S {mc mc' : zM} {q : Nat} (h : zSf mc q) (hc : zcS mc mc') : zSf mc' q := by
  unfold zSf at h ⊢
  rw [(hc.1 104 (by omega)).1, (hc.1 105 (by omega)).1, (hc.1 106 (by omega)).1, (hc.1 107 (by omega)).1, (hc.1 300 (by omega)).1, (hc.1 301 (by omega)).1, (hc.1 302 (by omega)).1, (hc.1 303 (by omega)).2, (hc.1 304 (by omega)).2, (hc.1 305 (by omega)).2, (hc.1 1308 (by omega)).2, (hc.1 1310 (by omega)).2]
  exact h
theorem zSq_S {mc mc' mr mr' : zM} {b o : Nat} (h : zSq mc mr b o) (hc : zcS mc mc') (hr : zrS mr mr' o) (hn : zI mr' 1606 o 0 = zI mr 1606 o 0) (h0 : zSh0 mc' mr' b o) : zSq mc' mr' b o := by
  refine ⟨h0, ?_, fun c h1 => ?_, fun c h1 h2 => ?_⟩
  · rw [zR_22 hc.2]; exact zSg_S h.2.1 hc hr
  · rw [hn] at h1; exact zSc_S (h.2.2.1 c h1) hc hr
  · rw [hn] at h1; exact zSf_S (h.2.2.2 c h1 h2) hc
theorem zcS_rf {mc : zM} : zcS mc mc := ⟨fun _ _ => ⟨rfl, rfl⟩, rfl⟩
theorem zrS_0 {mr : zM} {o : Nat} : zrS mr (zc0 mr o) o := ⟨fun f h => funext fun j => zc0_e (by omega), fun _ _ => rfl⟩
theorem zSh0_0 {mc mr : zM} {b o : Nat} (h : zSh0 mc mr b o) : zSh0 mc (zc0 mr o) b o := by
  have e : ∀ f, f ≠ 600 → zI (zc0 mr o) f o = zI mr f o := fun f hf => funext fun j => zc0_e hf
  unfold zSh0 at h ⊢
  rw [e 1601 (by decide), e 1602 (by decide), e 1603 (by decide), e 1604 (by decide), e 1606 (by decide), e 1607 (by decide), e 1608 (by decide)]
  exact h
theorem zSq_0 {mc mr : zM} {b o : Nat} (h : zSq mc mr b o) : zSq mc (zc0 mr o) b o := zSq_S h zcS_rf zrS_0 (zc0_e (by decide)) (zSh0_0 h.1)
theorem zRH_0 {mr : zM} {o : Nat} : zRH (zc0 mr o) o ↔ zRH mr o := (zRH_ext (zc0_g mr o) (zc0_e (by decide)).symm (fun c _ => zc0_c mr o c) rfl (fun _ _ => rfl)).symm
theorem zSm_0 {mc mr : zM} {b o : Nat} (h : zSm mc mr b o) : zSm mc (zc0 mr o) b o := ⟨zSq_0 h.1, fun z => zRH_0.2 (h.2 ((zc0_e (by decide)).symm.trans z))⟩
