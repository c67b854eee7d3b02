/-! calls side by side: the end -/
def zsN (f : Nat → Nat) : Nat → Nat
  | 0 => 0
  | n + 1 => zsN f n + f n
theorem zsum_zsN {g : Nat → Int64} {f : Nat → Nat} : ∀ n, (∀ i, i < n → g i = lN (f i)) → zsum g n = lN (zsN f n)
  | 0, _ => rfl
  | n + 1, h => by rw [zsum, zsum_zsN n (fun i hi => h i (by omega)), h n (by omega), lN_add]; rfl
theorem zsN_le {f : Nat → Nat} {B : Nat} : ∀ n, (∀ i, i < n → f i ≤ B) → zsN f n ≤ n * B
  | 0, _ => Nat.zero_le _
  | n + 1, h => by
    have := zsN_le n (fun i hi => h i (by omega))
    have := h n (by omega)
    rw [zsN, Nat.succ_mul]
    omega
theorem zsN_in {f : Nat → Nat} : ∀ n i, i < n → f i ≤ zsN f n
  | 0, i, h => by omega
  | n + 1, i, h => by
    rw [zsN]
    by_cases e : i = n
    · subst e; omega
    · have := zsN_in (f := f) n i (by omega)
      omega
theorem zsN_up {f : Nat → Nat} {i : Nat} : ∀ n, i ≤ n → zsN f i ≤ zsN f n
  | 0, h => by rw [show i = 0 by omega]; exact Nat.le_refl _
  | n + 1, h => by
    by_cases e : i = n + 1
    · rw [e]; exact Nat.le_refl _
    · have := zsN_up (f := f) (i := i) n (by omega)
      rw [zsN]
      omega
theorem zsN_div {K A : Nat} {P : Nat → Nat} : ∀ n, zsN (fun c => K * P c / A) n * A + zsN (fun c => K * P c % A) n = K * zsN P n
  | 0 => by simp [zsN]
  | n + 1 => by
    have ih := zsN_div (K := K) (A := A) (P := P) n
    have h := Nat.div_add_mod (K * P n) A
    rw [Nat.mul_comm A] at h
    rw [zsN, zsN, zsN, Nat.add_mul, Nat.mul_add]
    omega
theorem zsN_cb {A : Nat} {f : Nat → Nat} {p : Nat → Bool} (hp : ∀ i, f i ≤ A ∧ (p i = false → f i = 0)) : ∀ n, zsN f n ≤ zcb p n * A
  | 0 => Nat.zero_le _
  | n + 1 => by
    have ih := zsN_cb hp n
    obtain ⟨h1, h2⟩ := hp n
    rw [zsN, zcb]
    cases e : p n with
    | false =>
      rw [if_neg (by decide), h2 e]
      exact ih
    | true =>
      rw [if_pos rfl, Nat.succ_mul]
      omega
/-- bits -/
def zbit (x : Int32) (i : Nat) : Bool := x.toBitVec.getLsbD i
theorem zbit_sl : ∀ n, n < 16 → ((nI n &&& 31).toBitVec.smod 32).toNat = n := by decide
theorem zbit_0 {x : Int32} {i : Nat} (hi : i < 16) : ((x >>> (nI i &&& 31)) &&& 1) = 0 ↔ zbit x i = false := by
  have e : (x >>> (nI i &&& 31)).toBitVec.getLsbD 0 = zbit x i := by
    show (x.toBitVec.sshiftRight ((nI i &&& 31).toBitVec.smod 32).toNat).getLsbD 0 = _
    rw [zbit_sl i hi, BitVec.getLsbD_sshiftRight]
    simp [zbit]
    intro h
    omega
  rw [← e, pk_and (x >>> (nI i &&& 31)) (m := 1) 1 (by decide), BitVec.getLsbD, Nat.testBit_zero]
  have h2 : (x >>> (nI i &&& 31)).toBitVec.toNat % 2 ^ 1 < 2 := Nat.mod_lt _ (by decide)
  rw [show (0 : Int32) = nI 0 from rfl, nI_eq (by omega) (by omega), decide_eq_false_iff_not]
  omega
theorem zbit_or (x y : Int32) (i : Nat) : zbit (x ||| y) i = (zbit x i || zbit y i) := by
  unfold zbit
  rw [Int32.toBitVec_or, BitVec.getLsbD_or]
theorem zbit_1 : ∀ j, j < 16 → ∀ i, i < 16 → zbit ((1 : Int32) <<< (nI j &&& 31)) i = decide (i = j) := by decide +kernel
theorem zSq_48 {mc mr : zM} {b o j : Nat} {v : Int64} (h : zSq mc mr b o) : zSq mc (zsJ mr 1648 o j v) b o := by
  refine zSq_S h zcS_rf ⟨fun _ _ => rfl, fun f hf => funext fun j => zJ_n (by omega)⟩ rfl ?_
  obtain ⟨⟨s1, K, k1, k2, k3⟩, s2, s3, s4, s5, s6, s7, s8⟩ := h.1
  exact ⟨⟨s1.trans (zJ_n (by decide)).symm, K, k1, k2, (zJ_n (by decide)).trans k3⟩, s2, s3, s4, s5, s6, s7, s8⟩
theorem zFr_48 {mr : zM} {o j : Nat} {v : Int64} : zFr o mr (zsJ mr 1648 o j v) := zFr_sJ (fun _ h => by omega)
def zDu (K A : Nat) (P : Nat → Nat) : Nat → Nat := fun c => K * P c / A
def zRs (K A : Nat) (P : Nat → Nat) : Nat → Nat := fun c => K * P c % A
/-- what is known when the end comes -/
def zEd (mc mr : zM) (b o n K A : Nat) (P : Nat → Nat) : Prop := zSq mc mr b o ∧ (n ≤ 16 ∧ (zI mr 1606 o 0).toNatClampNeg = n) ∧ (K ≤ 1000000000000 ∧ 0 < A ∧ A ≤ 16000000 ∧ zJ mr 1605 o 0 = lN K ∧ zRa mr o = lN A ∧ A = zsN P n) ∧ ∀ c, c < n → P c ≤ 1000000 ∧ zI mc 107 (zkq b c) 0 = nI (P c) ∧ ((zI mr 1609 o (10 * c + 5) = 1 ∧ zI mr 1609 o (10 * c + 6) = nI (P c)) ∨ (zI mr 1609 o (10 * c + 5) = 2 ∧ P c = 0)) ∧ ∃ Q, Q ≤ zDu K A P c ∧ zJ mr 1610 o c = lN Q
theorem zEd_of {mc mr : zM} {b o : Nat} (h : zSq mc mr b o) (H : zRH mr o) (h0 : zcb (fun c => decide (zI mr 1609 o (10 * c + 5) = 0)) (zI mr 1606 o 0).toNatClampNeg = 0) (hA : ¬ zRa mr o = 0) : ∃ n K A P, zEd mc mr b o n K A P := by
  obtain ⟨n, hn, en, en2⟩ := zSq_n h
  obtain ⟨K, A, -, hK, hA2, eK, eA, hN⟩ := zSq_N h
  have hM : ∀ c, c < n → ∃ M, M ≤ 1000000 ∧ zRmo mr o c = nI M ∧ (zRmo mr o c).toNatClampNeg = M := fun c hc => by
    obtain ⟨L, M, P, h1, h2, h3, h4, -, eM, -⟩ := hN c (by omega)
    exact ⟨M, h3, eM, by rw [eM, nI_clamp (by omega)]⟩
  have eA2 : zRa mr o = lN (zsN (fun c => (zRmo mr o c).toNatClampNeg) n) := by
    unfold zRa
    rw [en2]
    refine zsum_zsN n (fun c hc => ?_)
    obtain ⟨M, h1, h2, h3⟩ := hM c hc
    rw [h3, h2, nI_l (by omega)]
  have hsum : zsN (fun c => (zRmo mr o c).toNatClampNeg) n ≤ n * 1000000 := zsN_le n (fun c hc => by
    obtain ⟨M, h1, h2, h3⟩ := hM c hc
    rw [h3]; exact h1)
  have hAs : A = zsN (fun c => (zRmo mr o c).toNatClampNeg) n := (pk_lEQ (by omega) (by omega)).1 (eA.symm.trans eA2)
  have hA0 : 0 < A := by
    rcases Nat.eq_zero_or_pos A with z | z
    · exact absurd (by rw [eA, z]; rfl) hA
    · exact z
  refine ⟨n, K, A, fun c => (zRmo mr o c).toNatClampNeg, h, ⟨hn, en2⟩, ⟨hK, hA0, hA2, eK, eA, hAs⟩, fun c hc => ?_⟩
  obtain ⟨M, hM1, hM2, hM3⟩ := hM c hc
  have hS := h.2.2.1 c (by omega)
  obtain ⟨L, M', Q, hLM, hMA, -, hQ, eL, eM, eQ⟩ := hN c (by omega)
  have eMM : M' = M := by
    rw [hM2, nI_eq (by omega) (by omega)] at eM
    exact eM.symm
  subst eMM
  have hst : zI mr 1609 o (10 * c + 5) = 1 ∨ zI mr 1609 o (10 * c + 5) = 2 := by
    have n0 := zcb_0 h0 c (by omega)
    have n0 := of_decide_eq_false n0
    obtain ⟨s, hs, es⟩ := hS.2.1.2.1
    rw [es] at n0 ⊢
    rcases (show s = 0 ∨ s = 1 ∨ s = 2 by omega) with rfl | rfl | rfl
    · exact absurd rfl n0
    · exact Or.inl rfl
    · exact Or.inr rfl
  show (zRmo mr o c).toNatClampNeg ≤ 1000000 ∧ zI mc 107 (zkq b c) 0 = nI (zRmo mr o c).toNatClampNeg ∧ ((zI mr 1609 o (10 * c + 5) = 1 ∧ zI mr 1609 o (10 * c + 6) = nI (zRmo mr o c).toNatClampNeg) ∨ (zI mr 1609 o (10 * c + 5) = 2 ∧ (zRmo mr o c).toNatClampNeg = 0)) ∧ ∃ Q, Q ≤ K * (zRmo mr o c).toNatClampNeg / A ∧ zJ mr 1610 o c = lN Q
  rw [hM3]
  refine ⟨hM1, hS.2.2.2.1.trans hM2, ?_, Q, ?_, eQ⟩
  · rcases hst with s1 | s2
    · refine Or.inl ⟨s1, ?_⟩
      rw [← hM2]
      unfold zRmo
      rw [s1, if_neg (by decide), if_pos rfl]
    · refine Or.inr ⟨s2, ?_⟩
      have := hM2
      unfold zRmo at this
      rw [s2, if_neg (by decide), if_neg (by decide), show (0 : Int32) = nI 0 from rfl, nI_eq (by omega) (by omega)] at this
      exact this.symm
  · rcases hst with s1 | s2
    · have hLM' : L = M' := by
        have := hM2
        unfold zRmo at this
        unfold zRle at eL
        rw [s1, if_neg (by decide), if_pos rfl] at this eL
        rw [this, nI_eq (by omega) (by omega)] at eL
        exact eL.symm
      rcases Nat.eq_zero_or_pos Q with z | z
      · rw [z]; exact Nat.zero_le _
      · have h5 := H c (by omega) (by
          rw [eQ, show (0 : Int64) = lN 0 from rfl, pk_lLE (by omega) (by omega)]
          omega)
        rw [eQ, eA, zRw_N hK (by omega) hA2 eK eL, pk_lLE (by omega) (by have := zshN_le (K := K) (L := L) (A := A) (by omega); omega)] at h5
        unfold zshN at h5
        rw [if_neg (by omega), hLM'] at h5
        exact h5
    · have := hS.2.2.2.2.2.2 s2
      rw [eQ, show (0 : Int64) = lN 0 from rfl, pk_lEQ (by omega) (by omega)] at this
      rw [this]; exact Nat.zero_le _
theorem zDu_s {n K A : Nat} {P : Nat → Nat} (hA : 0 < A) (e : A = zsN P n) : zsN (zDu K A P) n ≤ K ∧ (K - zsN (zDu K A P) n) * A = zsN (zRs K A P) n := by
  have h := zsN_div (K := K) (A := A) (P := P) n
  have h' : zsN (zDu K A P) n * A + zsN (zRs K A P) n = K * A := by
    have : zsN P n = A := e.symm
    rw [this] at h
    exact h
  have h1 : zsN (zDu K A P) n * A ≤ K * A := by omega
  have h2 := Nat.le_of_mul_le_mul_right h1 hA
  refine ⟨h2, ?_⟩
  rw [Nat.sub_mul]
  omega
theorem zbF1_more {mc mr : zM} {b o : Nat} (h : zSq mc mr b o) {al : Int64} : ∀ i, (zI mr 1606 o 0).toNatClampNeg ≤ i → i ≤ 16 → zbF1 mc b al i = zbF1 mc b al (zI mr 1606 o 0).toNatClampNeg
  | 0, h1, _ => by rw [show (zI mr 1606 o 0).toNatClampNeg = 0 by omega]
  | i + 1, h1, h2 => by
    by_cases e : (zI mr 1606 o 0).toNatClampNeg = i + 1
    · rw [e]
    · rw [zbF1, if_neg]
      · exact zbF1_more h i (by omega) (by omega)
      · rw [(h.2.2.2 i (by omega) (by omega)).1.1]
        decide
theorem zEd_1 {mc mr : zM} {b o n K A : Nat} {P : Nat → Nat} (E : zEd mc mr b o n K A P) : ∀ i, i ≤ n → zSq (zbF1 mc b (lN A) i) (zRf1 mr o (lN A) i).2 b o ∧ zFc b mc (zbF1 mc b (lN A) i) ∧ zFr o mr (zRf1 mr o (lN A) i).2 ∧ (zRf1 mr o (lN A) i).1 = lN (K - zsN (zDu K A P) i) ∧ ∀ c, c < i → zJ (zRf1 mr o (lN A) i).2 1610 o c = lN (zDu K A P c) ∧ zJ (zRf1 mr o (lN A) i).2 1648 o c = if zI mr 1609 o (10 * c + 5) = 1 then lN (zRs K A P c) else -1
  | 0, _ => ⟨E.1, zFc_rf, zFr_rf, E.2.2.1.2.2.2.1, fun c hc => absurd hc (Nat.not_lt_zero c)⟩
  | i + 1, hi => by
    obtain ⟨i1, i2, i3, i4, i5⟩ := zEd_1 E i (by omega)
    obtain ⟨h, ⟨hn, en⟩, ⟨hK, hA0, hA, eK, eA, hs⟩, hN⟩ := id E
    obtain ⟨hP, e107, hst, Q, hQ, eQ⟩ := hN i (by omega)
    have hKP := zKL hK hP
    have hle := (zDu_s (K := K) hA0 hs).1
    have hup := zsN_up (f := zDu K A P) (i := i + 1) n hi
    have hz : zsN (zDu K A P) (i + 1) = zsN (zDu K A P) i + zDu K A P i := rfl
    have hdu : zDu K A P i ≤ K := by omega
    have e5 : zI mc 105 (zkq b i) 0 = zI mr 1609 o (10 * i + 5) := (h.2.2.1 i (by omega)).1.2.2.2.2.2
    have hI := zRf1_I mr o (lN A) i
    rw [zbF1, zRf1, e5]
    rcases hst with ⟨s1, e6⟩ | ⟨s2, hP0⟩
    · rw [if_pos s1, if_pos s1, e107, e6, eK, eQ, zbSh_N hK (by omega) hA (h.1.1.1.trans eK), nI_l (by omega), lN_mul, pk_lDiv (by omega) (by omega) (by omega), lN_mul]
      have ezs : zshN K (P i) A = zDu K A P i := by
        unfold zshN
        rw [if_neg (by omega)]
        rfl
      have ediv : K * P i / A = zDu K A P i := rfl
      have erest : lN (K * P i) - lN (zDu K A P i * A) = lN (zRs K A P i) := by
        have h2 := Nat.div_add_mod (K * P i) A
        rw [Nat.mul_comm A] at h2
        have h3 : zDu K A P i * A + zRs K A P i = K * P i := h2
        rw [lN_sub (by omega)]
        congr 1
        omega
      rw [ezs, ediv, erest]
      generalize hV : (zRf1 mr o (lN A) i).2 = V at *
      have ep : zJ (zsJ (zsJ V 1648 o i (-1)) 1648 o i (lN (zRs K A P i))) 1610 o i = lN Q := by
        rw [zJ_n (by decide), zJ_n (by decide), ← hV]
        exact (zRf1_p mr o (lN A) i i (Nat.le_refl i)).trans eQ
      obtain ⟨g1, g2, g3, g4⟩ := zSq_up (zSq_48 (zSq_48 i1 (j := i) (v := -1)) (j := i) (v := lN (zRs K A P i))) (c := i) (by rw [zI_sJ, zI_sJ, hI]; omega) (by rw [zI_sJ, zI_sJ, hI]; exact s1) (by omega) ep (D := zDu K A P i) (by omega)
      refine ⟨g1, zFc_tr i2 (zF1_Fc (by omega) g2), zFr_tr i3 (zFr_tr zFr_48 (zFr_tr zFr_48 (zR1_Fr (by omega) g3))), ?_, fun c hc => ?_⟩
      · show (zRf1 mr o (lN A) i).1 - _ = _
        rw [i4, lN_sub (by omega), hz]
        congr 1
        omega
      · by_cases e : c = i
        · subst e
          refine ⟨?_, ?_⟩
          · show zJ (zRpy _ o c _) 1610 o c = _
            rw [g4]
            congr 1
            split
            · omega
            · rfl
          · show zJ (zRpy _ o c _) 1648 o c = _
            rw [zRpy_J _ _ _ _ (by decide) (by decide) (by decide) (by decide) (by decide), zJ_e, if_pos s1]
        · obtain ⟨a1, a2⟩ := i5 c (by omega)
          refine ⟨?_, ?_⟩
          · show zJ (zRpy _ o i _) 1610 o c = _
            rw [zRpy_p _ _ _ _ e, zJ_n (by decide), zJ_n (by decide)]
            exact a1
          · show zJ (zRpy _ o i _) 1648 o c = _
            rw [zRpy_J _ _ _ _ (by decide) (by decide) (by decide) (by decide) (by decide), zJ_nj e, zJ_nj e]
            exact a2
    · have hd0 : zDu K A P i = 0 := by
        show K * P i / A = 0
        rw [hP0, Nat.mul_zero, Nat.zero_div]
      rw [if_neg (by rw [s2]; decide), if_neg (by rw [s2]; decide)]
      refine ⟨zSq_48 i1, i2, zFr_tr i3 zFr_48, ?_, fun c hc => ?_⟩
      · show (zRf1 mr o (lN A) i).1 = _
        rw [i4, hz, hd0, Nat.add_zero]
      · by_cases e : c = i
        · subst e
          refine ⟨?_, ?_⟩
          · show zJ (zsJ _ 1648 o c (-1)) 1610 o c = _
            rw [zJ_n (by decide), zRf1_p mr o (lN A) c c (Nat.le_refl c), eQ, hd0]
            congr 1
            omega
          · show zJ (zsJ _ 1648 o c (-1)) 1648 o c = _
            rw [zJ_e, if_neg (by rw [s2]; decide)]
        · obtain ⟨a1, a2⟩ := i5 c (by omega)
          refine ⟨?_, ?_⟩
          · show zJ (zsJ _ 1648 o i (-1)) 1610 o c = _
            rw [zJ_n (by decide)]
            exact a1
          · show zJ (zsJ _ 1648 o i (-1)) 1648 o c = _
            rw [zJ_nj e]
            exact a2
/-- the coins left are fewer than the claims with a rest, or as many -/
theorem zEd_k {mc mr : zM} {b o n K A : Nat} {P : Nat → Nat} (E : zEd mc mr b o n K A P) : K - zsN (zDu K A P) n ≤ zcb (zRge (zRf1 mr o (lN A) n).2 o) n := by
  obtain ⟨h, ⟨hn, en⟩, ⟨hK, hA0, hA, eK, eA, hs⟩, hN⟩ := id E
  obtain ⟨-, -, -, -, i5⟩ := zEd_1 E n (Nat.le_refl n)
  have h1 := (zDu_s (K := K) hA0 hs).2
  have h2 : zcb (zRge (zRf1 mr o (lN A) n).2 o) n = zcb (fun c => decide (zI mr 1609 o (10 * c + 5) = 1)) n := zcb_ext (fun c hc => by
    unfold zRge
    rw [(i5 c hc).2]
    by_cases q : zI mr 1609 o (10 * c + 5) = 1
    · rw [if_pos q, decide_eq_true q, decide_eq_false]
      · rfl
      · have : zRs K A P c < A := Nat.mod_lt _ hA0
        rw [show (0 : Int64) = lN 0 from rfl, pk_lLT (by omega) (by omega)]
        omega
    · rw [if_neg q, decide_eq_false q]
      rfl)
  rw [h2]
  have h3 : zsN (zRs K A P) n ≤ zcb (fun c => decide (zI mr 1609 o (10 * c + 5) = 1)) n * A := by
    have h4 : zsN (zRs K A P) n = zsN (fun c => if c < n then zRs K A P c else 0) n := by
      have : ∀ m, m ≤ n → zsN (zRs K A P) m = zsN (fun c => if c < n then zRs K A P c else 0) m := by
        intro m
        induction m with
        | zero => intro _; rfl
        | succ m ih =>
          intro hm
          rw [zsN, zsN, ih (by omega), if_pos (by omega)]
      exact this n (Nat.le_refl n)
    rw [h4]
    refine zsN_cb (fun c => ⟨?_, fun z => ?_⟩) n
    · show (if c < n then zRs K A P c else 0) ≤ A
      split
      · exact Nat.le_of_lt (Nat.mod_lt _ hA0)
      · omega
    · show (if c < n then zRs K A P c else 0) = 0
      split
      · rename_i hc
        obtain ⟨-, -, hst, -⟩ := hN c hc
        rcases hst with ⟨s1, -⟩ | ⟨s2, hP0⟩
        · rw [decide_eq_true s1] at z
          exact absurd z (by decide)
        · show K * P c % A = 0
          rw [hP0, Nat.mul_zero, Nat.zero_mod]
      · rfl
  rw [← h1] at h3
  exact Nat.le_of_mul_le_mul_right h3 hA0
