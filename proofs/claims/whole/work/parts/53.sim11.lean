/-! calls side by side: the end, the coins that are left -/
/-- the standing of the rounds: c is served, or has its rest -/
def zE2 (mc mr : zM) (b o n K A k : Nat) (P : Nat → Nat) (t : Nat) (sv : Int32) (M R : zM) : Prop := zSq M R b o ∧ (∀ f a j, zI M f a j = zI mc f a j) ∧ zJ M 0 b 0 = lN K ∧ (∀ f a j, zI R f a j = zI mr f a j) ∧
  (∀ c, c < n → zJ R 1648 o c = if zI mr 1609 o (10 * c + 5) = 1 ∧ zbit sv c = false then lN (zRs K A P c) else -1) ∧
  (∀ c, c < n → zI mr 1609 o (10 * c + 5) = 1 → zbit sv c = false → zJ R 1610 o c = lN (zDu K A P c)) ∧ k - t ≤ zcb (zRge R o) n
theorem zE2_g {mc mr : zM} {b o n K A k : Nat} {P : Nat → Nat} (E : zEd mc mr b o n K A P) {t : Nat} {sv : Int32} {M R : zM} (I : zE2 mc mr b o n K A k P t sv M R) : ∀ i, i ≤ n → (zbGr M b (lN A) sv i).1 = zRbs R o i ∧ (zbGr M b (lN A) sv i).2 = if zRbs R o i = -1 then -1 else zJ R 1648 o (zRbs R o i).toNatClampNeg
  | 0, _ => ⟨rfl, rfl⟩
  | i + 1, hi => by
    obtain ⟨j1, j2⟩ := zE2_g E I i (by omega)
    obtain ⟨h, ⟨hn, en⟩, ⟨hK, hA0, hA, eK, eA, hs⟩, hN⟩ := id E
    obtain ⟨hP, e107, hst, -⟩ := hN i (by omega)
    obtain ⟨I1, I2, I3, I4, I5, I6, I7⟩ := I
    have hKP := zKL hK hP
    have e5 : zI M 105 (zkq b i) 0 = zI mr 1609 o (10 * i + 5) := (I2 _ _ _).trans (h.2.2.1 i (by omega)).1.2.2.2.2.2
    have hrest : zbRe M b (zI M 107 (zkq b i) 0) (lN A) = lN (zRs K A P i) := by
      unfold zbRe
      rw [I2, e107, I3, if_neg (by rw [show (0 : Int64) = lN 0 from rfl, pk_lLE (by omega) (by omega)]; omega), nI_l (by omega), lN_mul, pk_lDiv (by omega) (by omega) (by omega), lN_mul]
      have h2 := Nat.div_add_mod (K * P i) A
      rw [Nat.mul_comm A] at h2
      rw [lN_sub (by omega)]
      congr 1
      show K * P i - K * P i / A * A = K * P i % A
      omega
    have hrA : zRs K A P i < A := Nat.mod_lt _ hA0
    have h5 := I5 i (by omega)
    have hb := zbit_0 (x := sv) (i := i) (by omega)
    rw [zbGr, zRbs, hrest, e5, h5]
    have neg1 : ((-1 : Int64) < 0) := by decide
    by_cases q : zI mr 1609 o (10 * i + 5) = 1 ∧ zbit sv i = false
    · rw [if_pos q] at h5 ⊢
      have nn : ¬ lN (zRs K A P i) < 0 := by
        rw [show (0 : Int64) = lN 0 from rfl, pk_lLT (by omega) (by omega)]
        omega
      rw [if_neg nn, j2]
      rcases zRbs_s R o i (by omega) with ⟨e, -⟩ | ⟨j, hj, e, -⟩
      · rw [e, if_pos rfl, if_pos rfl, if_pos]
        · refine ⟨rfl, ?_⟩
          rw [if_neg (z_ne1 (by omega)), nI_clamp (by omega)]
          exact h5.symm
        · refine ⟨q.1, hb.2 q.2, fun z => nn (Int64.lt_of_le_of_lt z neg1)⟩
      · have ne : ¬ zRbs R o i = -1 := by rw [e]; exact z_ne1 (by omega)
        rw [if_neg ne, if_neg ne]
        by_cases w : lN (zRs K A P i) ≤ zJ R 1648 o (zRbs R o i).toNatClampNeg
        · rw [if_neg (fun z => z.2.2 w), if_pos w, if_neg ne]
          refine ⟨j1, ?_⟩
          rw [j2, if_neg ne]
        · rw [if_pos ⟨q.1, hb.2 q.2, w⟩, if_neg w]
          refine ⟨rfl, ?_⟩
          rw [if_neg (z_ne1 (by omega)), nI_clamp (by omega)]
          exact h5.symm
    · rw [if_neg q] at h5 ⊢
      rw [if_pos neg1, if_neg (fun z => q ⟨z.1, hb.1 z.2.1⟩)]
      exact ⟨j1, j2⟩
theorem zbGr_more {M R : zM} {b o : Nat} (h : zSq M R b o) {al : Int64} {sv : Int32} : ∀ i, (zI R 1606 o 0).toNatClampNeg ≤ i → i ≤ 16 → zbGr M b al sv i = zbGr M b al sv (zI R 1606 o 0).toNatClampNeg
  | 0, h1, _ => by rw [show (zI R 1606 o 0).toNatClampNeg = 0 by omega]
  | i + 1, h1, h2 => by
    by_cases e : (zI R 1606 o 0).toNatClampNeg = i + 1
    · rw [e]
    · rw [zbGr, if_neg]
      · exact zbGr_more h i (by omega) (by omega)
      · rw [(h.2.2.2 i (by omega) (by omega)).1.1]
        exact fun z => absurd z.1 (by decide)
theorem zE2_r {mc mr : zM} {b o n K A k : Nat} {P : Nat → Nat} (E : zEd mc mr b o n K A P) (hk : k ≤ 16) (hkK : k ≤ K - zsN (zDu K A P) n) : ∀ d t sv M R, t + d = k → zE2 mc mr b o n K A k P t sv M R → zSq (zbPr b (lN A) (lN k) (16 - t) (nI t) sv M) (zRf2 o n d R) b o ∧ zFc b M (zbPr b (lN A) (lN k) (16 - t) (nI t) sv M) ∧ zFr o R (zRf2 o n d R) ∧ (∀ f a j, zI (zRf2 o n d R) f a j = zI R f a j)
  | 0, t, sv, M, R, ht, I => by
    have e : zbPr b (lN A) (lN k) (16 - t) (nI t) sv M = M := by
      cases hd : 16 - t with
      | zero => rfl
      | succ d =>
        rw [zbPr, if_pos (Or.inl ?_)]
        rw [nI_l (by omega), show t = k by omega]
        exact Int64.le_refl _
    rw [e]
    exact ⟨I.1, zFc_rf, zFr_rf, fun _ _ _ => rfl⟩
  | d + 1, t, sv, M, R, ht, I => by
    obtain ⟨h, ⟨hn, en⟩, ⟨hK, hA0, hA, eK, eA, hs⟩, hN⟩ := id E
    obtain ⟨I1, I2, I3, I4, I5, I6, I7⟩ := id I
    have hle := (zDu_s (K := K) hA0 hs).1
    have hg := (zE2_g E I n (Nat.le_refl n)).1
    have nR : (zI R 1606 o 0).toNatClampNeg = n := by rw [I4]; exact en
    have hm := zbGr_more I1 (al := lN A) (sv := sv) 16 (by omega) (Nat.le_refl _)
    rw [nR] at hm
    rcases zRbs_s R o n hn with ⟨-, z⟩ | ⟨j, hj, ej, hge⟩
    · omega
    have h5 := I5 j hj
    have hju : zI mr 1609 o (10 * j + 5) = 1 ∧ zbit sv j = false := by
      refine Decidable.byContradiction fun q => ?_
      rw [if_neg q] at h5
      unfold zRge at hge
      rw [h5] at hge
      exact absurd hge (by decide)
    rw [if_pos hju] at h5
    have hDj : zDu K A P j + 1 ≤ K := by
      have := zsN_in (f := zDu K A P) n j hj
      omega
    rw [show 16 - t = (16 - (t + 1)) + 1 by omega, zbPr, hm, hg, ej, if_neg, nI_clamp (by omega), ← nI_succ]
    · rw [zRf2, ej, nI_clamp (by omega)]
      have epy : zRpy R o j 1 = zRpA R o j 1 := by
        unfold zRpy
        rw [if_pos (by decide)]
      rw [epy]
      have hp := zSq_pay I1 (c := j) (x := 1) (P := zDu K A P j + 1) (by omega) ((I4 _ _ _).trans hju.1) (by omega) (by
        rw [I6 j hj hju.1 hju.2, show (1 : Int64) = lN 1 from rfl, lN_add])
      have hI' : ∀ f a j', zI (zsJ (zRpA R o j 1) 1648 o j (-1)) f a j' = zI R f a j' := fun f a j' => by rw [zI_sJ, zRpA_I]
      have hbit : ∀ c, c < n → zbit (sv ||| (1 <<< (nI j &&& 31))) c = (zbit sv c || decide (c = j)) := fun c hc => by rw [zbit_or, zbit_1 j (by omega) c (by omega)]
      have I' : zE2 mc mr b o n K A k P (t + 1) (sv ||| (1 <<< (nI j &&& 31))) (zPAm M (zkq b j + 1) 1) (zsJ (zRpA R o j 1) 1648 o j (-1)) := by
        refine ⟨zSq_48 hp, fun f a j' => (zPAm_I f a j').trans (I2 f a j'), ?_, fun f a j' => (hI' f a j').trans (I4 f a j'), fun c hc => ?_, fun c hc s1 sb => ?_, ?_⟩
        · rw [zPAm_J (by decide) (by decide) (by decide) (by decide) (by decide)]
          exact I3
        · rw [hbit c hc]
          by_cases e : c = j
          · subst e
            rw [zJ_e, if_neg (fun z => by simp at z)]
          · have e2 : zJ (zRpA R o j 1) 1648 o c = zJ R 1648 o c := by
              rw [← epy]
              exact zRpy_J _ _ _ _ (by decide) (by decide) (by decide) (by decide) (by decide) o c
            rw [zJ_nj e, e2, I5 c hc, decide_eq_false e, Bool.or_false]
        · rw [hbit c hc] at sb
          have sb2 : zbit sv c = false ∧ c ≠ j := by
            cases hb : zbit sv c with
            | true => rw [hb] at sb; exact absurd sb (by simp)
            | false =>
              refine ⟨rfl, fun z => ?_⟩
              rw [hb, decide_eq_true z] at sb
              exact absurd sb (by decide)
          rw [zJ_n (by decide), ← epy, zRpy_p _ _ _ _ sb2.2]
          exact I6 c hc s1 sb2.1
        · have hl : zcb (zRge R o) n ≤ zcb (zRge (zsJ (zRpA R o j 1) 1648 o j (-1)) o) n + 1 := by
            refine zcb_less (j := j) n (fun i hij => ?_)
            unfold zRge
            rw [zJ_nj hij, ← epy, zRpy_J _ _ _ _ (by decide) (by decide) (by decide) (by decide) (by decide)]
          omega
      obtain ⟨g1, g2, g3, g4⟩ := zE2_r E hk hkK d (t + 1) _ _ _ (by omega) I'
      exact ⟨g1, zFc_tr (zF1_Fc (by omega) zPAm_1) g2, zFr_tr (zFr_tr (zR1_Fr (by omega) zRpA_1) zFr_48) g3, fun f a j' => (g4 f a j').trans (hI' f a j')⟩
    · rintro (z | z | z)
      · rw [nI_l (by omega), pk_lLE (by omega) (by omega)] at z
        omega
      · exact nI_pos (by omega) z
      · exact z (by rw [show (16 : Int32) = nI 16 from rfl, nI_ltI (by omega) (by omega)]; omega)
/-- what the reference's end wants -/
theorem zFk_of {mc mr : zM} {b o : Nat} (h : zSm mc mr b o) (hc : zRfc mr o) : zRfk (zc0 mr o) o := by
  have h0 := zSm_0 h
  have n6 : zI (zc0 mr o) 1606 o 0 = zI mr 1606 o 0 := zc0_e (by decide)
  have e5 : ∀ c, zI (zc0 mr o) 1609 o (10 * c + 5) = zI mr 1609 o (10 * c + 5) := fun c => zc0_9 mr o _
  obtain ⟨n, K, A, P, E⟩ := zEd_of h0.1 (h0.2 ((zc0_e (by decide)).trans hc.1)) (by
    rw [n6]
    refine Eq.trans ?_ hc.2.2
    exact zcb_ext (fun c _ => by rw [e5])) (by rw [zc0_a]; exact hc.2.1)
  have hk := zEd_k E
  obtain ⟨-, -, -, i4, -⟩ := zEd_1 E n (Nat.le_refl n)
  have hle := zcb_le (zRge (zRf1 (zc0 mr o) o (lN A) n).2 o) n
  have hn := E.2.1
  unfold zRfk
  rw [hn.2, E.2.2.1.2.2.2.2.1]
  exact ⟨_, by omega, i4, hk⟩
theorem zSq_9 {mc mr : zM} {b o : Nat} (h : zSq mc mr b o) : zSq (zsI mc 9 b 0 1) (zsI mr 1608 o 0 1) b o := by
  refine zSq_S h ⟨fun f hf => ⟨funext fun a => funext fun j => zI_n (by omega), rfl⟩, rfl⟩ ⟨fun f hf => funext fun j => zI_n (by omega), fun _ _ => rfl⟩ (zI_n (by decide)) ?_
  obtain ⟨s1, s2, s3, s4, s5, s6, s7, s8⟩ := h.1
  refine ⟨s1, fun j hj => ?_, ?_, ?_, ?_, ?_, ?_, ?_⟩
  · rw [zI_n (by decide), zI_n (by decide)]; exact s2 j hj
  · rw [zI_n (by decide), zI_n (by decide)]; exact s3
  · rw [zI_n (by decide), zI_n (by decide)]; exact s4
  · rw [zI_n (by decide), zI_n (by decide)]; exact s5
  · rw [zI_n (by decide), zI_n (by decide)]; exact s6
  · rw [zI_n (by decide), zI_n (by decide)]; exact s7
  · rw [zI_e, zI_e]; exact ⟨rfl, Or.inr rfl⟩
theorem sim_finish {mc mr : zM} {b o : Nat} (h : zSm mc mr b o) {r r' : Int64} {mc' mr' : zM} (hc : ((zI mc 9 b 0 = 0 ∧ zcb (fun c => decide (zI mc 105 (zkq b c) 0 = 0)) 16 = 0) ∧ zIt r mc' (zbMa mc b = 0) (-1) mc (zbPa (zbFi mc b) b - zbPa mc b) (zbFi mc b)) ∨ (¬ (zI mc 9 b 0 = 0 ∧ zcb (fun c => decide (zI mc 105 (zkq b c) 0 = 0)) 16 = 0) ∧ r = -1 ∧ mc' = mc)) (hr : (zRfc mr o ∧ ∃ k, k < 2 ^ 31 ∧ (zRf1 (zc0 mr o) o (zRa (zc0 mr o) o) (zI (zc0 mr o) 1606 o 0).toNatClampNeg).1 = lN k ∧ mr' = zRfm (zc0 mr o) o k ∧ r' = zsum (zJ mr' 1610 o) (zI mr 1606 o 0).toNatClampNeg - zsum (zJ mr 1610 o) (zI mr 1606 o 0).toNatClampNeg) ∨ (¬ zRfc mr o ∧ r' = -1 ∧ mr' = zc0 mr o)) : r = r' ∧ zOK b o mc mr mc' mr' := by
  have e9 : zI mc 9 b 0 = zI mr 1608 o 0 := h.1.1.2.2.2.2.2.2.2.1
  have est : zcb (fun c => decide (zI mc 105 (zkq b c) 0 = 0)) 16 = zcb (fun c => decide (zI mr 1609 o (10 * c + 5) = 0)) (zI mr 1606 o 0).toNatClampNeg := zSq_st h.1 (s := 0) (by omega)
  have no : r = -1 → mc' = mc → ¬ zRfc mr o → r = r' ∧ zOK b o mc mr mc' mr' := fun a1 a2 a3 => by
    obtain ⟨-, a4, a5⟩ := hr.resolve_left (fun z => a3 z.1)
    subst a1 a2 a4 a5
    exact ⟨rfl, zOK_0 h⟩
  rcases hc with ⟨⟨p9, p0⟩, ⟨q, a1, a2⟩ | ⟨q, a1, a2⟩⟩ | ⟨hP, a1, a2⟩
  · exact no a1 a2 (fun z => z.2.1 ((zSq_Ma h.1).symm.trans q))
  · rw [e9] at p9
    rw [est] at p0
    rw [zSq_Ma h.1] at q
    have hF : zRfc mr o := ⟨p9, q, p0⟩
    obtain ⟨-, k', hk', ek', a4, a5⟩ := hr.resolve_right (fun z => z.1 hF)
    have h0 := zSm_0 h
    have n6 : zI (zc0 mr o) 1606 o 0 = zI mr 1606 o 0 := zc0_e (by decide)
    obtain ⟨n, K, A, P, E⟩ := zEd_of h0.1 (h0.2 ((zc0_e (by decide)).trans p9)) (by
      rw [n6]
      refine Eq.trans ?_ p0
      exact zcb_ext (fun c _ => by rw [zc0_9 mr o])) (by rw [zc0_a]; exact q)
    have hk := zEd_k E
    obtain ⟨i1, i2, i3, i4, i5⟩ := zEd_1 E n (Nat.le_refl n)
    obtain ⟨-, ⟨hn, en⟩, ⟨hK, hA0, hA, eK, eA, hs⟩, hN⟩ := id E
    have hle := zcb_le (zRge (zRf1 (zc0 mr o) o (lN A) n).2 o) n
    have en' : (zI mr 1606 o 0).toNatClampNeg = n := by rw [← n6]; exact en
    have hdu := (zDu_s (K := K) hA0 hs).1
    rw [eA, en, i4, pk_lEQ (by omega) (by omega)] at ek'
    have hII := zRf1_I (zc0 mr o) o (lN A) n
    have hmm := zbF1_more h0.1 (al := lN A) 16 (by omega) (Nat.le_refl _)
    rw [en] at hmm
    have eMa : zbMa mc b = lN A := (zSq_Ma h0.1).trans eA
    have efund : zJ mc 0 b 0 = lN K := h0.1.1.1.1.trans eK
    have hpa1 : zbPa (zbF1 mc b (lN A) n) b = lN (zsN (zDu K A P) n) := by
      rw [zSq_Pa i1, hII, n6, en']
      exact zsum_zsN n (fun c hc => (i5 c hc).1)
    have I0 : zE2 mc (zc0 mr o) b o n K A k' P 0 0 (zbF1 mc b (lN A) n) (zRf1 (zc0 mr o) o (lN A) n).2 := by
      refine ⟨i1, fun f a j => zbF1_I mc b (lN A) f a j n, ?_, hII, fun c hc => ?_, fun c hc _ _ => (i5 c hc).1, by omega⟩
      · rw [zbF1_J]; exact efund
      · have z0 : zbit 0 c = false := by
          unfold zbit
          simp
        rw [(i5 c hc).2, z0]
        by_cases w : zI (zc0 mr o) 1609 o (10 * c + 5) = 1
        · rw [if_pos w, if_pos ⟨w, rfl⟩]
        · rw [if_neg w, if_neg (fun z => w z.1)]
    obtain ⟨g1, g2, g3, g4⟩ := zE2_r E (k := k') (by omega) (by omega) k' 0 0 _ _ (by omega) I0
    have eFi : zbFi mc b = zsI (zbPr b (lN A) (lN k') 16 0 0 (zbF1 mc b (lN A) n)) 9 b 0 1 := by
      unfold zbFi
      rw [eMa, hmm, hpa1, efund, lN_sub (by omega), ek']
    have eRf : zRfm (zc0 mr o) o k' = zsI (zRf2 o n k' (zRf1 (zc0 mr o) o (lN A) n).2) 1608 o 0 1 := by
      unfold zRfm
      rw [eA, en]
    rw [eFi] at a1 a2
    rw [eRf] at a4
    have g1 : zSq (zbPr b (lN A) (lN k') 16 0 0 (zbF1 mc b (lN A) n)) (zRf2 o n k' (zRf1 (zc0 mr o) o (lN A) n).2) b o := g1
    have g2 : zFc b (zbF1 mc b (lN A) n) (zbPr b (lN A) (lN k') 16 0 0 (zbF1 mc b (lN A) n)) := g2
    generalize zbPr b (lN A) (lN k') 16 0 0 (zbF1 mc b (lN A) n) = M at *
    generalize zRf2 o n k' (zRf1 (zc0 mr o) o (lN A) n).2 = R at *
    have hf := zSq_9 g1
    subst a2 a4
    refine ⟨?_, ⟨hf, fun z => absurd (zI_e.symm.trans z) (by decide)⟩, zFc_tr i2 (zFc_tr g2 (zFc_sI (by omega) (by decide))), zFr_tr zFr_0 (zFr_tr i3 (zFr_tr g3 (zFr_sI (fun _ _ => by decide) (by decide))))⟩
    rw [a1, a5, zSq_Pa hf, zSq_Pa h.1, zI_n (by decide), g4, hII, n6]
  · exact no a1 a2 (fun z => hP ⟨e9.trans z.1, est.trans z.2.2⟩)
