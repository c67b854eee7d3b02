/-! the reference: wave and finish -/
theorem zRpH_I (m : zM) (o c : Nat) (x : Int64) (f a j : Nat) : zI (zRpH m o c x) f a j = zI m f a j := by
  unfold zRpH
  split <;> rfl
theorem zRpy_I (m : zM) (o c : Nat) (x : Int64) (f a j : Nat) : zI (zRpy m o c x) f a j = zI m f a j := by
  unfold zRpy
  split
  · unfold zRpA
    rw [zRpH_I]
    rfl
  · rfl
theorem zRpy_J (m : zM) (o c : Nat) (x : Int64) {f : Nat} (h0 : f ≠ 1610) (h1 : f ≠ 1611) (h2 : f ≠ 1612) (h3 : f ≠ 1615) (h4 : f ≠ 1617) (a j : Nat) : zJ (zRpy m o c x) f a j = zJ m f a j := by
  unfold zRpy
  split
  · unfold zRpA zRpH
    split
    · rw [zJ_n h2, zJ_cn h3, zJ_n h1, zJ_n h0]
    · rw [zJ_cn h4, zJ_cn h3, zJ_n h1, zJ_n h0]
  · rfl
theorem zI_same {m m' : zM} (h : ∀ f a j, zI m' f a j = zI m f a j) {o : Nat} (H : zRC m o) : zRC m' o :=
  zRC_ext (fun f _ _ => funext fun j => (h f o j).symm) (h _ _ _).symm (fun c _ q => by
    obtain ⟨a, h1, h2⟩ := q
    exact ⟨a, h1, (h _ _ _).trans h2⟩) H
theorem zRPy_same {m m' : zM} (h : ∀ f a j, zI m' f a j = zI m f a j) {o c : Nat} (H : zRPy m o c) : zRPy m' o c := by
  unfold zRPy at H ⊢
  simp only [h]
  exact H
theorem zRw_same {m m' : zM} (h : ∀ f a j, zI m' f a j = zI m f a j) {o c : Nat} (h5 : zJ m' 1605 o 0 = zJ m 1605 o 0) (a : Int64) : zRw m' o c a = zRw m o c a :=
  zRw_ext (fun f _ _ => funext fun j => h f o j) (fun k _ _ => h _ _ _) h5 a
/-- the other claims' paid stays -/
theorem zRpy_p (m : zM) (o c : Nat) (x : Int64) {j : Nat} (h : j ≠ c) : zJ (zRpy m o c x) 1610 o j = zJ m 1610 o j := by
  unfold zRpy
  split
  · unfold zRpA zRpH
    split
    · rw [zJ_n (by decide), zJ_cn (by decide), zJ_n (by decide), zJ_sJ, if_neg (fun q => h q.2.2)]
    · rw [zJ_cn (by decide), zJ_cn (by decide), zJ_n (by decide), zJ_sJ, if_neg (fun q => h q.2.2)]
  · rfl
def zRwv (m : zM) (o : Nat) (all : Int64) (pc : Int32) : Nat → zM
  | 0 => m
  | i + 1 => if zI m 1609 o (10 * i + 5) = 1 then zRpy (zRwv m o all pc i) o i (zRw m o i all * pc.toInt64 / 100 - zJ m 1610 o i) else zRwv m o all pc i
theorem zRwv_I (m : zM) (o : Nat) (all : Int64) (pc : Int32) : ∀ i f a j, zI (zRwv m o all pc i) f a j = zI m f a j
  | 0, _, _, _ => rfl
  | i + 1, f, a, j => by
    unfold zRwv
    split
    · rw [zRpy_I, zRwv_I m o all pc i]
    · exact zRwv_I m o all pc i f a j
theorem zRwv_J (m : zM) (o : Nat) (all : Int64) (pc : Int32) {f : Nat} (h0 : f ≠ 1610) (h1 : f ≠ 1611) (h2 : f ≠ 1612) (h3 : f ≠ 1615) (h4 : f ≠ 1617) : ∀ i a j, zJ (zRwv m o all pc i) f a j = zJ m f a j
  | 0, _, _ => rfl
  | i + 1, a, j => by
    unfold zRwv
    split
    · rw [zRpy_J _ _ _ _ h0 h1 h2 h3 h4, zRwv_J m o all pc h0 h1 h2 h3 h4 i]
    · exact zRwv_J m o all pc h0 h1 h2 h3 h4 i a j
theorem zRwv_p (m : zM) (o : Nat) (all : Int64) (pc : Int32) : ∀ i j, i ≤ j → zJ (zRwv m o all pc i) 1610 o j = zJ m 1610 o j
  | 0, _, _ => rfl
  | i + 1, j, h => by
    unfold zRwv
    split
    · rw [zRpy_p _ _ _ _ (by omega), zRwv_p m o all pc i j (by omega)]
    · exact zRwv_p m o all pc i j (by omega)
def zRf1 (m : zM) (o : Nat) (all : Int64) : Nat → Int64 × zM
  | 0 => (zJ m 1605 o 0, m)
  | i + 1 => if zI m 1609 o (10 * i + 5) = 1 then ((zRf1 m o all i).1 - zJ m 1605 o 0 * (zI m 1609 o (10 * i + 6)).toInt64 / all, zRpy (zsJ (zsJ (zRf1 m o all i).2 1648 o i (-1)) 1648 o i (zJ m 1605 o 0 * (zI m 1609 o (10 * i + 6)).toInt64 - zJ m 1605 o 0 * (zI m 1609 o (10 * i + 6)).toInt64 / all * all)) o i (zJ m 1605 o 0 * (zI m 1609 o (10 * i + 6)).toInt64 / all - zJ m 1610 o i)) else ((zRf1 m o all i).1, zsJ (zRf1 m o all i).2 1648 o i (-1))
theorem zRf1_I (m : zM) (o : Nat) (all : Int64) : ∀ i f a j, zI (zRf1 m o all i).2 f a j = zI m f a j
  | 0, _, _, _ => rfl
  | i + 1, f, a, j => by
    unfold zRf1
    split
    · rw [zRpy_I, zI_sJ, zI_sJ, zRf1_I m o all i]
    · rw [zI_sJ, zRf1_I m o all i]
theorem zRf1_J (m : zM) (o : Nat) (all : Int64) {f : Nat} (h0 : f ≠ 1610) (h1 : f ≠ 1611) (h2 : f ≠ 1612) (h3 : f ≠ 1615) (h4 : f ≠ 1617) (h5 : f ≠ 1648) : ∀ i a j, zJ (zRf1 m o all i).2 f a j = zJ m f a j
  | 0, _, _ => rfl
  | i + 1, a, j => by
    unfold zRf1
    split
    · rw [zRpy_J _ _ _ _ h0 h1 h2 h3 h4, zJ_n h5, zJ_n h5, zRf1_J m o all h0 h1 h2 h3 h4 h5 i]
    · rw [zJ_n h5, zRf1_J m o all h0 h1 h2 h3 h4 h5 i]
theorem zRf1_p (m : zM) (o : Nat) (all : Int64) : ∀ i j, i ≤ j → zJ (zRf1 m o all i).2 1610 o j = zJ m 1610 o j
  | 0, _, _ => rfl
  | i + 1, j, h => by
    unfold zRf1
    split
    · rw [zRpy_p _ _ _ _ (by omega), zJ_n (by decide), zJ_n (by decide), zRf1_p m o all i j (by omega)]
    · rw [zJ_n (by decide), zRf1_p m o all i j (by omega)]
/-- the claim with the greatest rest among the first i -/
def zRbs (m : zM) (o : Nat) : Nat → Int32
  | 0 => -1
  | i + 1 => if zJ m 1648 o i < 0 then zRbs m o i else if zRbs m o i = -1 then nI i else if zJ m 1648 o i ≤ zJ m 1648 o (zRbs m o i).toNatClampNeg then zRbs m o i else nI i
def zRge (m : zM) (o : Nat) (i : Nat) : Bool := !decide (zJ m 1648 o i < 0)
theorem z_ne1 {i : Nat} (h : i < 2 ^ 31) : ¬ nI i = -1 := by
  intro q
  have := nI_pos h
  rw [q] at this
  exact this (by decide)
theorem zRbs_s (m : zM) (o : Nat) : ∀ i, i ≤ 16 → (zRbs m o i = -1 ∧ zcb (zRge m o) i = 0) ∨ ∃ j, j < i ∧ zRbs m o i = nI j ∧ zRge m o j = true
  | 0, _ => Or.inl ⟨rfl, rfl⟩
  | i + 1, h => by
    unfold zRbs zcb
    rcases zRbs_s m o i (by omega) with ⟨e, z⟩ | ⟨j, hj, e, z⟩
    · by_cases q : zJ m 1648 o i < 0
      · left
        rw [if_pos q, z]
        refine ⟨e, ?_⟩
        rw [if_neg (by unfold zRge; simpa using q)]
      · right
        rw [if_neg q, if_pos e]
        exact ⟨i, by omega, rfl, by unfold zRge; simpa using q⟩
    · right
      by_cases q : zJ m 1648 o i < 0
      · rw [if_pos q]
        exact ⟨j, by omega, e, z⟩
      · rw [if_neg q, if_neg (by rw [e]; exact z_ne1 (by omega))]
        split
        · exact ⟨j, by omega, e, z⟩
        · exact ⟨i, by omega, rfl, by unfold zRge; simpa using q⟩
theorem zcb_less {p q : Nat → Bool} {j : Nat} : ∀ n, (∀ i, i ≠ j → p i = q i) → zcb p n ≤ zcb q n + 1
  | 0, _ => by unfold zcb; omega
  | n + 1, h => by
    unfold zcb
    have ih := zcb_less n h
    by_cases e : n = j
    · have : ∀ N, N ≤ n → zcb p N = zcb q N := fun N hN => zcb_ext (fun i hi => h i (by omega))
      have := this n (by omega)
      split <;> split <;> omega
    · rw [h n e]
      split <;> omega
def zRf2 (o n : Nat) : Nat → zM → zM
  | 0, m => m
  | k + 1, m => zRf2 o n k (zsJ (zRpy m o (zRbs m o n).toNatClampNeg 1) 1648 o (zRbs m o n).toNatClampNeg (-1))
/-- there are as many claims with a rest as coins left -/
def zRfk (m : zM) (o : Nat) : Prop := ∃ k, k < 2 ^ 31 ∧ (zRf1 m o (zRa m o) (zI m 1606 o 0).toNatClampNeg).1 = lN k ∧ k ≤ zcb (zRge (zRf1 m o (zRa m o) (zI m 1606 o 0).toNatClampNeg).2 o) (zI m 1606 o 0).toNatClampNeg
def zRfc (m : zM) (o : Nat) : Prop := zI m 1608 o 0 = 0 ∧ ¬ zRa m o = 0 ∧ zcb (fun c => decide (zI m 1609 o (10 * c + 5) = 0)) (zI m 1606 o 0).toNatClampNeg = 0
def zRfm (m : zM) (o k : Nat) : zM := zsI (zRf2 o (zI m 1606 o 0).toNatClampNeg k (zRf1 m o (zRa m o) (zI m 1606 o 0).toNatClampNeg).2) 1608 o 0 1
/-- all claims can be paid -/
def zRpp (m : zM) (o : Nat) : Prop := ∀ c, c < (zI m 1606 o 0).toNatClampNeg → zRPy m o c
section ZR7
variable {l : Launch} {G : zG}
theorem C_X6_wave (hL : zLay G) : Con_X6_wave l G (fun o _ m => zRC m o ∧ zRpp m o) (fun o x m r m' => zIt r m' ((1 ≤ x ∧ x ≤ 100) ∧ zI m 1608 o 0 = 0) (zsum (zJ (zRwv (zc0 m o) o (zRa m o) x (zI m 1606 o 0).toNatClampNeg) 1610 o) (zI m 1606 o 0).toNatClampNeg - zsum (zJ m 1610 o) (zI m 1606 o 0).toNatClampNeg) (zsI (zRwv (zc0 m o) o (zRa m o) x (zI m 1606 o 0).toNatClampNeg) 1607 o 0 (zI m 1607 o 0 + 1)) (-1) (zc0 m o)) := by
  refine con_X6_wave hL fun C Qc S hl o x m ko hp hr => sg_X6_wave_0 S (C_X6_in hL) (C_X6_paidAll hL) (C_X6_all hL) ko ⟨trivial, fun r h => ⟨fun q => hr _ _ (zIt_n fun z => zB_f h q z.1), fun q => ⟨fun q0 => ⟨zRC_N hp.1, fun r4 h4 => ⟨zc0_C hp.1, fun r6 h6 => ?_⟩⟩, fun q0 => hr _ _ (zIt_n fun z => q0 z.2)⟩⟩⟩
  obtain ⟨hC, hpp⟩ := hp
  have hC0 := zc0_C hC
  have hCn := hC
  obtain ⟨hg, n, hn, hn2, hpa⟩ := hC
  have h6 : r6 = zRa m o := h6.trans (zc0_a m o)
  have h4 : r4 = zsum (zJ m 1610 o) (zI m 1606 o 0).toNatClampNeg := h4
  have hr2 := fun r m' (h9 : r = zsum (zJ (zRwv (zc0 m o) o (zRa m o) x (zI m 1606 o 0).toNatClampNeg) 1610 o) (zI m 1606 o 0).toNatClampNeg - r4 ∧ m' = zsI (zRwv (zc0 m o) o (zRa m o) x (zI m 1606 o 0).toNatClampNeg) 1607 o 0 (zI m 1607 o 0 + 1)) => hr r m' (by
    rw [h9.1, h9.2, h4]
    exact zIt_y ⟨zB_t h q, q0⟩)
  rw [hn2, nI_clamp (by omega)] at hr2
  rw [← h6] at hr2
  have hI := zRwv_I (zc0 m o) o r6 x
  have hN : ∀ i, zI (zRwv (zc0 m o) o r6 x i) 1606 o 0 = nI n := fun i => (hI i _ _ _).trans hn2
  refine z_loop (P := fun i => Pt_X6_wave_42 C G o x r4 r6 (nI i) (zRwv (zc0 m o) o r6 x i)) n ?_ (fun i hi ih => ?_) 0 (Nat.zero_le n)
  · refine sg_X6_wave_42 S (C_X6_paidAll hL) (C_X6_is hL) (C_X6_worst hL) (C_X6_pay hL) ko ⟨fun _ => ⟨⟨n, hn, hN n⟩, fun r2 h2 => hr2 _ _ ⟨?_, ?_⟩⟩, fun z => absurd (nI_le (Nat.le_refl n) (by omega)) (by rw [hN] at z; exact z)⟩
    · rw [h2]
      have : (zI (zsI (zRwv (zc0 m o) o r6 x n) 1607 o 0 (zI (zRwv (zc0 m o) o r6 x n) 1607 o 0 + 1)) 1606 o 0).toNatClampNeg = n := by
        rw [zI_n (by decide), hN, nI_clamp (by omega)]
      rw [this]
      rfl
    · rw [hI]
      rfl
  · refine sg_X6_wave_42 S (C_X6_paidAll hL) (C_X6_is hL) (C_X6_worst hL) (C_X6_pay hL) ko ⟨fun z => absurd z (by rw [hN]; exact nI_ge hi (by omega)), fun _ => ⟨⟨n, hn, hN i⟩, fun r8 h8 => ?_⟩⟩
    rw [zRwv] at ih
    rw [hN, nI_clamp (by omega)] at h8
    have h8' : zB r8 (zI m 1609 o (10 * i + 5) = 1) := by
      refine zB_iff h8 ⟨?_, fun z => ⟨i, hi, rfl, (hI i _ _ _).trans z⟩⟩
      rintro ⟨i', hi', e, z⟩
      rw [nI_eq (by omega) (by omega)] at e
      subst e
      exact (hI i _ _ _).symm.trans z
    rw [← nI_succ]
    refine ⟨fun z => ?_, fun z => ?_⟩
    · rw [if_neg (show ¬ zI (zc0 m o) 1609 o (10 * i + 5) = 1 from zB_f h8' z)] at ih
      exact ih
    · rw [if_pos (show zI (zc0 m o) 1609 o (10 * i + 5) = 1 from zB_t h8' z)] at ih
      have hCi := zI_same (hI i) hC0
      have hp2 : zRP (zRwv (zc0 m o) o r6 x i) o i := by
        obtain ⟨-, n', hn', hn2', hpa'⟩ := hCi
        rw [hN, nI_eq (by omega) (by omega)] at hn2'
        subst hn2'
        exact hpa' i hi
      refine ⟨⟨hCi.1, i, by omega, rfl, hp2⟩, fun r9 h9 => ?_⟩
      have e9 : r9 = zRw (zc0 m o) o i r6 := (h9 i (by omega) rfl).trans (zRw_same (hI i) (zRwv_J (zc0 m o) o r6 x (by decide) (by decide) (by decide) (by decide) (by decide) i o 0) r6)
      rw [nI_clamp (by omega), zRwv_p (zc0 m o) o r6 x i i (Nat.le_refl i)]
      refine ⟨vp_in_nI (by omega) (by omega), ⟨i, by omega, rfl, zRPy_same (hI i) (zRPy_same (m' := zc0 m o) (m := zc0 m o) (fun _ _ _ => rfl) ?_)⟩, fun m9 h10 => ?_⟩
      · have := hpp i (by rw [hn2, nI_clamp (by omega)]; exact hi)
        exact this
      · rw [h10 i (by omega) rfl, e9]
        exact ih
theorem C_X6_finish (hL : zLay G) : Con_X6_finish l G (fun o m => zRC m o ∧ zRpp m o ∧ (zRfc m o → zRfk (zc0 m o) o)) (fun o m r m' => (zRfc m o ∧ ∃ k, k < 2 ^ 31 ∧ (zRf1 (zc0 m o) o (zRa (zc0 m o) o) (zI (zc0 m o) 1606 o 0).toNatClampNeg).1 = lN k ∧ m' = zRfm (zc0 m o) o k ∧ r = zsum (zJ m' 1610 o) (zI m 1606 o 0).toNatClampNeg - zsum (zJ m 1610 o) (zI m 1606 o 0).toNatClampNeg) ∨ (¬ zRfc m o ∧ r = -1 ∧ m' = zc0 m o)) := by
  refine con_X6_finish hL fun C Qc S hl o m ko hp hr => sg_X6_finish_0 S (C_X6_all hL) (C_X6_states hL) (C_X6_paidAll hL) ko ⟨zc0_C hp.1, fun r2 h2 => ?_⟩
  have h2 : r2 = zRa m o := h2.trans (zc0_a m o)
  refine ⟨fun q => hr _ _ (Or.inr ⟨fun z => q z.1, rfl, rfl⟩), fun q0 => ⟨fun q => hr _ _ (Or.inr ⟨fun z => z.2.1 (by rw [← h2]; exact q), rfl, rfl⟩), fun qa => ⟨zRC_N hp.1, fun r4 h4 => ?_⟩⟩⟩
  have h4 : r4 = nI (zcb (fun c => decide (zI m 1609 o (10 * c + 5) = 0)) (zI m 1606 o 0).toNatClampNeg) := h4
  obtain ⟨hC, hpp, hk⟩ := hp
  have hC0 := zc0_C hC
  obtain ⟨hg, n, hn, hn2, hpa⟩ := hC
  have hle := zcb_le (fun c => decide (zI m 1609 o (10 * c + 5) = 0)) (zI m 1606 o 0).toNatClampNeg
  have hnn : (zI m 1606 o 0).toNatClampNeg = n := by rw [hn2, nI_clamp (by omega)]
  refine ⟨fun qs => ⟨⟨n, hn, hn2⟩, fun r6 h6 => ?_⟩, fun qs => hr _ _ (Or.inr ⟨fun z => qs (by rw [h4, z.2.2]; decide), rfl, rfl⟩)⟩
  have hcond : zRfc m o := by
    refine ⟨q0, by rw [← h2]; exact qa, ?_⟩
    rw [h4] at qs
    generalize zcb (fun c => decide (zI m 1609 o (10 * c + 5) = 0)) (zI m 1606 o 0).toNatClampNeg = W at qs hle ⊢
    rw [show (0 : Int32) = nI 0 from rfl, nI_leI (by omega) (by omega)] at qs
    omega
  obtain ⟨k, hkb, hk1, hk2⟩ := hk hcond
  have h6 : r6 = zsum (zJ m 1610 o) (zI m 1606 o 0).toNatClampNeg := h6
  have hr2 := fun r m' (h9 : m' = zRfm (zc0 m o) o k ∧ r = zsum (zJ m' 1610 o) n - r6) => hr r m' (Or.inl ⟨hcond, k, hkb, hk1, h9.1, by rw [h9.2, h6, hnn]⟩)
  unfold zRfm at hr2
  rw [zc0_a, ← h2] at hk1 hk2
  rw [zc0_a, ← h2] at hr2
  have hnc : (zI (zc0 m o) 1606 o 0).toNatClampNeg = n := hnn
  rw [hnc] at hk1 hk2 hr2
  have hpp0 : ∀ c, c < n → zRPy (zc0 m o) o c := fun c hc => hpp c (by rw [hnn]; exact hc)
  -- the coins that are left
  have two : ∀ k, ∀ M : zM, (∀ f a j, zI M f a j = zI (zc0 m o) f a j) → k < 2 ^ 31 → k ≤ zcb (zRge M o) n → (∀ r m', (m' = zsI (zRf2 o n k M) 1608 o 0 1 ∧ r = zsum (zJ m' 1610 o) n - r6) → zRet C G Qc (some (.long r)) m') → Pt_X6_finish_158 C G o r6 (lN k) M := by
    intro k
    induction k with
    | zero =>
      intro M hM _ hz hr3
      refine sg_X6_finish_158 S (C_X6_paidAll hL) ko ⟨fun _ => ⟨⟨n, hn, (zI_n (by decide)).trans ((hM _ _ _).trans hn2)⟩, fun r2 h2 => hr3 _ _ ⟨rfl, ?_⟩⟩, fun q => absurd (by decide) q⟩
      rw [h2, show zI (zsI M 1608 o 0 1) 1606 o 0 = nI n from (zI_n (by decide)).trans ((hM _ _ _).trans hn2), nI_clamp (by omega)]
    | succ k ihk =>
      intro M hM hkb hz hr3
      have hN : zI M 1606 o 0 = nI n := (hM _ _ _).trans hn2
      refine sg_X6_finish_158 S (C_X6_paidAll hL) ko ⟨fun q => ?_, fun _ => ?_⟩
      · rw [show (0 : Int64) = lN 0 from rfl, lN_le (by omega) (by omega)] at q
        omega
      · refine z_loop (P := fun i => Pt_X6_finish_171 C G o r6 (lN (k + 1)) (zRbs M o i) (nI i) M) n ?_ (fun i hi ih => ?_) 0 (Nat.zero_le n)
        · rcases zRbs_s M o n hn with ⟨-, z⟩ | ⟨j, hj, e, z⟩
          · omega
          · refine sg_X6_finish_171 S (C_X6_pay hL) ko ⟨fun _ => ⟨⟨j, by omega, e, zRPy_same hM (hpp0 j hj)⟩, fun m2 hm2 => ?_⟩, fun q => absurd (nI_le (Nat.le_refl n) (by omega)) (by rw [hN] at q; exact q)⟩
            have e2 := hm2 j (by omega) e
            rw [zRf2, e, nI_clamp (by omega), ← e2] at hr3
            rw [e, nI_clamp (by omega)]
            refine ⟨vp_in_nI (by omega) (by omega), ?_⟩
            have hI2 : ∀ f a j', zI (zsJ m2 1648 o j (-1)) f a j' = zI (zc0 m o) f a j' := fun f a j' => by
              rw [zI_sJ, e2, zRpy_I]
              exact hM f a j'
            have hk9 : lN (k + 1) - 1 = lN k := by
              rw [show (1 : Int64) = lN 1 from rfl, lN_sub (by omega)]
              rfl
            rw [hk9]
            refine ihk _ hI2 (by omega) ?_ hr3
            have : zcb (zRge M o) n ≤ zcb (zRge (zsJ m2 1648 o j (-1)) o) n + 1 := by
              refine zcb_less (j := j) n (fun i hij => ?_)
              unfold zRge
              rw [zJ_sJ, if_neg (fun q => hij q.2.2), e2, zRpy_J _ _ _ _ (by decide) (by decide) (by decide) (by decide) (by decide)]
            omega
        · rw [zRbs] at ih
          refine sg_X6_finish_171 S (C_X6_pay hL) ko ⟨fun q => absurd q (by rw [hN]; exact nI_ge hi (by omega)), fun _ => ?_⟩
          rw [nI_clamp (by omega), ← nI_succ]
          refine ⟨vp_in_nI (by omega) (by omega), fun q => ?_, fun q => ⟨fun y => ?_, fun y => ?_⟩⟩
          · rw [if_pos q] at ih; exact ih
          · rw [if_neg q, if_pos y] at ih; exact ih
          · rw [if_neg q, if_neg y] at ih
            refine ⟨?_, fun z => ?_, fun z => ?_⟩
            · rcases zRbs_s M o i (by omega) with ⟨e, -⟩ | ⟨j, hj, e, -⟩
              · exact absurd e y
              · rw [e]; exact vp_in_nI (by omega) (by omega)
            · rw [if_pos z] at ih; exact ih
            · rw [if_neg z] at ih; exact ih
  -- what is due
  have hI := zRf1_I (zc0 m o) o r2
  have hN : ∀ i, zI (zRf1 (zc0 m o) o r2 i).2 1606 o 0 = nI n := fun i => (hI i _ _ _).trans hn2
  have h5 : ∀ i, zJ (zRf1 (zc0 m o) o r2 i).2 1605 o 0 = zJ (zc0 m o) 1605 o 0 := fun i => zRf1_J (zc0 m o) o r2 (by decide) (by decide) (by decide) (by decide) (by decide) (by decide) i o 0
  refine z_loop (P := fun i => Pt_X6_finish_53 C G o r2 r6 (zRf1 (zc0 m o) o r2 i).1 (nI i) (zRf1 (zc0 m o) o r2 i).2) n ?_ (fun i hi ih => ?_) 0 (Nat.zero_le n)
  · refine sg_X6_finish_53 S (C_X6_is hL) (C_X6_of hL) (C_X6_pay hL) ko ⟨fun _ => ?_, fun z => absurd (nI_le (Nat.le_refl n) (by omega)) (by rw [hN] at z; exact z)⟩
    rw [hk1]
    exact two k _ (hI n) hkb hk2 hr2
  · refine sg_X6_finish_53 S (C_X6_is hL) (C_X6_of hL) (C_X6_pay hL) ko ⟨fun z => absurd z (by rw [hN]; exact nI_ge hi (by omega)), fun _ => ?_⟩
    rw [nI_clamp (by omega), ← nI_succ, h5, zRf1_p (zc0 m o) o r2 i i (Nat.le_refl i)]
    rw [zRf1] at ih
    refine ⟨vp_in_nI (by omega) (by omega), ⟨n, hn, hN i⟩, fun r8 h8 => ?_⟩
    rw [zI_sJ, hN, nI_clamp (by omega)] at h8
    have h8' : zB r8 (zI (zc0 m o) 1609 o (10 * i + 5) = 1) := by
      refine zB_iff h8 ⟨?_, fun z => ⟨i, hi, rfl, (hI i _ _ _).trans z⟩⟩
      rintro ⟨i', hi', e, z⟩
      rw [nI_eq (by omega) (by omega)] at e
      subst e
      exact (hI i _ _ _).symm.trans z
    refine ⟨fun z => ?_, fun z => ⟨⟨i, 6, by omega, by decide, rfl, rfl⟩, fun r5 h5' => ⟨qa, fun r7 h7 => ?_⟩⟩⟩
    · rw [if_neg (zB_f h8' z)] at ih
      exact ih
    · have e5 : r5 = zI (zc0 m o) 1609 o (10 * i + 6) := (h5' i 6 (by omega) (by decide) rfl rfl).trans (hI i _ _ _)
      have e7 : r7 = zI (zc0 m o) 1609 o (10 * i + 6) := (h7 i 6 (by omega) (by decide) rfl rfl).trans (hI i _ _ _)
      subst e5
      subst e7
      rw [if_pos (zB_t h8' z)] at ih
      refine ⟨vp_in_nI (by omega) (by omega), ⟨i, by omega, rfl, zRPy_same (m := zc0 m o) (fun f a j => hI i f a j) (hpp0 i hi)⟩, fun m10 h10 => ?_⟩
      rw [h10 i (by omega) rfl]
      exact ih
end ZR7
