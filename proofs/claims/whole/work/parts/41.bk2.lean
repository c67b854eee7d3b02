/-! the class's Book: payments and copies -/
theorem zPHm_I {m : zM} {p : Nat} {co : Int64} (f a j : Nat) : zI (zPHm m p co) f a j = zI m f a j := by
  unfold zPHm
  split <;> rfl
theorem zPAm_I {m : zM} {p : Nat} {co : Int64} (f a j : Nat) : zI (zPAm m p co) f a j = zI m f a j := by
  unfold zPAm
  rw [zPHm_I]
  rfl
theorem zPUm_I {m : zM} {p : Nat} {co : Int64} (f a j : Nat) : zI (zPUm m p co) f a j = zI m f a j := by
  unfold zPUm
  split
  · rfl
  · exact zPAm_I f a j
theorem zPHm_J {m : zM} {p : Nat} {co : Int64} {f : Nat} (h : f ≠ 305) (h2 : f ≠ 1310) (a j : Nat) : zJ (zPHm m p co) f a j = zJ m f a j := by
  unfold zPHm
  split
  · rw [zJ_n h]
  · rw [zJ_cJ, if_neg (fun z => h2 z.1)]
theorem zPAm_J {m : zM} {p : Nat} {co : Int64} {f : Nat} (h3 : f ≠ 303) (h4 : f ≠ 304) (h : f ≠ 305) (h8 : f ≠ 1308) (h2 : f ≠ 1310) (a j : Nat) : zJ (zPAm m p co) f a j = zJ m f a j := by
  unfold zPAm
  rw [zPHm_J h h2, zJ_cJ, if_neg (fun z => h8 z.1), zJ_n h4, zJ_n h3]
theorem zPUm_J {m : zM} {p : Nat} {co : Int64} {f : Nat} (h3 : f ≠ 303) (h4 : f ≠ 304) (h : f ≠ 305) (h8 : f ≠ 1308) (h2 : f ≠ 1310) (a j : Nat) : zJ (zPUm m p co) f a j = zJ m f a j := by
  unfold zPUm
  split
  · rfl
  · exact zPAm_J h3 h4 h h8 h2 a j
def zbWv (m : zM) (b : Nat) (all : Int64) (pc : Int32) : Nat → zM
  | 0 => m
  | i + 1 => if zI m 105 (zkq b i) 0 = 1 then zPUm (zbWv m b all pc i) (zkq b i + 1) (zbSh m b (zI m 106 (zkq b i) 0) all * pc.toInt64 / 100) else zbWv m b all pc i
theorem zbWv_I (m : zM) (b : Nat) (all : Int64) (pc : Int32) (f a j : Nat) : ∀ i, zI (zbWv m b all pc i) f a j = zI m f a j
  | 0 => rfl
  | i + 1 => by
    rw [zbWv]
    split
    · rw [zPUm_I, zbWv_I m b all pc f a j i]
    · exact zbWv_I m b all pc f a j i
theorem zbWv_J (m : zM) (b : Nat) (all : Int64) (pc : Int32) (a j : Nat) : ∀ i, zJ (zbWv m b all pc i) 0 a j = zJ m 0 a j
  | 0 => rfl
  | i + 1 => by
    rw [zbWv]
    split
    · rw [zPUm_J (by decide) (by decide) (by decide) (by decide) (by decide), zbWv_J m b all pc a j i]
    · exact zbWv_J m b all pc a j i
def zbF1 (m : zM) (b : Nat) (all : Int64) : Nat → zM
  | 0 => m
  | i + 1 => if zI m 105 (zkq b i) 0 = 1 then zPUm (zbF1 m b all i) (zkq b i + 1) (zbSh m b (zI m 107 (zkq b i) 0) all) else zbF1 m b all i
theorem zbF1_I (m : zM) (b : Nat) (all : Int64) (f a j : Nat) : ∀ i, zI (zbF1 m b all i) f a j = zI m f a j
  | 0 => rfl
  | i + 1 => by
    rw [zbF1]
    split
    · rw [zPUm_I, zbF1_I m b all f a j i]
    · exact zbF1_I m b all f a j i
theorem zbF1_J (m : zM) (b : Nat) (all : Int64) (a j : Nat) : ∀ i, zJ (zbF1 m b all i) 0 a j = zJ m 0 a j
  | 0 => rfl
  | i + 1 => by
    rw [zbF1]
    split
    · rw [zPUm_J (by decide) (by decide) (by decide) (by decide) (by decide), zbF1_J m b all a j i]
    · exact zbF1_J m b all a j i
/-- all claims' counts are in their bounds -/
def zbWP (m : zM) (b : Nat) : Prop := ∀ c, c < 16 → zWP m (zkq b c + 1)
theorem zbWP_x {m m' : zM} {b : Nat} (h : zbWP m b) (h1 : ∀ f a j, f = 301 ∨ f = 302 → zI m' f a j = zI m f a j) : zbWP m' b := fun c hc => zWP_ext (h1 _ _ _ (Or.inl rfl)).symm (h1 _ _ _ (Or.inr rfl)).symm (h c hc)
/-- the greatest rest of the first i that aren't served -/
def zbGr (m : zM) (b : Nat) (all : Int64) (sv : Int32) : Nat → Int32 × Int64
  | 0 => (-1, -1)
  | i + 1 => if zI m 105 (zkq b i) 0 = 1 ∧ ((sv >>> (nI i &&& 31)) &&& 1) = 0 ∧ ¬ zbRe m b (zI m 107 (zkq b i) 0) all ≤ (zbGr m b all sv i).2 then (nI i, zbRe m b (zI m 107 (zkq b i) 0) all) else zbGr m b all sv i
def zbPr (b : Nat) (all left : Int64) : Nat → Int32 → Int32 → zM → zM
  | 0, _, _, m => m
  | d + 1, i, sv, m => if left ≤ i.toInt64 ∨ (zbGr m b all sv 16).1 < 0 ∨ ¬ (zbGr m b all sv 16).1 < 16 then m else zbPr b all left d (i + 1) (sv ||| (1 <<< ((zbGr m b all sv 16).1 &&& 31))) (zPAm m (zkq b (zbGr m b all sv 16).1.toNatClampNeg + 1) 1)
theorem zbGr_s (m : zM) (b : Nat) (all : Int64) (sv : Int32) : ∀ i, (zbGr m b all sv i).1 = -1 ∨ ∃ j, j < i ∧ (zbGr m b all sv i).1 = nI j
  | 0 => Or.inl rfl
  | i + 1 => by
    rw [zbGr]
    split
    · exact Or.inr ⟨i, by omega, rfl⟩
    · rcases zbGr_s m b all sv i with h | ⟨j, hj, h⟩
      · exact Or.inl h
      · exact Or.inr ⟨j, by omega, h⟩
section ZBK2
variable {l : Launch} {G : zG}
theorem C_X0_payWave (hL : zLay G) : Con_X0_payWave l G (fun b _ m => zbWP m b) (fun b pc m r m' => m' = zsI (zbWv m b (zbMa m b) pc 16) 8 b 0 (zI m 8 b 0 + 1) ∧ r = zbPa m' b - zbPa m b) := by
  refine con_X0_payWave hL fun C Qc S hl b pc m kb hp hr => sg_X0_payWave_0 S (C_X0_paidInAll hL) (C_X0_mostInAll hL) kb ⟨trivial, fun r2 h2 => ⟨trivial, fun r4 h4 => ?_⟩⟩
  subst h2 h4
  have key : ∀ i, i ≤ 16 → Pt_X0_payWave_25 C G b pc (zbPa m b) (zbMa m b) (nI i) (zbWv m b (zbMa m b) pc i) := by
    refine z_loop 16 ?_ (fun i hi ih => ?_)
    · refine sg_X0_payWave_25 S (C_X0_paidInAll hL) (C_X0_shareOf hL) (C_X3_payUpTo hL) kb ⟨fun _ => ⟨trivial, fun r2 h2 => hr _ _ ⟨?_, ?_⟩⟩, fun q => absurd (by decide) q⟩
      · rw [zbWv_I]
      · rw [h2]
    · refine sg_X0_payWave_25 S (C_X0_paidInAll hL) (C_X0_shareOf hL) (C_X3_payUpTo hL) kb ⟨fun q => absurd q (zge 16 hi), fun _ => ⟨vp_in_nI hi (by omega), ?_⟩⟩
      rw [nI_clamp (by omega), ← nI_succ, zbWv_I, zbWv_I]
      rw [zbWv] at ih
      refine ⟨fun q => ?_, fun q => ⟨trivial, fun r5 h5 => ⟨?_, fun m7 h7 => ?_⟩⟩⟩
      · rw [if_neg q] at ih; exact ih
      · exact zWP_ext (zbWv_I ..).symm (zbWv_I ..).symm (hp i hi)
      · rw [if_pos q] at ih
        have h7 : m7 = zPUm (zbWv m b (zbMa m b) pc i) (zkq b i + 1) (r5 * pc.toInt64 / 100) := h7
        have h5 : r5 = zbSh (zbWv m b (zbMa m b) pc i) b (zI m 106 (zkq b i) 0) (zbMa m b) := h5
        rw [h7, h5]
        unfold zbSh at ih ⊢
        rw [zbWv_J]
        exact ih
  exact key 0 (by omega)
theorem C_X0_greatestRest (hL : zLay G) : Con_X0_greatestRest l G (fun _ _ _ _ => True) (fun b all sv m r => r = (zbGr m b all sv 16).1) := by
  refine con_X0_greatestRest hL fun C Qc S hl b all sv m kb _ hr => sg_X0_greatestRest_0 S kb ?_
  have key : ∀ i, i ≤ 16 → Pt_X0_greatestRest_11 C G b all sv (zbGr m b all sv i).1 (zbGr m b all sv i).2 (nI i) m := by
    refine z_loop 16 ?_ (fun i hi ih => ?_)
    · exact sg_X0_greatestRest_11 S (C_X0_restOf hL) kb ⟨fun _ => hr _ rfl, fun q => absurd (by decide) q⟩
    · refine sg_X0_greatestRest_11 S (C_X0_restOf hL) kb ⟨fun q => absurd q (zge 16 hi), fun _ => ⟨vp_in_nI hi (by omega), trivial, fun r3 h3 => ?_⟩⟩
      rw [nI_clamp (by omega)] at h3 ⊢
      have h3 : r3 = zbRe m b (zI m 107 (zkq b i) 0) all := h3
      subst h3
      rw [← nI_succ]
      rw [zbGr] at ih
      refine ⟨fun q => ?_, fun q => ⟨fun q2 => ?_, fun q2 => ⟨fun q3 => ?_, fun q3 => ?_⟩⟩⟩
      · rw [if_neg (fun z => q z.1)] at ih; exact ih
      · rw [if_neg (fun z => q2 z.2.1)] at ih; exact ih
      · rw [if_neg (fun z => z.2.2 q3)] at ih; exact ih
      · rw [if_pos ⟨q, q2, q3⟩] at ih; exact ih
  exact key 0 (by omega)
theorem C_X0_payRests (hL : zLay G) : Con_X0_payRests l G (fun b _ m => zbWP m b) (fun b all m m' => m' = zbPr b all (zJ m 0 b 0 - zbPa m b) 16 0 0 m) := by
  refine con_X0_payRests hL fun C Qc S hl b all m kb hp hr => sg_X0_payRests_0 S (C_X0_paidInAll hL) kb ⟨trivial, fun r2 h2 => ?_⟩
  subst h2
  generalize zJ m 0 b 0 - zbPa m b = left at hr ⊢
  generalize hX : zbPr b all left 16 0 0 m = X at hr
  have key : ∀ d i sv M, i + d = 16 → zbWP M b → X = zbPr b all left d (nI i) sv M → Pt_X0_payRests_16 C G b all left sv (nI i) M := by
    intro d
    induction d with
    | zero =>
      intro i sv M hd hW e
      have : i = 16 := by omega
      subst this
      exact sg_X0_payRests_16 S (C_X0_greatestRest hL) (C_X3_pay hL) kb ⟨fun _ => hr _ e.symm, fun q => absurd (by decide) q⟩
    | succ d ih =>
      intro i sv M hd hW e
      rw [zbPr] at e
      refine sg_X0_payRests_16 S (C_X0_greatestRest hL) (C_X3_pay hL) kb ⟨fun q => absurd q (zge 16 (by omega)), fun _ => ⟨fun q => ?_, fun q => ⟨trivial, fun r2 h2 => ?_⟩⟩⟩
      · rw [if_pos (Or.inl q)] at e
        exact hr _ e.symm
      · have h2 : r2 = (zbGr M b all sv 16).1 := h2
        rw [← h2] at e
        refine ⟨fun q2 => ?_, fun q2 => ⟨fun q3 => ?_, fun q3 => ?_⟩⟩
        · rw [if_pos (Or.inr (Or.inl q2))] at e
          exact hr _ e.symm
        · rw [if_neg (fun z => z.elim q (fun z => z.elim q2 (fun z => z q3)))] at e
          obtain ⟨j, hj, ej⟩ := (zbGr_s M b all sv 16).resolve_left (fun z => q2 (by rw [h2, z]; decide))
          rw [← h2] at ej
          subst ej
          rw [nI_clamp (by omega)] at e ⊢
          refine ⟨vp_in_nI hj (by omega), hW j hj, fun m5 h5 => ?_⟩
          have h5 : m5 = zPAm M (zkq b j + 1) 1 := h5
          rw [← nI_succ] at e ⊢
          subst h5
          exact ih (i + 1) _ _ (by omega) (zbWP_x hW (fun f a j _ => zPAm_I f a j)) e
        · rw [if_pos (Or.inr (Or.inr q3))] at e
          exact hr _ e.symm
  exact key 16 0 0 m rfl hp hX.symm
def zbFi (m : zM) (b : Nat) : zM := zsI (zbPr b (zbMa m b) (zJ m 0 b 0 - zbPa (zbF1 m b (zbMa m b) 16) b) 16 0 0 (zbF1 m b (zbMa m b) 16)) 9 b 0 1
theorem C_X0_payAll (hL : zLay G) : Con_X0_payAll l G (fun b m => zbWP m b) (fun b m r m' => zIt r m' (zbMa m b = 0) (-1) m (zbPa (zbFi m b) b - zbPa m b) (zbFi m b)) := by
  refine con_X0_payAll hL fun C Qc S hl b m kb hp hr => sg_X0_payAll_0 S (C_X0_mostInAll hL) (C_X0_paidInAll hL) kb ⟨trivial, fun r2 h2 => ?_⟩
  have h2 : r2 = zbMa m b := h2
  refine ⟨fun q => ⟨trivial, fun r4 h4 => ?_⟩, fun q => hr _ _ (Or.inl ⟨h2.symm.trans q, rfl, rfl⟩)⟩
  rw [h2] at q ⊢
  have h4 : r4 = zbPa m b := h4
  subst h4
  have key : ∀ i, i ≤ 16 → Pt_X0_payAll_34 C G b (zbMa m b) (zbPa m b) (nI i) (zbF1 m b (zbMa m b) i) := by
    refine z_loop 16 ?_ (fun i hi ih => ?_)
    · refine sg_X0_payAll_34 S (C_X0_payRests hL) (C_X0_paidInAll hL) (C_X0_shareOf hL) (C_X3_payUpTo hL) kb ⟨fun _ => ⟨zbWP_x hp (fun f a j _ => zbF1_I ..), fun m2 h2 => ⟨trivial, fun r4 h4 => hr _ _ (Or.inr ⟨q, ?_, ?_⟩)⟩⟩, fun q => absurd (by decide) q⟩
      · have h2 : m2 = zbPr b (zbMa m b) (zJ (zbF1 m b (zbMa m b) 16) 0 b 0 - zbPa (zbF1 m b (zbMa m b) 16) b) 16 0 0 (zbF1 m b (zbMa m b) 16) := h2
        rw [zbF1_J] at h2
        have h4 : r4 = zbPa (zsI m2 9 b 0 1) b := h4
        rw [h4, h2]
        rfl
      · have h2 : m2 = zbPr b (zbMa m b) (zJ (zbF1 m b (zbMa m b) 16) 0 b 0 - zbPa (zbF1 m b (zbMa m b) 16) b) 16 0 0 (zbF1 m b (zbMa m b) 16) := h2
        rw [zbF1_J] at h2
        rw [h2]
        rfl
    · refine sg_X0_payAll_34 S (C_X0_payRests hL) (C_X0_paidInAll hL) (C_X0_shareOf hL) (C_X3_payUpTo hL) kb ⟨fun q => absurd q (zge 16 hi), fun _ => ⟨vp_in_nI hi (by omega), ?_⟩⟩
      rw [nI_clamp (by omega), ← nI_succ, zbF1_I, zbF1_I]
      rw [zbF1] at ih
      refine ⟨fun q => ?_, fun q => ⟨trivial, fun r5 h5 => ⟨?_, fun m7 h7 => ?_⟩⟩⟩
      · rw [if_neg q] at ih; exact ih
      · exact zWP_ext (zbF1_I ..).symm (zbF1_I ..).symm (hp i hi)
      · rw [if_pos q] at ih
        have h7 : m7 = zPUm (zbF1 m b (zbMa m b) i) (zkq b i + 1) r5 := h7
        have h5 : r5 = zbSh (zbF1 m b (zbMa m b) i) b (zI m 107 (zkq b i) 0) (zbMa m b) := h5
        rw [h7, h5]
        unfold zbSh at ih ⊢
        rw [zbF1_J]
        exact ih
  exact key 0 (by omega)
/-- a claim copied -/
def zbCm (m : zM) (q q2 : Nat) : zM := zPCm (zsI (zsI (zsI (zsI (zsI (zsI (zsI (zsI m 100 q 0 (zI m 100 q2 0)) 101 q 0 (zI m 101 q2 0)) 102 q 0 (zI m 102 q2 0)) 103 q 0 (zI m 103 q2 0)) 104 q 0 (zI m 104 q2 0)) 105 q 0 (zI m 105 q2 0)) 106 q 0 (zI m 106 q2 0)) 107 q 0 (zI m 107 q2 0)) (q + 1) (q2 + 1)
theorem C_X1_copyFrom (hL : zLay G) : Con_X1_copyFrom l G (fun _ _ _ => True) (fun q q2 m m' => m' = zbCm m q q2) :=
  con_X1_copyFrom hL fun C Qc S hl q q2 m kq kq2 _ hr => sg_X1_copyFrom_0 S (C_X3_copyFrom hL) kq kq2 ⟨trivial, fun m2 h2 => hr _ h2⟩
def zbCs (m : zM) (b b2 : Nat) : Nat → zM
  | 0 => m
  | k + 1 => zbCm (zbCs m b b2 k) (zkq b k) (zkq b2 k)
/-- the head of a book copied: all but the claims and what follows them -/
def zbCh (m : zM) (b b2 : Nat) : zM := zGcp (zsI (zcI (zsJ m 0 b 0 (zJ m 0 b2 0)) 1001 b (zI m 1001 b2)) 2 b 0 (zI m 2 b2 0)) (zR m 3 b) (zR m 3 b2)
def zbCi (m : zM) (b b2 : Nat) : zM := zsI (zsI m 4 b 0 (zI m 4 b2 0)) 5 b 0 (zI m 5 b2 0)
def zbCt (m : zM) (b b2 : Nat) : zM := zsI (zsI (zsI m 7 b 0 (zI m 7 b2 0)) 8 b 0 (zI m 8 b2 0)) 9 b 0 (zI m 9 b2 0)
theorem zbCm_9 {m : zM} {q q2 : Nat} {f : Nat} (h : f < 100) (a j : Nat) : zI (zbCm m q q2) f a j = zI m f a j := by
  unfold zbCm zPCm
  rw [zI_cJ, zI_cI, if_neg (by omega), zI_cJ, zI_cJ, zI_cI, if_neg (by omega), zI_sJ, zI_sJ, zI_sJ]
  rw [zI_n (by omega), zI_n (by omega), zI_n (by omega), zI_n (by omega), zI_n (by omega), zI_n (by omega), zI_n (by omega), zI_n (by omega), zI_n (by omega), zI_n (by omega), zI_n (by omega)]
theorem zbCs_9 {m : zM} {b b2 : Nat} {f : Nat} (h : f < 100) (a j : Nat) : ∀ k, zI (zbCs m b b2 k) f a j = zI m f a j
  | 0 => rfl
  | k + 1 => by rw [zbCs, zbCm_9 h, zbCs_9 h a j k]
theorem C_X0_copyFrom (hL : zLay G) : Con_X0_copyFrom l G (fun b b2 m => b ≠ b2 ∧ (zI m 9 b2 0 = 0 ∨ zI m 9 b2 0 = 1)) (fun b b2 m m' => m' = zbCt (zbCs (zbCi (zbCh m b b2) b b2) b b2 16) b b2) := by
  refine con_X0_copyFrom hL fun C Qc S hl b b2 m kb kb2 hp hr => sg_X0_copyFrom_0 S (C_X2_copyFrom hL) kb kb2 ⟨trivial, fun m4 h4 => ?_⟩
  obtain ⟨hne, h9⟩ := hp
  have h4 : m4 = zbCh m b b2 := h4
  subst h4
  have e9 : ∀ k, zI (zbCs (zbCi (zbCh m b b2) b b2) b b2 k) 9 b2 0 = zI m 9 b2 0 := fun k => by
    rw [zbCs_9 (by decide)]
    unfold zbCi zbCh zGcp
    rw [zI_n (by decide), zI_n (by decide), zI_cI, if_neg (by omega), zI_cI, if_neg (by omega), zI_cI, if_neg (by omega), zI_cI, if_neg (by omega), zI_cI, if_neg (by omega), zI_cI, if_neg (by omega), zI_cI, if_neg (by omega), zI_n (by decide), zI_n (by decide), zI_cI, if_neg (by omega), zI_sJ]
  have key : ∀ k, k ≤ 16 → Pt_X0_copyFrom_61 C G b b2 (nI k) (zbCs (zbCi (zbCh m b b2) b b2) b b2 k) := by
    refine z_loop 16 ?_ (fun k hk ih => ?_)
    · refine sg_X0_copyFrom_61 S (C_X1_copyFrom hL) kb kb2 ⟨fun _ => ⟨?_, hr _ rfl⟩, fun q => absurd (by decide) q⟩
      rw [e9]; exact h9
    · refine sg_X0_copyFrom_61 S (C_X1_copyFrom hL) kb kb2 ⟨fun q => absurd q (zge 16 hk), fun _ => ⟨vp_in_nI hk (by omega), trivial, fun m4 h4 => ?_⟩⟩
      rw [nI_clamp (by omega)] at h4
      have h4 : m4 = zbCm (zbCs (zbCi (zbCh m b b2) b b2) b b2 k) (zkq b k) (zkq b2 k) := h4
      rw [← nI_succ, h4]
      exact ih
  exact key 0 (by omega)
end ZBK2
