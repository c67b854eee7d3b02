/-! the class's own methods (but grid and image) -/
def zCt (m : zM) (b : Nat) (x : Int32) (F : Nat → Prop) (E : Prop) : Prop := (∃ c, c < 16 ∧ c < (zI m 7 b 0).toNatClampNeg ∧ x = nI c ∧ F c) ∨ (¬ zIsC x (zI m 7 b 0) ∧ E)
/-- what the methods want of a book -/
def zPb (m : zM) (b : Nat) : Prop := (∃ n, n ≤ 16 ∧ zI m 7 b 0 = nI n) ∧ zWG m (zR m 3 b) ∧ zbPP m b ∧ zbWP m b ∧ ∃ k, k ≤ 400 ∧ zI m 2 b 0 = nI k
theorem zCt_s {m : zM} {b : Nat} {x : Int32} {F : Nat → Prop} {E : Prop} (hp : zPb m b) {c : Nat} (hc : c < (zI m 7 b 0).toNatClampNeg) (e : x = nI c) (h : F c) : zCt m b x F E := by
  obtain ⟨⟨n, hn, en⟩, -⟩ := hp
  rw [en, nI_clamp (by omega)] at hc
  exact Or.inl ⟨c, by omega, by rw [en, nI_clamp (by omega)]; exact hc, e, h⟩
theorem zPb_c {m : zM} {b c : Nat} (hp : zPb m b) (hc : c < (zI m 7 b 0).toNatClampNeg) : c < 16 := by
  obtain ⟨⟨n, hn, en⟩, -⟩ := hp
  rw [en, nI_clamp (by omega)] at hc
  omega
theorem z_or6 : ∀ a, a < 64 → ∀ x, x < 6 → ∃ a', a' < 64 ∧ nI a ||| (1 <<< (nI x &&& 31)) = nI a' := by decide +kernel
def zMb (m : zM) (q : Nat) (x : Int32) : Prop := zI m 105 q 0 = 0 ∧ (0 ≤ x ∧ x ≤ 5) ∧ ((zI m 104 q 0 >>> (x &&& 31)) &&& 1) = 0
section ZX5
variable {l : Launch} {G : zG}
theorem C_X5_areFacts (hL : zLay G) : Con_X5_areFacts l G (fun _ _ _ _ _ => True) (fun x0 x1 x2 x3 _ r => zB r (zRcb x0 x1 x2 x3)) := by
  refine con_X5_areFacts hL fun C Qc S hl x0 x1 x2 x3 m _ hr => sg_X5_areFacts_0 S ?_
  have L : ∀ {a b : Int32}, a < b → ¬ b ≤ a := fun h => Int32.not_le.2 h
  have N : ∀ {a b : Int32}, ¬ a < b → b ≤ a := fun h => Int32.not_lt.1 h
  refine ⟨fun h => hr _ (zB_0 fun z => L h z.1.1), fun h0 => ⟨fun h => hr _ (zB_0 fun z => L h z.1.2), fun h1 => ⟨fun h => hr _ (zB_0 fun z => L h z.2.1.1), fun h2 => ⟨fun h => hr _ (zB_0 fun z => L h z.2.1.2), fun h3 => ⟨fun h => hr _ (zB_0 fun z => L h z.2.2.1.1), fun h4 => ⟨fun h => hr _ (zB_0 fun z => L h z.2.2.1.2), fun h5 => ⟨fun h => hr _ (zB_0 fun z => L h z.2.2.2.1), fun h6 => ⟨fun h => hr _ (zB_0 fun z => L h z.2.2.2.2), fun h7 => hr _ (zB_1 ⟨⟨N h0, N h1⟩, ⟨N h2, N h3⟩, ⟨N h4, N h5⟩, N h6, N h7⟩)⟩⟩⟩⟩⟩⟩⟩⟩
theorem C_X5_fund (hL : zLay G) : Con_X5_fund l G (fun _ _ _ => True) (fun f x m r m' => zIt r m' (¬ x < 1 ∧ ¬ 1000000000000 < x ∧ zI m 9 (f + 1) 0 = 0 ∧ zbPa m (f + 1) ≤ 0) 1 (zsJ m 0 (f + 1) 0 x) 0 m) := by
  refine con_X5_fund hL fun C Qc S hl f x m kf _ hr => sg_X5_fund_0 S (C_X0_paidInAll hL) kf ⟨fun h => hr _ _ (Or.inr ⟨fun z => h z.2.2.1, rfl, rfl⟩), fun h => ⟨fun h1 => hr _ _ (Or.inr ⟨fun z => z.1 h1, rfl, rfl⟩), fun h1 => ⟨fun h2 => hr _ _ (Or.inr ⟨fun z => z.2.1 h2, rfl, rfl⟩), fun h2 => ⟨trivial, fun r2 e2 => ?_⟩⟩⟩⟩
  have e2 : r2 = zbPa m (f + 1) := e2
  subst e2
  exact ⟨fun h3 => hr _ _ (Or.inl ⟨⟨h1, h2, h, h3⟩, rfl, rfl⟩), fun h3 => hr _ _ (Or.inr ⟨fun z => h3 z.2.2.2, rfl, rfl⟩)⟩
theorem zbfo_2 {m : zM} {b k : Nat} {x : Int32} (hk : zI m 2 b 0 = nI k) : zI (zbfo m b x) 2 b 0 = nI (k + 4) := by
  have e2 : ∀ M j v, zI M 2 b 0 = nI j → zI (zbby M b v) 2 b 0 = nI (j + 1) := fun M j v e => by
    unfold zbby
    rw [zI_e, e, ← nI_succ]
  exact e2 _ _ _ (e2 _ _ _ (e2 _ _ _ (e2 _ _ _ hk)))
theorem C_X5_feed (hL : zLay G) : Con_X5_feed l G (fun f _ _ _ _ _ m => zPb m (f + 1)) (fun f a b c d e m r m' => ∀ k, k ≤ 400 → zI m 2 (f + 1) 0 = nI k → zIt r m' (k ≤ 380) (nI (k + 20)) (zbfo (zbfo (zbfo (zbfo (zbfo m (f + 1) a) (f + 1) b) (f + 1) c) (f + 1) d) (f + 1) e) (-1) m) := by
  refine con_X5_feed hL fun C Qc S hl f a b c d e m kf hp hr => sg_X5_feed_0 S (C_X0_addBytes hL) kf ?_
  obtain ⟨k, hk, ek⟩ := hp.2.2.2.2
  have hr2 : ∀ r m', zIt r m' (k ≤ 380) (nI (k + 20)) (zbfo (zbfo (zbfo (zbfo (zbfo m (f + 1) a) (f + 1) b) (f + 1) c) (f + 1) d) (f + 1) e) (-1) m → zRet C G Qc (some (.int r)) m' := fun r m' h => hr _ _ fun k' hk' ek' => by
    rw [ek, nI_eq (by omega) (by omega)] at ek'
    subst ek'
    exact h
  rw [ek, show (380 : Int32) = nI 380 from rfl, nI_leI (by omega) (by omega)]
  refine ⟨fun q => ?_, fun q => hr2 _ _ (Or.inr ⟨q, rfl, rfl⟩)⟩
  have k1 := zbfo_2 (x := a) ek
  have k2 := zbfo_2 (x := b) k1
  have k3 := zbfo_2 (x := c) k2
  have k4 := zbfo_2 (x := d) k3
  have k5 := zbfo_2 (x := e) k4
  refine ⟨⟨k, by omega, rfl⟩, fun m2 h2 => ?_⟩
  have h2 : m2 = zbfo m (f + 1) a := h2
  subst h2
  refine ⟨⟨_, by omega, k1⟩, fun m4 h4 => ?_⟩
  have h4 : m4 = zbfo (zbfo m (f + 1) a) (f + 1) b := h4
  subst h4
  refine ⟨⟨_, by omega, k2⟩, fun m6 h6 => ?_⟩
  have h6 : m6 = zbfo (zbfo (zbfo m (f + 1) a) (f + 1) b) (f + 1) c := h6
  subst h6
  refine ⟨⟨_, by omega, k3⟩, fun m8 h8 => ?_⟩
  have h8 : m8 = zbfo (zbfo (zbfo (zbfo m (f + 1) a) (f + 1) b) (f + 1) c) (f + 1) d := h8
  subst h8
  refine ⟨⟨_, by omega, k4⟩, fun m10 h10 => ?_⟩
  have h10 : m10 = zbfo (zbfo (zbfo (zbfo (zbfo m (f + 1) a) (f + 1) b) (f + 1) c) (f + 1) d) (f + 1) e := h10
  subst h10
  rw [k5]
  exact hr2 _ _ (Or.inl ⟨q, rfl, rfl⟩)
theorem C_X5_end (hL : zLay G) : Con_X5_end l G (fun _ _ _ => True) (fun f x m r m' => zIt r m' (0 ≤ x ∧ x ≤ zI m 2 (f + 1) 0) x (zsI m 2 (f + 1) 0 x) (-1) m) :=
  con_X5_end hL fun C Qc S hl f x m kf _ hr => sg_X5_end_0 S kf ⟨fun h => hr _ _ (Or.inr ⟨fun z => Int32.not_le.2 h z.1, rfl, rfl⟩), fun h => ⟨fun h1 => hr _ _ (Or.inl ⟨⟨Int32.not_lt.1 h, h1⟩, rfl, rfl⟩), fun h1 => hr _ _ (Or.inr ⟨fun z => h1 z.2, rfl, rfl⟩)⟩⟩
theorem C_X5_fault (hL : zLay G) : Con_X5_fault l G (fun _ _ _ => True) (fun f x m r => r = if x = 0 then zI m 4 (f + 1) 0 else if x = 1 then zI m 5 (f + 1) 0 else -1) :=
  con_X5_fault hL fun C Qc S hl f x m kf _ hr => sg_X5_fault_0 S kf ⟨fun h => ⟨fun h1 => hr _ (by rw [if_neg h, if_neg h1]), fun h1 => hr _ (by rw [if_neg h, if_pos h1])⟩, fun h => hr _ (by rw [if_pos h])⟩
theorem C_X5_claim (hL : zLay G) : Con_X5_claim l G (fun f _ _ _ _ _ m => zPb m (f + 1)) (fun f x1 x2 x3 x4 x5 m r m' => (((0 ≤ x1 ∧ x1 ≤ 99) ∧ zRcb x2 x3 x4 x5 ∧ zI m 9 (f + 1) 0 = 0) ∧ ((zI m 7 (f + 1) 0 = nI 16 ∧ r = -1 ∧ m' = m) ∨ ∃ n, n < 16 ∧ zI m 7 (f + 1) 0 = nI n ∧ zIt r m' (zbH (zbAd m (f + 1) n x1 x2 x3 x4 x5) (f + 1)) (nI n) (zsI (zbAd m (f + 1) n x1 x2 x3 x4 x5) 7 (f + 1) 0 (nI (n + 1))) (-1) (zST (zbAd m (f + 1) n x1 x2 x3 x4 x5) (zkq (f + 1) n) 3 0))) ∨ (¬ ((0 ≤ x1 ∧ x1 ≤ 99) ∧ zRcb x2 x3 x4 x5 ∧ zI m 9 (f + 1) 0 = 0) ∧ r = -1 ∧ m' = m)) := by
  refine con_X5_claim hL fun C Qc S hl f x1 x2 x3 x4 x5 m kf hp hr => sg_X5_claim_0 S (C_X5_areFacts hL) (C_X0_admit hL) kf ⟨fun h => hr _ _ (Or.inr ⟨fun z => h z.2.2, rfl, rfl⟩), fun h => ⟨fun h1 => hr _ _ (Or.inr ⟨fun z => Int32.not_le.2 h1 z.1.1, rfl, rfl⟩), fun h1 => ⟨fun h2 => hr _ _ (Or.inr ⟨fun z => Int32.not_le.2 h2 z.1.2, rfl, rfl⟩), fun h2 => ⟨trivial, fun r2 e2 => ⟨fun q => ?_, fun q => hr _ _ (Or.inr ⟨fun z => zB_f e2 q z.2.1, rfl, rfl⟩)⟩⟩⟩⟩⟩
  have hf := zB_t e2 q
  refine ⟨⟨hp.2.1, hp.1, ?_⟩, fun r4 m4 e4 => hr _ _ (Or.inl ⟨⟨⟨Int32.not_lt.1 h1, Int32.not_lt.1 h2⟩, hf, h⟩, e4⟩)⟩
  obtain ⟨-, -, -, h5, h6⟩ := hf
  obtain ⟨a, ha, e⟩ := nI_of (x := x5) (Int32.not_lt.2 h5)
  subst e
  rw [show (63 : Int32) = nI 63 from rfl, nI_leI ha (by omega)] at h6
  exact ⟨a, by omega, rfl⟩
theorem zMb_b {m : zM} {q : Nat} {x : Int32} {r : Int32} (h : r = if zI m 105 q 0 = 0 ∧ ¬ x < 0 ∧ ¬ 6 ≤ x ∧ ((zI m 104 q 0 >>> (x &&& 31)) &&& 1) = 0 then 1 else 0) : zB r (zMb m q x) := by
  have e6 : ¬ (6 : Int32) ≤ x ↔ x ≤ 5 := by
    rw [Int32.not_le]
    constructor
    · intro z
      by_cases y : x < 0
      · exact Int32.le_of_lt (Int32.lt_trans y (by decide))
      · obtain ⟨a, ha, rfl⟩ := nI_of y
        rw [show (6 : Int32) = nI 6 from rfl, nI_ltI ha (by omega)] at z
        rw [show (5 : Int32) = nI 5 from rfl, nI_leI ha (by omega)]
        omega
    · intro z
      exact Int32.lt_of_le_of_lt z (by decide)
  by_cases q2 : zMb m q x
  · exact Or.inl ⟨h.trans (if_pos ⟨q2.1, Int32.not_lt.2 q2.2.1.1, e6.2 q2.2.1.2, q2.2.2⟩), q2⟩
  · exact Or.inr ⟨h.trans (if_neg (fun z => q2 ⟨z.1, ⟨Int32.not_lt.1 z.2.1, e6.1 z.2.2.1⟩, z.2.2.2⟩)), q2⟩
theorem C_X5_paper (hL : zLay G) : Con_X5_paper l G (fun f _ _ m => zPb m (f + 1)) (fun f x1 x2 m r m' => zCt m (f + 1) x1 (fun c => zIt r m' (zMb m (zkq (f + 1) c) x2 ∧ zI m 9 (f + 1) 0 = 0) 1 (zME (zsI m 104 (zkq (f + 1) c) 0 (zI m 104 (zkq (f + 1) c) 0 ||| (1 <<< (x2 &&& 31)))) (zkq (f + 1) c) (zR m 3 (f + 1))) 0 m) (r = 0 ∧ m' = m)) := by
  refine con_X5_paper hL fun C Qc S hl f x1 x2 m kf hp hr => sg_X5_paper_0 S (C_X0_claimAt hL) (C_X1_mayBring hL) (C_X1_measure hL) kf ⟨hp.1, fun r2 h2 => ?_⟩
  rcases h2 with ⟨c, hc, e, e2⟩ | ⟨hn, e2⟩
  · subst e2
    refine ⟨fun z => absurd z (by simp), fun b3 z kb3 => ?_⟩
    cases z
    have no : ¬ (zMb m (zkq (f + 1) c) x2 ∧ zI m 9 (f + 1) 0 = 0) → zRet C G Qc (some (.int 0)) m := fun y => hr _ _ (zCt_s hp hc e (Or.inr ⟨y, rfl, rfl⟩))
    refine ⟨fun h => no fun y => h y.2, fun h => ⟨trivial, fun r5 e5 => ⟨fun q => ?_, fun q => no fun y => zB_f (zMb_b e5) q y.1⟩⟩⟩
    have hm := zB_t (zMb_b e5) q
    refine ⟨⟨zWG_ext (m := m) (fun f hf => funext fun j => (zI_n (by omega)).symm) hp.2.1, ?_⟩, fun m8 e8 => hr _ _ (zCt_s hp hc e (Or.inl ⟨⟨hm, h⟩, rfl, e8⟩))⟩
    rw [zI_e]
    obtain ⟨a, ha, ea⟩ := hp.2.2.1 c (zPb_c hp hc)
    obtain ⟨x, hx, ex⟩ := nI_of (x := x2) (Int32.not_lt.2 hm.2.1.1)
    subst ex
    have h5 := hm.2.1.2
    rw [show (5 : Int32) = nI 5 from rfl, nI_leI hx (by omega)] at h5
    have ea' : zI m 104 (f + 1 + 11 + 7 * c) 0 = nI a := ea
    rw [ea']
    exact z_or6 a ha x (by omega)
  · subst e2
    refine ⟨fun _ => ⟨fun _ => hr _ _ (Or.inr ⟨hn, rfl, rfl⟩), fun _ => hr _ _ (Or.inr ⟨hn, rfl, rfl⟩)⟩, fun b3 z => by cases z⟩
theorem C_X5_judge (hL : zLay G) : Con_X5_judge l G (fun f _ m => zPb m (f + 1)) (fun f x1 m r m' => zCt m (f + 1) x1 (fun c => zIt r m' (zI m 105 (zkq (f + 1) c) 0 = 0 ∧ (¬ ∃ i, i < 16 ∧ zI m 105 (zkq (f + 1) i) 0 = 1 ∧ zbTw m (zkq (f + 1) c) (zkq (f + 1) i)) ∧ zI m 9 (f + 1) 0 = 0) (zpw m (zkq (f + 1) c) (zR m 3 (f + 1)) (zI m 104 (zkq (f + 1) c) 0)) (zST m (zkq (f + 1) c) 1 (zpw m (zkq (f + 1) c) (zR m 3 (f + 1)) (zI m 104 (zkq (f + 1) c) 0))) (-1) m) (r = -1 ∧ m' = m)) := by
  refine con_X5_judge hL fun C Qc S hl f x1 m kf hp hr => sg_X5_judge_0 S (C_X0_claimAt hL) (C_X0_hasJudgedTwin hL) (C_X1_pointsWith hL) (C_X1_settle hL) kf ⟨hp.1, fun r2 h2 => ?_⟩
  rcases h2 with ⟨c, hc, e, e2⟩ | ⟨hn, e2⟩
  · subst e2
    refine ⟨fun z => absurd z (by simp), fun b3 z kb3 => ?_⟩
    cases z
    have no : ¬ (zI m 105 (zkq (f + 1) c) 0 = 0 ∧ (¬ ∃ i, i < 16 ∧ zI m 105 (zkq (f + 1) i) 0 = 1 ∧ zbTw m (zkq (f + 1) c) (zkq (f + 1) i)) ∧ zI m 9 (f + 1) 0 = 0) → zRet C G Qc (some (.int (-1))) m := fun y => hr _ _ (zCt_s hp hc e (Or.inr ⟨y, rfl, rfl⟩))
    refine ⟨fun h => no fun y => h y.2.2, fun h => ⟨fun h1 => no fun y => h1 y.1, fun h1 => ⟨trivial, fun r5 e5 => ⟨fun q => ⟨hp.2.1, fun r8 e8 => ⟨trivial, fun m10 e10 => ?_⟩⟩, fun q => no fun y => y.2.1 (zB_t e5 q)⟩⟩⟩⟩
    have e8 : r8 = zpw m (zkq (f + 1) c) (zR m 3 (f + 1)) (zI m 104 (zkq (f + 1) c) 0) := e8
    subst e8
    exact hr _ _ (zCt_s hp hc e (Or.inl ⟨⟨h1, zB_f e5 q, h⟩, rfl, e10⟩))
  · subst e2
    refine ⟨fun _ => ⟨fun _ => hr _ _ (Or.inr ⟨hn, rfl, rfl⟩), fun _ => hr _ _ (Or.inr ⟨hn, rfl, rfl⟩)⟩, fun b3 z => by cases z⟩
/-- a change that stays only if it holds -/
def zHc {ρ : Type} (b : Nat) (r : ρ) (m' : zM) (P : Prop) (r1 : ρ) (m1 : zM) (r0 : ρ) (m0 m2 : zM) : Prop := (P ∧ zIt r m' (zbH m1 b) r1 m1 r0 m2) ∨ (¬ P ∧ r = r0 ∧ m' = m0)
theorem C_X5_appeal (hL : zLay G) : Con_X5_appeal l G (fun f _ _ m => zPb m (f + 1)) (fun f x1 x2 m r m' => zCt m (f + 1) x1 (fun c => zHc (f + 1) r m' (zI m 105 (zkq (f + 1) c) 0 = 1 ∧ (0 ≤ x2 ∧ x2 ≤ 1000000) ∧ zI m 9 (f + 1) 0 = 0) 1 (zST m (zkq (f + 1) c) 1 x2) 0 m (zST (zST m (zkq (f + 1) c) 1 x2) (zkq (f + 1) c) 1 (zI m 107 (zkq (f + 1) c) 0))) (r = 0 ∧ m' = m)) := by
  refine con_X5_appeal hL fun C Qc S hl f x1 x2 m kf hp hr => sg_X5_appeal_0 S (C_X0_claimAt hL) (C_X1_settle hL) (C_X0_holds hL) kf ⟨hp.1, fun r2 h2 => ?_⟩
  rcases h2 with ⟨c, hc, e, e2⟩ | ⟨hn, e2⟩
  · subst e2
    refine ⟨fun z => absurd z (by simp), fun b3 z kb3 => ?_⟩
    cases z
    have no : ¬ (zI m 105 (zkq (f + 1) c) 0 = 1 ∧ (0 ≤ x2 ∧ x2 ≤ 1000000) ∧ zI m 9 (f + 1) 0 = 0) → zRet C G Qc (some (.int 0)) m := fun y => hr _ _ (zCt_s hp hc e (Or.inr ⟨y, rfl, rfl⟩))
    refine ⟨fun h => no fun y => h y.2.2, fun h => ⟨fun h1 => no fun y => h1 y.1, fun h1 => ⟨fun h2 => no fun y => Int32.not_le.2 h2 y.2.1.1, fun h2 => ⟨fun h3 => ⟨trivial, fun m5 e5 => ⟨trivial, fun r7 e7 => ?_⟩⟩, fun h3 => no fun y => h3 y.2.1.2⟩⟩⟩⟩
    have e5 : m5 = zST m (zkq (f + 1) c) 1 x2 := e5
    subst e5
    have hP : zI m 105 (zkq (f + 1) c) 0 = 1 ∧ (0 ≤ x2 ∧ x2 ≤ 1000000) ∧ zI m 9 (f + 1) 0 = 0 := ⟨h1, ⟨Int32.not_lt.1 h2, h3⟩, h⟩
    refine ⟨fun q => hr _ _ (zCt_s hp hc e (Or.inl ⟨hP, Or.inl ⟨zB_t e7 q, rfl, rfl⟩⟩)), fun q => ⟨trivial, fun m9 e9 => hr _ _ (zCt_s hp hc e (Or.inl ⟨hP, Or.inr ⟨zB_f e7 q, rfl, e9⟩⟩))⟩⟩
  · subst e2
    refine ⟨fun _ => ⟨fun _ => hr _ _ (Or.inr ⟨hn, rfl, rfl⟩), fun _ => hr _ _ (Or.inr ⟨hn, rfl, rfl⟩)⟩, fun b3 z => by cases z⟩
theorem C_X5_out (hL : zLay G) : Con_X5_out l G (fun f _ _ m => zPb m (f + 1)) (fun f x1 x2 m r m' => zCt m (f + 1) x1 (fun c => (¬ zI m 9 (f + 1) 0 = 0 ∧ r = 0 ∧ m' = m) ∨ (zI m 9 (f + 1) 0 = 0 ∧ ((x2 = 0 ∧ ((zI m 105 (zkq (f + 1) c) 0 = 2 ∧ zIt r m' (zbH (zbTb m (f + 1) (zkq (f + 1) c)) (f + 1)) 1 (zbTb m (f + 1) (zkq (f + 1) c)) 0 (zST (zbTb m (f + 1) (zkq (f + 1) c)) (zkq (f + 1) c) 2 0)) ∨ (¬ zI m 105 (zkq (f + 1) c) 0 = 2 ∧ r = 0 ∧ m' = m))) ∨ (¬ x2 = 0 ∧ zIt r m' (¬ zI m 105 (zkq (f + 1) c) 0 = 2 ∧ zJ m 303 (zkq (f + 1) c + 1) 0 ≤ 0) 1 (zST m (zkq (f + 1) c) 2 0) 0 m)))) (r = 0 ∧ m' = m)) := by
  refine con_X5_out hL fun C Qc S hl f x1 x2 m kf hp hr => sg_X5_out_0 S (C_X0_claimAt hL) (C_X0_takeBack hL) (C_X0_sendOut hL) kf ⟨hp.1, fun r2 h2 => ?_⟩
  have b1 : ∀ {r : Int32} {m' : zM} {P : Prop} {a c : zM}, zIt r m' P 1 a 0 c → r = 0 ∨ r = 1 := fun h => h.elim (fun z => Or.inr z.2.1) (fun z => Or.inl z.2.1)
  rcases h2 with ⟨c, hc, e, e2⟩ | ⟨hn, e2⟩
  · subst e2
    refine ⟨fun z => absurd z (by simp), fun b3 z kb3 => ?_⟩
    cases z
    refine ⟨fun h => hr _ _ (zCt_s hp hc e (Or.inl ⟨h, rfl, rfl⟩)), fun h => ⟨fun h1 => ⟨⟨hp.2.1, hp.2.2.1 c (zPb_c hp hc)⟩, fun r5 m5 e5 => ?_⟩, fun h1 => ⟨trivial, fun r8 m8 e8 => ?_⟩⟩⟩
    · refine ⟨e5.elim (fun z => b1 z.2) (fun z => Or.inl z.2.1), hr _ _ (zCt_s hp hc e (Or.inr ⟨h, Or.inl ⟨h1, e5⟩⟩))⟩
    · exact ⟨b1 e8, hr _ _ (zCt_s hp hc e (Or.inr ⟨h, Or.inr ⟨h1, e8⟩⟩))⟩
  · subst e2
    refine ⟨fun _ => ⟨fun _ => hr _ _ (Or.inr ⟨hn, rfl, rfl⟩), fun _ => hr _ _ (Or.inr ⟨hn, rfl, rfl⟩)⟩, fun b3 z => by cases z⟩
theorem C_X5_points (hL : zLay G) : Con_X5_points l G (fun f _ _ _ _ m => zPb m (f + 1)) (fun f x1 x2 x3 x4 m r => (zRcb x1 x2 x3 x4 ∧ r = zpg m (zR m 3 (f + 1)) x1 x2 x3 x4) ∨ (¬ zRcb x1 x2 x3 x4 ∧ r = -1)) :=
  con_X5_points hL fun C Qc S hl f x1 x2 x3 x4 m kf hp hr => sg_X5_points_0 S (C_X5_areFacts hL) (C_X2_pointsFor hL) kf ⟨trivial, fun r2 e2 => ⟨fun q => hr _ (Or.inr ⟨zB_f e2 q, rfl⟩), fun q => ⟨hp.2.1, fun r5 e5 => hr _ (Or.inl ⟨zB_t e2 q, e5⟩)⟩⟩⟩
theorem C_X5_lacks (hL : zLay G) : Con_X5_lacks l G (fun f _ _ m => zPb m (f + 1)) (fun f x1 x2 m r => zCt m (f + 1) x1 (fun c => (zMb m (zkq (f + 1) c) x2 ∧ r = zpw m (zkq (f + 1) c) (zR m 3 (f + 1)) (zI m 104 (zkq (f + 1) c) 0 ||| (1 <<< (x2 &&& 31))) - zpw m (zkq (f + 1) c) (zR m 3 (f + 1)) (zI m 104 (zkq (f + 1) c) 0)) ∨ (¬ zMb m (zkq (f + 1) c) x2 ∧ r = -10000000)) (r = -10000000)) := by
  refine con_X5_lacks hL fun C Qc S hl f x1 x2 m kf hp hr => sg_X5_lacks_0 S (C_X0_claimAt hL) (C_X1_mayBring hL) (C_X1_pointsWith hL) kf ⟨hp.1, fun r2 h2 => ?_⟩
  rcases h2 with ⟨c, hc, e, e2⟩ | ⟨hn, e2⟩
  · subst e2
    refine ⟨fun z => absurd z (by simp), fun b3 z kb3 => ?_⟩
    cases z
    refine ⟨trivial, fun r5 e5 => ⟨fun q => ⟨hp.2.1, fun r8 e8 => ⟨hp.2.1, fun r11 e11 => hr _ (zCt_s hp hc e (Or.inl ⟨zB_t (zMb_b e5) q, ?_⟩))⟩⟩, fun q => hr _ (zCt_s hp hc e (Or.inr ⟨zB_f (zMb_b e5) q, rfl⟩))⟩⟩
    rw [e8, e11]
  · subst e2
    exact ⟨fun _ => hr _ (Or.inr ⟨hn, rfl⟩), fun b3 z => by cases z⟩
def zCtl (m : zM) (b c k : Nat) : Int32 := if k < 8 then zI m (100 + k) (zkq b c) 0 else if k = 8 then nI (zcb (fun i => decide (zbTw m (zkq b c) (zkq b i))) 16) else zI m (300 + (k - 9)) (zkq b c + 1) 0
theorem C_X5_tell (hL : zLay G) : Con_X5_tell l G (fun f _ _ m => zPb m (f + 1)) (fun f x1 x2 m r => zCt m (f + 1) x1 (fun c => r = zsw 12 (zCtl m (f + 1) c) (-1) x2) (r = -1)) := by
  refine con_X5_tell hL fun C Qc S hl f x1 x2 m kf hp hr => sg_X5_tell_0 S (C_X0_claimAt hL) (C_X0_twinsOf hL) kf ⟨hp.1, fun r2 h2 => ?_⟩
  rcases h2 with ⟨c, hc, e, e2⟩ | ⟨hn, e2⟩
  · subst e2
    refine ⟨fun z => absurd z (by simp), fun b3 z kb3 => ?_⟩
    cases z
    have yes : ∀ r, r = zsw 12 (zCtl m (f + 1) c) (-1) x2 → zRet C G Qc (some (.int r)) m := fun r z => hr _ (zCt_s hp hc e z)
    refine ⟨fun z => yes _ (zsw_o (by omega)).symm, fun z => yes _ ?_, fun z => yes _ ?_, fun z => yes _ ?_, fun z => yes _ ?_, fun z => yes _ ?_, fun z => yes _ ?_, fun z => yes _ ?_, fun z => yes _ ?_, fun z => ⟨trivial, fun r5 e5 => yes _ ?_⟩, fun z => yes _ ?_, fun z => yes _ ?_, fun z => yes _ ?_⟩
    · rw [zsw_k 0 (by omega) (by omega) z]; rfl
    · rw [zsw_k 1 (by omega) (by omega) z]; rfl
    · rw [zsw_k 2 (by omega) (by omega) z]; rfl
    · rw [zsw_k 3 (by omega) (by omega) z]; rfl
    · rw [zsw_k 4 (by omega) (by omega) z]; rfl
    · rw [zsw_k 5 (by omega) (by omega) z]; rfl
    · rw [zsw_k 6 (by omega) (by omega) z]; rfl
    · rw [zsw_k 7 (by omega) (by omega) z]; rfl
    · rw [zsw_k 8 (by omega) (by omega) z]; exact e5
    · rw [zsw_k 9 (by omega) (by omega) z]; rfl
    · rw [zsw_k 10 (by omega) (by omega) z]; rfl
    · rw [zsw_k 11 (by omega) (by omega) z]; rfl
  · subst e2
    exact ⟨fun _ => hr _ (Or.inr ⟨hn, rfl⟩), fun b3 z => by cases z⟩
theorem C_X5_money (hL : zLay G) : Con_X5_money l G (fun f _ _ m => zPb m (f + 1)) (fun f x1 x2 m r => zCt m (f + 1) x1 (fun c => r = if x2 = 0 then zbSh m (f + 1) (zI m 106 (zkq (f + 1) c) 0) (zbMa m (f + 1)) else zCOv m (zkq (f + 1) c + 1) x2) (r = -1)) := by
  refine con_X5_money hL fun C Qc S hl f x1 x2 m kf hp hr => sg_X5_money_0 S (C_X0_claimAt hL) (C_X3_coinsOf hL) (C_X0_worstOf hL) kf ⟨hp.1, fun r2 h2 => ?_⟩
  rcases h2 with ⟨c, hc, e, e2⟩ | ⟨hn, e2⟩
  · subst e2
    refine ⟨fun z => absurd z (by simp), fun b3 z kb3 => ?_⟩
    cases z
    refine ⟨fun q => ⟨hp.2.2.2.1 c (zPb_c hp hc), fun r5 e5 => hr _ (zCt_s hp hc e ?_)⟩, fun q => ⟨trivial, fun r7 e7 => hr _ (zCt_s hp hc e ?_)⟩⟩
    · rw [if_neg q]; exact e5
    · rw [if_pos q]; exact e7
  · subst e2
    exact ⟨fun _ => hr _ (Or.inr ⟨hn, rfl⟩), fun b3 z => by cases z⟩
theorem C_X5_fee (hL : zLay G) : Con_X5_fee l G (fun f _ _ m => zPb m (f + 1)) (fun f x1 x2 m r m' => zCt m (f + 1) x1 (fun c => zIt r m' ((0 ≤ x2 ∧ x2 ≤ 40) ∧ zI m 9 (f + 1) 0 = 0) 1 (zsI m 300 (zkq (f + 1) c + 1) 0 x2) 0 m) (r = 0 ∧ m' = m)) := by
  refine con_X5_fee hL fun C Qc S hl f x1 x2 m kf hp hr => sg_X5_fee_0 S (C_X0_claimAt hL) kf ⟨hp.1, fun r2 h2 => ?_⟩
  rcases h2 with ⟨c, hc, e, e2⟩ | ⟨hn, e2⟩
  · subst e2
    refine ⟨fun z => absurd z (by simp), fun b3 z kb3 => ?_⟩
    cases z
    have no : ¬ ((0 ≤ x2 ∧ x2 ≤ 40) ∧ zI m 9 (f + 1) 0 = 0) → zRet C G Qc (some (.int 0)) m := fun y => hr _ _ (zCt_s hp hc e (Or.inr ⟨y, rfl, rfl⟩))
    exact ⟨fun h => no fun y => h y.2, fun h => ⟨fun h1 => no fun y => Int32.not_le.2 h1 y.1.1, fun h1 => ⟨fun h2 => hr _ _ (zCt_s hp hc e (Or.inl ⟨⟨⟨Int32.not_lt.1 h1, h2⟩, h⟩, rfl, rfl⟩)), fun h2 => no fun y => h2 y.1.2⟩⟩⟩
  · subst e2
    refine ⟨fun _ => ⟨fun _ => hr _ _ (Or.inr ⟨hn, rfl, rfl⟩), fun _ => hr _ _ (Or.inr ⟨hn, rfl, rfl⟩)⟩, fun b3 z => by cases z⟩
theorem C_X5_lien (hL : zLay G) : Con_X5_lien l G (fun f _ _ _ m => zPb m (f + 1)) (fun f x1 x2 l3 m r m' => zCt m (f + 1) x1 (fun c => (((0 ≤ x2 ∧ x2 ≤ 9) ∧ ¬ l3 < 1 ∧ ¬ 1000000000 < l3 ∧ zI m 9 (f + 1) 0 = 0) ∧ zIt r m' (zI m 301 (zkq (f + 1) c + 1) 0 < 4) (zI m 301 (zkq (f + 1) c + 1) 0) (zALm m (zkq (f + 1) c + 1) x2 l3) (-1) m) ∨ (¬ ((0 ≤ x2 ∧ x2 ≤ 9) ∧ ¬ l3 < 1 ∧ ¬ 1000000000 < l3 ∧ zI m 9 (f + 1) 0 = 0) ∧ r = -1 ∧ m' = m)) (r = -1 ∧ m' = m)) := by
  refine con_X5_lien hL fun C Qc S hl f x1 x2 l3 m kf hp hr => sg_X5_lien_0 S (C_X0_claimAt hL) (C_X3_addLien hL) kf ⟨hp.1, fun r2 h2 => ?_⟩
  rcases h2 with ⟨c, hc, e, e2⟩ | ⟨hn, e2⟩
  · subst e2
    refine ⟨fun z => absurd z (by simp), fun b3 z kb3 => ?_⟩
    cases z
    have no : ¬ ((0 ≤ x2 ∧ x2 ≤ 9) ∧ ¬ l3 < 1 ∧ ¬ 1000000000 < l3 ∧ zI m 9 (f + 1) 0 = 0) → zRet C G Qc (some (.int (-1))) m := fun y => hr _ _ (zCt_s hp hc e (Or.inr ⟨y, rfl, rfl⟩))
    have no1 : x2 < 0 → zRet C G Qc (some (.int (-1))) m := fun h => no fun y => Int32.not_le.2 h y.1.1
    have no2 : 9 < x2 → zRet C G Qc (some (.int (-1))) m := fun h => no fun y => Int32.not_le.2 h y.1.2
    have no3 : l3 < 1 → zRet C G Qc (some (.int (-1))) m := fun h => no fun y => y.2.1 h
    have no4 : 1000000000 < l3 → zRet C G Qc (some (.int (-1))) m := fun h => no fun y => y.2.2.1 h
    refine ⟨fun h => ⟨fun _ => no1 h, fun _ => no1 h⟩, fun h1 => ⟨fun h => ⟨fun _ => no2 h, fun _ => no2 h⟩, fun h2 => ⟨fun h => ⟨fun _ => no3 h, fun _ => no3 h⟩, fun h3 => ⟨fun h => ⟨fun _ => no4 h, fun _ => no4 h⟩, fun h4 => ⟨fun h => no fun y => h y.2.2.2, fun h5 => ⟨hp.2.2.2.1 c (zPb_c hp hc), fun r5 m5 e5 => hr _ _ (zCt_s hp hc e (Or.inl ⟨⟨⟨Int32.not_lt.1 h1, Int32.not_lt.1 h2⟩, h3, h4, h5⟩, ?_⟩))⟩⟩⟩⟩⟩⟩
    have e5 : if zI m 301 (zkq (f + 1) c + 1) 0 < 4 then r5 = zI m 301 (zkq (f + 1) c + 1) 0 ∧ m5 = zALm m (zkq (f + 1) c + 1) x2 l3 else r5 = -1 ∧ m5 = m := e5
    by_cases q : zI m 301 (zkq (f + 1) c + 1) 0 < 4
    · rw [if_pos q] at e5; exact Or.inl ⟨q, e5⟩
    · rw [if_neg q] at e5; exact Or.inr ⟨q, e5⟩
  · subst e2
    have no : zRet C G Qc (some (.int (-1))) m := hr _ _ (Or.inr ⟨hn, rfl, rfl⟩)
    exact ⟨fun _ => ⟨fun _ => ⟨fun _ => no, fun _ => no⟩, fun _ => ⟨fun _ => ⟨fun _ => no, fun _ => no⟩, fun _ => ⟨fun _ => ⟨fun _ => no, fun _ => no⟩, fun _ => ⟨fun _ => ⟨fun _ => no, fun _ => no⟩, fun _ => ⟨fun _ => no, fun _ => no⟩⟩⟩⟩⟩, fun b3 z => by cases z⟩
theorem C_X5_heir (hL : zLay G) : Con_X5_heir l G (fun f _ _ m => zPb m (f + 1)) (fun f x1 x2 m r m' => zCt m (f + 1) x1 (fun c => (((1 ≤ x2 ∧ x2 ≤ 9) ∧ zI m 9 (f + 1) 0 = 0) ∧ zIt r m' (zI m 302 (zkq (f + 1) c + 1) 0 < 4) (zI m 302 (zkq (f + 1) c + 1) 0) (zAHm m (zkq (f + 1) c + 1) x2) (-1) m) ∨ (¬ ((1 ≤ x2 ∧ x2 ≤ 9) ∧ zI m 9 (f + 1) 0 = 0) ∧ r = -1 ∧ m' = m)) (r = -1 ∧ m' = m)) := by
  refine con_X5_heir hL fun C Qc S hl f x1 x2 m kf hp hr => sg_X5_heir_0 S (C_X0_claimAt hL) (C_X3_addHeir hL) kf ⟨hp.1, fun r2 h2 => ?_⟩
  rcases h2 with ⟨c, hc, e, e2⟩ | ⟨hn, e2⟩
  · subst e2
    refine ⟨fun z => absurd z (by simp), fun b3 z kb3 => ?_⟩
    cases z
    have no : ¬ ((1 ≤ x2 ∧ x2 ≤ 9) ∧ zI m 9 (f + 1) 0 = 0) → zRet C G Qc (some (.int (-1))) m := fun y => hr _ _ (zCt_s hp hc e (Or.inr ⟨y, rfl, rfl⟩))
    refine ⟨fun h => no fun y => h y.2, fun h => ⟨fun h1 => no fun y => Int32.not_le.2 h1 y.1.1, fun h1 => ⟨fun h2 => ⟨hp.2.2.2.1 c (zPb_c hp hc), fun r5 m5 e5 => hr _ _ (zCt_s hp hc e (Or.inl ⟨⟨⟨Int32.not_lt.1 h1, h2⟩, h⟩, ?_⟩))⟩, fun h2 => no fun y => h2 y.1.2⟩⟩⟩
    have e5 : if zI m 302 (zkq (f + 1) c + 1) 0 < 4 then r5 = zI m 302 (zkq (f + 1) c + 1) 0 ∧ m5 = zAHm m (zkq (f + 1) c + 1) x2 else r5 = -1 ∧ m5 = m := e5
    by_cases q : zI m 302 (zkq (f + 1) c + 1) 0 < 4
    · rw [if_pos q] at e5; exact Or.inl ⟨q, e5⟩
    · rw [if_neg q] at e5; exact Or.inr ⟨q, e5⟩
  · subst e2
    refine ⟨fun _ => ⟨fun _ => hr _ _ (Or.inr ⟨hn, rfl, rfl⟩), fun _ => hr _ _ (Or.inr ⟨hn, rfl, rfl⟩)⟩, fun b3 z => by cases z⟩
theorem C_X5_wave (hL : zLay G) : Con_X5_wave l G (fun f _ m => zPb m (f + 1)) (fun f x m r m' => zIt r m' ((1 ≤ x ∧ x ≤ 100) ∧ zI m 9 (f + 1) 0 = 0) (zbPa (zsI (zbWv m (f + 1) (zbMa m (f + 1)) x 16) 8 (f + 1) 0 (zI m 8 (f + 1) 0 + 1)) (f + 1) - zbPa m (f + 1)) (zsI (zbWv m (f + 1) (zbMa m (f + 1)) x 16) 8 (f + 1) 0 (zI m 8 (f + 1) 0 + 1)) (-1) m) := by
  refine con_X5_wave hL fun C Qc S hl f x m kf hp hr => sg_X5_wave_0 S (C_X0_payWave hL) kf ⟨fun h => hr _ _ (Or.inr ⟨fun z => h z.2, rfl, rfl⟩), fun h => ⟨fun h1 => hr _ _ (Or.inr ⟨fun z => Int32.not_le.2 h1 z.1.1, rfl, rfl⟩), fun h1 => ⟨fun h2 => ⟨hp.2.2.2.1, fun r2 m2 e2 => ?_⟩, fun h2 => hr _ _ (Or.inr ⟨fun z => h2 z.1.2, rfl, rfl⟩)⟩⟩⟩
  obtain ⟨e3, e4⟩ := e2
  subst e3
  exact hr _ _ (Or.inl ⟨⟨⟨Int32.not_lt.1 h1, h2⟩, h⟩, e4, rfl⟩)
theorem C_X5_finish (hL : zLay G) : Con_X5_finish l G (fun f m => zPb m (f + 1)) (fun f m r m' => ((zI m 9 (f + 1) 0 = 0 ∧ zcb (fun c => decide (zI m 105 (zkq (f + 1) c) 0 = 0)) 16 = 0) ∧ zIt r m' (zbMa m (f + 1) = 0) (-1) m (zbPa (zbFi m (f + 1)) (f + 1) - zbPa m (f + 1)) (zbFi m (f + 1))) ∨ (¬ (zI m 9 (f + 1) 0 = 0 ∧ zcb (fun c => decide (zI m 105 (zkq (f + 1) c) 0 = 0)) 16 = 0) ∧ r = -1 ∧ m' = m)) := by
  refine con_X5_finish hL fun C Qc S hl f m kf hp hr => sg_X5_finish_0 S (C_X0_inState hL) (C_X0_payAll hL) kf ⟨fun h => hr _ _ (Or.inr ⟨fun z => h z.1, rfl, rfl⟩), fun h => ⟨trivial, fun r2 e2 => ?_⟩⟩
  have e2 : r2 = nI (zcb (fun c => decide (zI m 105 (zkq (f + 1) c) 0 = 0)) 16) := e2
  have hle := zcb_le (fun c => decide (zI m 105 (zkq (f + 1) c) 0 = 0)) 16
  have e3 : r2 ≤ 0 ↔ zcb (fun c => decide (zI m 105 (zkq (f + 1) c) 0 = 0)) 16 = 0 := by
    rw [e2]
    generalize zcb (fun c => decide (zI m 105 (zkq (f + 1) c) 0 = 0)) 16 = n at *
    rw [show (0 : Int32) = nI 0 from rfl, nI_leI (by omega) (by omega)]
    omega
  exact ⟨fun q => ⟨hp.2.2.2.1, fun r4 m4 e4 => hr _ _ (Or.inl ⟨⟨h, e3.1 q⟩, e4⟩)⟩, fun q => hr _ _ (Or.inr ⟨fun z => q (e3.2 z.2), rfl, rfl⟩)⟩
theorem C_X5_sum (hL : zLay G) : Con_X5_sum l G (fun _ _ _ => True) (fun f x m r => r = zsw 4 (fun k => if k = 0 then zJ m 0 (f + 1) 0 else if k = 1 then zbPa m (f + 1) else if k = 2 then zbMa m (f + 1) else zbLa m (f + 1)) (-1) x) := by
  refine con_X5_sum hL fun C Qc S hl f x m kf _ hr => sg_X5_sum_0 S (C_X0_paidInAll hL) (C_X0_mostInAll hL) (C_X0_leastInAll hL) kf ⟨fun z => hr _ (zsw_o (by omega)).symm, fun z => hr _ ?_, fun z => ⟨trivial, fun r h => hr _ ?_⟩, fun z => ⟨trivial, fun r h => hr _ ?_⟩, fun z => ⟨trivial, fun r h => hr _ ?_⟩⟩
  · rw [zsw_k 0 (by omega) (by omega) z]; rfl
  · rw [zsw_k 1 (by omega) (by omega) z]; exact h
  · rw [zsw_k 2 (by omega) (by omega) z]; exact h
  · rw [zsw_k 3 (by omega) (by omega) z]; exact h
theorem C_X5_count (hL : zLay G) : Con_X5_count l G (fun _ _ _ => True) (fun f x m r => r = zsw 7 (fun k => if k = 0 then zI m 7 (f + 1) 0 else if k < 4 then nI (zcb (fun c => decide (zI m 105 (zkq (f + 1) c) 0 = nI (k - 1))) 16) else if k = 4 then zI m 200 (zR m 3 (f + 1)) 0 else if k = 5 then zI m 8 (f + 1) 0 else if zI m 9 (f + 1) 0 = 0 then 0 else 1) (-1) x) := by
  refine con_X5_count hL fun C Qc S hl f x m kf _ hr => sg_X5_count_0 S (C_X0_inState hL) kf ⟨fun z => hr _ (zsw_o (by omega)).symm, fun z => hr _ ?_, fun z => ⟨trivial, fun r h => hr _ ?_⟩, fun z => ⟨trivial, fun r h => hr _ ?_⟩, fun z => ⟨trivial, fun r h => hr _ ?_⟩, fun z => hr _ ?_, fun z => hr _ ?_, fun z => ⟨fun q => hr _ ?_, fun q => hr _ ?_⟩⟩
  · rw [zsw_k 0 (by omega) (by omega) z]; rfl
  · rw [zsw_k 1 (by omega) (by omega) z]; exact h
  · rw [zsw_k 2 (by omega) (by omega) z]; exact h
  · rw [zsw_k 3 (by omega) (by omega) z]; exact h
  · rw [zsw_k 4 (by omega) (by omega) z]; rfl
  · rw [zsw_k 5 (by omega) (by omega) z]; rfl
  · rw [zsw_k 6 (by omega) (by omega) z]; exact (if_pos q).symm
  · rw [zsw_k 6 (by omega) (by omega) z]; exact (if_neg q).symm
def zbCp (m : zM) (b b2 : Nat) : zM := zbCt (zbCs (zbCi (zbCh m b b2) b b2) b b2 16) b b2
theorem C_X5_again (hL : zLay G) : Con_X5_again l G (fun f _ m => ∀ k, k < 3 → ∀ b2, zQ m 1501 f k = some b2 → f + 1 ≠ b2 ∧ (zI m 9 b2 0 = 0 ∨ zI m 9 b2 0 = 1)) (fun f x m r m' => (∃ k b2, k < 3 ∧ x = nI k ∧ zQ m 1501 f k = some b2 ∧ r = 1 ∧ m' = zbCp m (f + 1) b2) ∨ ((¬ ∃ k b2, k < 3 ∧ x = nI k ∧ zQ m 1501 f k = some b2) ∧ r = 0 ∧ m' = m)) := by
  refine con_X5_again hL fun C Qc S hl f x m kf hp hr => sg_X5_again_0 S (C_X0_copyFrom hL) kf ⟨fun h => hr _ _ (Or.inr ⟨?_, rfl, rfl⟩), fun h => ⟨fun h1 => ?_, fun h1 => hr _ _ (Or.inr ⟨?_, rfl, rfl⟩)⟩⟩
  · rintro ⟨k, b2, hk, rfl, -⟩
    exact nI_pos (by omega) h
  · obtain ⟨k, hk, rfl⟩ := nI_of h
    rw [show (3 : Int32) = nI 3 from rfl, nI_ltI hk (by omega)] at h1
    rw [nI_clamp (by omega)]
    refine ⟨vp_in_nI h1 (by omega), fun q => hr _ _ (Or.inr ⟨?_, rfl, rfl⟩), fun b2 q => ⟨hp k h1 b2 q, fun m4 e4 => hr _ _ (Or.inl ⟨k, b2, h1, rfl, q, rfl, e4⟩)⟩⟩
    rintro ⟨k', b2, hk', e, y⟩
    rw [nI_eq (by omega) (by omega)] at e
    subst e
    rw [q] at y
    cases y
  · rintro ⟨k, b2, hk, rfl, -⟩
    exact h1 (by rw [show (3 : Int32) = nI 3 from rfl, nI_ltI (by omega) (by omega)]; exact hk)
end ZX5
