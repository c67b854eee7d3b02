/-! the class's Book: pure functions over its claims -/
abbrev zkq (b c : Nat) : Nat := b + 11 + 7 * c
def zbMa (m : zM) (b : Nat) : Int64 := zsum (fun c => (zI m 107 (zkq b c) 0).toInt64) 16
def zbLa (m : zM) (b : Nat) : Int64 := zsum (fun c => (zI m 106 (zkq b c) 0).toInt64) 16
def zbPa (m : zM) (b : Nat) : Int64 := zsum (fun c => zJ m 303 (zkq b c + 1) 0) 16
def zbSh (m : zM) (b : Nat) (pts : Int32) (all : Int64) : Int64 := if all ≤ 0 then 0 else zJ m 0 b 0 * pts.toInt64 / all
def zbRe (m : zM) (b : Nat) (pts : Int32) (all : Int64) : Int64 := if all ≤ 0 then 0 else zJ m 0 b 0 * pts.toInt64 - zJ m 0 b 0 * pts.toInt64 / all * all
def zbH (m : zM) (b : Nat) : Prop := ∀ c, c < 16 → zJ m 303 (zkq b c + 1) 0 ≤ zbSh m b (zI m 106 (zkq b c) 0) (zbMa m b)
abbrev zbIn (m : zM) (q : Nat) : Prop := zI m 105 q 0 = 0 ∨ zI m 105 q 0 = 1
abbrev zbTw (m : zM) (q q2 : Nat) : Prop := ¬ q = q2 ∧ zbIn m q ∧ zbIn m q2 ∧ zI m 100 q 0 = zI m 100 q2 0
section ZBK
variable {l : Launch} {G : zG}
theorem C_X0_mostInAll (hL : zLay G) : Con_X0_mostInAll l G (fun _ _ => True) (fun b m r => r = zbMa m b) := by
  refine con_X0_mostInAll hL fun C Qc S hl b m kb _ hr => sg_X0_mostInAll_0 S kb ?_
  have key : ∀ i, i ≤ 16 → Pt_X0_mostInAll_14 C G (zsum (fun c => (zI m 107 (zkq b c) 0).toInt64) i) (nI i) b m := by
    refine z_loop 16 ?_ (fun i hi ih => ?_)
    · exact sg_X0_mostInAll_14 S kb ⟨fun _ => hr _ rfl, fun q => absurd (by decide) q⟩
    · refine sg_X0_mostInAll_14 S kb ⟨fun q => absurd q (zge 16 hi), fun _ => ⟨vp_in_nI hi (by omega), ?_⟩⟩
      rw [← nI_succ, nI_clamp (by omega)]
      exact ih
  exact key 0 (by omega)
theorem C_X0_leastInAll (hL : zLay G) : Con_X0_leastInAll l G (fun _ _ => True) (fun b m r => r = zbLa m b) := by
  refine con_X0_leastInAll hL fun C Qc S hl b m kb _ hr => sg_X0_leastInAll_0 S kb ?_
  have key : ∀ i, i ≤ 16 → Pt_X0_leastInAll_14 C G (zsum (fun c => (zI m 106 (zkq b c) 0).toInt64) i) (nI i) b m := by
    refine z_loop 16 ?_ (fun i hi ih => ?_)
    · exact sg_X0_leastInAll_14 S kb ⟨fun _ => hr _ rfl, fun q => absurd (by decide) q⟩
    · refine sg_X0_leastInAll_14 S kb ⟨fun q => absurd q (zge 16 hi), fun _ => ⟨vp_in_nI hi (by omega), ?_⟩⟩
      rw [← nI_succ, nI_clamp (by omega)]
      exact ih
  exact key 0 (by omega)
theorem C_X0_paidInAll (hL : zLay G) : Con_X0_paidInAll l G (fun _ _ => True) (fun b m r => r = zbPa m b) := by
  refine con_X0_paidInAll hL fun C Qc S hl b m kb _ hr => sg_X0_paidInAll_0 S kb ?_
  have key : ∀ i, i ≤ 16 → Pt_X0_paidInAll_14 C G (zsum (fun c => zJ m 303 (zkq b c + 1) 0) i) (nI i) b m := by
    refine z_loop 16 ?_ (fun i hi ih => ?_)
    · exact sg_X0_paidInAll_14 S kb ⟨fun _ => hr _ rfl, fun q => absurd (by decide) q⟩
    · refine sg_X0_paidInAll_14 S kb ⟨fun q => absurd q (zge 16 hi), fun _ => ⟨vp_in_nI hi (by omega), ?_⟩⟩
      rw [← nI_succ, nI_clamp (by omega)]
      exact ih
  exact key 0 (by omega)
theorem C_X0_shareOf (hL : zLay G) : Con_X0_shareOf l G (fun _ _ _ _ => True) (fun b x a m r => r = zbSh m b x a) :=
  con_X0_shareOf hL fun C Qc S hl b x a m kb _ hr => sg_X0_shareOf_0 S kb ⟨fun q => hr _ (by unfold zbSh; rw [if_pos q]), fun q => ⟨fun z => q (by rw [z]; decide), hr _ (by unfold zbSh; rw [if_neg q])⟩⟩
theorem C_X0_restOf (hL : zLay G) : Con_X0_restOf l G (fun _ _ _ _ => True) (fun b x a m r => r = zbRe m b x a) :=
  con_X0_restOf hL fun C Qc S hl b x a m kb _ hr => sg_X0_restOf_0 S kb ⟨fun q => hr _ (by unfold zbRe; rw [if_pos q]), fun q => ⟨fun z => q (by rw [z]; decide), hr _ (by unfold zbRe; rw [if_neg q])⟩⟩
theorem C_X0_holds (hL : zLay G) : Con_X0_holds l G (fun _ _ => True) (fun b m r => zB r (zbH m b)) := by
  refine con_X0_holds hL fun C Qc S hl b m kb _ hr => sg_X0_holds_0 S (C_X0_mostInAll hL) kb ⟨trivial, fun r2 h2 => ?_⟩
  subst h2
  have key : ∀ i, i ≤ 16 → (∀ c, c < i → zJ m 303 (zkq b c + 1) 0 ≤ zbSh m b (zI m 106 (zkq b c) 0) (zbMa m b)) → Pt_X0_holds_17 C G b (zbMa m b) (nI i) m := by
    refine z_loop (P := fun i => (∀ c, c < i → zJ m 303 (zkq b c + 1) 0 ≤ zbSh m b (zI m 106 (zkq b c) 0) (zbMa m b)) → Pt_X0_holds_17 C G b (zbMa m b) (nI i) m) 16 (fun h => ?_) (fun i hi ih h => ?_)
    · exact sg_X0_holds_17 S (C_X0_shareOf hL) kb ⟨fun _ => hr _ (Or.inl ⟨rfl, h⟩), fun q => absurd (by decide) q⟩
    · refine sg_X0_holds_17 S (C_X0_shareOf hL) kb ⟨fun q => absurd q (zge 16 hi), fun _ => ⟨vp_in_nI hi (by omega), trivial, fun r3 h3 => ?_⟩⟩
      rw [nI_clamp (by omega)] at h3 ⊢
      have h3 : r3 = zbSh m b (zI m 106 (zkq b i) 0) (zbMa m b) := h3
      rw [← nI_succ, h3]
      refine ⟨fun q => ih (fun c hc => ?_), fun q => hr _ (Or.inr ⟨rfl, fun z => q (z i hi)⟩)⟩
      by_cases e : c = i
      · subst e; exact q
      · exact h c (by omega)
  exact key 0 (by omega) (fun c hc => by omega)
theorem C_X0_inState (hL : zLay G) : Con_X0_inState l G (fun _ _ _ => True) (fun b x m r => r = nI (zcb (fun c => decide (zI m 105 (zkq b c) 0 = x)) 16)) := by
  refine con_X0_inState hL fun C Qc S hl b x m kb _ hr => sg_X0_inState_0 S kb ?_
  have key : ∀ i, i ≤ 16 → Pt_X0_inState_14 C G x (nI (zcb (fun c => decide (zI m 105 (zkq b c) 0 = x)) i)) (nI i) b m := by
    refine z_loop 16 ?_ (fun i hi ih => ?_)
    · exact sg_X0_inState_14 S kb ⟨fun _ => hr _ rfl, fun q => absurd (by decide) q⟩
    · refine sg_X0_inState_14 S kb ⟨fun q => absurd q (zge 16 hi), fun _ => ⟨vp_in_nI hi (by omega), ?_⟩⟩
      rw [← nI_succ, ← nI_succ, nI_clamp (by omega)]
      rw [zcb] at ih
      refine ⟨fun q => ?_, fun q => ?_⟩
      · rw [decide_eq_false q] at ih
        exact ih
      · rw [decide_eq_true q] at ih
        exact ih
  exact key 0 (by omega)
theorem C_X0_areTwins (hL : zLay G) : Con_X0_areTwins l G (fun _ _ _ => True) (fun q q2 m r => zB r (zbTw m q q2)) := by
  refine con_X0_areTwins hL fun C Qc S hl q q2 m kq kq2 _ hr => sg_X0_areTwins_0 S (C_X1_isIn hL) kq kq2 ⟨fun e => hr _ (Or.inr ⟨rfl, fun z => z.1 e⟩), fun e => ⟨trivial, fun r2 h2 => ?_⟩⟩
  have h2 : r2 = if zI m 105 q 0 = 0 ∨ zI m 105 q 0 = 1 then 1 else 0 := h2
  refine ⟨fun z => hr _ (Or.inr ⟨rfl, fun y => ?_⟩), fun z => ⟨trivial, fun r4 h4 => ?_⟩⟩
  · rw [h2, if_pos y.2.1] at z; exact absurd z (by decide)
  have h4 : r4 = if zI m 105 q2 0 = 0 ∨ zI m 105 q2 0 = 1 then 1 else 0 := h4
  refine ⟨fun z4 => hr _ (Or.inr ⟨rfl, fun y => ?_⟩), fun z4 => ⟨fun z5 => hr _ (Or.inr ⟨rfl, fun y => z5 y.2.2.2⟩), fun z5 => hr _ (Or.inl ⟨rfl, e, ?_, ?_, z5⟩)⟩⟩
  · rw [h4, if_pos y.2.2.1] at z4; exact absurd z4 (by decide)
  · exact Decidable.byContradiction fun y => z (by rw [h2, if_neg y])
  · exact Decidable.byContradiction fun y => z4 (by rw [h4, if_neg y])
theorem C_X0_twinsOf (hL : zLay G) : Con_X0_twinsOf l G (fun _ _ _ => True) (fun b q m r => r = nI (zcb (fun c => decide (zbTw m q (zkq b c))) 16)) := by
  refine con_X0_twinsOf hL fun C Qc S hl b q m kb kq _ hr => sg_X0_twinsOf_0 S kb kq ?_
  have key : ∀ i, i ≤ 16 → Pt_X0_twinsOf_14 C G q (nI (zcb (fun c => decide (zbTw m q (zkq b c))) i)) (nI i) b m := by
    refine z_loop 16 ?_ (fun i hi ih => ?_)
    · exact sg_X0_twinsOf_14 S (C_X0_areTwins hL) kq kb ⟨fun _ => hr _ rfl, fun q => absurd (by decide) q⟩
    · refine sg_X0_twinsOf_14 S (C_X0_areTwins hL) kq kb ⟨fun q => absurd q (zge 16 hi), fun _ => ⟨vp_in_nI hi (by omega), trivial, fun r3 h3 => ?_⟩⟩
      rw [nI_clamp (by omega)] at h3
      have h3 : zB r3 (zbTw m q (zkq b i)) := h3
      rw [← nI_succ, ← nI_succ]
      rw [zcb] at ih
      refine ⟨fun z => ?_, fun z => ?_⟩
      · have := (h3.resolve_left (fun y => by rw [z] at y; exact absurd y.1 (by decide))).2
        rw [decide_eq_false this] at ih
        exact ih
      · have := (h3.resolve_right (fun y => z y.1)).2
        rw [decide_eq_true this] at ih
        exact ih
  exact key 0 (by omega)
theorem C_X0_hasJudgedTwin (hL : zLay G) : Con_X0_hasJudgedTwin l G (fun _ _ _ => True) (fun b q m r => zB r (∃ c, c < 16 ∧ zI m 105 (zkq b c) 0 = 1 ∧ zbTw m q (zkq b c))) := by
  refine con_X0_hasJudgedTwin hL fun C Qc S hl b q m kb kq _ hr => sg_X0_hasJudgedTwin_0 S kb kq ?_
  have key : ∀ i, i ≤ 16 → (∀ c, c < i → ¬ (zI m 105 (zkq b c) 0 = 1 ∧ zbTw m q (zkq b c))) → Pt_X0_hasJudgedTwin_11 C G q (nI i) b m := by
    refine z_loop (P := fun i => (∀ c, c < i → ¬ (zI m 105 (zkq b c) 0 = 1 ∧ zbTw m q (zkq b c))) → Pt_X0_hasJudgedTwin_11 C G q (nI i) b m) 16 (fun h => ?_) (fun i hi ih h => ?_)
    · exact sg_X0_hasJudgedTwin_11 S (C_X0_areTwins hL) kq kb ⟨fun _ => hr _ (Or.inr ⟨rfl, fun ⟨c, h1, h2⟩ => h c h1 h2⟩), fun q => absurd (by decide) q⟩
    · have nx : ¬ (zI m 105 (zkq b i) 0 = 1 ∧ zbTw m q (zkq b i)) → Pt_X0_hasJudgedTwin_11 C G q (nI (i + 1)) b m := fun z => ih (fun c hc => by
        by_cases e : c = i
        · subst e; exact z
        · exact h c (by omega))
      refine sg_X0_hasJudgedTwin_11 S (C_X0_areTwins hL) kq kb ⟨fun q => absurd q (zge 16 hi), fun _ => ⟨vp_in_nI hi (by omega), ?_⟩⟩
      rw [nI_clamp (by omega), ← nI_succ]
      refine ⟨fun z => nx (fun y => z y.1), fun z => ⟨trivial, fun r3 h3 => ?_⟩⟩
      have h3 : zB r3 (zbTw m q (zkq b i)) := h3
      refine ⟨fun y => nx (fun w => ?_), fun y => hr _ (Or.inl ⟨rfl, i, hi, z, (h3.resolve_right (fun w => y w.1)).2⟩)⟩
      exact (h3.resolve_left (fun w => by rw [y] at w; exact absurd w.1 (by decide))).2 w.2
  exact key 0 (by omega) (fun c hc => by omega)
theorem C_X0_claimAt (hL : zLay G) : Con_X0_claimAt l G (fun b _ m => ∃ n, n ≤ 16 ∧ zI m 7 b 0 = nI n) (fun b x m r => (∃ c, c < (zI m 7 b 0).toNatClampNeg ∧ x = nI c ∧ r = some (zkq b c)) ∨ (¬ zIsC x (zI m 7 b 0) ∧ r = none)) := by
  refine con_X0_claimAt hL fun C Qc S hl b x m kb hp hr => sg_X0_claimAt_0 S kb ?_
  obtain ⟨n, hn, en⟩ := hp
  unfold zIsC at hr
  rw [en, nI_clamp (by omega)] at hr
  rw [en]
  have no : (x < 0 ∨ nI n ≤ x) → ¬ ∃ i, i < n ∧ x = nI i := by
    rintro h ⟨i, hi, rfl⟩
    rcases h with h | h
    · exact nI_pos (by omega) h
    · rw [nI_leI (by omega) (by omega)] at h; omega
  refine ⟨fun q => hr _ (fun a z => by cases z) (Or.inr ⟨no (Or.inl q), rfl⟩), fun q => ⟨fun q2 => hr _ (fun a z => by cases z) (Or.inr ⟨no (Or.inr q2), rfl⟩), fun q2 => ?_⟩⟩
  obtain ⟨i, hi, ei⟩ := nI_of (x := x) q
  subst ei
  rw [nI_leI (by omega) (by omega)] at q2
  refine ⟨fun q3 => ⟨vp_in_nI (by omega) (by omega), ?_⟩, fun q3 => absurd ?_ q3⟩
  · rw [nI_clamp (by omega)]
    exact hr _ (fun a z => by cases z; exact zL_claim hL kb (by omega)) (Or.inl ⟨i, by omega, rfl, rfl⟩)
  · rw [show (16 : Int32) = nI 16 from rfl, nI_ltI (by omega) (by omega)]
    omega
theorem C_X0_worstOf (hL : zLay G) : Con_X0_worstOf l G (fun _ _ _ => True) (fun b q m r => r = zbSh m b (zI m 106 q 0) (zbMa m b)) :=
  con_X0_worstOf hL fun C Qc S hl b q m kb kq _ hr => sg_X0_worstOf_0 S (C_X0_mostInAll hL) (C_X0_shareOf hL) kb kq ⟨trivial, fun r2 h2 => ⟨trivial, fun r4 h4 => hr _ (by rw [h4, h2])⟩⟩
theorem C_X0_setFault (hL : zLay G) : Con_X0_setFault l G (fun _ _ _ _ => True) (fun b x y m m' => m' = zsI (zsI m 4 b 0 x) 5 b 0 y) :=
  con_X0_setFault hL fun C Qc S hl b x y m kb _ hr => sg_X0_setFault_0 S kb (hr _ rfl)
def zbby (m : zM) (b : Nat) (v : Int32) : zM := zsI (zsI m 1001 b (zI m 2 b 0).toNatClampNeg v) 2 b 0 (zI m 2 b 0 + 1)
def zbfo (m : zM) (b : Nat) (x : Int32) : zM := zbby (zbby (zbby (zbby m b (z8 (z8 (zushr x 24)))) b (z8 (z8 (zushr x 16)))) b (z8 (z8 (zushr x 8)))) b (z8 (z8 (zushr x 0)))
theorem C_X0_addBytes (hL : zLay G) : Con_X0_addBytes l G (fun b _ m => ∃ k, k ≤ 396 ∧ zI m 2 b 0 = nI k) (fun b x m m' => m' = zbfo m b x) := by
  refine con_X0_addBytes hL fun C Qc S hl b x m kb hp hr => sg_X0_addBytes_0 S kb ?_
  obtain ⟨k, hk, ek⟩ := hp
  have st : ∀ M j (s : Int32), j ≤ 399 → zI M 2 b 0 = nI j → ¬ s < 0 → Pt_X0_addBytes_3 C G b x (s + (-8)) (zbby M b (z8 (z8 (zushr x s)))) → Pt_X0_addBytes_3 C G b x s M := fun M j s hj ej hs h => by
    refine sg_X0_addBytes_3 S kb ⟨fun q => absurd q hs, fun _ => ⟨fun q => absurd q ?_, fun _ => ⟨?_, h⟩⟩⟩
    · rw [ej]; exact zge 400 (by omega)
    · rw [ej]; exact vp_in_nI (by omega) (by omega)
  have e2 : ∀ M j v, zI M 2 b 0 = nI j → zI (zbby M b v) 2 b 0 = nI (j + 1) := fun M j v e => by
    unfold zbby
    rw [zI_e, e, ← nI_succ]
  refine st m k 24 (by omega) ek (by decide) ?_
  have k1 := e2 m k (z8 (z8 (zushr x 24))) ek
  refine st _ _ 16 (by omega) k1 (by decide) ?_
  have k2 := e2 _ _ (z8 (z8 (zushr x 16))) k1
  refine st _ _ 8 (by omega) k2 (by decide) ?_
  have k3 := e2 _ _ (z8 (z8 (zushr x 8))) k2
  refine st _ _ 0 (by omega) k3 (by decide) ?_
  exact sg_X0_addBytes_3 S kb ⟨fun _ => hr _ rfl, fun q => absurd (by decide) q⟩
/-- all claims measured by g, the first k -/
def zbUR (m : zM) (b g : Nat) : Nat → zM
  | 0 => m
  | k + 1 => zME (zbUR m b g k) (zkq b k) g
theorem zME_f {m : zM} {c g f : Nat} (h1 : f ≠ 106) (h2 : f ≠ 107) (a j : Nat) : zI (zME m c g) f a j = zI m f a j := by
  unfold zME
  split
  · exact zLM_I _ _ _ _ h1 h2 a j
  · rfl
theorem zME_2 {m : zM} {c g : Nat} : (zME m c g).2 = m.2 := by
  unfold zME
  split <;> rfl
theorem zbUR_f {m : zM} {b g f : Nat} (h1 : f ≠ 106) (h2 : f ≠ 107) (a j : Nat) : ∀ k, zI (zbUR m b g k) f a j = zI m f a j
  | 0 => rfl
  | k + 1 => by rw [zbUR, zME_f h1 h2, zbUR_f h1 h2 a j k]
theorem zbUR_2 {m : zM} {b g : Nat} : ∀ k, (zbUR m b g k).2 = m.2
  | 0 => rfl
  | k + 1 => by rw [zbUR, zME_2, zbUR_2 k]
def zbPP (m : zM) (b : Nat) : Prop := ∀ c, c < 16 → ∃ a, a < 64 ∧ zI m 104 (zkq b c) 0 = nI a
theorem C_X0_useRules (hL : zLay G) : Con_X0_useRules l G (fun b g m => zWG m g ∧ zbPP m b) (fun b g m m' => m' = zbUR (zsR m 3 b g) b g 16) := by
  refine con_X0_useRules hL fun C Qc S hl b g m kb kg hp hr => sg_X0_useRules_0 S kb kg ?_
  obtain ⟨hW, hP⟩ := hp
  have eR : ∀ k, zR (zbUR (zsR m 3 b g) b g k) 3 b = g := fun k => by
    rw [zR_2 (zbUR_2 k)]
    exact zR_e
  have key : ∀ k, k ≤ 16 → Pt_X0_useRules_16 C G b (nI k) (zbUR (zsR m 3 b g) b g k) := by
    refine z_loop 16 ?_ (fun k hk ih => ?_)
    · exact sg_X0_useRules_16 S (C_X1_measure hL) kb ⟨fun _ => hr _ rfl, fun q => absurd (by decide) q⟩
    · refine sg_X0_useRules_16 S (C_X1_measure hL) kb ⟨fun q => absurd q (zge 16 hk), fun _ => ⟨vp_in_nI hk (by omega), ?_⟩⟩
      rw [nI_clamp (by omega), ← nI_succ, eR]
      refine ⟨⟨?_, ?_⟩, fun m4 h4 => ?_⟩
      · refine zWG_ext (m := m) (fun f hf => funext fun j => ?_) hW
        rw [zbUR_f (by omega) (by omega)]
        rfl
      · obtain ⟨a, ha, ea⟩ := hP k hk
        refine ⟨a, ha, ?_⟩
        rw [zbUR_f (by decide) (by decide)]
        exact ea
      · have h4 : m4 = zME (zbUR (zsR m 3 b g) b g k) (zkq b k) g := h4
        rw [h4]
        exact ih
  exact key 0 (by omega)
def zbAd (m : zM) (b c : Nat) (x1 x2 x3 x4 x5 : Int32) : zM := zME (zBG m (zkq b c) x1 x2 x3 x4 x5) (zkq b c) (zR m 3 b)
theorem C_X0_admit (hL : zLay G) : Con_X0_admit l G (fun b _ _ _ _ x5 m => zWG m (zR m 3 b) ∧ (∃ n, n ≤ 16 ∧ zI m 7 b 0 = nI n) ∧ ∃ a, a < 64 ∧ x5 = nI a) (fun b x1 x2 x3 x4 x5 m r m' => (zI m 7 b 0 = nI 16 ∧ r = -1 ∧ m' = m) ∨ ∃ n, n < 16 ∧ zI m 7 b 0 = nI n ∧ zIt r m' (zbH (zbAd m b n x1 x2 x3 x4 x5) b) (nI n) (zsI (zbAd m b n x1 x2 x3 x4 x5) 7 b 0 (nI (n + 1))) (-1) (zST (zbAd m b n x1 x2 x3 x4 x5) (zkq b n) 3 0)) := by
  refine con_X0_admit hL fun C Qc S hl b x1 x2 x3 x4 x5 m kb hp hr => sg_X0_admit_0 S (C_X1_begin hL) (C_X1_measure hL) (C_X0_holds hL) (C_X1_settle hL) kb ?_
  obtain ⟨hW, ⟨n, hn, en⟩, a, ha, ea⟩ := hp
  rw [en]
  refine ⟨fun q => ?_, fun q => hr _ _ (Or.inl ⟨?_, rfl, rfl⟩)⟩
  · rw [show (16 : Int32) = nI 16 from rfl, nI_ltI (by omega) (by omega)] at q
    rw [nI_clamp (by omega)]
    refine ⟨vp_in_nI q (by omega), trivial, fun m3 h3 => ?_⟩
    have h3 : m3 = zBG m (zkq b n) x1 x2 x3 x4 x5 := h3
    subst h3
    refine ⟨⟨?_, a, ha, ?_⟩, fun m6 h6 => ?_⟩
    · refine zWG_ext (m := m) (fun f hf => funext fun j => ?_) hW
      unfold zBG
      rw [zI_n (by omega), zI_n (by omega), zI_n (by omega), zI_n (by omega), zI_n (by omega), zI_n (by omega)]
    · unfold zBG
      rw [zI_n (by decide), zI_e]
      exact ea
    · have h6 : m6 = zbAd m b n x1 x2 x3 x4 x5 := h6
      have e7 : zI m6 7 b 0 = nI n := by
        rw [h6]
        unfold zbAd
        rw [zME_f (by decide) (by decide)]
        unfold zBG
        rw [zI_n (by decide), zI_n (by decide), zI_n (by decide), zI_n (by decide), zI_n (by decide), zI_n (by decide)]
        exact en
      refine ⟨trivial, fun r8 h8 => ⟨fun z => hr _ _ (Or.inr ⟨n, q, en, ?_⟩), fun z => ⟨trivial, fun m10 h10 => hr _ _ (Or.inr ⟨n, q, en, ?_⟩)⟩⟩⟩
      · rw [e7, ← nI_succ, show (1 : Int32) = nI 1 from rfl, pk_sub (by omega), ← h6]
        exact Or.inl ⟨(h8.resolve_right (fun y => z y.1)).2, rfl, rfl⟩
      · rw [← h6]
        exact Or.inr ⟨(h8.resolve_left (fun y => by rw [z] at y; exact absurd y.1 (by decide))).2, rfl, h10⟩
  · rw [show (16 : Int32) = nI 16 from rfl, nI_ltI (by omega) (by omega)] at q
    rw [en, show n = 16 by omega]
theorem C_X0_sendOut (hL : zLay G) : Con_X0_sendOut l G (fun _ _ _ => True) (fun _ q m r m' => zIt r m' (¬ zI m 105 q 0 = 2 ∧ zJ m 303 (q + 1) 0 ≤ 0) 1 (zST m q 2 0) 0 m) :=
  con_X0_sendOut hL fun C Qc S hl b q m kb kq _ hr => sg_X0_sendOut_0 S (C_X1_settle hL) kb kq ⟨fun z => hr _ _ (Or.inr ⟨fun y => y.1 z, rfl, rfl⟩), fun z => ⟨fun z2 => ⟨trivial, fun m2 h2 => hr _ _ (Or.inl ⟨⟨z, z2⟩, rfl, h2⟩)⟩, fun z2 => hr _ _ (Or.inr ⟨fun y => z2 y.2, rfl, rfl⟩)⟩⟩
def zbTb (m : zM) (b q : Nat) : zM := zME (zsI m 105 q 0 0) q (zR m 3 b)
theorem C_X0_takeBack (hL : zLay G) : Con_X0_takeBack l G (fun b q m => zWG m (zR m 3 b) ∧ ∃ a, a < 64 ∧ zI m 104 q 0 = nI a) (fun b q m r m' => (zI m 105 q 0 = 2 ∧ zIt r m' (zbH (zbTb m b q) b) 1 (zbTb m b q) 0 (zST (zbTb m b q) q 2 0)) ∨ (¬ zI m 105 q 0 = 2 ∧ r = 0 ∧ m' = m)) := by
  refine con_X0_takeBack hL fun C Qc S hl b q m kb kq hp hr => sg_X0_takeBack_0 S (C_X1_measure hL) (C_X0_holds hL) (C_X1_settle hL) kb kq ⟨fun z => ?_, fun z => hr _ _ (Or.inr ⟨z, rfl, rfl⟩)⟩
  obtain ⟨hW, a, ha, ea⟩ := hp
  refine ⟨⟨?_, a, ha, ?_⟩, fun m3 h3 => ?_⟩
  · refine zWG_ext (m := m) (fun f hf => funext fun j => ?_) hW
    rw [zI_n (by omega)]
  · rw [zI_n (by decide)]; exact ea
  · have h3 : m3 = zbTb m b q := h3
    subst h3
    refine ⟨trivial, fun r5 h5 => ⟨fun y => hr _ _ (Or.inl ⟨z, Or.inl ⟨(h5.resolve_right (fun w => y w.1)).2, rfl, rfl⟩⟩), fun y => ⟨trivial, fun m7 h7 => hr _ _ (Or.inl ⟨z, Or.inr ⟨(h5.resolve_left (fun w => by rw [y] at w; exact absurd w.1 (by decide))).2, rfl, h7⟩⟩)⟩⟩⟩
end ZBK
