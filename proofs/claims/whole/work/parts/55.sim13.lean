/-! copies, and images side by side -/
/-- what stays: all places outside S, and of the grid's fields all outside g -/
def zFa (S : Nat → Nat → Prop) (m m' : zM) : Prop := m'.2.2 = m.2.2 ∧ ∀ f a j, ¬ S f a → zI m' f a j = zI m f a j ∧ zJ m' f a j = zJ m f a j
theorem zFa_rf {S : Nat → Nat → Prop} {m : zM} : zFa S m m := ⟨rfl, fun _ _ _ _ => ⟨rfl, rfl⟩⟩
theorem zFa_tr {S : Nat → Nat → Prop} {m m1 m2 : zM} (h : zFa S m m1) (h2 : zFa S m1 m2) : zFa S m m2 := ⟨h2.1.trans h.1, fun f a j q => ⟨(h2.2 f a j q).1.trans (h.2 f a j q).1, (h2.2 f a j q).2.trans (h.2 f a j q).2⟩⟩
theorem zFa_sI {S : Nat → Nat → Prop} {m : zM} {f a j : Nat} {v : Int32} (h : S f a) : zFa S m (zsI m f a j v) := ⟨rfl, fun f' a' j' q => ⟨by rw [zI_sI, if_neg (fun z => q (by rw [z.1, z.2.1]; exact h))], rfl⟩⟩
theorem zFa_sJ {S : Nat → Nat → Prop} {m : zM} {f a j : Nat} {v : Int64} (h : S f a) : zFa S m (zsJ m f a j v) := ⟨rfl, fun f' a' j' q => ⟨rfl, by rw [zJ_sJ, if_neg (fun z => q (by rw [z.1, z.2.1]; exact h))]⟩⟩
theorem zFa_cI {S : Nat → Nat → Prop} {m : zM} {f a : Nat} {g : Nat → Int32} (h : S f a) : zFa S m (zcI m f a g) := ⟨rfl, fun f' a' j' q => ⟨by rw [zI_cI, if_neg (fun z => q (by rw [z.1, z.2]; exact h))], rfl⟩⟩
theorem zFa_cJ {S : Nat → Nat → Prop} {m : zM} {f a : Nat} {g : Nat → Int64} (h : S f a) : zFa S m (zcJ m f a g) := ⟨rfl, fun f' a' j' q => ⟨rfl, by rw [zJ_cJ, if_neg (fun z => q (by rw [z.1, z.2]; exact h))]⟩⟩
theorem zFa_mo {S S' : Nat → Nat → Prop} {m m' : zM} (h : zFa S m m') (hs : ∀ f a, S f a → S' f a) : zFa S' m m' := ⟨h.1, fun f a j q => h.2 f a j (fun z => q (hs f a z))⟩
/-- the fields that a claim's copy writes, and where -/
def zSC (q : Nat) : Nat → Nat → Prop := fun f a => (a = q ∧ 100 ≤ f ∧ f ≤ 107) ∨ (a = q + 1 ∧ ((300 ≤ f ∧ f ≤ 305) ∨ (1306 ≤ f ∧ f ≤ 1310)))
theorem zbCm_fa (m : zM) (q q2 : Nat) : zFa (zSC q) m (zbCm m q q2) := by
  have h1 : ∀ f, 100 ≤ f → f ≤ 107 → zSC q f q := fun f a b => Or.inl ⟨rfl, a, b⟩
  have h2 : ∀ f, ((300 ≤ f ∧ f ≤ 305) ∨ (1306 ≤ f ∧ f ≤ 1310)) → zSC q f (q + 1) := fun f a => Or.inr ⟨rfl, a⟩
  unfold zbCm zPCm
  refine zFa_tr ?_ (zFa_cJ (h2 _ (by omega)))
  refine zFa_tr ?_ (zFa_cI (h2 _ (by omega)))
  refine zFa_tr ?_ (zFa_cJ (h2 _ (by omega)))
  refine zFa_tr ?_ (zFa_cJ (h2 _ (by omega)))
  refine zFa_tr ?_ (zFa_cI (h2 _ (by omega)))
  refine zFa_tr ?_ (zFa_sJ (h2 _ (by omega)))
  refine zFa_tr ?_ (zFa_sJ (h2 _ (by omega)))
  refine zFa_tr ?_ (zFa_sJ (h2 _ (by omega)))
  refine zFa_tr ?_ (zFa_sI (h2 _ (by omega)))
  refine zFa_tr ?_ (zFa_sI (h2 _ (by omega)))
  refine zFa_tr ?_ (zFa_sI (h2 _ (by omega)))
  refine zFa_tr ?_ (zFa_sI (h1 _ (by omega) (by omega)))
  refine zFa_tr ?_ (zFa_sI (h1 _ (by omega) (by omega)))
  refine zFa_tr ?_ (zFa_sI (h1 _ (by omega) (by omega)))
  refine zFa_tr ?_ (zFa_sI (h1 _ (by omega) (by omega)))
  refine zFa_tr ?_ (zFa_sI (h1 _ (by omega) (by omega)))
  refine zFa_tr ?_ (zFa_sI (h1 _ (by omega) (by omega)))
  refine zFa_tr ?_ (zFa_sI (h1 _ (by omega) (by omega)))
  exact zFa_sI (h1 _ (by omega) (by omega))
/-- claim q' of m' is claim q of m -/
def zCc (m : zM) (q : Nat) (m' : zM) (q' : Nat) : Prop := (∀ f, 100 ≤ f → f ≤ 107 → zI m' f q' 0 = zI m f q 0) ∧ (∀ f, 300 ≤ f → f ≤ 302 → zI m' f (q' + 1) 0 = zI m f (q + 1) 0) ∧ (∀ f, 303 ≤ f → f ≤ 305 → zJ m' f (q' + 1) 0 = zJ m f (q + 1) 0) ∧
    ∀ j, zI m' 1306 (q' + 1) j = zI m 1306 (q + 1) j ∧ zJ m' 1307 (q' + 1) j = zJ m 1307 (q + 1) j ∧ zJ m' 1308 (q' + 1) j = zJ m 1308 (q + 1) j ∧ zI m' 1309 (q' + 1) j = zI m 1309 (q + 1) j ∧ zJ m' 1310 (q' + 1) j = zJ m 1310 (q + 1) j
theorem zbCm_v (m : zM) (q q2 : Nat) : zCc m q2 (zbCm m q q2) q := by
  unfold zbCm
  generalize hX : zsI (zsI (zsI (zsI (zsI (zsI (zsI (zsI m 100 q 0 (zI m 100 q2 0)) 101 q 0 (zI m 101 q2 0)) 102 q 0 (zI m 102 q2 0)) 103 q 0 (zI m 103 q2 0)) 104 q 0 (zI m 104 q2 0)) 105 q 0 (zI m 105 q2 0)) 106 q 0 (zI m 106 q2 0)) 107 q 0 (zI m 107 q2 0) = X
  have x1 : ∀ f, 100 ≤ f → f ≤ 107 → zI X f q 0 = zI m f q2 0 := fun f h1 h2 => by
    rw [← hX]
    rcases (show f = 100 ∨ f = 101 ∨ f = 102 ∨ f = 103 ∨ f = 104 ∨ f = 105 ∨ f = 106 ∨ f = 107 by omega) with rfl | rfl | rfl | rfl | rfl | rfl | rfl | rfl
    · rw [zI_n (by decide), zI_n (by decide), zI_n (by decide), zI_n (by decide), zI_n (by decide), zI_n (by decide), zI_n (by decide), zI_e]
    · rw [zI_n (by decide), zI_n (by decide), zI_n (by decide), zI_n (by decide), zI_n (by decide), zI_n (by decide), zI_e]
    · rw [zI_n (by decide), zI_n (by decide), zI_n (by decide), zI_n (by decide), zI_n (by decide), zI_e]
    · rw [zI_n (by decide), zI_n (by decide), zI_n (by decide), zI_n (by decide), zI_e]
    · rw [zI_n (by decide), zI_n (by decide), zI_n (by decide), zI_e]
    · rw [zI_n (by decide), zI_n (by decide), zI_e]
    · rw [zI_n (by decide), zI_e]
    · rw [zI_e]
  have x2 : ∀ f, ¬ (100 ≤ f ∧ f ≤ 107) → zI X f = zI m f := fun f h => funext fun a => funext fun j => by
    rw [← hX, zI_n (by omega), zI_n (by omega), zI_n (by omega), zI_n (by omega), zI_n (by omega), zI_n (by omega), zI_n (by omega), zI_n (by omega)]
  have x3 : ∀ f, zJ X f = zJ m f := fun f => by rw [← hX]; rfl
  clear hX
  unfold zPCm
  refine ⟨fun f h1 h2 => ?_, fun f h1 h2 => ?_, fun f h1 h2 => ?_, fun j => ⟨?_, ?_, ?_, ?_, ?_⟩⟩
  · rw [zI_cJ, zI_cn (by omega), zI_cJ, zI_cJ, zI_cn (by omega), zI_sJ, zI_sJ, zI_sJ, zI_n (by omega), zI_n (by omega), zI_n (by omega)]
    exact x1 f h1 h2
  · rw [zI_cJ, zI_cn (by omega), zI_cJ, zI_cJ, zI_cn (by omega), zI_sJ, zI_sJ, zI_sJ]
    rcases (show f = 300 ∨ f = 301 ∨ f = 302 by omega) with rfl | rfl | rfl
    · rw [zI_n (by decide), zI_n (by decide), zI_e, x2 300 (by omega)]
    · rw [zI_n (by decide), zI_e, x2 301 (by omega)]
    · rw [zI_e, x2 302 (by omega)]
  · rw [zJ_cn (by omega), zJ_cI, zJ_cn (by omega), zJ_cn (by omega), zJ_cI]
    rcases (show f = 303 ∨ f = 304 ∨ f = 305 by omega) with rfl | rfl | rfl
    · rw [zJ_n (by decide), zJ_n (by decide), zJ_e, x3 303]
    · rw [zJ_n (by decide), zJ_e, x3 304]
    · rw [zJ_e, x3 305]
  · rw [zI_cJ, zI_cn (by decide), zI_cJ, zI_cJ, zI_ce, x2 1306 (by omega)]
  · rw [zJ_cn (by decide), zJ_cI, zJ_cn (by decide), zJ_ce, x3 1307]
  · rw [zJ_cn (by decide), zJ_cI, zJ_ce, x3 1308]
  · rw [zI_cJ, zI_ce, x2 1309 (by omega)]
  · rw [zJ_ce, x3 1310]
theorem zCc_l {m m1 m' : zM} {q q' : Nat} (h : zCc m1 q m' q') (e : ∀ f a j, ¬ (f = 200 ∨ (1201 ≤ f ∧ f ≤ 1207)) → (a = q ∨ a = q + 1) → zI m1 f a j = zI m f a j ∧ zJ m1 f a j = zJ m f a j) : zCc m q m' q' := by
  obtain ⟨h1, h2, h3, h4⟩ := h
  refine ⟨fun f a b => (h1 f a b).trans (e _ _ _ (by omega) (Or.inl rfl)).1, fun f a b => (h2 f a b).trans (e _ _ _ (by omega) (Or.inr rfl)).1, fun f a b => (h3 f a b).trans (e _ _ _ (by omega) (Or.inr rfl)).2, fun j => ?_⟩
  obtain ⟨a1, a2, a3, a4, a5⟩ := h4 j
  exact ⟨a1.trans (e _ _ _ (by omega) (Or.inr rfl)).1, a2.trans (e _ _ _ (by omega) (Or.inr rfl)).2, a3.trans (e _ _ _ (by omega) (Or.inr rfl)).2, a4.trans (e _ _ _ (by omega) (Or.inr rfl)).1, a5.trans (e _ _ _ (by omega) (Or.inr rfl)).2⟩
theorem zCc_r {m m1 m' : zM} {q q' : Nat} (h : zCc m q m1 q') (e : ∀ f a j, ((a = q' ∧ 100 ≤ f) ∨ (a = q' + 1 ∧ 300 ≤ f)) → zI m' f a j = zI m1 f a j ∧ zJ m' f a j = zJ m1 f a j) : zCc m q m' q' := by
  obtain ⟨h1, h2, h3, h4⟩ := h
  refine ⟨fun f a b => (e _ _ _ (Or.inl ⟨rfl, by omega⟩)).1.trans (h1 f a b), fun f a b => (e _ _ _ (Or.inr ⟨rfl, by omega⟩)).1.trans (h2 f a b), fun f a b => (e _ _ _ (Or.inr ⟨rfl, by omega⟩)).2.trans (h3 f a b), fun j => ?_⟩
  obtain ⟨a1, a2, a3, a4, a5⟩ := h4 j
  exact ⟨(e _ _ _ (Or.inr ⟨rfl, by omega⟩)).1.trans a1, (e _ _ _ (Or.inr ⟨rfl, by omega⟩)).2.trans a2, (e _ _ _ (Or.inr ⟨rfl, by omega⟩)).2.trans a3, (e _ _ _ (Or.inr ⟨rfl, by omega⟩)).1.trans a4, (e _ _ _ (Or.inr ⟨rfl, by omega⟩)).2.trans a5⟩
def zSS (b : Nat) : Nat → Nat → Prop := fun f a => b + 11 ≤ a ∧ a < b + 123 ∧ 100 ≤ f ∧ ¬ (f = 200 ∨ (1201 ≤ f ∧ f ≤ 1207))
theorem zSC_S {b k f a : Nat} (hk : k < 16) (h : zSC (zkq b k) f a) : zSS b f a := by
  have e : zkq b k = b + 11 + 7 * k := rfl
  rcases h with ⟨rfl, h1, h2⟩ | ⟨rfl, h1⟩
  · rw [e]
    exact ⟨by omega, by omega, by omega, by omega⟩
  · rw [e]
    exact ⟨by omega, by omega, by omega, by omega⟩
theorem zbCs_fa (m : zM) (b b2 : Nat) : ∀ k, k ≤ 16 → zFa (zSS b) m (zbCs m b b2 k)
  | 0, _ => zFa_rf
  | k + 1, hk => zFa_tr (zbCs_fa m b b2 k (by omega)) (zFa_mo (zbCm_fa _ _ _) (fun f a h => zSC_S (by omega) h))
theorem zbCs_v {m : zM} {b b2 : Nat} (hd : b2 + 123 ≤ b ∨ b + 123 ≤ b2) : ∀ k, k ≤ 16 → ∀ c, c < k → zCc m (zkq b2 c) (zbCs m b b2 k) (zkq b c)
  | 0, _, c, h => absurd h (Nat.not_lt_zero c)
  | k + 1, hk, c, hc => by
    have ek : zkq b k = b + 11 + 7 * k := rfl
    have ec : zkq b c = b + 11 + 7 * c := rfl
    have e2 : zkq b2 c = b2 + 11 + 7 * c := rfl
    by_cases e : c = k
    · subst e
      refine zCc_l (zbCm_v (zbCs m b b2 c) (zkq b c) (zkq b2 c)) (fun f a j _ h => (zbCs_fa m b b2 c (by omega)).2 f a j ?_)
      rintro ⟨a1, a2, -, -⟩
      rw [e2] at h
      omega
    · refine zCc_r (zbCs_v hd k (by omega) c (by omega)) (fun f a j h => (zbCm_fa (zbCs m b b2 k) (zkq b k) (zkq b2 k)).2 f a j ?_)
      rintro (⟨a1, -⟩ | ⟨a1, -⟩)
      · rw [ek] at a1; rw [ec] at h; omega
      · rw [ek] at a1; rw [ec] at h; omega
theorem zGcp_v (m : zM) (g g2 : Nat) : zI (zGcp m g g2) 200 g 0 = zI m 200 g2 0 ∧ ∀ f, 1201 ≤ f → f ≤ 1207 → zI (zGcp m g g2) f g = zI m f g2 := by
  unfold zGcp
  refine ⟨?_, fun f h1 h2 => funext fun j => ?_⟩
  · rw [zI_cn (by decide), zI_cn (by decide), zI_cn (by decide), zI_cn (by decide), zI_cn (by decide), zI_cn (by decide), zI_cn (by decide), zI_e]
  · rcases (show f = 1201 ∨ f = 1202 ∨ f = 1203 ∨ f = 1204 ∨ f = 1205 ∨ f = 1206 ∨ f = 1207 by omega) with rfl | rfl | rfl | rfl | rfl | rfl | rfl
    · rw [zI_cn (by decide), zI_cn (by decide), zI_cn (by decide), zI_cn (by decide), zI_cn (by decide), zI_cn (by decide), zI_ce]
    · rw [zI_cn (by decide), zI_cn (by decide), zI_cn (by decide), zI_cn (by decide), zI_cn (by decide), zI_ce]
    · rw [zI_cn (by decide), zI_cn (by decide), zI_cn (by decide), zI_cn (by decide), zI_ce]
    · rw [zI_cn (by decide), zI_cn (by decide), zI_cn (by decide), zI_ce]
    · rw [zI_cn (by decide), zI_cn (by decide), zI_ce]
    · rw [zI_cn (by decide), zI_ce]
    · rw [zI_ce]
def zSG (g : Nat) : Nat → Nat → Prop := fun f a => a = g ∧ (f = 200 ∨ (1201 ≤ f ∧ f ≤ 1207))
theorem zGcp_fa (m : zM) (g g2 : Nat) : zFa (zSG g) m (zGcp m g g2) := by
  have h1 : ∀ f, (f = 200 ∨ (1201 ≤ f ∧ f ≤ 1207)) → zSG g f g := fun f a => ⟨rfl, a⟩
  unfold zGcp
  refine zFa_tr ?_ (zFa_cI (h1 _ (by omega)))
  refine zFa_tr ?_ (zFa_cI (h1 _ (by omega)))
  refine zFa_tr ?_ (zFa_cI (h1 _ (by omega)))
  refine zFa_tr ?_ (zFa_cI (h1 _ (by omega)))
  refine zFa_tr ?_ (zFa_cI (h1 _ (by omega)))
  refine zFa_tr ?_ (zFa_cI (h1 _ (by omega)))
  refine zFa_tr ?_ (zFa_cI (h1 _ (by omega)))
  exact zFa_sI (h1 _ (by omega))
/-- where a book's copy writes: its own places, and its grid -/
def zSB (b g : Nat) : Nat → Nat → Prop := fun f a => (b ≤ a ∧ a < b + 123 ∧ ¬ (f = 200 ∨ (1201 ≤ f ∧ f ≤ 1207))) ∨ zSG g f a
theorem zbCp_fa (m : zM) (b b2 : Nat) : zFa (zSB b (zR m 3 b)) m (zbCp m b b2) := by
  have h1 : ∀ f, ¬ (f = 200 ∨ (1201 ≤ f ∧ f ≤ 1207)) → zSB b (zR m 3 b) f b := fun f h => Or.inl ⟨Nat.le_refl b, by omega, h⟩
  unfold zbCp zbCt
  refine zFa_tr ?_ (zFa_sI (h1 _ (by omega)))
  refine zFa_tr ?_ (zFa_sI (h1 _ (by omega)))
  refine zFa_tr ?_ (zFa_sI (h1 _ (by omega)))
  refine zFa_tr ?_ (zFa_mo (zbCs_fa _ b b2 16 (Nat.le_refl _)) (fun f a h => Or.inl ⟨by have := h.1; omega, h.2.1, h.2.2.2⟩))
  unfold zbCi
  refine zFa_tr ?_ (zFa_sI (h1 _ (by omega)))
  refine zFa_tr ?_ (zFa_sI (h1 _ (by omega)))
  unfold zbCh
  refine zFa_tr ?_ (zFa_mo (zGcp_fa _ _ _) (fun f a h => Or.inr h))
  refine zFa_tr ?_ (zFa_sI (h1 _ (by omega)))
  refine zFa_tr ?_ (zFa_cI (h1 _ (by omega)))
  exact zFa_sJ (h1 _ (by omega))
theorem zbCp_co {m : zM} {b b2 : Nat} (hd : b2 + 123 ≤ b ∨ b + 123 ≤ b2) (hg : zR m 3 b ≠ zR m 3 b2) : zCo m b2 (zbCp m b b2) b := by
  have eR : zR (zbCp m b b2) 3 b = zR m 3 b := zR_22 (zbCp_fa m b b2).1 3 b
  -- the head
  generalize hH : zbCi (zbCh m b b2) b b2 = H
  have hb : b2 ≠ b := by omega
  have Hh : zJ H 0 b 0 = zJ m 0 b2 0 ∧ (∀ j, zI H 1001 b j = zI m 1001 b2 j) ∧ (∀ f, f = 2 ∨ f = 4 ∨ f = 5 → zI H f b 0 = zI m f b2 0) ∧ zI H 200 (zR m 3 b) 0 = zI m 200 (zR m 3 b2) 0 ∧ ∀ f, 1201 ≤ f → f ≤ 1207 → zI H f (zR m 3 b) = zI m f (zR m 3 b2) := by
    rw [← hH]
    unfold zbCi zbCh
    generalize hY : zsI (zcI (zsJ m 0 b 0 (zJ m 0 b2 0)) 1001 b (zI m 1001 b2)) 2 b 0 (zI m 2 b2 0) = Y
    have y1 : ∀ f, f ≠ 2 → f ≠ 1001 → zI Y f = zI m f := fun f h1 h2 => funext fun a => funext fun j => by rw [← hY, zI_n h1, zI_cn h2, zI_sJ]
    have y2 : zI Y 2 b 0 = zI m 2 b2 0 := by rw [← hY, zI_e]
    have y3 : ∀ j, zI Y 1001 b j = zI m 1001 b2 j := fun j => by rw [← hY, zI_n (by decide), zI_ce]
    have y4 : zJ Y 0 b 0 = zJ m 0 b2 0 := by rw [← hY, zJ_sI, zJ_cI, zJ_e]
    obtain ⟨v1, v2⟩ := zGcp_v Y (zR m 3 b) (zR m 3 b2)
    have vf := (zGcp_fa Y (zR m 3 b) (zR m 3 b2)).2
    generalize zGcp Y (zR m 3 b) (zR m 3 b2) = Z at *
    have ng : ∀ f, ¬ (f = 200 ∨ (1201 ≤ f ∧ f ≤ 1207)) → ∀ a j, zI Z f a j = zI Y f a j ∧ zJ Z f a j = zJ Y f a j := fun f hf a j => vf f a j (fun z => hf z.2)
    refine ⟨?_, fun j => ?_, fun f hf => ?_, ?_, fun f h1 h2 => ?_⟩
    · rw [zJ_sI, zJ_sI, (ng 0 (by omega) b 0).2]; exact y4
    · rw [zI_n (by decide), zI_n (by decide), (ng 1001 (by omega) b j).1]; exact y3 j
    · rcases hf with rfl | rfl | rfl
      · rw [zI_n (by decide), zI_n (by decide), (ng 2 (by omega) b 0).1]; exact y2
      · rw [zI_n (by decide), zI_e, (ng 4 (by omega) b2 0).1, y1 4 (by decide) (by decide)]
      · rw [zI_e, (ng 5 (by omega) b2 0).1, y1 5 (by decide) (by decide)]
    · rw [zI_n (by decide), zI_n (by decide), v1, y1 200 (by decide) (by decide)]
    · funext j
      rw [zI_n (by omega), zI_n (by omega), v2 f h1 h2, y1 f (by omega) (by omega)]
  have Hf : ∀ f a j, (b2 ≤ a ∧ a < b2 + 123) → ¬ (f = 200 ∨ (1201 ≤ f ∧ f ≤ 1207)) → zI H f a j = zI m f a j ∧ zJ H f a j = zJ m f a j := fun f a j ha hf => by
    have h1 : ∀ f, ¬ (f = 200 ∨ (1201 ≤ f ∧ f ≤ 1207)) → zSB b (zR m 3 b) f b := fun f h => Or.inl ⟨Nat.le_refl b, by omega, h⟩
    have fa : zFa (zSB b (zR m 3 b)) m H := by
      rw [← hH]
      unfold zbCi
      refine zFa_tr ?_ (zFa_sI (h1 _ (by omega)))
      refine zFa_tr ?_ (zFa_sI (h1 _ (by omega)))
      unfold zbCh
      refine zFa_tr ?_ (zFa_mo (zGcp_fa _ _ _) (fun f a h => Or.inr h))
      refine zFa_tr ?_ (zFa_sI (h1 _ (by omega)))
      refine zFa_tr ?_ (zFa_cI (h1 _ (by omega)))
      exact zFa_sJ (h1 _ (by omega))
    refine fa.2 f a j ?_
    rintro (⟨a1, a2, -⟩ | ⟨-, a2⟩)
    · omega
    · exact hf a2
  have eP : zbCp m b b2 = zbCt (zbCs H b b2 16) b b2 := by
    unfold zbCp
    rw [hH]
  clear hH
  obtain ⟨g1, g2, g3, g4, g5⟩ := Hh
  have Sf := (zbCs_fa H b b2 16 (Nat.le_refl _)).2
  have Sv := fun c (hc : c < 16) => zbCs_v (m := H) hd 16 (Nat.le_refl _) c hc
  have eR' : zR (zbCp m b b2) 3 b = zR m 3 b := eR
  refine ⟨?_, fun j => ?_, fun f hf => ?_, fun c hc => ?_, ?_, fun f h1 h2 => ?_⟩
  · rw [eP]
    exact (Sf 0 b 0 (fun z => by have := z.1; omega)).2.trans g1
  · rw [eP]
    unfold zbCt
    rw [zI_n (by decide), zI_n (by decide), zI_n (by decide), (Sf 1001 b j (fun z => by have := z.1; omega)).1]
    exact g2 j
  · rw [eP]
    unfold zbCt
    have s : ∀ f a, f < 100 → zI (zbCs H b b2 16) f a 0 = zI H f a 0 := fun f a h => (Sf f a 0 (fun z => by have := z.2.2.1; omega)).1
    have hh : ∀ f, f < 100 → zI H f b2 0 = zI m f b2 0 := fun f h => (Hf f b2 0 ⟨Nat.le_refl _, by omega⟩ (by omega)).1
    rcases hf with rfl | rfl | rfl | rfl | rfl | rfl
    · rw [zI_n (by decide), zI_n (by decide), zI_n (by decide), s 2 b (by omega)]; exact g3 2 (by omega)
    · rw [zI_n (by decide), zI_n (by decide), zI_n (by decide), s 4 b (by omega)]; exact g3 4 (by omega)
    · rw [zI_n (by decide), zI_n (by decide), zI_n (by decide), s 5 b (by omega)]; exact g3 5 (by omega)
    · rw [zI_n (by decide), zI_n (by decide), zI_e, s 7 b2 (by omega), hh 7 (by omega)]
    · rw [zI_n (by decide), zI_e, s 8 b2 (by omega), hh 8 (by omega)]
    · rw [zI_e, s 9 b2 (by omega), hh 9 (by omega)]
  · have ec : zkq b c = b + 11 + 7 * c := rfl
    have e2 : zkq b2 c = b2 + 11 + 7 * c := rfl
    have h := zCc_l (m := m) (Sv c hc) (fun f a j q h => Hf f a j (by rw [e2] at h; omega) q)
    have h' := zCc_r (m' := zbCp m b b2) h (fun f a j h => by
      rw [eP]
      unfold zbCt
      refine ⟨?_, rfl⟩
      rw [zI_n (by omega), zI_n (by omega), zI_n (by omega)])
    exact h'
  · rw [eR', eP]
    unfold zbCt
    rw [zI_n (by decide), zI_n (by decide), zI_n (by decide), (Sf 200 _ 0 (fun z => z.2.2.2 (by omega))).1]
    exact g4
  · rw [eR', eP]
    unfold zbCt
    funext j
    rw [zI_n (by omega), zI_n (by omega), zI_n (by omega), (Sf f _ j (fun z => z.2.2.2 (by omega))).1]
    exact congrFun (g5 f h1 h2) j
