/-! the change of rules, on both sides -/
def zSc0 (m mr : zM) (q o c : Nat) : Prop := zA6 m mr q o c ∧ zI m 105 q 0 = zI mr 1609 o (10 * c + 5) ∧ zRk mr o c ∧ zSp m mr (q + 1) o c ∧ zSd mr o c ∧ (¬ zI m 105 q 0 = 0 → zI m 106 q 0 = zRle mr o c ∧ zI m 107 q 0 = zRmo mr o c)
/-- a claim as it was, but for what is measured while it is in -/
def zAq0 (mc mc' : zM) (q : Nat) : Prop := (∀ f j, (f ≠ 106 → f ≠ 107 → zI mc' f q j = zI mc f q j) ∧ (¬ zI mc 105 q 0 = 0 → zI mc' f q j = zI mc f q j)) ∧ ∀ f j, zI mc' f (q + 1) j = zI mc f (q + 1) j ∧ zJ mc' f (q + 1) j = zJ mc f (q + 1) j
theorem zAq0_rf {m : zM} {q : Nat} : zAq0 m m q := ⟨fun _ _ => ⟨fun _ _ => rfl, fun _ => rfl⟩, fun _ _ => ⟨rfl, rfl⟩⟩
theorem zAq0_tr {m m1 m2 : zM} {q : Nat} (h : zAq0 m m1 q) (h2 : zAq0 m1 m2 q) : zAq0 m m2 q := by
  have e5 : zI m1 105 q 0 = zI m 105 q 0 := (h.1 105 0).1 (by decide) (by decide)
  exact ⟨fun f j => ⟨fun a b => ((h2.1 f j).1 a b).trans ((h.1 f j).1 a b), fun z => ((h2.1 f j).2 (by rw [e5]; exact z)).trans ((h.1 f j).2 z)⟩, fun f j => ⟨(h2.2 f j).1.trans (h.2 f j).1, (h2.2 f j).2.trans (h.2 f j).2⟩⟩
theorem zAq0_of {m m1 : zM} {q : Nat} (h : zAq m m1 q) : zAq0 m m1 q := ⟨fun f j => ⟨fun _ _ => (h f j).1.1, fun _ => (h f j).1.1⟩, fun f j => (h f j).2⟩
theorem zAq0_ME {m : zM} {q g : Nat} : zAq0 m (zME m q g) q := by
  refine ⟨fun f j => ⟨fun a b => zME_f a b q j, fun z => ?_⟩, fun f j => ⟨?_, ?_⟩⟩
  · unfold zME
    rw [if_neg z]
  · unfold zME
    split
    · exact zLM_o _ _ _ _ f j
    · rfl
  · unfold zME
    split <;> rfl
theorem zAq0_UR {m : zM} {b g c : Nat} : ∀ k, zAq0 m (zbUR m b g k) (zkq b c)
  | 0 => zAq0_rf
  | k + 1 => by
    by_cases e : c = k
    · subst e
      exact zAq0_tr (zAq0_UR c) zAq0_ME
    · exact zAq0_tr (zAq0_UR k) (zAq0_of (zF1_Aq zF1_ME e))
theorem zSc0_of {mc mc' mr mr' : zM} {q o c : Nat} (h : zSc mc mr q o c) (hc : zAq0 mc mc' q) (hr : zAr mr mr' o c) : zSc0 mc' mr' q o c := by
  obtain ⟨⟨a0, a1, a2, a3, a4, a5⟩, ⟨hP, hs, hj⟩, e6, e7, hp, hd⟩ := h
  obtain ⟨r9, rp⟩ := hr
  have n : ∀ f, f ≠ 106 → f ≠ 107 → zI mc' f q 0 = zI mc f q 0 := fun f x y => (hc.1 f 0).1 x y
  have n5 := n 105 (by decide) (by decide)
  have x5 : zI mr' 1609 o (10 * c + 5) = zI mr 1609 o (10 * c + 5) := r9 5 (by omega)
  have x6 : zI mr' 1609 o (10 * c + 6) = zI mr 1609 o (10 * c + 6) := r9 6 (by omega)
  refine ⟨⟨(n 100 (by decide) (by decide)).trans (a0.trans (r9 0 (by omega)).symm), (n 101 (by decide) (by decide)).trans (a1.trans (r9 1 (by omega)).symm), (n 102 (by decide) (by decide)).trans (a2.trans (r9 2 (by omega)).symm), (n 103 (by decide) (by decide)).trans (a3.trans (r9 3 (by omega)).symm), (n 104 (by decide) (by decide)).trans (a4.trans (r9 4 (by omega)).symm)⟩, n5.trans (a5.trans x5.symm), ⟨?_, ?_, ?_⟩, zSp_x hp (fun f j => hc.2 f j) rp, ?_, fun z => ?_⟩
  · unfold zRP
    rw [r9 4 (by omega)]
    exact hP
  · rw [x5]; exact hs
  · rw [x5, x6]; exact hj
  · unfold zSd
    rw [rp.2.1 1610 (by omega) (by omega), x5]
    exact hd
  · rw [n5] at z
    have z2 : ¬ zI mr 1609 o (10 * c + 5) = 0 := fun y => z (a5.trans y)
    rw [(hc.1 106 0).2 z, (hc.1 107 0).2 z, e6, e7]
    unfold zRle zRmo
    rw [x5, x6, if_neg z2, if_neg z2, if_neg z2, if_neg z2]
    exact ⟨rfl, rfl⟩
/-- .. and measured -/
theorem zSc0_ME {m mr : zM} {g q o c : Nat} (hg : zSg m mr g o) (h : zSc0 m mr q o c) : zSc (zME m q g) mr q o c := by
  obtain ⟨hA, h5, hk, hp, hd, hn⟩ := h
  by_cases z : zI m 105 q 0 = 0
  · exact zSc_ME hg hA z (h5.symm.trans z) hk.1 hp hd
  · have e : zME m q g = m := by unfold zME; rw [if_neg z]
    rw [e]
    exact ⟨⟨hA.1, hA.2.1, hA.2.2.1, hA.2.2.2.1, hA.2.2.2.2, h5⟩, hk, (hn z).1, (hn z).2, hp, hd⟩
theorem zSc0_x {m m' mr : zM} {q o c : Nat} (h : zSc0 m mr q o c) (hc : zAq m m' q) : zSc0 m' mr q o c := by
  obtain ⟨⟨a0, a1, a2, a3, a4⟩, h5, hk, hp, hd, hn⟩ := h
  refine ⟨⟨(hc 100 0).1.1.trans a0, (hc 101 0).1.1.trans a1, (hc 102 0).1.1.trans a2, (hc 103 0).1.1.trans a3, (hc 104 0).1.1.trans a4⟩, (hc 105 0).1.1.trans h5, hk, zSp_x hp (fun f j => (hc f j).2) ⟨fun _ _ _ => rfl, fun _ _ _ => rfl, fun _ _ _ _ _ => ⟨rfl, rfl⟩⟩, hd, fun z => ?_⟩
  rw [(hc 105 0).1.1] at z
  rw [(hc 106 0).1.1, (hc 107 0).1.1]
  exact hn z
theorem zAr_rf {mr : zM} {o c : Nat} : zAr mr mr o c := ⟨fun _ _ => rfl, fun _ _ _ => rfl, fun _ _ _ => rfl, fun _ _ _ _ _ => ⟨rfl, rfl⟩⟩
theorem zGe_rf {mr : zM} {o : Nat} : zGe mr mr o := fun _ _ _ => rfl
theorem zSq_UR {m mr : zM} {b g o : Nat} (hR : zR m 3 b = g) (h0 : zSh0 m mr b o) (hg : zSg m mr g o) (hc : ∀ c, c < (zI mr 1606 o 0).toNatClampNeg → c < 16 → zSc0 m mr (zkq b c) o c) (hf : ∀ c, (zI mr 1606 o 0).toNatClampNeg ≤ c → c < 16 → zSf m (zkq b c)) : zSq (zbUR m b g 16) mr b o := by
  have hgf : ∀ k f, f = 200 ∨ (1201 ≤ f ∧ f ≤ 1207) → zI (zbUR m b g k) f = zI m f := fun k f hf => funext fun a => funext fun j => zbUR_f (by omega) (by omega) a j k
  have hgk : ∀ k, zSg (zbUR m b g k) mr g o := fun k => zSg_y hg (hgf k) zGe_rf
  have key : ∀ k, k ≤ 16 → ∀ c, c < 16 → (c < (zI mr 1606 o 0).toNatClampNeg → (c < k → zSc (zbUR m b g k) mr (zkq b c) o c) ∧ (k ≤ c → zSc0 (zbUR m b g k) mr (zkq b c) o c)) ∧ ((zI mr 1606 o 0).toNatClampNeg ≤ c → zSf (zbUR m b g k) (zkq b c)) := by
    intro k
    induction k with
    | zero => exact fun _ c hc16 => ⟨fun h => ⟨fun z => absurd z (Nat.not_lt_zero c), fun _ => hc c h hc16⟩, fun h => hf c h hc16⟩
    | succ k ih =>
      intro hk c hc16
      obtain ⟨i1, i2⟩ := ih (by omega) c hc16
      show (c < _ → (c < k + 1 → zSc (zME (zbUR m b g k) (zkq b k) g) mr (zkq b c) o c) ∧ (k + 1 ≤ c → zSc0 (zME (zbUR m b g k) (zkq b k) g) mr (zkq b c) o c)) ∧ (_ → zSf (zME (zbUR m b g k) (zkq b k) g) (zkq b c))
      by_cases e : c = k
      · subst e
        refine ⟨fun h => ⟨fun _ => zSc0_ME (hgk c) ((i1 h).2 (Nat.le_refl c)), fun z => absurd z (by omega)⟩, fun h => ?_⟩
        have hs := i2 h
        have e2 : zME (zbUR m b g c) (zkq b c) g = zbUR m b g c := by
          unfold zME
          rw [if_neg (by rw [hs.1.1]; decide)]
        rw [e2]
        exact hs
      · have hq := zF1_Aq (zF1_ME (m := zbUR m b g k) (b := b) (c := k) (g := g)) e
        exact ⟨fun h => ⟨fun z => zSc_x ((i1 h).1 (by omega)) hq zGe_rf zAr_rf, fun z => zSc0_x ((i1 h).2 (by omega)) hq⟩, fun h => zSf_x (i2 h) hq⟩
  have hb : ∀ k f j, zI (zbUR m b g k) f b j = zI m f b j ∧ zJ (zbUR m b g k) f b j = zJ m f b j := by
    intro k f j
    induction k with
    | zero => exact ⟨rfl, rfl⟩
    | succ k ih =>
      have h1 := (zF1_ME (m := zbUR m b g k) (b := b) (c := k) (g := g)).2.1 f b j (by omega)
      exact ⟨h1.1.trans ih.1, h1.2.trans ih.2⟩
  refine ⟨zSh0_x h0 (fun f j => hb 16 f j) (fun _ _ _ _ => ⟨rfl, rfl⟩), ?_, fun c h => ?_, fun c h hc16 => ((key 16 (Nat.le_refl _) c hc16).2 h)⟩
  · rw [zR_2 (zbUR_2 16), hR]
    exact hgk 16
  · obtain ⟨n, hn, en⟩ := h0.2.2.2.2.2.1.2
    rw [en, nI_clamp (by omega)] at h
    exact (((key 16 (Nat.le_refl _) c (by omega)).1 (by rw [en, nI_clamp (by omega)]; exact h)).1 (by omega))
