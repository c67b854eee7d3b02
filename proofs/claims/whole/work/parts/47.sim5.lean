/-! calls side by side: claims -/
theorem zpw_r {mc mr : zM} {g q o c : Nat} (hg : zSg mc mr g o) (h1 : zI mc 101 q 0 = zI mr 1609 o (10 * c + 1)) (h2 : zI mc 102 q 0 = zI mr 1609 o (10 * c + 2)) (h3 : zI mc 103 q 0 = zI mr 1609 o (10 * c + 3)) : zpw mc q g = zrw mr o c := funext fun p => by
  unfold zpw zrw
  rw [h1, h2, h3]
  exact zSg_p hg _ _ _ _
def zA6 (mc mr : zM) (q o c : Nat) : Prop := zI mc 100 q 0 = zI mr 1609 o (10 * c) ∧ zI mc 101 q 0 = zI mr 1609 o (10 * c + 1) ∧ zI mc 102 q 0 = zI mr 1609 o (10 * c + 2) ∧ zI mc 103 q 0 = zI mr 1609 o (10 * c + 3) ∧ zI mc 104 q 0 = zI mr 1609 o (10 * c + 4)
theorem zLM_o (m : zM) (q : Nat) (L M : Int32) (f j : Nat) : zI (zLM m q L M) f (q + 1) j = zI m f (q + 1) j := by
  unfold zLM
  rw [zI_sI, if_neg (fun z => by omega), zI_sI, if_neg (fun z => by omega)]
theorem zST_o (m : zM) (q : Nat) (s p : Int32) (f j : Nat) : zI (zST m q s p) f (q + 1) j = zI m f (q + 1) j := by
  unfold zST
  rw [zI_sI, if_neg (fun z => by omega), zI_sI, if_neg (fun z => by omega), zI_sI, if_neg (fun z => by omega)]
/-- an open claim measured -/
theorem zSc_ME {mc mr : zM} {g q o c : Nat} (hg : zSg mc mr g o) (hA : zA6 mc mr q o c) (h5 : zI mc 105 q 0 = 0) (h0 : zI mr 1609 o (10 * c + 5) = 0) (hP : zRP mr o c) (hp : zSp mc mr (q + 1) o c) (hd : zSd mr o c) : zSc (zME mc q g) mr q o c := by
  obtain ⟨a0, a1, a2, a3, a4⟩ := hA
  have e := zpw_r hg a1 a2 a3
  unfold zME
  rw [if_pos h5, e, a4]
  have n : ∀ f, f ≠ 106 → f ≠ 107 → zI (zLM mc q (zml (zrw mr o c) (zI mr 1609 o (10 * c + 4)) 64) (zmm (zrw mr o c) (zI mr 1609 o (10 * c + 4)) 64)) f q 0 = zI mc f q 0 := fun f h1 h2 => zLM_I _ _ _ _ h1 h2 q 0
  refine ⟨⟨(n 100 (by decide) (by decide)).trans a0, (n 101 (by decide) (by decide)).trans a1, (n 102 (by decide) (by decide)).trans a2, (n 103 (by decide) (by decide)).trans a3, (n 104 (by decide) (by decide)).trans a4, (n 105 (by decide) (by decide)).trans (h5.trans h0.symm)⟩, ⟨hP, ⟨0, by omega, h0⟩, fun z => absurd (h0.symm.trans z) (by decide)⟩, ?_, ?_, zSp_x hp (fun f j => ⟨zLM_o _ _ _ _ f j, rfl⟩) ⟨fun _ _ _ => rfl, fun _ _ _ => rfl, fun _ _ _ _ _ => ⟨rfl, rfl⟩⟩, hd⟩
  · rw [zLM_6]
    unfold zRle
    rw [if_pos h0]
  · rw [zLM_7]
    unfold zRmo
    rw [if_pos h0]
/-- a settled claim -/
theorem zSc_ST {mc mr : zM} {q o c : Nat} {s p : Int32} (hA : zA6 mc mr q o c) (h5 : s = zI mr 1609 o (10 * c + 5)) (hk : zRk mr o c) (hL : p = zRle mr o c) (hM : p = zRmo mr o c) (hp : zSp mc mr (q + 1) o c) (hd : zSd mr o c) : zSc (zST mc q s p) mr q o c := by
  obtain ⟨a0, a1, a2, a3, a4⟩ := hA
  have n : ∀ f, f ≠ 105 → f ≠ 106 → f ≠ 107 → zI (zST mc q s p) f q 0 = zI mc f q 0 := fun f h1 h2 h3 => by
    unfold zST
    rw [zI_n h3, zI_n h2, zI_n h1]
  refine ⟨⟨(n 100 (by decide) (by decide) (by decide)).trans a0, (n 101 (by decide) (by decide) (by decide)).trans a1, (n 102 (by decide) (by decide) (by decide)).trans a2, (n 103 (by decide) (by decide) (by decide)).trans a3, (n 104 (by decide) (by decide) (by decide)).trans a4, ?_⟩, hk, ?_, ?_, zSp_x hp (fun f j => ⟨zST_o _ _ _ _ f j, rfl⟩) ⟨fun _ _ _ => rfl, fun _ _ _ => rfl, fun _ _ _ _ _ => ⟨rfl, rfl⟩⟩, hd⟩
  · unfold zST
    rw [zI_n (by decide), zI_n (by decide), zI_e]
    exact h5
  · unfold zST
    rw [zI_n (by decide), zI_e]
    exact hL
  · unfold zST
    rw [zI_e]
    exact hM
theorem zAp_9 {mr : zM} {o c k : Nat} {v : Int32} (hk : k < 7) : zAp mr (zsI mr 1609 o (10 * c + k) v) o c := ⟨fun k' h1 h2 => by rw [zI_sI, if_neg (fun z => by omega)], fun _ _ _ => rfl, fun f h1 h2 k' h3 => ⟨zI_n (by omega), rfl⟩⟩
theorem zAp_tr {m m1 m2 : zM} {o c : Nat} (h : zAp m m1 o c) (h2 : zAp m1 m2 o c) : zAp m m2 o c := ⟨fun k a b => (h2.1 k a b).trans (h.1 k a b), fun f a b => (h2.2.1 f a b).trans (h.2.1 f a b), fun f a b k d => ⟨(h2.2.2 f a b k d).1.trans (h.2.2 f a b k d).1, (h2.2.2 f a b k d).2.trans (h.2.2 f a b k d).2⟩⟩
theorem zAp_0 {m : zM} {o c : Nat} : zAp m (zc0 m o) o c := ⟨fun k _ _ => zc0_e (by decide), fun _ _ _ => rfl, fun f a b k _ => ⟨zc0_e (by omega), rfl⟩⟩
theorem zc0_9 (m : zM) (o j : Nat) : zI (zc0 m o) 1609 o j = zI m 1609 o j := zc0_e (by decide)
theorem z9_e (m : zM) (o c k : Nat) (v : Int32) : zI (zsI (zc0 m o) 1609 o (10 * c + k) v) 1609 o (10 * c + k) = v := zI_e
theorem z9_n (m : zM) (o c k k' : Nat) (v : Int32) (h : k' ≠ k) : zI (zsI (zc0 m o) 1609 o (10 * c + k) v) 1609 o (10 * c + k') = zI m 1609 o (10 * c + k') := (zI_nj (by omega)).trans (zc0_9 m o _)
/-- the purse and what holds: a change of one claim's purse that leaves what it was paid -/
theorem zOK_p {mc mc' mr mr' : zM} {b o c : Nat} (h : zSm mc mr b o) (c16 : c < 16) (hcn : c < (zI mr 1606 o 0).toNatClampNeg) (f1 : zF1 b c mc mc') (hq : ∀ f j, zI mc' f (zkq b c) j = zI mc f (zkq b c) j) (r1 : zR1 o c mr mr') (r9 : ∀ k, k < 7 → zI mr' 1609 o (10 * c + k) = zI mr 1609 o (10 * c + k)) (r10 : zJ mr' 1610 o c = zJ mr 1610 o c) (hp : zSp mc' mr' (zkq b c + 1) o c) : zOK b o mc mr mc' mr' := by
  have hS := h.1.2.2.1 c hcn
  have hG := zR1_G r1
  refine zOK_1 h c16 hcn f1 r1 (zSc_p hS hq hG r9 hp ?_) (fun hq z H => zRH_1 h.1 hq r1 r10 (fun _ => ?_) ?_ H)
  · unfold zSd
    rw [r10, r9 5 (by omega)]
    exact hS.2.2.2.2.2
  · rw [zRle_ext (m' := mr) hG (fun k h1 h2 => r9 k (by omega))]
    exact Int32.le_refl _
  · rw [zRmo_ext (m' := mr) hG (fun k h1 h2 => r9 k (by omega))]
    exact Int32.le_refl _
theorem sim_fee {mc mr : zM} {b o : Nat} (h : zSm mc mr b o) {x1 x2 r r' : Int32} {mc' mr' : zM} (hc : zCt mc b x1 (fun c => zIt r mc' ((0 ≤ x2 ∧ x2 ≤ 40) ∧ zI mc 9 b 0 = 0) 1 (zsI mc 300 (zkq b c + 1) 0 x2) 0 mc) (r = 0 ∧ mc' = mc)) (hr : zAt mr o x1 (fun c => zIt r' mr' ((0 ≤ x2 ∧ x2 ≤ 40) ∧ zI mr 1608 o 0 = 0) 1 (zsI (zc0 mr o) 1609 o (10 * c + 7) x2) 0 (zc0 mr o)) (r' = 0 ∧ mr' = zc0 mr o)) : r = r' ∧ zOK b o mc mr mc' mr' := by
  have e9 := h.1.1.2.2.2.2.2.2.2.1
  refine zCtAt h.1.1 hc hr (fun c hcn c16 hF hF' => ?_) (fun hE hE' => ?_)
  · refine zIt_2 (by rw [e9]) hF hF' (fun p e1 e2 e3 e4 => ?_) (fun _ e1 e2 e3 e4 => ?_)
    · subst e1 e2 e3 e4
      have hS := h.1.2.2.1 c hcn
      obtain ⟨p0, p1, p2, p3, p4, p5, p6, p7, p8, p9, p10⟩ := hS.2.2.2.2.1
      have n8 := z9_n mr o c 7 8 x2 (by omega)
      have n9 := z9_n mr o c 7 9 x2 (by omega)
      have g : ∀ f, f ≠ 1609 → f ≠ 600 → ∀ j, zI (zsI (zc0 mr o) 1609 o (10 * c + 7) x2) f o j = zI mr f o j := fun f h1 h2 j => (zI_n h1).trans (zc0_e h2)
      refine ⟨rfl, zOK_p h c16 hcn (zF1_sI zkq_in1 (by decide)) (fun f j => by rw [zI_sI, if_neg (fun z => by omega)]) (zR1_tr zR1_0 (zR1_9 (by omega))) (fun k hk => z9_n mr o c 7 k x2 (by omega)) rfl ?_⟩
      refine ⟨?_, ?_, ?_, ?_, p4, p5, p6, ?_, ?_, ?_, ?_⟩
      · rw [zI_e, z9_e]
      · rw [zI_n (by decide), n8]; exact p1
      · rw [zI_n (by decide), n9]; exact p2
      · unfold zRPy
        rw [n8, n9]
        obtain ⟨h1, H, h2, h3, h4⟩ := p3
        refine ⟨h1, H, h2, h3, fun k hk => ?_⟩
        rw [g 1616 (by decide) (by decide)]
        exact h4 k hk
      · rw [n8]
        intro k hk
        obtain ⟨a, b', d⟩ := p7 k hk
        exact ⟨(zI_n (by decide)).trans (a.trans (g 1613 (by decide) (by decide) (4 * c + k)).symm), b', d⟩
      · rw [n9]
        intro k hk
        obtain ⟨a, b'⟩ := p8 k hk
        exact ⟨(zI_n (by decide)).trans (a.trans (g 1616 (by decide) (by decide) (4 * c + k)).symm), b'⟩
      · rw [n8]; exact p9
      · rw [n9]; exact p10
    · subst e1 e2 e3 e4
      exact ⟨rfl, zOK_0 h⟩
  · obtain ⟨e1, e2⟩ := hE
    obtain ⟨e3, e4⟩ := hE'
    subst e1 e2 e3 e4
    exact ⟨rfl, zOK_0 h⟩
theorem sim_lien {mc mr : zM} {b o : Nat} (h : zSm mc mr b o) {x1 x2 r r' : Int32} {l3 : Int64} {mc' mr' : zM} (hc : zCt mc b x1 (fun c => (((0 ≤ x2 ∧ x2 ≤ 9) ∧ ¬ l3 < 1 ∧ ¬ 1000000000 < l3 ∧ zI mc 9 b 0 = 0) ∧ zIt r mc' (zI mc 301 (zkq b c + 1) 0 < 4) (zI mc 301 (zkq b c + 1) 0) (zALm mc (zkq b c + 1) x2 l3) (-1) mc) ∨ (¬ ((0 ≤ x2 ∧ x2 ≤ 9) ∧ ¬ l3 < 1 ∧ ¬ 1000000000 < l3 ∧ zI mc 9 b 0 = 0) ∧ r = -1 ∧ mc' = mc)) (r = -1 ∧ mc' = mc)) (hr : zAt mr o x1 (fun c => ∃ L, L ≤ 4 ∧ zI mr 1609 o (10 * c + 8) = nI L ∧ zIt r' mr' (¬ L = 4 ∧ (0 ≤ x2 ∧ x2 ≤ 9) ∧ ¬ l3 < 1 ∧ ¬ 1000000000 < l3 ∧ zI mr 1608 o 0 = 0) (nI L) (zsI (zsJ (zsJ (zsI (zc0 mr o) 1613 o (4 * c + L) x2) 1614 o (4 * c + L) l3) 1615 o (4 * c + L) 0) 1609 o (10 * c + 8) (nI (L + 1))) (-1) (zc0 mr o)) (r' = -1 ∧ mr' = zc0 mr o)) : r = r' ∧ zOK b o mc mr mc' mr' := by
  have e9 := h.1.1.2.2.2.2.2.2.2.1
  refine zCtAt h.1.1 hc hr (fun c hcn c16 hF hF' => ?_) (fun hE hE' => ?_)
  · have hS := h.1.2.2.1 c hcn
    obtain ⟨p0, p1, p2, p3, p4, p5, p6, p7, p8, p9, p10⟩ := hS.2.2.2.2.1
    obtain ⟨L, hL, eL, hF'⟩ := hF'
    have e301 : zI mc 301 (zkq b c + 1) 0 = nI L := p1.trans eL
    have no : r = -1 → mc' = mc → ¬ (¬ L = 4 ∧ (0 ≤ x2 ∧ x2 ≤ 9) ∧ ¬ l3 < 1 ∧ ¬ 1000000000 < l3 ∧ zI mr 1608 o 0 = 0) → r = r' ∧ zOK b o mc mr mc' mr' := fun a1 a2 a3 => by
      rcases hF' with ⟨q, -, -⟩ | ⟨-, a4, a5⟩
      · exact absurd q a3
      · subst a1 a2 a4 a5
        exact ⟨rfl, zOK_0 h⟩
    rcases hF with ⟨hP, hF⟩ | ⟨hP, a1, a2⟩
    · rcases hF with ⟨q, a1, a2⟩ | ⟨q, a1, a2⟩
      · rw [e301] at q a1
        rw [show (4 : Int32) = nI 4 from rfl, nI_ltI (by omega) (by omega)] at q
        rcases hF' with ⟨-, a4, a5⟩ | ⟨q2, -, -⟩
        · unfold zALm at a2
          rw [e301, nI_clamp (by omega), ← nI_succ] at a2
          subst a1 a2 a4 a5
          refine ⟨rfl, zOK_p h c16 hcn (zF1_tr (zF1_sI zkq_in1 (by decide)) (zF1_tr (zF1_sJ zkq_in1) (zF1_sI zkq_in1 (by decide)))) (fun f j => ?_) (zR1_tr zR1_0 (zR1_tr (zR1_I (by omega) (by omega)) (zR1_tr (zR1_J (by omega) (by omega)) (zR1_tr (zR1_J (by omega) (by omega)) (zR1_9 (by omega)))))) (fun k hk => ?_) ?_ ?_⟩
          · rw [zI_sI, if_neg (fun z => by omega), zI_sJ, zI_sI, if_neg (fun z => by omega)]
          · rw [zI_nj (by omega), zI_sJ, zI_sJ, zI_n (by decide)]
            exact zc0_9 mr o _
          · rw [zJ_sI, zJ_n (by decide), zJ_n (by decide)]
            rfl
          · have n8 : ∀ k, k ≠ 8 → zI (zsI (zsJ (zsJ (zsI (zc0 mr o) 1613 o (4 * c + L) x2) 1614 o (4 * c + L) l3) 1615 o (4 * c + L) 0) 1609 o (10 * c + 8) (nI (L + 1))) 1609 o (10 * c + k) = zI mr 1609 o (10 * c + k) := fun k hk => by
              rw [zI_nj (by omega), zI_sJ, zI_sJ, zI_n (by decide)]
              exact zc0_9 mr o _
            have e8 : zI (zsI (zsJ (zsJ (zsI (zc0 mr o) 1613 o (4 * c + L) x2) 1614 o (4 * c + L) l3) 1615 o (4 * c + L) 0) 1609 o (10 * c + 8) (nI (L + 1))) 1609 o (10 * c + 8) = nI (L + 1) := zI_e
            refine ⟨?_, ?_, ?_, ?_, ?_, ?_, ?_, ?_, ?_, ?_, ?_⟩
            · rw [n8 7 (by omega), zI_n (by decide), zI_sJ, zI_n (by decide)]; exact p0
            · rw [e8, zI_e]
            · rw [n8 9 (by omega), zI_n (by decide), zI_sJ, zI_n (by decide)]; exact p2
            · obtain ⟨-, H, h2, h3, h4⟩ := p3
              refine ⟨⟨L + 1, by omega, e8⟩, H, h2, (n8 9 (by omega)).trans h3, fun k hk => ?_⟩
              obtain ⟨v, v1, v2, v3⟩ := h4 k hk
              refine ⟨v, v1, v2, ?_⟩
              rw [zI_n (by decide), zI_sJ, zI_sJ, zI_n (by decide), zc0_e (by decide)]
              exact v3
            · rw [zJ_sI, zJ_n (by decide), zJ_sI, zJ_sI, zJ_n (by decide), zJ_n (by decide)]; exact p4
            · rw [zJ_sI, zJ_n (by decide), zJ_sI, zJ_sI, zJ_n (by decide), zJ_n (by decide)]; exact p5
            · rw [zJ_sI, zJ_n (by decide), zJ_sI, zJ_sI, zJ_n (by decide), zJ_n (by decide)]; exact p6
            · rw [e8, nI_clamp (by omega)]
              intro k hk
              by_cases e : k = L
              · subst e
                refine ⟨?_, ?_, ?_⟩
                · show _ = zI (zsI (zsJ (zsJ (zsI (zc0 mr o) 1613 o (4 * c + k) x2) 1614 o (4 * c + k) l3) 1615 o (4 * c + k) 0) 1609 o (10 * c + 8) (nI (k + 1))) 1613 o (4 * c + k)
                  rw [zI_n (by decide), zI_sJ, zI_e, zI_n (by decide), zI_sJ, zI_sJ, zI_e]
                · show _ = zJ (zsI (zsJ (zsJ (zsI (zc0 mr o) 1613 o (4 * c + k) x2) 1614 o (4 * c + k) l3) 1615 o (4 * c + k) 0) 1609 o (10 * c + 8) (nI (k + 1))) 1614 o (4 * c + k)
                  rw [zJ_sI, zJ_e, zJ_sI, zJ_n (by decide), zJ_e]
                · show _ = zJ (zsI (zsJ (zsJ (zsI (zc0 mr o) 1613 o (4 * c + k) x2) 1614 o (4 * c + k) l3) 1615 o (4 * c + k) 0) 1609 o (10 * c + 8) (nI (k + 1))) 1615 o (4 * c + k)
                  rw [zJ_sI, zJ_n (by decide), zJ_sI, zJ_sI, zJ_e]
                  exact p9 k (by rw [eL, nI_clamp (by omega)]; exact Nat.le_refl k) (by omega)
              · obtain ⟨a, b', d⟩ := p7 k (by rw [eL, nI_clamp (by omega)]; omega)
                have a : zI mc 1306 (zkq b c + 1) k = zI mr 1613 o (4 * c + k) := a
                have b' : zJ mc 1307 (zkq b c + 1) k = zJ mr 1614 o (4 * c + k) := b'
                have d : zJ mc 1308 (zkq b c + 1) k = zJ mr 1615 o (4 * c + k) := d
                refine ⟨?_, ?_, ?_⟩
                · show _ = zI (zsI (zsJ (zsJ (zsI (zc0 mr o) 1613 o (4 * c + L) x2) 1614 o (4 * c + L) l3) 1615 o (4 * c + L) 0) 1609 o (10 * c + 8) (nI (L + 1))) 1613 o (4 * c + k)
                  rw [zI_n (by decide), zI_sJ, zI_nj e, zI_n (by decide), zI_sJ, zI_sJ, zI_nj (by omega), zc0_e (by decide)]
                  exact a
                · show _ = zJ (zsI (zsJ (zsJ (zsI (zc0 mr o) 1613 o (4 * c + L) x2) 1614 o (4 * c + L) l3) 1615 o (4 * c + L) 0) 1609 o (10 * c + 8) (nI (L + 1))) 1614 o (4 * c + k)
                  rw [zJ_sI, zJ_nj e, zJ_sI, zJ_sI, zJ_n (by decide), zJ_nj (by omega)]
                  exact b'
                · show _ = zJ (zsI (zsJ (zsJ (zsI (zc0 mr o) 1613 o (4 * c + L) x2) 1614 o (4 * c + L) l3) 1615 o (4 * c + L) 0) 1609 o (10 * c + 8) (nI (L + 1))) 1615 o (4 * c + k)
                  rw [zJ_sI, zJ_n (by decide), zJ_sI, zJ_sI, zJ_nj (by omega), zJ_n (by decide)]
                  exact d
            · rw [n8 9 (by omega)]
              intro k hk
              obtain ⟨a, b'⟩ := p8 k hk
              have a : zI mc 1309 (zkq b c + 1) k = zI mr 1616 o (4 * c + k) := a
              have b' : zJ mc 1310 (zkq b c + 1) k = zJ mr 1617 o (4 * c + k) := b'
              refine ⟨?_, ?_⟩
              · show _ = zI (zsI (zsJ (zsJ (zsI (zc0 mr o) 1613 o (4 * c + L) x2) 1614 o (4 * c + L) l3) 1615 o (4 * c + L) 0) 1609 o (10 * c + 8) (nI (L + 1))) 1616 o (4 * c + k)
                rw [zI_n (by decide), zI_sJ, zI_n (by decide), zI_n (by decide), zI_sJ, zI_sJ, zI_n (by decide), zc0_e (by decide)]
                exact a
              · show _ = zJ (zsI (zsJ (zsJ (zsI (zc0 mr o) 1613 o (4 * c + L) x2) 1614 o (4 * c + L) l3) 1615 o (4 * c + L) 0) 1609 o (10 * c + 8) (nI (L + 1))) 1617 o (4 * c + k)
                rw [zJ_sI, zJ_n (by decide), zJ_sI, zJ_sI, zJ_n (by decide), zJ_n (by decide)]
                exact b'
            · rw [e8, nI_clamp (by omega)]
              intro k h1 h2
              rw [zJ_sI, zJ_n (by decide), zJ_sI]
              exact p9 k (by rw [eL, nI_clamp (by omega)]; omega) h2
            · rw [n8 9 (by omega)]
              intro k h1 h2
              rw [zJ_sI, zJ_n (by decide), zJ_sI]
              exact p10 k h1 h2
        · exact absurd ⟨by omega, hP.1, hP.2.1, hP.2.2.1, by rw [← e9]; exact hP.2.2.2⟩ q2
      · refine no a1 a2 (fun z => z.1 ?_)
        rw [e301, show (4 : Int32) = nI 4 from rfl, nI_ltI (by omega) (by omega)] at q
        omega
    · exact no a1 a2 (fun z => hP ⟨z.2.1, z.2.2.1, z.2.2.2.1, by rw [e9]; exact z.2.2.2.2⟩)
  · obtain ⟨e1, e2⟩ := hE
    obtain ⟨e3, e4⟩ := hE'
    subst e1 e2 e3 e4
    exact ⟨rfl, zOK_0 h⟩
theorem sim_heir {mc mr : zM} {b o : Nat} (h : zSm mc mr b o) {x1 x2 r r' : Int32} {mc' mr' : zM} (hc : zCt mc b x1 (fun c => (((1 ≤ x2 ∧ x2 ≤ 9) ∧ zI mc 9 b 0 = 0) ∧ zIt r mc' (zI mc 302 (zkq b c + 1) 0 < 4) (zI mc 302 (zkq b c + 1) 0) (zAHm mc (zkq b c + 1) x2) (-1) mc) ∨ (¬ ((1 ≤ x2 ∧ x2 ≤ 9) ∧ zI mc 9 b 0 = 0) ∧ r = -1 ∧ mc' = mc)) (r = -1 ∧ mc' = mc)) (hr : zAt mr o x1 (fun c => ∃ H, H ≤ 4 ∧ zI mr 1609 o (10 * c + 9) = nI H ∧ zIt r' mr' (¬ H = 4 ∧ (1 ≤ x2 ∧ x2 ≤ 9) ∧ zI mr 1608 o 0 = 0) (nI H) (zsI (zsJ (zsI (zc0 mr o) 1616 o (4 * c + H) x2) 1617 o (4 * c + H) 0) 1609 o (10 * c + 9) (nI (H + 1))) (-1) (zc0 mr o)) (r' = -1 ∧ mr' = zc0 mr o)) : r = r' ∧ zOK b o mc mr mc' mr' := by
  have e9 := h.1.1.2.2.2.2.2.2.2.1
  refine zCtAt h.1.1 hc hr (fun c hcn c16 hF hF' => ?_) (fun hE hE' => ?_)
  · have hS := h.1.2.2.1 c hcn
    obtain ⟨p0, p1, p2, p3, p4, p5, p6, p7, p8, p9, p10⟩ := hS.2.2.2.2.1
    obtain ⟨H, hL, eL, hF'⟩ := hF'
    have e301 : zI mc 302 (zkq b c + 1) 0 = nI H := p2.trans eL
    have no : r = -1 → mc' = mc → ¬ (¬ H = 4 ∧ (1 ≤ x2 ∧ x2 ≤ 9) ∧ zI mr 1608 o 0 = 0) → r = r' ∧ zOK b o mc mr mc' mr' := fun a1 a2 a3 => by
      rcases hF' with ⟨q, -, -⟩ | ⟨-, a4, a5⟩
      · exact absurd q a3
      · subst a1 a2 a4 a5
        exact ⟨rfl, zOK_0 h⟩
    rcases hF with ⟨hP, hF⟩ | ⟨hP, a1, a2⟩
    · rcases hF with ⟨q, a1, a2⟩ | ⟨q, a1, a2⟩
      · rw [e301] at q a1
        rw [show (4 : Int32) = nI 4 from rfl, nI_ltI (by omega) (by omega)] at q
        rcases hF' with ⟨-, a4, a5⟩ | ⟨q2, -, -⟩
        · unfold zAHm at a2
          rw [e301, nI_clamp (by omega), ← nI_succ] at a2
          obtain ⟨y, hy, ey⟩ := z_in2 (x := x2) 9 rfl (by omega) ⟨Int32.le_trans (by decide) hP.1.1, hP.1.2⟩
          have hy1 : 1 ≤ y := by
            have := hP.1.1
            rw [ey, show (1 : Int32) = nI 1 from rfl, nI_leI (by omega) (by omega)] at this
            exact this
          subst a1 a2 a4 a5
          refine ⟨rfl, zOK_p h c16 hcn (zF1_tr (zF1_sI zkq_in1 (by decide)) (zF1_sI zkq_in1 (by decide))) (fun f j => ?_) (zR1_tr zR1_0 (zR1_tr (zR1_I (by omega) (by omega)) (zR1_tr (zR1_J (by omega) (by omega)) (zR1_9 (by omega))))) (fun k hk => ?_) ?_ ?_⟩
          · rw [zI_sI, if_neg (fun z => by omega), zI_sI, if_neg (fun z => by omega)]
          · rw [zI_nj (by omega), zI_sJ, zI_n (by decide)]
            exact zc0_9 mr o _
          · rw [zJ_sI, zJ_n (by decide)]
            rfl
          · have n8 : ∀ k, k ≠ 9 → zI (zsI (zsJ (zsI (zc0 mr o) 1616 o (4 * c + H) x2) 1617 o (4 * c + H) 0) 1609 o (10 * c + 9) (nI (H + 1))) 1609 o (10 * c + k) = zI mr 1609 o (10 * c + k) := fun k hk => by
              rw [zI_nj (by omega), zI_sJ, zI_n (by decide)]
              exact zc0_9 mr o _
            have e8 : zI (zsI (zsJ (zsI (zc0 mr o) 1616 o (4 * c + H) x2) 1617 o (4 * c + H) 0) 1609 o (10 * c + 9) (nI (H + 1))) 1609 o (10 * c + 9) = nI (H + 1) := zI_e
            refine ⟨?_, ?_, ?_, ?_, ?_, ?_, ?_, ?_, ?_, ?_, ?_⟩
            · rw [n8 7 (by omega), zI_n (by decide), zI_n (by decide)]; exact p0
            · rw [n8 8 (by omega), zI_n (by decide), zI_n (by decide)]; exact p1
            · rw [e8, zI_e]
            · obtain ⟨⟨L, h1, h1'⟩, H', h2, h3, h4⟩ := p3
              refine ⟨⟨L, h1, (n8 8 (by omega)).trans h1'⟩, H + 1, by omega, e8, fun k hk => ?_⟩
              have eH : H' = H := by
                rw [eL, nI_eq (by omega) (by omega)] at h3
                exact h3.symm
              by_cases e : k = H
              · subst e
                refine ⟨y, hy1, hy, ?_⟩
                rw [zI_n (by decide), zI_sJ, zI_e]
                exact ey
              · obtain ⟨v, v1, v2, v3⟩ := h4 k (by omega)
                refine ⟨v, v1, v2, ?_⟩
                rw [zI_n (by decide), zI_sJ, zI_nj (by omega), zc0_e (by decide)]
                exact v3
            · rw [zJ_sI, zJ_sI, zJ_sI, zJ_n (by decide)]; exact p4
            · rw [zJ_sI, zJ_sI, zJ_sI, zJ_n (by decide)]; exact p5
            · rw [zJ_sI, zJ_sI, zJ_sI, zJ_n (by decide)]; exact p6
            · rw [n8 8 (by omega)]
              intro k hk
              obtain ⟨a, b', d⟩ := p7 k hk
              have a : zI mc 1306 (zkq b c + 1) k = zI mr 1613 o (4 * c + k) := a
              have b' : zJ mc 1307 (zkq b c + 1) k = zJ mr 1614 o (4 * c + k) := b'
              have d : zJ mc 1308 (zkq b c + 1) k = zJ mr 1615 o (4 * c + k) := d
              refine ⟨?_, ?_, ?_⟩
              · show _ = zI (zsI (zsJ (zsI (zc0 mr o) 1616 o (4 * c + H) x2) 1617 o (4 * c + H) 0) 1609 o (10 * c + 9) (nI (H + 1))) 1613 o (4 * c + k)
                rw [zI_n (by decide), zI_n (by decide), zI_n (by decide), zI_sJ, zI_n (by decide), zc0_e (by decide)]
                exact a
              · show _ = zJ (zsI (zsJ (zsI (zc0 mr o) 1616 o (4 * c + H) x2) 1617 o (4 * c + H) 0) 1609 o (10 * c + 9) (nI (H + 1))) 1614 o (4 * c + k)
                rw [zJ_sI, zJ_sI, zJ_sI, zJ_n (by decide)]
                exact b'
              · show _ = zJ (zsI (zsJ (zsI (zc0 mr o) 1616 o (4 * c + H) x2) 1617 o (4 * c + H) 0) 1609 o (10 * c + 9) (nI (H + 1))) 1615 o (4 * c + k)
                rw [zJ_sI, zJ_sI, zJ_sI, zJ_n (by decide)]
                exact d
            · rw [e8, nI_clamp (by omega)]
              intro k hk
              by_cases e : k = H
              · subst e
                refine ⟨?_, ?_⟩
                · show _ = zI (zsI (zsJ (zsI (zc0 mr o) 1616 o (4 * c + k) x2) 1617 o (4 * c + k) 0) 1609 o (10 * c + 9) (nI (k + 1))) 1616 o (4 * c + k)
                  rw [zI_n (by decide), zI_e, zI_n (by decide), zI_sJ, zI_e]
                · show _ = zJ (zsI (zsJ (zsI (zc0 mr o) 1616 o (4 * c + k) x2) 1617 o (4 * c + k) 0) 1609 o (10 * c + 9) (nI (k + 1))) 1617 o (4 * c + k)
                  rw [zJ_sI, zJ_sI, zJ_sI, zJ_e]
                  exact p10 k (by rw [eL, nI_clamp (by omega)]; exact Nat.le_refl k) (by omega)
              · obtain ⟨a, b'⟩ := p8 k (by rw [eL, nI_clamp (by omega)]; omega)
                have a : zI mc 1309 (zkq b c + 1) k = zI mr 1616 o (4 * c + k) := a
                have b' : zJ mc 1310 (zkq b c + 1) k = zJ mr 1617 o (4 * c + k) := b'
                refine ⟨?_, ?_⟩
                · show _ = zI (zsI (zsJ (zsI (zc0 mr o) 1616 o (4 * c + H) x2) 1617 o (4 * c + H) 0) 1609 o (10 * c + 9) (nI (H + 1))) 1616 o (4 * c + k)
                  rw [zI_n (by decide), zI_nj e, zI_n (by decide), zI_sJ, zI_nj (by omega), zc0_e (by decide)]
                  exact a
                · show _ = zJ (zsI (zsJ (zsI (zc0 mr o) 1616 o (4 * c + H) x2) 1617 o (4 * c + H) 0) 1609 o (10 * c + 9) (nI (H + 1))) 1617 o (4 * c + k)
                  rw [zJ_sI, zJ_sI, zJ_sI, zJ_nj (by omega)]
                  exact b'
            · rw [n8 8 (by omega)]
              exact p9
            · rw [e8, nI_clamp (by omega)]
              intro k h1 h2
              exact p10 k (by rw [eL, nI_clamp (by omega)]; omega) h2
        · exact absurd ⟨by omega, hP.1, by rw [← e9]; exact hP.2⟩ q2
      · refine no a1 a2 (fun z => z.1 ?_)
        rw [e301, show (4 : Int32) = nI 4 from rfl, nI_ltI (by omega) (by omega)] at q
        omega
    · exact no a1 a2 (fun z => hP ⟨z.2.1, by rw [e9]; exact z.2.2⟩)
  · obtain ⟨e1, e2⟩ := hE
    obtain ⟨e3, e4⟩ := hE'
    subst e1 e2 e3 e4
    exact ⟨rfl, zOK_0 h⟩
