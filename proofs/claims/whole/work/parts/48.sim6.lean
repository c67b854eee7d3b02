/-! calls side by side: paper, judge, appeal, out, lacks, tell, money -/
theorem z_sup2 {a x i : Int32} (h : i &&& (a ||| x) = a ||| x) : i &&& a = a := by
  have e : (a ||| x) &&& a = a := by
    apply Int32.toBitVec_inj.1
    rw [Int32.toBitVec_and, Int32.toBitVec_or]
    ext k hk
    simp only [BitVec.getElem_and, BitVec.getElem_or]
    cases a.toBitVec[k] <;> cases x.toBitVec[k] <;> rfl
  have h2 : i &&& ((a ||| x) &&& a) = (a ||| x) &&& a := by rw [← Int32.and_assoc, h]
  rw [e] at h2
  exact h2
theorem zSq_d {mc mr : zM} {b o c : Nat} (h : zSq mc mr b o) (hc : c < (zI mr 1606 o 0).toNatClampNeg) : zSc mc mr (zkq b c) o c ∧ zA6 mc mr (zkq b c) o c :=
  have hS := h.2.2.1 c hc
  ⟨hS, hS.1.1, hS.1.2.1, hS.1.2.2.1, hS.1.2.2.2.1, hS.1.2.2.2.2.1⟩
/-- a book's claim changed in its head: what stays -/
theorem zG9 {mr : zM} {o c k : Nat} {v : Int32} : zGe (zsI (zc0 mr o) 1609 o (10 * c + k) v) mr o := fun f a b => funext fun j => (zI_n (by omega)).trans (zc0_e (by omega))
theorem zAp9 {mr : zM} {o c k : Nat} {v : Int32} (hk : k < 7) : zAp mr (zsI (zc0 mr o) 1609 o (10 * c + k) v) o c := zAp_tr zAp_0 (zAp_9 hk)
theorem zAp_I {mc mc' mr mr' : zM} {q o c : Nat} (h : zSp mc mr (q + 1) o c) (hc : ∀ f j, zI mc' f (q + 1) j = zI mc f (q + 1) j) (hJ : mc'.2 = mc.2) (hr : zAp mr mr' o c) : zSp mc' mr' (q + 1) o c := zSp_x h (fun f j => ⟨hc f j, by rw [zJ_2 hJ]⟩) hr
theorem sim_paper {mc mr : zM} {b o : Nat} (h : zSm mc mr b o) {x1 x2 r r' : Int32} {mc' mr' : zM} (hc : zCt mc b x1 (fun c => zIt r mc' (zMb mc (zkq b c) x2 ∧ zI mc 9 b 0 = 0) 1 (zME (zsI mc 104 (zkq b c) 0 (zI mc 104 (zkq b c) 0 ||| (1 <<< (x2 &&& 31)))) (zkq b c) (zR mc 3 b)) 0 mc) (r = 0 ∧ mc' = mc)) (hr : zAt mr o x1 (fun c => zIt r' mr' (zI mr 1609 o (10 * c + 5) = 0 ∧ (0 ≤ x2 ∧ x2 ≤ 5) ∧ ((zI mr 1609 o (10 * c + 4) >>> (x2 &&& 31)) &&& 1) = 0 ∧ zI mr 1608 o 0 = 0) 1 (zsI (zc0 mr o) 1609 o (10 * c + 4) (zI mr 1609 o (10 * c + 4) ||| (1 <<< (x2 &&& 31)))) 0 (zc0 mr o)) (r' = 0 ∧ mr' = zc0 mr o)) : r = r' ∧ zOK b o mc mr mc' mr' := by
  have e9 := h.1.1.2.2.2.2.2.2.2.1
  refine zCtAt h.1.1 hc hr (fun c hcn c16 hF hF' => ?_) (fun hE hE' => ?_)
  · obtain ⟨hS, hA⟩ := zSq_d h.1 hcn
    have e4 : zI mc 104 (zkq b c) 0 = zI mr 1609 o (10 * c + 4) := hS.1.2.2.2.2.1
    have e5 : zI mc 105 (zkq b c) 0 = zI mr 1609 o (10 * c + 5) := hS.1.2.2.2.2.2
    refine zIt_2 (by unfold zMb; rw [e9, e4, e5]; exact ⟨fun z => ⟨z.1.1, z.1.2.1, z.1.2.2, z.2⟩, fun z => ⟨⟨z.1, z.2.1, z.2.2.1⟩, z.2.2.2⟩⟩) hF hF' (fun p e1 e2 e3 e4' => ?_) (fun _ e1 e2 e3 e4' => ?_)
    · rw [e4] at e2
      obtain ⟨⟨p5, px, pb⟩, p9⟩ := p
      obtain ⟨a, ha, ea⟩ := hS.2.1.1
      have ea : zI mr 1609 o (10 * c + 4) = nI a := ea
      obtain ⟨y, hy, ey⟩ := z_in2 (x := x2) 5 rfl (by omega) px
      obtain ⟨a', ha', ea'⟩ := z_or6 a ha y (by omega)
      rw [← ey, ← ea] at ea'
      generalize hpa : zI mr 1609 o (10 * c + 4) ||| (1 <<< (x2 &&& 31)) = pa at *
      subst e1 e2 e3 e4'
      have p5' : zI mr 1609 o (10 * c + 5) = 0 := e5.symm.trans p5
      have r5 : zI (zsI (zc0 mr o) 1609 o (10 * c + 4) pa) 1609 o (10 * c + 5) = 0 := (z9_n mr o c 4 5 pa (by omega)).trans p5'
      have hg : zSg (zsI mc 104 (zkq b c) 0 pa) (zsI (zc0 mr o) 1609 o (10 * c + 4) pa) (zR mc 3 b) o := zSg_y h.1.2.1 (fun f hf => funext fun x => funext fun j => zI_n (by omega)) zG9
      have n1 : ∀ f, f ≠ 104 → zI (zsI mc 104 (zkq b c) 0 pa) f (zkq b c) 0 = zI mc f (zkq b c) 0 := fun f hf => zI_n hf
      refine ⟨rfl, zOK_1 h c16 hcn (zF1_tr (zF1_sI zkq_in (by decide)) zF1_ME) (zR1_tr zR1_0 (zR1_9 (by omega))) ?_ (fun hq z H => zRH_1 h.1 hq (zR1_tr zR1_0 (zR1_9 (by omega))) rfl (fun _ => ?_) ?_ H)⟩
      · refine zSc_ME hg ⟨(n1 100 (by decide)).trans (hA.1.trans (z9_n mr o c 4 0 pa (by omega)).symm), (n1 101 (by decide)).trans (hA.2.1.trans (z9_n mr o c 4 1 pa (by omega)).symm), (n1 102 (by decide)).trans (hA.2.2.1.trans (z9_n mr o c 4 2 pa (by omega)).symm), (n1 103 (by decide)).trans (hA.2.2.2.1.trans (z9_n mr o c 4 3 pa (by omega)).symm), zI_e.trans (z9_e mr o c 4 pa).symm⟩ ((n1 105 (by decide)).trans p5) r5 ⟨a', ha', (z9_e mr o c 4 pa).trans ea'⟩ (zAp_I hS.2.2.2.2.1 (fun f j => by rw [zI_sI, if_neg (fun z => by omega)]) rfl (zAp9 (by omega))) ?_
        refine ⟨hS.2.2.2.2.2.1, fun z => ?_⟩
        rw [r5] at z
        exact absurd z (by decide)
      all_goals
        have hpf : zrw (zsI (zc0 mr o) 1609 o (10 * c + 4) pa) o c = zrw mr o c := by
          funext p
          unfold zrw
          rw [z9_n mr o c 4 1 pa (by omega), z9_n mr o c 4 2 pa (by omega), z9_n mr o c 4 3 pa (by omega), zrp_ext zG9]
        have hN : ∀ p, ∃ w, w ≤ 1000000 ∧ zrw mr o c p = nI w := fun p => zrp_N h.1.2.1.2.1 _ _ _ p
      · unfold zRle
        rw [r5, p5', if_pos rfl, if_pos rfl, hpf, z9_e, ea]
        obtain ⟨w, hw, ew⟩ := zml_N (pa := nI a) hN 64
        refine zml_gt (by rw [ew, show (1000000 : Int32) = nI 1000000 from rfl, nI_leI (by omega) (by omega)]; exact hw) 64 (fun i hi hs => zml_le 64 i hi ?_)
        rw [← hpa, ea] at hs
        exact z_sup2 hs
      · unfold zRmo
        rw [r5, p5', if_pos rfl, if_pos rfl, hpf, z9_e, ea]
        obtain ⟨w, hw, ew⟩ := zmm_N (pa := nI a) hN 64
        refine zmm_lt (by rw [ew, show (0 : Int32) = nI 0 from rfl, nI_leI (by omega) (by omega)]; omega) 64 (fun i hi hs => zmm_ge 64 i hi ?_)
        rw [← hpa, ea] at hs
        exact z_sup2 hs
    · subst e1 e2 e3 e4'
      exact ⟨rfl, zOK_0 h⟩
  · obtain ⟨e1, e2⟩ := hE
    obtain ⟨e3, e4⟩ := hE'
    subst e1 e2 e3 e4
    exact ⟨rfl, zOK_0 h⟩
theorem sim_lacks {mc mr : zM} {b o : Nat} (h : zSm mc mr b o) {x1 x2 r r' : Int32} {mr' : zM} (hc : zCt mc b x1 (fun c => (zMb mc (zkq b c) x2 ∧ r = zpw mc (zkq b c) (zR mc 3 b) (zI mc 104 (zkq b c) 0 ||| (1 <<< (x2 &&& 31))) - zpw mc (zkq b c) (zR mc 3 b) (zI mc 104 (zkq b c) 0)) ∨ (¬ zMb mc (zkq b c) x2 ∧ r = -10000000)) (r = -10000000)) (hr : mr' = zc0 mr o ∧ zAt mr o x1 (fun c => ((zI mr 1609 o (10 * c + 5) = 0 ∧ (0 ≤ x2 ∧ x2 ≤ 5) ∧ ((zI mr 1609 o (10 * c + 4) >>> (x2 &&& 31)) &&& 1) = 0) ∧ r' = zrw mr o c (zI mr 1609 o (10 * c + 4) ||| (1 <<< (x2 &&& 31))) - zrw mr o c (zI mr 1609 o (10 * c + 4))) ∨ (¬ (zI mr 1609 o (10 * c + 5) = 0 ∧ (0 ≤ x2 ∧ x2 ≤ 5) ∧ ((zI mr 1609 o (10 * c + 4) >>> (x2 &&& 31)) &&& 1) = 0) ∧ r' = -10000000)) (r' = -10000000)) : r = r' ∧ zOK b o mc mr mc mr' := by
  obtain ⟨rfl, hr⟩ := hr
  refine ⟨?_, zOK_0 h⟩
  refine zCtAt h.1.1 hc hr (fun c hcn c16 hF hF' => ?_) (fun hE hE' => hE.trans hE'.symm)
  obtain ⟨hS, hA⟩ := zSq_d h.1 hcn
  have e4 : zI mc 104 (zkq b c) 0 = zI mr 1609 o (10 * c + 4) := hS.1.2.2.2.2.1
  have e5 : zI mc 105 (zkq b c) 0 = zI mr 1609 o (10 * c + 5) := hS.1.2.2.2.2.2
  have e := zpw_r h.1.2.1 hA.2.1 hA.2.2.1 hA.2.2.2.1
  unfold zMb at hF
  rw [e, e4, e5] at hF
  rcases hF with ⟨p, a⟩ | ⟨p, a⟩
  · rcases hF' with ⟨p', a'⟩ | ⟨p', a'⟩
    · exact a.trans a'.symm
    · exact absurd p p'
  · rcases hF' with ⟨p', a'⟩ | ⟨p', a'⟩
    · exact absurd p' p
    · exact a.trans a'.symm
/-- twins on both sides -/
theorem zTw_r {mc mr : zM} {b o c i : Nat} (h : zSq mc mr b o) (hc : c < (zI mr 1606 o 0).toNatClampNeg) (hi : i < (zI mr 1606 o 0).toNatClampNeg) : zbTw mc (zkq b c) (zkq b i) ↔ i ≠ c ∧ ¬ zI mr 1609 o (10 * c + 5) = 2 ∧ ¬ zI mr 1609 o (10 * i + 5) = 2 ∧ zI mr 1609 o (10 * i) = zI mr 1609 o (10 * c) := by
  have hS := h.2.2.1 c hc
  have hI := h.2.2.1 i hi
  have s : ∀ {x : Int32}, (∃ s, s < 3 ∧ x = nI s) → ((x = 0 ∨ x = 1) ↔ ¬ x = 2) := by
    rintro x ⟨s, hs, rfl⟩
    rw [show (0 : Int32) = nI 0 from rfl, show (1 : Int32) = nI 1 from rfl, show (2 : Int32) = nI 2 from rfl, nI_eq (by omega) (by omega), nI_eq (by omega) (by omega), nI_eq (by omega) (by omega)]
    omega
  unfold zbTw zbIn
  rw [hS.1.2.2.2.2.2, hI.1.2.2.2.2.2, hS.1.1, hI.1.1, s hS.2.1.2.1, s hI.2.1.2.1]
  have e : (¬ zkq b c = zkq b i) ↔ i ≠ c := by
    simp only [zkq]
    omega
  rw [e]
  exact ⟨fun z => ⟨z.1, z.2.1, z.2.2.1, z.2.2.2.symm⟩, fun z => ⟨z.1, z.2.1, z.2.2.1, z.2.2.2.symm⟩⟩
theorem zTw_f {mc mr : zM} {b o i q : Nat} (h : zSq mc mr b o) (hi : (zI mr 1606 o 0).toNatClampNeg ≤ i) (hi2 : i < 16) : ¬ zbTw mc q (zkq b i) := by
  intro z
  have h3 := (h.2.2.2 i hi hi2).1.1
  rcases z.2.2.1 with y | y <;> rw [h3] at y <;> exact absurd y (by decide)
theorem sim_judge {mc mr : zM} {b o : Nat} (h : zSm mc mr b o) {x1 r r' : Int32} {mc' mr' : zM} (hc : zCt mc b x1 (fun c => zIt r mc' (zI mc 105 (zkq b c) 0 = 0 ∧ (¬ ∃ i, i < 16 ∧ zI mc 105 (zkq b i) 0 = 1 ∧ zbTw mc (zkq b c) (zkq b i)) ∧ zI mc 9 b 0 = 0) (zpw mc (zkq b c) (zR mc 3 b) (zI mc 104 (zkq b c) 0)) (zST mc (zkq b c) 1 (zpw mc (zkq b c) (zR mc 3 b) (zI mc 104 (zkq b c) 0))) (-1) mc) (r = -1 ∧ mc' = mc)) (hr : zAt mr o x1 (fun c => zIt r' mr' (zI mr 1609 o (10 * c + 5) = 0 ∧ zcb (ztw mr o c 1) (zI mr 1606 o 0).toNatClampNeg = 0 ∧ zI mr 1608 o 0 = 0) (zrw mr o c (zI mr 1609 o (10 * c + 4))) (zsI (zsI (zc0 mr o) 1609 o (10 * c + 6) (zrw mr o c (zI mr 1609 o (10 * c + 4)))) 1609 o (10 * c + 5) 1) (-1) (zc0 mr o)) (r' = -1 ∧ mr' = zc0 mr o)) : r = r' ∧ zOK b o mc mr mc' mr' := by
  have e9 := h.1.1.2.2.2.2.2.2.2.1
  refine zCtAt h.1.1 hc hr (fun c hcn c16 hF hF' => ?_) (fun hE hE' => ?_)
  · obtain ⟨hS, hA⟩ := zSq_d h.1 hcn
    have e4 : zI mc 104 (zkq b c) 0 = zI mr 1609 o (10 * c + 4) := hS.1.2.2.2.2.1
    have e5 : zI mc 105 (zkq b c) 0 = zI mr 1609 o (10 * c + 5) := hS.1.2.2.2.2.2
    have e := zpw_r h.1.2.1 hA.2.1 hA.2.2.1 hA.2.2.2.1
    have htw : zI mr 1609 o (10 * c + 5) = 0 → ((¬ ∃ i, i < 16 ∧ zI mc 105 (zkq b i) 0 = 1 ∧ zbTw mc (zkq b c) (zkq b i)) ↔ zcb (ztw mr o c 1) (zI mr 1606 o 0).toNatClampNeg = 0) := fun z0 => by
      obtain ⟨n, hn, en, en2⟩ := zSq_n h.1
      constructor
      · intro hx
        refine zcb_0' (fun i hi => ?_)
        cases ht : ztw mr o c 1 i with
        | false => rfl
        | true =>
          exfalso
          unfold ztw at ht
          rw [if_neg (by decide)] at ht
          simp only [Bool.and_eq_true, Bool.not_eq_true', decide_eq_false_iff_not, decide_eq_true_eq] at ht
          refine hx ⟨i, by omega, (h.1.2.2.1 i hi).1.2.2.2.2.2.trans ht.2, (zTw_r h.1 hcn hi).2 ⟨ht.1.1, ?_, ?_, ht.1.2⟩⟩
          · rw [z0]; decide
          · rw [ht.2]; decide
      · rintro hz ⟨i, hi, s1, tw⟩
        by_cases q : i < (zI mr 1606 o 0).toNatClampNeg
        · have ht := zcb_0 hz i q
          obtain ⟨t1, t2, t3, t4⟩ := (zTw_r h.1 hcn q).1 tw
          have s1' : zI mr 1609 o (10 * i + 5) = 1 := (h.1.2.2.1 i q).1.2.2.2.2.2.symm.trans s1
          unfold ztw at ht
          rw [if_neg (by decide), decide_eq_false t1, decide_eq_true t4, decide_eq_true s1'] at ht
          exact absurd ht (by decide)
        · exact zTw_f h.1 (by omega) hi tw
    rw [e, e4] at hF
    have hN : ∀ p, ∃ w, w ≤ 1000000 ∧ zrw mr o c p = nI w := fun p => zrp_N h.1.2.1.2.1 _ _ _ p
    refine zIt_2 (by
      rw [e9, e5]
      exact ⟨fun z => ⟨z.1, (htw z.1).1 z.2.1, z.2.2⟩, fun z => ⟨z.1, (htw z.1).2 z.2.1, z.2.2⟩⟩) hF hF' (fun p e1 e2 e3 e4' => ?_) (fun _ e1 e2 e3 e4' => ?_)
    · rw [e5] at p
      obtain ⟨p5, -, -⟩ := p
      obtain ⟨a, ha, ea⟩ := hS.2.1.1
      have ea : zI mr 1609 o (10 * c + 4) = nI a := ea
      obtain ⟨w, hw, ew⟩ := hN (zI mr 1609 o (10 * c + 4))
      subst e1 e2 e3 e4'
      have hle := zml_le (pf := zrw mr o c) (pa := nI a) 64 a ha (z_self a)
      have hge := zmm_ge (pf := zrw mr o c) (pa := nI a) 64 a ha (z_self a)
      rw [← ea] at hle hge
      generalize hv : zrw mr o c (zI mr 1609 o (10 * c + 4)) = v at *
      have g5 : zI (zsI (zsI (zc0 mr o) 1609 o (10 * c + 6) v) 1609 o (10 * c + 5) 1) 1609 o (10 * c + 5) = 1 := zI_e
      have g6 : zI (zsI (zsI (zc0 mr o) 1609 o (10 * c + 6) v) 1609 o (10 * c + 5) 1) 1609 o (10 * c + 6) = v := (zI_nj (by omega)).trans zI_e
      have gn : ∀ k, k ≠ 5 → k ≠ 6 → zI (zsI (zsI (zc0 mr o) 1609 o (10 * c + 6) v) 1609 o (10 * c + 5) 1) 1609 o (10 * c + k) = zI mr 1609 o (10 * c + k) := fun k h1 h2 => (zI_nj (by omega)).trans (z9_n mr o c 6 k v h2)
      have r1 : zR1 o c mr (zsI (zsI (zc0 mr o) 1609 o (10 * c + 6) v) 1609 o (10 * c + 5) 1) := zR1_tr zR1_0 (zR1_tr (zR1_9 (by omega)) (zR1_9 (by omega)))
      have L1 : zRle (zsI (zsI (zc0 mr o) 1609 o (10 * c + 6) v) 1609 o (10 * c + 5) 1) o c = v := by
        unfold zRle
        rw [g5, g6, if_neg (by decide), if_pos rfl]
      have M1 : zRmo (zsI (zsI (zc0 mr o) 1609 o (10 * c + 6) v) 1609 o (10 * c + 5) 1) o c = v := by
        unfold zRmo
        rw [g5, g6, if_neg (by decide), if_pos rfl]
      refine ⟨rfl, zOK_1 h c16 hcn zF1_ST r1 ?_ (fun hq z H => zRH_1 h.1 hq r1 rfl (fun _ => ?_) ?_ H)⟩
      · refine zSc_ST ⟨hA.1.trans (gn 0 (by omega) (by omega)).symm, hA.2.1.trans (gn 1 (by omega) (by omega)).symm, hA.2.2.1.trans (gn 2 (by omega) (by omega)).symm, hA.2.2.2.1.trans (gn 3 (by omega) (by omega)).symm, hA.2.2.2.2.trans (gn 4 (by omega) (by omega)).symm⟩ g5.symm ⟨⟨a, ha, (gn 4 (by omega) (by omega)).trans ea⟩, ⟨1, by omega, g5⟩, fun _ => ⟨w, hw, g6.trans ew⟩⟩ L1.symm M1.symm (zAp_I hS.2.2.2.2.1 (fun _ _ => rfl) rfl (zAp_tr (zAp9 (by omega)) (zAp_9 (by omega)))) ?_
        refine ⟨hS.2.2.2.2.2.1, fun z => ?_⟩
        rw [g5] at z
        exact absurd z (by decide)
      · rw [L1]
        unfold zRle
        rw [if_pos p5]
        exact hle
      · rw [M1]
        unfold zRmo
        rw [if_pos p5]
        exact hge
    · subst e1 e2 e3 e4'
      exact ⟨rfl, zOK_0 h⟩
  · obtain ⟨e1, e2⟩ := hE
    obtain ⟨e3, e4⟩ := hE'
    subst e1 e2 e3 e4
    exact ⟨rfl, zOK_0 h⟩
theorem sim_appeal {mc mr : zM} {b o : Nat} (h : zSm mc mr b o) {x1 x2 r r' : Int32} {mc' mr' : zM} (hc : zCt mc b x1 (fun c => zHc b r mc' (zI mc 105 (zkq b c) 0 = 1 ∧ (0 ≤ x2 ∧ x2 ≤ 1000000) ∧ zI mc 9 b 0 = 0) 1 (zST mc (zkq b c) 1 x2) 0 mc (zST (zST mc (zkq b c) 1 x2) (zkq b c) 1 (zI mc 107 (zkq b c) 0))) (r = 0 ∧ mc' = mc)) (hr : zAt mr o x1 (fun c => zHo o r' mr' (zI mr 1609 o (10 * c + 5) = 1 ∧ (0 ≤ x2 ∧ x2 ≤ 1000000) ∧ zI mr 1608 o 0 = 0) 1 (zsI (zc0 mr o) 1609 o (10 * c + 6) x2) 0 (zc0 mr o) (zsI (zsI (zc0 mr o) 1609 o (10 * c + 6) x2) 1609 o (10 * c + 6) (zI mr 1609 o (10 * c + 6)))) (r' = 0 ∧ mr' = zc0 mr o)) : r = r' ∧ zOK b o mc mr mc' mr' := by
  have e9 := h.1.1.2.2.2.2.2.2.2.1
  refine zCtAt h.1.1 hc hr (fun c hcn c16 hF hF' => ?_) (fun hE hE' => ?_)
  · obtain ⟨hS, hA⟩ := zSq_d h.1 hcn
    have e5 : zI mc 105 (zkq b c) 0 = zI mr 1609 o (10 * c + 5) := hS.1.2.2.2.2.2
    have eP : (zI mc 105 (zkq b c) 0 = 1 ∧ (0 ≤ x2 ∧ x2 ≤ 1000000) ∧ zI mc 9 b 0 = 0) ↔ (zI mr 1609 o (10 * c + 5) = 1 ∧ (0 ≤ x2 ∧ x2 ≤ 1000000) ∧ zI mr 1608 o 0 = 0) := by rw [e9, e5]
    rcases hF with ⟨hP, hF⟩ | ⟨hP, a1, a2⟩
    · have hP' := eP.1 hP
      have hF' := (hF'.resolve_right (fun z => z.1 hP')).2
      obtain ⟨p5, px, p9⟩ := hP'
      obtain ⟨w, hw, ew⟩ := z_in2 (x := x2) 1000000 rfl (by omega) px
      have g5 : zI (zsI (zc0 mr o) 1609 o (10 * c + 6) x2) 1609 o (10 * c + 5) = 1 := (z9_n mr o c 6 5 x2 (by omega)).trans p5
      have g6 : zI (zsI (zc0 mr o) 1609 o (10 * c + 6) x2) 1609 o (10 * c + 6) = x2 := z9_e mr o c 6 x2
      have gn := fun k (h2 : k ≠ 6) => z9_n mr o c 6 k x2 h2
      have r1 : zR1 o c mr (zsI (zc0 mr o) 1609 o (10 * c + 6) x2) := zR1_tr zR1_0 (zR1_9 (by omega))
      have hsc : zSc (zST mc (zkq b c) 1 x2) (zsI (zc0 mr o) 1609 o (10 * c + 6) x2) (zkq b c) o c := by
        refine zSc_ST ⟨hA.1.trans (gn 0 (by omega)).symm, hA.2.1.trans (gn 1 (by omega)).symm, hA.2.2.1.trans (gn 2 (by omega)).symm, hA.2.2.2.1.trans (gn 3 (by omega)).symm, hA.2.2.2.2.trans (gn 4 (by omega)).symm⟩ g5.symm ⟨?_, ⟨1, by omega, g5⟩, fun _ => ⟨w, hw, g6.trans ew⟩⟩ ?_ ?_ (zAp_I hS.2.2.2.2.1 (fun _ _ => rfl) rfl (zAp9 (by omega))) ⟨hS.2.2.2.2.2.1, fun z => absurd (g5.symm.trans z) (by decide)⟩
        · unfold zRP
          rw [gn 4 (by omega)]
          exact hS.2.1.1
        · unfold zRle
          rw [g5, g6, if_neg (by decide), if_pos rfl]
        · unfold zRmo
          rw [g5, g6, if_neg (by decide), if_pos rfl]
      have hq1 := zSq_1 h.1 hcn zF1_ST r1 hsc
      refine zIt_2 (zSq_H hq1) hF hF' (fun p e1 e2 e3 e4 => ?_) (fun _ e1 e2 e3 e4 => ?_)
      · subst e1 e2 e3 e4
        exact ⟨rfl, ⟨hq1, fun _ => (zSq_H hq1).1 p⟩, zF1_Fc c16 zF1_ST, zR1_Fr c16 r1⟩
      · rw [zsI_sI, zsI_id (zc0_9 mr o _)] at e4
        subst e1 e2 e3 e4
        refine ⟨rfl, zOK_1 h c16 hcn (zF1_tr zF1_ST zF1_ST) zR1_0 ?_ (fun _ z H => zRH_0.2 H)⟩
        have n0 : ∀ f, f ≠ 105 → f ≠ 106 → f ≠ 107 → zI (zST mc (zkq b c) 1 x2) f (zkq b c) 0 = zI mc f (zkq b c) 0 := fun f h1 h2 h3 => by
          unfold zST
          rw [zI_n h3, zI_n h2, zI_n h1]
        have z9 := fun k => zc0_9 mr o (10 * c + k)
        have hk : zRk (zc0 mr o) o c := by
          unfold zRk zRP
          rw [z9 4, z9 5, z9 6]
          exact hS.2.1
        refine zSc_ST ⟨(n0 100 (by decide) (by decide) (by decide)).trans (hA.1.trans (z9 0).symm), (n0 101 (by decide) (by decide) (by decide)).trans (hA.2.1.trans (z9 1).symm), (n0 102 (by decide) (by decide) (by decide)).trans (hA.2.2.1.trans (z9 2).symm), (n0 103 (by decide) (by decide) (by decide)).trans (hA.2.2.2.1.trans (z9 3).symm), (n0 104 (by decide) (by decide) (by decide)).trans (hA.2.2.2.2.trans (z9 4).symm)⟩ (p5.symm.trans (z9 5).symm) hk ?_ ?_ (zAp_I hS.2.2.2.2.1 (fun f j => zST_o _ _ _ _ f j) rfl zAp_0) ⟨hS.2.2.2.2.2.1, fun z => absurd (p5.symm.trans ((z9 5).symm.trans z)) (by decide)⟩
        · rw [zc0_le, hS.2.2.2.1]
          unfold zRmo zRle
          rw [p5, if_neg (by decide), if_pos rfl, if_neg (by decide)]
        · rw [zc0_mo, hS.2.2.2.1]
    · have hF' := hF'.resolve_left (fun z => hP (eP.2 z.1))
      obtain ⟨-, a3, a4⟩ := hF'
      subst a1 a2 a3 a4
      exact ⟨rfl, zOK_0 h⟩
  · obtain ⟨e1, e2⟩ := hE
    obtain ⟨e3, e4⟩ := hE'
    subst e1 e2 e3 e4
    exact ⟨rfl, zOK_0 h⟩
theorem sim_out {mc mr : zM} {b o : Nat} (h : zSm mc mr b o) {x1 x2 r r' : Int32} (h01 : x2 = 0 ∨ x2 = 1) {mc' mr' : zM} (hc : zCt mc b x1 (fun c => (¬ zI mc 9 b 0 = 0 ∧ r = 0 ∧ mc' = mc) ∨ (zI mc 9 b 0 = 0 ∧ ((x2 = 0 ∧ ((zI mc 105 (zkq b c) 0 = 2 ∧ zIt r mc' (zbH (zbTb mc b (zkq b c)) b) 1 (zbTb mc b (zkq b c)) 0 (zST (zbTb mc b (zkq b c)) (zkq b c) 2 0)) ∨ (¬ zI mc 105 (zkq b c) 0 = 2 ∧ r = 0 ∧ mc' = mc))) ∨ (¬ x2 = 0 ∧ zIt r mc' (¬ zI mc 105 (zkq b c) 0 = 2 ∧ zJ mc 303 (zkq b c + 1) 0 ≤ 0) 1 (zST mc (zkq b c) 2 0) 0 mc)))) (r = 0 ∧ mc' = mc)) (hr : zAt mr o x1 (fun c => zHo o r' mr' (zI mr 1608 o 0 = 0 ∧ ¬ (x2 = 1 ↔ zI mr 1609 o (10 * c + 5) = 2) ∧ zJ mr 1610 o c ≤ 0) 1 (zsI (zc0 mr o) 1609 o (10 * c + 5) (if x2 = 0 then 0 else 2)) 0 (zc0 mr o) (zsI (zsI (zc0 mr o) 1609 o (10 * c + 5) (if x2 = 0 then 0 else 2)) 1609 o (10 * c + 5) (zI mr 1609 o (10 * c + 5)))) (r' = 0 ∧ mr' = zc0 mr o)) : r = r' ∧ zOK b o mc mr mc' mr' := by
  have e9 := h.1.1.2.2.2.2.2.2.2.1
  refine zCtAt h.1.1 hc hr (fun c hcn c16 hF hF' => ?_) (fun hE hE' => ?_)
  · obtain ⟨hS, hA⟩ := zSq_d h.1 hcn
    have e5 : zI mc 105 (zkq b c) 0 = zI mr 1609 o (10 * c + 5) := hS.1.2.2.2.2.2
    have e3 : zJ mc 303 (zkq b c + 1) 0 = zJ mr 1610 o c := hS.2.2.2.2.1.2.2.2.2.1
    have no : r = 0 → mc' = mc → ¬ (zI mr 1608 o 0 = 0 ∧ ¬ (x2 = 1 ↔ zI mr 1609 o (10 * c + 5) = 2) ∧ zJ mr 1610 o c ≤ 0) → r = r' ∧ zOK b o mc mr mc' mr' := fun a1 a2 a3 => by
      obtain ⟨-, a4, a5⟩ := hF'.resolve_left (fun z => a3 z.1)
      subst a1 a2 a4 a5
      exact ⟨rfl, zOK_0 h⟩
    have gn := fun v k (h2 : k ≠ 5) => z9_n mr o c 5 k v h2
    have A6 : ∀ v, zA6 mc (zsI (zc0 mr o) 1609 o (10 * c + 5) v) (zkq b c) o c := fun v => ⟨hA.1.trans (gn v 0 (by omega)).symm, hA.2.1.trans (gn v 1 (by omega)).symm, hA.2.2.1.trans (gn v 2 (by omega)).symm, hA.2.2.2.1.trans (gn v 3 (by omega)).symm, hA.2.2.2.2.trans (gn v 4 (by omega)).symm⟩
    have r1 : ∀ v, zR1 o c mr (zsI (zc0 mr o) 1609 o (10 * c + 5) v) := fun v => zR1_tr zR1_0 (zR1_9 (by omega))
    have hPa : ∀ v, zRP (zsI (zc0 mr o) 1609 o (10 * c + 5) v) o c := fun v => by
      unfold zRP
      rw [gn v 4 (by omega)]
      exact hS.2.1.1
    rcases hF with ⟨q9, a1, a2⟩ | ⟨q9, hF⟩
    · exact no a1 a2 (fun z => q9 (e9.trans z.1))
    rw [e9] at q9
    rcases hF with ⟨q0, hF⟩ | ⟨q0, hF⟩
    · subst q0
      rw [if_pos rfl] at hF'
      rcases hF with ⟨p5, hF⟩ | ⟨p5, a1, a2⟩
      · rw [e5] at p5
        have hpd : zJ mr 1610 o c = 0 := hS.2.2.2.2.2.2 p5
        have hF' := (hF'.resolve_right (fun z => z.1 ⟨q9, fun y => absurd (y.2 p5) (by decide), by rw [hpd]; decide⟩)).2
        have g5 := z9_e mr o c 5 0
        have hg : zSg (zsI mc 105 (zkq b c) 0 0) (zsI (zc0 mr o) 1609 o (10 * c + 5) 0) (zR mc 3 b) o := zSg_y h.1.2.1 (fun f hf => funext fun x => funext fun j => zI_n (by omega)) zG9
        have n1 : ∀ f, f ≠ 105 → zI (zsI mc 105 (zkq b c) 0 0) f (zkq b c) 0 = zI mc f (zkq b c) 0 := fun f hf => zI_n hf
        have hsp : zSp (zsI mc 105 (zkq b c) 0 0) (zsI (zc0 mr o) 1609 o (10 * c + 5) 0) (zkq b c + 1) o c := zAp_I hS.2.2.2.2.1 (fun f j => by rw [zI_sI, if_neg (fun z => by omega)]) rfl (zAp9 (by omega))
        have a6 := A6 0
        have hsc : zSc (zbTb mc b (zkq b c)) (zsI (zc0 mr o) 1609 o (10 * c + 5) 0) (zkq b c) o c := zSc_ME hg ⟨(n1 100 (by decide)).trans a6.1, (n1 101 (by decide)).trans a6.2.1, (n1 102 (by decide)).trans a6.2.2.1, (n1 103 (by decide)).trans a6.2.2.2.1, (n1 104 (by decide)).trans a6.2.2.2.2⟩ zI_e g5 (hPa 0) hsp ⟨hS.2.2.2.2.2.1, fun z => absurd (g5.symm.trans z) (by decide)⟩
        have f1 : zF1 b c mc (zbTb mc b (zkq b c)) := zF1_tr (zF1_sI zkq_in (by decide)) zF1_ME
        have hq1 := zSq_1 h.1 hcn f1 (r1 0) hsc
        refine zIt_2 (zSq_H hq1) hF hF' (fun p e1 e2 e3 e4 => ?_) (fun _ e1 e2 e3 e4 => ?_)
        · subst e1 e2 e3 e4
          exact ⟨rfl, ⟨hq1, fun _ => (zSq_H hq1).1 p⟩, zF1_Fc c16 f1, zR1_Fr c16 (r1 0)⟩
        · rw [zsI_sI, zsI_id (zc0_9 mr o _)] at e4
          subst e1 e2 e3 e4
          refine ⟨rfl, zOK_1 h c16 hcn (zF1_tr f1 zF1_ST) zR1_0 ?_ (fun _ z H => zRH_0.2 H)⟩
          have z9 := fun k => zc0_9 mr o (10 * c + k)
          have nT : ∀ f, f ≠ 105 → f ≠ 106 → f ≠ 107 → zI (zbTb mc b (zkq b c)) f (zkq b c) 0 = zI mc f (zkq b c) 0 := fun f h1 h2 h3 => by
            unfold zbTb
            rw [zME_f h2 h3, zI_n h1]
          have hk : zRk (zc0 mr o) o c := by
            unfold zRk zRP
            rw [z9 4, z9 5, z9 6]
            exact hS.2.1
          have hsp2 : zSp (zbTb mc b (zkq b c)) (zc0 mr o) (zkq b c + 1) o c := by
            refine zAp_I hS.2.2.2.2.1 (fun f j => ?_) (by unfold zbTb; rw [zME_2]; rfl) zAp_0
            unfold zbTb zME
            split
            · rw [zLM_o, zI_sI, if_neg (fun z => by omega)]
            · rw [zI_sI, if_neg (fun z => by omega)]
          refine zSc_ST ⟨(nT 100 (by decide) (by decide) (by decide)).trans (hA.1.trans (z9 0).symm), (nT 101 (by decide) (by decide) (by decide)).trans (hA.2.1.trans (z9 1).symm), (nT 102 (by decide) (by decide) (by decide)).trans (hA.2.2.1.trans (z9 2).symm), (nT 103 (by decide) (by decide) (by decide)).trans (hA.2.2.2.1.trans (z9 3).symm), (nT 104 (by decide) (by decide) (by decide)).trans (hA.2.2.2.2.trans (z9 4).symm)⟩ (p5.symm.trans (z9 5).symm) hk ?_ ?_ hsp2 ⟨hS.2.2.2.2.2.1, fun _ => hpd⟩
          · rw [zc0_le]
            unfold zRle
            rw [p5, if_neg (by decide), if_neg (by decide)]
          · rw [zc0_mo]
            unfold zRmo
            rw [p5, if_neg (by decide), if_neg (by decide)]
      · rw [e5] at p5
        exact no a1 a2 (fun z => z.2.1 ⟨fun y => absurd y (by decide), fun y => absurd y p5⟩)
    · rw [if_neg q0] at hF'
      have q1 := h01.resolve_left q0
      rcases hF with ⟨⟨p5, p0⟩, a1, a2⟩ | ⟨hP, a1, a2⟩
      · rw [e5] at p5
        rw [e3] at p0
        have hF' := (hF'.resolve_right (fun z => z.1 ⟨q9, fun y => p5 (y.1 q1), p0⟩)).2
        have g5 := z9_e mr o c 5 2
        have hpd : zJ mr 1610 o c = 0 := by
          obtain ⟨P, hP, eP⟩ := hS.2.2.2.2.2.1
          rw [eP] at p0 ⊢
          have := (pk_lLE (a := P) (b := 0) (by omega) (by omega)).1 p0
          rw [show P = 0 by omega]
          rfl
        have L1 : zRle (zsI (zc0 mr o) 1609 o (10 * c + 5) 2) o c = 0 := by
          unfold zRle
          rw [g5, if_neg (by decide), if_neg (by decide)]
        have M1 : zRmo (zsI (zc0 mr o) 1609 o (10 * c + 5) 2) o c = 0 := by
          unfold zRmo
          rw [g5, if_neg (by decide), if_neg (by decide)]
        have hsc : zSc (zST mc (zkq b c) 2 0) (zsI (zc0 mr o) 1609 o (10 * c + 5) 2) (zkq b c) o c := zSc_ST (A6 2) g5.symm ⟨hPa 2, ⟨2, by omega, g5⟩, fun z => absurd (g5.symm.trans z) (by decide)⟩ L1.symm M1.symm (zAp_I hS.2.2.2.2.1 (fun _ _ => rfl) rfl (zAp9 (by omega))) ⟨hS.2.2.2.2.2.1, fun _ => hpd⟩
        have hq1 := zSq_1 h.1 hcn zF1_ST (r1 2) hsc
        have H1 : zRH (zsI (zc0 mr o) 1609 o (10 * c + 5) 2) o := zRH_1 h.1 hq1 (r1 2) rfl (fun z => absurd p0 z) (by
          rw [M1]
          obtain ⟨L, M, -, hM, -, eM⟩ := zRk_N h.1.2.1.2.1 hS.2.1
          rw [eM, show (0 : Int32) = nI 0 from rfl, nI_leI (by omega) (by omega)]
          omega) (h.2 q9)
        obtain ⟨-, a3, a4⟩ := hF'.resolve_right (fun z => z.1 H1)
        subst a1 a2 a3 a4
        exact ⟨rfl, ⟨hq1, fun _ => H1⟩, zF1_Fc c16 zF1_ST, zR1_Fr c16 (r1 2)⟩
      · refine no a1 a2 (fun z => hP ⟨fun y => z.2.1 ⟨fun _ => e5.symm.trans y, fun _ => q1⟩, ?_⟩)
        rw [e3]
        exact z.2.2
  · obtain ⟨e1, e2⟩ := hE
    obtain ⟨e3, e4⟩ := hE'
    subst e1 e2 e3 e4
    exact ⟨rfl, zOK_0 h⟩
theorem sim_tell {mc mr : zM} {b o : Nat} (h : zSm mc mr b o) {x1 x2 r r' : Int32} {mr' : zM} (hc : zCt mc b x1 (fun c => r = zsw 12 (zCtl mc b c) (-1) x2) (r = -1)) (hr : mr' = zc0 mr o ∧ zAt mr o x1 (fun c => r' = zsw 12 (zRtl mr o c) (-1) x2) (r' = -1)) : r = r' ∧ zOK b o mc mr mc mr' := by
  obtain ⟨rfl, hr⟩ := hr
  refine ⟨?_, zOK_0 h⟩
  refine zCtAt h.1.1 hc hr (fun c hcn c16 hF hF' => ?_) (fun hE hE' => hE.trans hE'.symm)
  rw [hF, hF']
  refine zsw_ext (fun k hk => ?_)
  obtain ⟨hS, hA⟩ := zSq_d h.1 hcn
  obtain ⟨n, hn, en, en2⟩ := zSq_n h.1
  unfold zCtl zRtl
  rcases (show k = 0 ∨ k = 1 ∨ k = 2 ∨ k = 3 ∨ k = 4 ∨ k = 5 ∨ k = 6 ∨ k = 7 ∨ k = 8 ∨ k = 9 ∨ k = 10 ∨ k = 11 by omega) with rfl | rfl | rfl | rfl | rfl | rfl | rfl | rfl | rfl | rfl | rfl | rfl
  · exact hA.1
  · exact hA.2.1
  · exact hA.2.2.1
  · exact hA.2.2.2.1
  · exact hA.2.2.2.2
  · exact hS.1.2.2.2.2.2
  · exact hS.2.2.1
  · exact hS.2.2.2.1
  · show nI (zcb (fun i => decide (zbTw mc (zkq b c) (zkq b i))) 16) = if zI mr 1609 o (10 * c + 5) = 2 then 0 else nI (zcb (ztw mr o c (-1)) (zI mr 1606 o 0).toNatClampNeg)
    rw [zcb_more (n := n) hn (fun i h1 h2 => decide_eq_false (zTw_f h.1 (by omega) h2)), en2]
    by_cases q : zI mr 1609 o (10 * c + 5) = 2
    · rw [if_pos q, zcb_0' (fun i hi => decide_eq_false (fun z => ((zTw_r h.1 hcn (by omega)).1 z).2.1 q))]
      rfl
    · rw [if_neg q]
      congr 1
      refine zcb_ext (fun i hi => ?_)
      have e := zTw_r h.1 hcn (show i < (zI mr 1606 o 0).toNatClampNeg by omega)
      unfold ztw
      rw [if_pos rfl]
      by_cases t : zbTw mc (zkq b c) (zkq b i)
      · obtain ⟨t1, t2, t3, t4⟩ := e.1 t
        rw [decide_eq_true t, decide_eq_false t1, decide_eq_true t4, decide_eq_false t3]
        rfl
      · rw [decide_eq_false t]
        cases ht : (!decide (i = c) && decide (zI mr 1609 o (10 * i) = zI mr 1609 o (10 * c)) && !decide (zI mr 1609 o (10 * i + 5) = 2)) with
        | false => rfl
        | true =>
          exfalso
          simp only [Bool.and_eq_true, Bool.not_eq_true', decide_eq_false_iff_not, decide_eq_true_eq] at ht
          exact t (e.2 ⟨ht.1.1, q, ht.2, ht.1.2⟩)
  · exact hS.2.2.2.2.1.1
  · exact hS.2.2.2.2.1.2.1
  · exact hS.2.2.2.2.1.2.2.1
theorem sim_money {mc mr : zM} {b o : Nat} (h : zSm mc mr b o) {x1 x2 : Int32} {r r' : Int64} {mr' : zM} (hc : zCt mc b x1 (fun c => r = if x2 = 0 then zbSh mc b (zI mc 106 (zkq b c) 0) (zbMa mc b) else zCOv mc (zkq b c + 1) x2) (r = -1)) (hr : mr' = zc0 mr o ∧ zAt mr o x1 (fun c => r' = zsw 24 (zRmn mr o c) (-1) x2) (r' = -1)) : r = r' ∧ zOK b o mc mr mc mr' := by
  obtain ⟨rfl, hr⟩ := hr
  refine ⟨?_, zOK_0 h⟩
  refine zCtAt h.1.1 hc hr (fun c hcn c16 hF hF' => ?_) (fun hE hE' => hE.trans hE'.symm)
  rw [hF, hF', zSq_sh h.1 hcn]
  obtain ⟨hS, hA⟩ := zSq_d h.1 hcn
  obtain ⟨p0, p1, p2, ⟨⟨L, hL, eL⟩, H, hH, eH, -⟩, p4, p5, p6, p7, p8, -, -⟩ := hS.2.2.2.2.1
  have e301 := p1.trans eL
  have e302 := p2.trans eH
  rw [eL, nI_clamp (by omega)] at p7
  rw [eH, nI_clamp (by omega)] at p8
  have s7 : zsum (zJ mc 1308 (zkq b c + 1)) L = zsum (zsh (zJ mr 1615 o) c) L := zsum_ext (fun k hk => (p7 k hk).2.2)
  have s8 : zsum (zJ mc 1310 (zkq b c + 1)) H = zsum (zsh (zJ mr 1617 o) c) H := zsum_ext (fun k hk => (p8 k hk).2)
  have c1 : ∀ k : Nat, k < 2 ^ 20 → ∀ x : Int32, x.toInt < 0 ∨ 24 ≤ x.toInt → k < 24 → ¬ x = nI k := fun k hk x hx h24 e => by
    rw [e, nI_toInt (by omega)] at hx
    omega
  by_cases w : x2.toInt < 0 ∨ 24 ≤ x2.toInt
  · rw [zsw_o w, if_neg (show ¬ x2 = 0 from c1 0 (by omega) x2 w (by omega))]
    unfold zCOv
    have i1 : ¬ (¬ x2 < 10 ∧ ¬ 14 ≤ x2) := by
      rw [Int32.lt_iff_toInt_lt, Int32.le_iff_toInt_le, show (10 : Int32).toInt = 10 from rfl, show (14 : Int32).toInt = 14 from rfl]
      omega
    have i2 : ¬ (¬ x2 < 20 ∧ ¬ 24 ≤ x2) := by
      rw [Int32.lt_iff_toInt_lt, Int32.le_iff_toInt_le, show (20 : Int32).toInt = 20 from rfl, show (24 : Int32).toInt = 24 from rfl]
      omega
    rw [if_neg i1, if_neg i2, if_neg (show ¬ x2 = 1 from c1 1 (by omega) x2 w (by omega)), if_neg (show ¬ x2 = 2 from c1 2 (by omega) x2 w (by omega)), if_neg (show ¬ x2 = 3 from c1 3 (by omega) x2 w (by omega)), if_neg (show ¬ x2 = 4 from c1 4 (by omega) x2 w (by omega)), if_neg (show ¬ x2 = 5 from c1 5 (by omega) x2 w (by omega))]
  · obtain ⟨k, hk, e⟩ := nI_of (x := x2) (by rw [Int32.lt_iff_toInt_lt]; intro y; exact w (Or.inl y))
    have w2 := w
    rw [e, nI_toInt hk] at w2
    have hk24 : k < 24 := by omega
    rw [zsw_k k hk24 (by omega) e]
    subst e
    have ne : ∀ j : Nat, j < 24 → (nI k = nI j ↔ k = j) := fun j hj => nI_eq (by omega) (by omega)
    unfold zRmn zCOv
    rw [eL, eH, e301, e302, nI_clamp (n := L) (by omega), nI_clamp (n := H) (by omega)]
    have t1 : (¬ nI k < (10 : Int32) ∧ ¬ (14 : Int32) ≤ nI k) ↔ (10 ≤ k ∧ k < 14) := by
      rw [show (10 : Int32) = nI 10 from rfl, show (14 : Int32) = nI 14 from rfl, nI_ltI (by omega) (by omega), nI_leI (by omega) (by omega)]
      omega
    have t2 : (¬ nI k < (20 : Int32) ∧ ¬ (24 : Int32) ≤ nI k) ↔ (20 ≤ k ∧ k < 24) := by
      rw [show (20 : Int32) = nI 20 from rfl, show (24 : Int32) = nI 24 from rfl, nI_ltI (by omega) (by omega), nI_leI (by omega) (by omega)]
      omega
    have t1n : ¬ (10 ≤ k ∧ k < 14) → ¬ (¬ nI k < (10 : Int32) ∧ ¬ (14 : Int32) ≤ nI k) := fun z y => z (t1.1 y)
    have t2n : ¬ (20 ≤ k ∧ k < 24) → ¬ (¬ nI k < (20 : Int32) ∧ ¬ (24 : Int32) ≤ nI k) := fun z y => z (t2.1 y)
    by_cases k0 : k = 0
    · subst k0
      rw [if_pos (by decide), if_pos rfl]
    rw [if_neg (show ¬ nI k = 0 from fun z => k0 ((ne 0 (by omega)).1 z)), if_neg k0]
    by_cases k1 : k = 1
    · subst k1
      rw [if_neg (t1n (by omega)), if_neg (t2n (by omega)), if_pos (by decide), if_pos rfl]
      exact p4
    by_cases k2 : k = 2
    · subst k2
      rw [if_neg (t1n (by omega)), if_neg (t2n (by omega)), if_neg (by decide), if_pos (by decide), if_neg (by omega), if_pos rfl]
      exact p5
    by_cases k3 : k = 3
    · subst k3
      rw [if_neg (t1n (by omega)), if_neg (t2n (by omega)), if_neg (by decide), if_neg (by decide), if_pos (by decide), if_neg (by omega), if_neg (by omega), if_pos rfl]
      exact s7
    by_cases k4 : k = 4
    · subst k4
      rw [if_neg (t1n (by omega)), if_neg (t2n (by omega)), if_neg (by decide), if_neg (by decide), if_neg (by decide), if_pos (by decide), if_neg (by omega), if_neg (by omega), if_neg (by omega), if_pos rfl]
      exact s8
    by_cases k5 : k = 5
    · subst k5
      rw [if_neg (t1n (by omega)), if_neg (t2n (by omega)), if_neg (by decide), if_neg (by decide), if_neg (by decide), if_neg (by decide), if_pos (by decide), if_neg (by omega), if_neg (by omega), if_neg (by omega), if_neg (by omega), if_pos rfl]
      exact p6
    rw [if_neg k1, if_neg k2, if_neg k3, if_neg k4, if_neg k5]
    have m1 : ∀ j : Nat, j < 24 → k ≠ j → ¬ nI k = nI j := fun j hj h1 z => h1 ((ne j hj).1 z)
    have sub : ∀ j : Nat, j ≤ k → nI k - nI j = nI (k - j) := fun j hj => pk_sub hj
    by_cases q1 : 10 ≤ k ∧ k < 14
    · rw [if_pos (t1.2 q1), show (10 : Int32) = nI 10 from rfl, sub 10 (by omega), nI_clamp (by omega)]
      by_cases q2 : L ≤ k - 10
      · rw [if_pos (nI_le q2 (by omega)), if_neg (by omega), if_neg (by omega)]
      · rw [if_neg (nI_ge (by omega) (by omega)), if_pos (by omega)]
        exact (p7 (k - 10) (by omega)).2.2
    · rw [if_neg (t1n q1)]
      by_cases q3 : 20 ≤ k ∧ k < 24
      · rw [if_pos (t2.2 q3), show (20 : Int32) = nI 20 from rfl, sub 20 (by omega), nI_clamp (by omega)]
        by_cases q2 : H ≤ k - 20
        · rw [if_pos (nI_le q2 (by omega)), if_neg (by omega), if_neg (by omega)]
        · rw [if_neg (nI_ge (by omega) (by omega)), if_neg (by omega), if_pos (by omega)]
          exact (p8 (k - 20) (by omega)).2
      · rw [if_neg (t2n q3), if_neg (show ¬ nI k = 1 from m1 1 (by omega) k1), if_neg (show ¬ nI k = 2 from m1 2 (by omega) k2), if_neg (show ¬ nI k = 3 from m1 3 (by omega) k3), if_neg (show ¬ nI k = 4 from m1 4 (by omega) k4), if_neg (show ¬ nI k = 5 from m1 5 (by omega) k5), if_neg (by omega), if_neg (by omega)]
