/-! the class's reader: lines, the whole text -/
theorem zRp_u {m : zM} {o n p n' p' : Nat} (h : zRp m o n p) (h' : zRp m o n' p') : p = p' := by
  have a := h.2.2.2
  rw [h'.2.2.2, nI_eq (by have := h'.1; have := h'.2.1; omega) (by have := h.1; have := h.2.1; omega)] at a
  exact a.symm
theorem zBL_la {m mr : zM} {r o n b N : Nat} {x : Int32} (hx : ¬ x = 0) (h : zLt m mr r o n b) (hB : zBL m mr r o N) : zBL (zNt m r x) (zXla mr o x) r o N := by
  by_cases q : zI mr 632 o 0 = 0
  · obtain ⟨⟨h1, h2⟩, ⟨h3, h4, h5⟩, h6⟩ := hB
    have e : zXla mr o x = zsI (zsI mr 632 o 0 x) 633 o 0 (zI mr 627 o 0) := by unfold zXla; rw [if_pos q]
    have e2 : zNt m r x = zsI (zsI m 406 r 0 x) 407 r 0 (zI m 403 r 0) := by unfold zNt; rw [if_pos (h1.trans q)]
    have c632 : zI (zXla mr o x) 632 o 0 = x := by rw [e, zI_n (by decide), zI_e]
    unfold zBL zNv zGc
    rw [c632]
    refine ⟨⟨?_, fun _ => ?_⟩, ⟨?_, ?_, fun z => absurd z hx⟩, fun z => absurd z hx⟩
    · rw [e2, zI_n (by decide), zI_e]
    · rw [e, e2, zI_e, zI_e, h.2.2.1, h.2.2.2.2.1]
    · unfold zWG
      rw [zR_2 zNt_2, zNt_f (by decide) (by decide), zNt_f (by decide) (by decide)]
      exact h3
    · rw [zR_2 zNt_2, zNt_f (by decide) (by decide)]
      exact h4
  · have e : zXla mr o x = mr := by unfold zXla; rw [if_neg q]
    have e2 : zNt m r x = m := by unfold zNt; rw [if_neg (fun z => q (hB.1.1.symm.trans z))]
    rw [e, e2]
    exact hB
theorem zBL_x {m m' mr mr' : zM} {r o N : Nat} (h : zBL m mr r o N) (hc : ∀ f, f = 200 ∨ f = 406 ∨ f = 407 ∨ (1201 ≤ f ∧ f ≤ 1207) → zI m' f = zI m f) (h2 : m'.2 = m.2) (hr : ∀ f, f = 632 ∨ f = 633 ∨ (1635 ≤ f ∧ f ≤ 1640) → zI mr' f = zI mr f) : zBL m' mr' r o N := by
  unfold zBL zNv zGc zGx zTx zWG at h ⊢
  rw [zR_2 h2, hc 200 (by omega), hc 406 (by omega), hc 407 (by omega), hc 1201 (by omega), hc 1202 (by omega), hc 1203 (by omega), hc 1204 (by omega), hc 1205 (by omega), hc 1206 (by omega), hc 1207 (by omega), hr 632 (by omega), hr 633 (by omega), hr 1635 (by omega), hr 1636 (by omega), hr 1637 (by omega), hr 1638 (by omega), hr 1639 (by omega), hr 1640 (by omega)]
  exact h
theorem zXla_632 {m : zM} {o : Nat} {x : Int32} (hx : ¬ x = 0) : ¬ zI (zXla m o x) 632 o 0 = 0 := by
  unfold zXla
  split
  · rw [zI_n (by decide), zI_e]; exact hx
  · assumption
theorem zXla_id {m : zM} {o : Nat} {x : Int32} (h : ¬ zI m 632 o 0 = 0) : zXla m o x = m := by
  unfold zXla; rw [if_neg h]
theorem zNt_id {m : zM} {r : Nat} {x : Int32} (h : ¬ zI m 406 r 0 = 0) : zNt m r x = m := by
  unfold zNt; rw [if_neg h]
section ZRD5
variable {l : Launch} {G : zG}
theorem C_X4_readLine (hLen : Con_len l G) (hChr : Con_chr l G) (hL : zLay G) (mr : zM) (o n b N : Nat) : Con_X4_readLine l G (fun r m => N ≤ 400 ∧ zLt m mr r o n b ∧ zBL m mr r o N ∧ zIv mr o N ∧ (zI mr 632 o 0 = 0 → N < 16)) (fun r m ret m' => zRt m m' r o n N ret (zX37 mr o (if 16 ≤ N then 16 else N)) (fun a c N => zBL a c r o (N + 1))) := by
  refine con_X4_readLine hL fun C Qc S hl r m kr hp hr => ?_
  subst hl
  obtain ⟨hN, hT, hBl, hv, hN16⟩ := hp
  generalize hli : (if 16 ≤ N then 16 else N) = li at hr
  have hliN : N < 16 → li = N := fun z => by rw [← hli, if_neg (by omega)]
  have e632 : zI (zsI mr 1635 o li 0) 632 o 0 = zI mr 632 o 0 := zI_n (by decide)
  have hT1 : zLt m (zsI mr 1635 o li 0) r o n b := zLt_x hT (fun f hf => rfl) rfl (fun f hf => funext fun a => funext fun j => zI_n (by omega)) rfl
  have hw1 : zIw (zsI mr 1635 o li 0) o N 0 := by
    refine ⟨(zI_n (by decide)).trans hv.1, by rw [e632]; exact hv.2.1, fun z => ?_⟩
    rw [e632] at z
    obtain ⟨h1, h2⟩ := hv.2.2 z
    have el := hliN (hN16 z)
    subst el
    refine ⟨hN16 z, by omega, by rw [zI_e]; rfl, ?_⟩
    have e1 : zI (zsI mr 1635 o li 0) 1639 o = zI mr 1639 o := funext fun j => zI_n (by decide)
    have e2 : zI (zsI mr 1635 o li 0) 1640 o = zI mr 1640 o := funext fun j => zI_n (by decide)
    rw [e1, e2]
    exact zGok_up h2 (fun l' hl' => by rw [zI_sI, if_neg (by omega)])
  have hB1 : zBD m (zsI mr 1635 o li 0) r o N 0 := by
    obtain ⟨h1, ⟨h3, h4, h5⟩, h6⟩ := hBl
    unfold zBD zNv zGc zKt
    have e633 : zI (zsI mr 1635 o li 0) 633 o 0 = zI mr 633 o 0 := zI_n (by decide)
    rw [e632, e633]
    refine ⟨h1, ⟨h3, h4, fun z l' hl' => ?_⟩, fun z => ⟨h6 z (hN16 z), fun i hi => by omega⟩⟩
    have el := hliN (hN16 z)
    have h5 := h5 z l' hl'
    have g : ∀ f, f ≠ 1635 → zI (zsI mr 1635 o li 0) f o = zI mr f o := fun f hf => funext fun j => zI_n hf
    unfold zTx at h5 ⊢
    rw [g 1639 (by decide), g 1640 (by decide), g 1636 (by decide), g 1637 (by decide), g 1638 (by decide), zI_sI, if_neg (by omega)]
    exact h5
  have hc1 : ∀ {Mr : zM} {k : Nat}, zIw Mr o N k → zI Mr 632 o 0 = 0 → li = N := fun h z => hliN (h.2.2 z).1
  generalize hmr1 : zsI mr 1635 o li 0 = mr1 at *
  have hX : zX37 mr o li = if zXi mr1 o 2003330414 then zX58 o li 500 true 0 mr1 else zX102 mr1 o li := by
    unfold zX37
    rw [hmr1]
  generalize hXX : zX37 mr o li = X at *
  -- behind the tests
  have h50 : ∀ M Mr b' k, zLt M Mr r o n b' → zBD M Mr r o N k → zIw Mr o N k → zCf r (zR m 402 r) m M → X = (if zXs Mr o 58 then zX102 (zRnx Mr o) o li else (0, zXw Mr o)) → Pt_X4_readLine_50 C G r M := by
    intro M Mr b' k h1 h2 h3 h4 h5
    have hk := (zLt_k h1).2.2.2 58 (by decide) (by decide)
    refine sg_X4_readLine_50 S (C_X4_advance hL) (C_X4_readAct hLen hChr hL (zRnx Mr o) o n (zTb (zcT M r) n (zTe (zcT M r) n b')) N k li) kr ⟨fun q => ⟨⟨n, _, h1.1.1⟩, fun m2 e2 => ?_⟩, fun q => hr _ _ ?_⟩
    · have e2 := e2 n _ h1.1.1
      subst e2
      rw [if_pos (hk.1 q)] at h5
      refine ⟨⟨hN, zLt_nx h1.1, zBD_nx h2, zIw_nx h3, hc1 (zIw_nx h3)⟩, fun r4 m4 e4 => ?_⟩
      obtain ⟨f1, f2⟩ := e4
      refine ⟨f2.elim (fun z => Or.inl z.1) (fun z => Or.inr z.1), hr _ _ ?_⟩
      rw [h5]
      exact ⟨zCf_tr (zCf_tr h4 zCf_av) (by
        rw [show zR (zAv M r n (zTe (zcT M r) n b')) 402 r = zR m 402 r from zR_2 h4.2 402 r] at f1
        exact f1), f2⟩
    · rw [if_neg (fun z => q (hk.2 z))] at h5
      rw [h5]
      exact ⟨h4, Or.inl ⟨rfl, rfl, zFx_w h1 h2⟩⟩
  -- the tests
  have h11 : ∀ d k M Mr b', k + d = 499 → zLt M Mr r o n b' → zBD M Mr r o N k → zIw Mr o N k → k + 1 ≤ zTe (zcT M r) n b' → zCf r (zR m 402 r) m M → X = (if (zXt Mr o li k).1 = 0 then (0, (zXt Mr o li k).2) else zX58 o li d (decide (zXi (zXt Mr o li k).2 o 6385252)) (k + 1) (zXt Mr o li k).2) → Pt_X4_readLine_11 C G r (nI k) M := by
    intro d
    induction d with
    | zero =>
      intro k M Mr b' hd h1 h2 h3 hkp h4 h5
      exfalso
      have := h1.1.2.1.1
      have := h1.1.2.1.2.1
      omega
    | succ d ih =>
      intro k M Mr b' hd h1 h2 h3 hkp h4 h5
      have hk4 : k ≤ 400 := by
        have := h1.1.2.1.1
        have := h1.1.2.1.2.1
        omega
      have h21 : ∀ M2 Mr2, zXt Mr o li k = zX30 Mr2 o li k → zLt M2 Mr2 r o n b' → zBD M2 Mr2 r o N k → (zI Mr2 632 o 0 = 0 → li = N ∧ N < 16 ∧ k < 4) → zCf r (zR m 402 r) m M2 → Pt_X4_readLine_21 C G r (nI k) M2 := by
        intro M2 Mr2 hx g1 g2 g3 g4
        refine sg_X4_readLine_21 S (C_X4_readTest hLen hChr hL Mr2 o n b' N k li) (C_X4_takeWord hLen hChr hL) kr ⟨⟨g1, g2, g3⟩, fun r2 m2 e2 => ?_⟩
        obtain ⟨f1, f2⟩ := e2
        rw [← hx] at f2
        have f1 : zCf r (zR m 402 r) M2 m2 := by rw [zR_2 g4.2] at f1; exact f1
        have f3 := zCf_tr g4 f1
        refine ⟨fun q => ?_, fun q => hr _ _ ?_⟩
        · rcases f2 with ⟨y, -, -⟩ | ⟨y, hs, b2, j1, j2⟩
          · exact absurd y q
          rw [if_neg hs] at h5
          have j2 : zBD m2 (zXt Mr o li k).2 r o N (k + 1) := j2
          have j3 : zIw (zXt Mr o li k).2 o N (k + 1) := zIw_t h3 (hc1 h3) hs
          obtain ⟨p', hpp, j4⟩ := zXt_p h1.1.2.1 hs
          have e6 := zRp_u j4 j1.1.2.1
          have hn := j1.1.2.1.1
          have hpn := j1.1.2.1.2.1
          have e401 : zI m2 401 r 0 = nI n := j1.1.1.2.2.1
          refine ⟨fun z => ?_, fun _ => ⟨⟨n, _, b2, zLt_p j1⟩, fun r4 m4 e4 => ?_⟩⟩
          · exfalso
            rw [e401, ← nI_succ, nI_leI (by omega) (by omega)] at z
            omega
          · obtain ⟨p1, p2, p3⟩ := zLt_p j1
            have hw := zLt_w j1 (t := 1) (by decide)
            rw [zwt_1] at hw
            rw [zX58] at h5
            rcases e4 n _ b2 p1 p2 p3 with ⟨i1, i2, i3⟩ | ⟨i1, i2, i3⟩
            · refine ⟨fun _ => ?_, fun z => absurd (i1.symm.trans z) (by decide)⟩
              rw [if_pos (decide_eq_true (hw.1 i2))] at h5
              rw [i3, ← nI_succ]
              have j5 := zLt_nx j1.1
              refine ih (k + 1) _ (zRnx (zXt Mr o li k).2 o) _ (by omega) j5 (zBD_nx j2) (zIw_nx j3) ?_ (zCf_tr f3 zCf_av) h5
              have h7 := (zTb_le (T := zcT m2 r) hpn)
              have h8 := (zTe_le (T := zcT m2 r) h7.2)
              rw [zAv_T]
              omega
            · refine ⟨fun z => absurd i1 z, fun _ => ?_⟩
              rw [if_neg (by
                intro z
                exact i2 (hw.2 (of_decide_eq_true z)))] at h5
              rw [i3]
              exact h50 m2 _ b2 (k + 1) j1 j2 j3 f3 h5
        · rcases f2 with ⟨y, y2, y3⟩ | ⟨y, hs, b2, j1, j2⟩
          · rw [if_pos y2] at h5
            rw [h5]
            exact ⟨f3, Or.inl ⟨rfl, rfl, y3⟩⟩
          · rw [q] at y; exact absurd y (by decide)
      refine sg_X4_readLine_11 S (C_X4_note hL) kr ⟨fun q => ?_, fun q => ⟨trivial, fun m2 e2 => ?_⟩⟩
      · rw [show (4 : Int32) = nI 4 from rfl, nI_ltI (by omega) (by omega)] at q
        refine h21 M Mr ?_ h1 h2 (fun z => ⟨hc1 h3 z, (h3.2.2 z).1, q⟩) h4
        unfold zXt
        rw [if_neg (by omega)]
      · rw [show (4 : Int32) = nI 4 from rfl, nI_ltI (by omega) (by omega)] at q
        have e2 : m2 = zNt M r 3 := e2
        subst e2
        by_cases q4 : k = 4
        · refine h21 _ (zXla Mr o 3) ?_ (zLt_la h1) (zBD_la (by decide) h1 h2) (fun z => absurd z (zXla_632 (by decide))) (zCf_tr h4 zCf_nt)
          unfold zXt
          rw [if_pos q4]
        · have n0 : ¬ zI Mr 632 o 0 = 0 := fun z => by
            have := (h3.2.2 z).2.1
            omega
          rw [zNt_id (fun z => n0 (h2.1.1.symm.trans z))]
          refine h21 M Mr ?_ h1 h2 (fun z => absurd z n0) h4
          unfold zXt
          rw [if_neg q4]
  refine sg_X4_readLine_0 S (C_X4_takeWord hLen hChr hL) (C_X4_readAct hLen hChr hL mr1 o n b N 0 li) kr ⟨⟨n, _, b, zLt_p hT1⟩, fun r2 m2 e2 => ?_⟩
  obtain ⟨p1, p2, p3⟩ := zLt_p hT1
  have hw := zLt_w hT1 (t := 0) (by decide)
  rw [zwt_0] at hw
  rcases e2 n _ b p1 p2 p3 with ⟨i1, i2, i3⟩ | ⟨i1, i2, i3⟩
  · refine ⟨fun z => absurd (i1.symm.trans z) (by decide), fun _ => ?_⟩
    rw [if_pos (hw.1 i2)] at hX
    rw [i3]
    have hT2 := zLt_nx hT1.1
    refine h11 499 0 _ (zRnx mr1 o) _ rfl hT2 (zBD_nx hB1) (zIw_nx hw1) ?_ zCf_av hX
    -- behind a word
    have h7 := (zTb_le (T := zcT m r) hT1.1.2.1.2.1)
    have h8 := (zTe_le (T := zcT m r) h7.2)
    rw [zAv_T]
    have h9 : ¬ n ≤ b := by
      intro z
      have := i2.1
      rw [hT1.2.2.2.1] at this
      unfold zKd at this
      rw [if_pos z] at this
      exact absurd this (by decide)
    have h10 : b < zTe (zcT m r) n b := by
      unfold zTe
      rw [if_neg h9]
      split
      · rename_i y; exact zTl_gt (by omega) y
      · split
        · rename_i y; exact zTd_gt (by omega) y
        · omega
    omega
  · refine ⟨fun _ => ?_, fun z => absurd i1 z⟩
    rw [if_neg (fun z => i2 (hw.2 z))] at hX
    rw [i3]
    refine ⟨⟨hN, hT1, hB1, hw1, hc1 hw1⟩, fun r4 m4 e4 => ?_⟩
    obtain ⟨f1, f2⟩ := e4
    refine ⟨f2.elim (fun z => Or.inl z.1) (fun z => Or.inr z.1), hr _ _ ?_⟩
    rw [hX]
    exact ⟨f1, f2⟩
/-- what the reader leaves -/
def zRdQ (m m' : zM) (r o : Nat) (X : Int32 × zM) : Prop := zCf r (zR m 402 r) m m' ∧ zWG m' (zR m 402 r) ∧ ((X.1 = 0 ∧ zI m' 406 r 0 = 1 ∧ zI m' 407 r 0 = zI X.2 631 o 0) ∨ (¬ X.1 = 0 ∧ ∃ N, N ≤ 400 ∧ zIv X.2 o N ∧ zNv m' X.2 r o ∧ zGc m' X.2 (zR m 402 r) o N))
theorem C_X4_read (hLen : Con_len l G) (hChr : Con_chr l G) (hL : zLay G) (mr : zM) (o n : Nat) : Con_X4_read l G (fun r m => zLp m mr r o n 0 ∧ zI m 406 r 0 = 0 ∧ zI mr 632 o 0 = 0 ∧ zI mr 634 o 0 = 0 ∧ zWG m (zR m 402 r)) (fun r m m' => zRdQ m m' r o (zXlo o 500 1 (zRnx mr o))) := by
  refine con_X4_read hL fun C Qc S hl r m kr hp hr => ?_
  subst hl
  obtain ⟨hP, h406, h632, h634, hWG⟩ := hp
  generalize hXX : zXlo o 500 1 (zRnx mr o) = X at *
  have hn4 := hP.2.1.1
  have key : ∀ d N M Mr b' (f : Int32), ¬ f = 0 → N + d = 500 → zLt M Mr r o n b' → zBL M Mr r o N → zIv Mr o N → N ≤ zTe (zcT M r) n b' → (¬ zI Mr 628 o 0 = 0 → N + 1 ≤ zTe (zcT M r) n b') → zCf r (zR m 402 r) m M → X = zXlo o d f Mr → Pt_X4_read_13 C G r (nI N) M := by
    intro d
    induction d with
    | zero =>
      intro N M Mr b' f hf hd h1 h2 h3 hNp _ h4 h5
      exfalso
      have := h1.1.2.1.1
      have := h1.1.2.1.2.1
      omega
    | succ d ih =>
      intro N M Mr b' f hf hd h1 h2 h3 hNp hNp2 h4 h5
      have hpn := h1.1.2.1.2.1
      have hN : N ≤ 400 := by omega
      have e401 : zI M 401 r 0 = nI n := h1.1.1.2.2.1
      have hk := (zLt_k h1).1
      rw [zXlo] at h5
      have done : zI Mr 628 o 0 = 0 → zRet C G Qc none M := fun z => by
        rw [if_pos (Or.inr z)] at h5
        rw [h5] at hr
        refine hr _ ⟨h4, ?_, Or.inr ⟨hf, N, hN, h3, h2.1, ?_⟩⟩
        · rw [← zR_2 h4.2]; exact h2.2.1.1
        · rw [← zR_2 h4.2]; exact h2.2.1
      have h39 : ∀ M2 Mr2, zXl Mr o = zX37 Mr2 o (if 16 ≤ N then 16 else N) → zLt M2 Mr2 r o n b' → zBL M2 Mr2 r o N → zIv Mr2 o N → (zI Mr2 632 o 0 = 0 → N < 16) → zCf r (zR m 402 r) m M2 → ¬ zI Mr 628 o 0 = 0 → Pt_X4_read_39 C G r (nI N) M2 := by
        intro M2 Mr2 hx g1 g2 g3 g4 g5 q0
        rw [if_neg (fun z => z.elim hf q0)] at h5
        refine sg_X4_read_39 S (C_X4_readLine hLen hChr hL Mr2 o n b' N) kr ⟨⟨hN, g1, g2, g3, g4⟩, fun r2 m2 e2 => ?_⟩
        obtain ⟨f1, f2⟩ := e2
        rw [← hx] at f2
        have f1 : zCf r (zR m 402 r) M2 m2 := by rw [zR_2 g5.2] at f1; exact f1
        have f3 := zCf_tr g5 f1
        refine ⟨fun q => ?_, fun q => hr _ ?_⟩
        · rcases f2 with ⟨y, -, -⟩ | ⟨y, hs, b2, j1, j2⟩
          · exact absurd y q
          have j2 : zBL m2 (zXl Mr o).2 r o (N + 1) := j2
          obtain ⟨j3, p', hpp, j4⟩ := zXl_v h1.1.2.1 hN h3 hs
          have e6 := zRp_u j4 j1.1.2.1
          have := hNp2 q0
          rw [← nI_succ]
          exact ih (N + 1) m2 _ b2 _ hs (by omega) j1 j2 j3 (by omega) (fun _ => by omega) f3 h5
        · rcases f2 with ⟨y, y2, y3, y4⟩ | ⟨y, hs, b2, j1, j2⟩
          · have e7 : X = (0, (zXl Mr o).2) := by
              rw [h5, y2]
              cases d with
              | zero => rfl
              | succ d => rw [zXlo, if_pos (Or.inl rfl)]
            rw [e7]
            refine ⟨zCf_tr f3 (zCf_tr (zCf_s (by decide)) (zCf_s (by decide))), ?_, Or.inl ⟨rfl, by rw [zI_n (by decide), zI_e], by rw [zI_e]; exact y3⟩⟩
            rw [zR_2 f3.2] at y4
            obtain ⟨⟨L, hL, eL⟩, ht⟩ := y4
            refine ⟨⟨L, hL, by rw [zI_n (by decide), zI_n (by decide)]; exact eL⟩, fun l hl => ?_⟩
            rw [zI_n (by decide), zI_n (by decide)]
            exact ht l hl
          · rw [q] at y; exact absurd y (by decide)
      refine sg_X4_read_13 S (C_X4_note hL) kr ⟨fun q => ?_, fun q => ⟨fun q0 => done (hk.1 q0), fun q0 => ?_⟩⟩
      · refine done (Decidable.byContradiction fun z => ?_)
        have := hNp2 z
        rw [e401, nI_leI (by omega) (by omega)] at q
        omega
      · have q0 : ¬ zI Mr 628 o 0 = 0 := fun z => q0 (hk.2 z)
        have hxl : zXl Mr o = zX37 (if N = 16 then zXla Mr o 3 else Mr) o (if 16 ≤ N then 16 else N) := by
          unfold zXl
          rw [zXln_e h3.1 (by omega)]
          congr 1
          rw [h3.1]
          by_cases y : N = 16
          · rw [if_pos y, if_pos (by rw [y]; rfl)]
          · rw [if_neg y, if_neg (by rw [show (16 : Int32) = nI 16 from rfl, nI_eq (by omega) (by omega)]; exact y)]
        refine ⟨fun q => ?_, fun q => ⟨trivial, fun m2 e2 => ?_⟩⟩
        · rw [show (16 : Int32) = nI 16 from rfl, nI_ltI (by omega) (by omega)] at q
          rw [if_neg (by omega)] at hxl
          exact h39 M Mr hxl h1 h2 h3 (fun _ => q) h4 q0
        · rw [show (16 : Int32) = nI 16 from rfl, nI_ltI (by omega) (by omega)] at q
          have e2 : m2 = zNt M r 3 := e2
          subst e2
          by_cases q4 : N = 16
          · rw [if_pos q4] at hxl
            refine h39 _ _ hxl (zLt_la h1) (zBL_la (by decide) h1 h2) ?_ (fun z => absurd z (zXla_632 (by decide))) (zCf_tr h4 zCf_nt) q0
            refine ⟨by rw [zXla_f (by decide) (by decide)]; exact h3.1, ?_, fun z => absurd z (zXla_632 (by decide))⟩
            unfold zXla
            split
            · right; rw [zI_n (by decide), zI_e]; decide
            · exact h3.2.1
          · rw [if_neg q4] at hxl
            have n0 : ¬ zI Mr 632 o 0 = 0 := fun z => by
              have := (h3.2.2 z).1
              omega
            rw [zNt_id (fun z => n0 (h2.1.1.symm.trans z))]
            exact h39 M Mr hxl h1 h2 h3 (fun z => absurd z n0) h4 q0
  refine sg_X4_read_0 S (C_X2_empty hL) (C_X4_advance hL) kr ⟨trivial, fun m3 e3 => ?_⟩
  have e3 : m3 = zsI (zsI m 200 (zR m 402 r) 0 0) 1203 (zR m 402 r) 0 0 := e3
  have c3 : zCf r (zR m 402 r) m m3 := by rw [e3]; exact zCf_tr (zCf_g (by decide)) (zCf_g (by decide))
  have f3 : ∀ f, f ≠ 200 → f ≠ 1203 → zI m3 f = zI m f := fun f h1 h2 => by
    rw [e3]; funext a j; rw [zI_n h2, zI_n h1]
  have hP3 : zLp m3 mr r o n 0 := zLp_x hP (fun f hf => f3 f (by omega) (by omega)) c3.2 (fun f hf => rfl)
  refine ⟨⟨n, 0, hP3.1⟩, fun m5 e5 => ?_⟩
  have e5 := e5 n 0 hP3.1
  subst e5
  have hB3 : zBL m3 mr r o 0 := by
    obtain ⟨⟨L, hL, eL⟩, ht⟩ := hWG
    have e200 : zI m3 200 (zR m 402 r) 0 = 0 := by rw [e3, zI_n (by decide), zI_e]
    have e1203 : ∀ l, zI m3 1203 (zR m 402 r) l = if l = 0 then 0 else zI m 1203 (zR m 402 r) l := fun l => by
      rw [e3, zI_sI]
      by_cases y : l = 0
      · rw [if_pos ⟨rfl, rfl, y⟩, if_pos y]
      · rw [if_neg (fun z => y z.2.2), if_neg y, zI_n (by decide)]
    unfold zBL zNv zGc
    rw [zR_2 c3.2, f3 406 (by decide) (by decide), f3 407 (by decide) (by decide)]
    refine ⟨⟨h406.trans h632.symm, fun z => absurd h632 z⟩, ⟨⟨⟨0, by omega, e200⟩, fun l hl => ?_⟩, e200, fun _ l hl => by omega⟩, fun _ _ => by rw [e1203, if_pos rfl]⟩
    rw [e1203]
    split
    · exact ⟨0, by omega, rfl⟩
    · exact ht l hl
  have hT5 := zLt_nx hP3
  refine key 500 0 _ (zRnx mr o) _ 1 (by decide) rfl hT5 (zBL_x hB3 (fun f hf => zAv_f (by omega)) rfl (fun f hf => zRnx_f (by omega))) ?_ (Nat.zero_le _) (fun z => ?_) (zCf_tr c3 zCf_av) hXX.symm
  · refine ⟨by rw [zRnx_f (by decide)]; exact h634, Or.inl (by rw [zRnx_f (by decide)]; exact h632), fun _ => ⟨by omega, fun l hl => by omega⟩⟩
  · obtain ⟨p', h1, h2, h3⟩ := zRp_nx hP.2.1
    have := zRp_u h2 hT5.1.2.1
    have := h3 z
    omega
end ZRD5
