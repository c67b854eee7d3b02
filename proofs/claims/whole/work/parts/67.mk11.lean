/-! the Reader's maker, and ClaimsFund.grid -/
def rm_X4_init : Room := { frames := 1, cells := 0, slots := 0, locals := 20 }
set_option maxRecDepth 100000 in
set_option maxHeartbeats 4000000 in
theorem C_X4_init {l : Launch} {G : zG} (a t g : Nat) (x : Int32) (hb : zbs G ≤ a) : Met l yX4_init wsX4_init rm_X4_init (va_Pc [.ref a, .ref t, .int x, .ref g] (fun U => zNi G 4 a U)) (va_Qv (fun _ : Unit => True) (fun _ U => zNp G (a + 1) (fun q => if q = a then some (.inr (4, [.ref t, .int x, .ref g, .int 0, .int 0, .int 0, .int 0, .int (-1)])) else none) U.heap) (fun q => a ≤ q)) 0 0 (fun q => a ≤ q) := by
  refine zMetN (P := zNp G (a + 1) (fun q => if q = a then some (.inr (4, zdf 4)) else none)) (G := G) (cc := cX4_init) (maxL := 4) (ret := none) (by decide +kernel) rfl (Nat.le_of_ble_eq_true rfl) (fun q h => Nat.le_trans hb h) (fun U h => ⟨h.1, h.2⟩) (fun C hF hQ hA hR hl hnm => ?_)
  have hin : ∀ w ∈ u_ws RX4 TX4 8, w ∈ wsX4_init := fun w h => List.mem_cons_of_mem _ (List.mem_append_right _ h)
  have hAa : zA C a := by rw [hA]; exact Nat.le_refl a
  have pt : ∀ (fs fs' : List Value) (H : Heap), zNp G (a + 1) (zEu (fun q => if q = a then some (.inr (4, fs)) else none) a (.inr (4, fs'))) H → zNp G (a + 1) (fun q => if q = a then some (.inr (4, fs')) else none) H := fun fs fs' H h => zNp_mo h rfl fun q e he => by
    by_cases hq : q = a
    · rw [if_pos hq] at he
      rw [hq, zEu_e]
      exact he
    · rw [if_neg hq] at he
      cases he
  have ea : ∀ fs : List Value, (fun q => if q = a then some (Sum.inr (4, fs)) else none : Nat → Option va_E) a = some (.inr (4, fs)) := fun fs => if_pos rfl
  show zX C 4 0 0 0 [(0, .ref a), (1, .ref t), (2, .int x), (3, .ref g)] [] _
  refine zx_aload_n hF.1 0 dX4_init_0 rfl ?_
  refine zx_obj hF.1 (List.mem_of_getElem? (i := 1) rfl) (List.mem_of_getElem? (i := 2) rfl) (List.mem_of_getElem? (i := 3) rfl) (by rw [hR]; exact Nat.le_of_ble_eq_true rfl) (by rw [hR]; exact Nat.le_of_ble_eq_true rfl) dX4_init_1 ?_
  refine zx_aload_n hF.1 0 dX4_init_4 rfl ?_
  refine zx_iconst hF.1 dX4_init_5 (v := -1) (by decide) ?_
  refine zn_put (ty := .int) hF (ea _) hAa rfl hin tyX4_ok nmX4 7 (by decide) (List.mem_of_getElem? (i := 4) rfl) rfl rfl (by decide +kernel) rfl rfl (Nat.le_of_ble_eq_true rfl) dX4_init_6 ?_
  refine zX_mo ?_ (pt _ [.null, .int 0, .null, .int 0, .int 0, .int 0, .int 0, .int (-1)])
  refine zx_aload_n hF.1 0 dX4_init_9 rfl ?_
  refine zx_aload_n hF.1 1 dX4_init_10 rfl ?_
  refine zn_putF (ty := .array .byte) hF (ea _) hAa rfl hin tyX4_ok nmX4 0 (by decide) (List.mem_of_getElem? (i := 5) rfl) rfl rfl hnm rfl (by decide +kernel) rfl rfl (Nat.le_of_ble_eq_true rfl) dX4_init_11 ?_
  refine zX_mo ?_ (pt _ [.ref t, .int 0, .null, .int 0, .int 0, .int 0, .int 0, .int (-1)])
  refine zx_aload_n hF.1 0 dX4_init_14 rfl ?_
  refine zx_iload_n hF.1 2 dX4_init_15 rfl ?_
  refine zn_putF (ty := .int) hF (ea _) hAa rfl hin tyX4_ok nmX4 1 (by decide) (List.mem_of_getElem? (i := 6) rfl) rfl rfl hnm rfl (by decide +kernel) rfl rfl (Nat.le_of_ble_eq_true rfl) dX4_init_16 ?_
  refine zX_mo ?_ (pt _ [.ref t, .int x, .null, .int 0, .int 0, .int 0, .int 0, .int (-1)])
  refine zx_aload_n hF.1 0 dX4_init_19 rfl ?_
  refine zx_aload_n hF.1 3 dX4_init_20 rfl ?_
  refine zn_putF (ty := .object "ClaimsFund$Grid") hF (ea _) hAa rfl hin tyX4_ok nmX4 2 (by decide) (List.mem_of_getElem? (i := 7) rfl) rfl rfl hnm rfl (by decide +kernel) rfl rfl (Nat.le_of_ble_eq_true rfl) dX4_init_21 ?_
  refine zX_mo ?_ (pt _ [.ref t, .int x, .ref g, .int 0, .int 0, .int 0, .int 0, .int (-1)])
  exact zx_vretN hF.1 hQ dX4_init_24 (fun t hP hFr hW => ⟨⟨(), rfl, trivial, hP⟩, by rw [← hA]; exact hFr⟩)
section ZRDR
variable {C : zC} {G : zG} {cc : ByteArray} {nL : Nat} {Ts : List Cond} {own : String} {k n pc : Nat} {L : List (Nat × Value)} {rest : List Value} {E : Nat → Option va_E}
theorem zn_callR (hF : zN C G cc nL Ts own) {idx a t g : Nat} {x : Int32} (cw : CallB (zRm C) (zs C) (zar C) own idx yX4_init cX4_init 4 none wsX4_init rm_X4_init 0 0 3 ∧ yX4_init.name = "<init>" ∧ (Cond.instanceMethod yX4_init).before (zar C) (zs C) = true) (hb : zbs G ≤ a) (hA : ∀ q, a ≤ q → zA C q) (hE : E a = some (.inr (4, zdf 4))) (hdg : decode cc pc = .ok (.invokespecial idx, 3)) (hW : (rest.map fun v => v.category).sum ≤ 8) (hk : k + 0 ≤ (zRm C).cells ∧ n + 0 ≤ (zRm C).slots)
    (K : zX C nL k n (pc + 3) L rest (zNp G (a + 1) (fun q => if a ≤ q then (if q = a then some (.inr (4, [.ref t, .int x, .ref g, .int 0, .int 0, .int 0, .int 0, .int (-1)])) else none) else E q))) : zX C nL k n pc L (.ref g :: .int x :: .ref t :: .ref a :: rest) (zNp G (a + 1) E) := fun H locs ls hP hS hl =>
  va_callv (va_runI (As := [.ref t, .int x, .ref g]) (rest := rest) hF.1 (C_X4_init a t g x hb) cw ⟨z_blindN, fun U hU hW => ⟨rfl, ⟨by rw [hU]; exact hP.1, fun q e he => by
      dsimp only at he
      by_cases hq : q = a
      · rw [if_pos hq] at he
        cases he
        rw [hU, hq]
        exact hP.2 a _ hE
      · rw [if_neg hq] at he
        cases he⟩, zKs_N hF hS hU hW⟩⟩ rfl rfl hl.1 rfl (lv_room hW) hdg hk) hS (fun q _ h => hA q h) hA (fun u t H1 locs1 ht hvm hp hB hz hk1 hS1 => K H1 locs1 ls ⟨by rw [← ht]; exact hB.1, fun q e he => by
      dsimp only at he
      by_cases hq : a ≤ q
      · rw [if_pos hq] at he
        rw [← ht]
        exact hB.2 q e he
      · rw [if_neg hq] at he
        have h3 := hP.2 q e he
        exact h3.kept (hk1 q h3.lt hq)⟩ hS1 hl)
end ZRDR
theorem zag_tr {c o : Nat} {m m1 m2 : zM} (h : zag c o m m1) (h2 : zag c o m1 m2) : zag c o m m2 := fun f hf => ⟨fun j => ((h f hf).1 j).trans ((h2 f hf).1 j), fun j => ((h f hf).2.1 j).trans ((h2 f hf).2.1 j), (h f hf).2.2.1.trans (h2 f hf).2.2.1, fun j => ((h f hf).2.2.2 j).trans ((h2 f hf).2.2.2 j)⟩
def zGrM2 (m : zM) (f : Nat) : zM := zsI (zsI (zsI m 2 (f + 1) 0 0) 4 (f + 1) 0 0) 5 (f + 1) 0 (-1)
def zGrM3 (m : zM) (f a : Nat) : zM := zsI (zsI (zsR (zsR (zM0 (zGrM2 m f) a) 400 a (f + 1)) 402 a (zR m 502 f)) 401 a 0 (zI m 2 (f + 1) 0)) 407 a 0 (-1)
theorem zGrM3_ag {m : zM} {f a c o : Nat} (h : o < a) : zag c o (zGrM3 m f a) (zGrM2 m f) := by
  have hn : o ≠ a := by omega
  unfold zGrM3
  exact zag_tr (zag_sI (Or.inr hn)) (zag_tr (zag_sI (Or.inr hn)) (zag_tr (zag_sR (Or.inr hn)) (zag_tr (zag_sR (Or.inr hn)) (zM0_ag h))))
theorem zGrM3_4 {m : zM} {f a : Nat} : zfs 4 a (zGrM3 m f a) = [.ref (f + 1 + 1), .int (zI m 2 (f + 1) 0), .ref (zR m 502 f), .int 0, .int 0, .int 0, .int 0, .int (-1)] := by
  show zfs4 a (zGrM3 m f a) = _
  have e : ∀ g, 403 ≤ g → g ≤ 406 → zI (zGrM3 m f a) g a 0 = 0 := fun g h1 h2 => by
    unfold zGrM3
    rw [zI_n (by omega), zI_n (by omega), zI_sR, zI_sR, zM0_I, if_neg (by omega)]
    unfold zi0
    rw [if_neg (by omega), if_neg (by omega)]
  have e1 : zI (zGrM3 m f a) 401 a 0 = zI m 2 (f + 1) 0 := by
    unfold zGrM3
    rw [zI_n (by decide), zI_e]
  have e7 : zI (zGrM3 m f a) 407 a 0 = -1 := by
    unfold zGrM3
    rw [zI_e]
  have e0 : zR (zGrM3 m f a) 400 a = f + 1 := by
    unfold zGrM3
    rw [zR_sI, zR_sI, zR_n (by decide), zR_e]
  have e2 : zR (zGrM3 m f a) 402 a = zR m 502 f := by
    unfold zGrM3
    rw [zR_sI, zR_sI, zR_e]
  unfold zfs4
  rw [e0, e1, e2, e 403 (by decide) (by decide), e 404 (by decide) (by decide), e 405 (by decide) (by decide), e 406 (by decide) (by decide), e7]
theorem zGrM3_wt {G : zG} {m : zM} {f : Nat} (hL : zLay G) (kf : zK G f = some (5, f)) (hw : zWT G (zGrM2 m f)) : zWT (zGx2 G 4) (zGrM3 m f (zsz G)) := by
  have h4 : ∀ i k, (zlo 4)[i]? = some k → i = 0 ∧ k = (4, 0) := fun i k h => by
    have hi : i < 1 := (List.getElem?_eq_some_iff.mp h).1
    have hi : i = 0 := by omega
    subst hi
    cases h
    exact ⟨rfl, rfl⟩
  have hR : ∀ g o, o < zsz G → zR (zGrM3 m f (zsz G)) g o = zR (zGrM2 m f) g o := fun g o h => by
    unfold zGrM3
    rw [zR_sI, zR_sI, zR_sR, if_neg (by omega), zR_sR, if_neg (by omega), zM0_R, if_pos h]
  refine ⟨fun g o j => ?_, fun o ho => ?_, fun o ho => ?_, fun o ho => ?_⟩
  · have h0 : zfitv g (zI (zM0 (zGrM2 m f) (zsz G)) g o j) := by
      rw [zM0_I]
      split
      · exact hw.1 g o j
      · exact zfit0 g
    by_cases hg : g = 401 ∨ g = 407
    · refine ⟨fun z => by omega, fun z => by omega⟩
    · unfold zGrM3
      rw [zI_n (by omega), zI_n (by omega), zI_sR, zI_sR]
      exact h0
  · rcases zGx2_s ho with ⟨h1, h2⟩ | ⟨i, k0, rfl, h3, h5⟩
    · rw [hR 3 o h1]
      exact zGx2_k hL (hw.2.1 o h2)
    · obtain ⟨rfl, rfl⟩ := h4 i k0 h3
      have h6 : (0 : Nat) = 4 := congrArg Prod.fst h5
      omega
  · rcases zGx2_s ho with ⟨h1, h2⟩ | ⟨i, k0, rfl, h3, h5⟩
    · rw [hR 400 o h1, hR 402 o h1]
      exact ⟨zGx2_k hL (hw.2.2.1 o h2).1, zGx2_k hL (hw.2.2.1 o h2).2⟩
    · obtain ⟨rfl, rfl⟩ := h4 i k0 h3
      have e0 : zR (zGrM3 m f (zsz G)) 400 (zsz G) = f + 1 := by
        unfold zGrM3
        rw [zR_sI, zR_sI, zR_n (by decide), zR_e]
      have e2 : zR (zGrM3 m f (zsz G)) 402 (zsz G) = zR m 502 f := by
        unfold zGrM3
        rw [zR_sI, zR_sI, zR_e]
      show zK (zGx2 G 4) (zR (zGrM3 m f (zsz G)) 400 (zsz G)) = some (0, zR (zGrM3 m f (zsz G)) 400 (zsz G)) ∧ zK (zGx2 G 4) (zR (zGrM3 m f (zsz G)) 402 (zsz G)) = some (2, zR (zGrM3 m f (zsz G)) 402 (zsz G))
      rw [e0, e2]
      exact ⟨zGx2_k hL (zL_5_1 hL kf), zGx2_k hL (hw.2.2.2 f kf).1⟩
  · rcases zGx2_s ho with ⟨h1, h2⟩ | ⟨i, k0, rfl, h3, h5⟩
    · rw [hR 502 o h1]
      refine ⟨zGx2_k hL (hw.2.2.2 o h2).1, fun i b hi hb => zGx2_k hL ((hw.2.2.2 o h2).2 i b hi ?_)⟩
      unfold zGrM3 at hb
      rw [zQ_sI, zQ_sI, zQ_sR, zQ_sR, zM0_Q, if_pos h1] at hb
      exact hb
    · obtain ⟨rfl, rfl⟩ := h4 i k0 h3
      have h6 : (5 : Nat) = 4 := congrArg Prod.fst h5
      omega
def zGrQ (G : zG) (m : zM) (f : Nat) (R4 : zM → Prop) (r : Int32) (m' : zM) (G' : zG) : Prop :=
  (¬ zI m 9 (f + 1) 0 = 0 ∧ r = -2 ∧ m' = zGrM2 m f ∧ G' = G) ∨
  (zI m 9 (f + 1) 0 = 0 ∧ G' = zGx2 G 4 ∧ ∃ m4, R4 m4 ∧
    ((¬ zI m4 406 (zsz G) 0 = 0 ∧ r = -1 ∧ m' = zsI (zsI m4 4 (f + 1) 0 (zI m4 406 (zsz G) 0)) 5 (f + 1) 0 (zI m4 407 (zsz G) 0)) ∨
     (zI m4 406 (zsz G) 0 = 0 ∧ ∃ m5, m5 = zbUR (zsR m4 3 (f + 1) (zR m4 502 f)) (f + 1) (zR m4 502 f) 16 ∧
       ((zbH m5 (f + 1) ∧ m' = zsR m5 502 f (zR m4 3 (f + 1)) ∧ r = zI m' 200 (zR m' 3 (f + 1)) 0) ∨ (¬ zbH m5 (f + 1) ∧ r = -2 ∧ m' = zbUR (zsR m5 3 (f + 1) (zR m4 3 (f + 1))) (f + 1) (zR m4 3 (f + 1)) 16)))))
def rm_X5_grid : Room := { frames := 9, cells := 1, slots := 8, locals := 200 }
