/-! the model's maker -/
section ZN3
variable {C : zC} {G : zG} {cc : ByteArray} {nL : Nat} {Ts : List Cond} {own : String} {k n pc : Nat} {L : List (Nat × Value)} {rest : List Value} {z : Nat} {E : Nat → Option va_E}
theorem zn_last (hF : zN C G cc nL Ts own) {x N : Nat} {i : Int32} {v : Int64} {g : Nat → Int64} (hE : E x = some (.inl (zcy G 2, N, .inr (.inl g)))) (hx : zA C x) (hin : vp_in i N) (hdg : decode cc pc = .ok (.lastore, 1))
    (K : zX C nL k n (pc + 1) L rest (zNp G z (zEu E x (.inl (zcy G 2, N, .inr (.inl (fun j => if j = i.toNatClampNeg then v else g j))))))) : zX C nL k n pc L (.long v :: .int i :: .ref x :: rest) (zNp G z E) := by
  intro H locs ls hP hS hl
  have hcell : H[x]? = some (arrV (zcy G 2) N (fun j => .long (g j))) := hP.2 x _ hE
  refine W.last hF.1.1 hF.1.2.1 hcell (z_arrOf hF.2.1.1 2 rfl N (fun j => .long (g j))) (fun q => by cases q) (by rw [arrV_size]; exact hin) rfl rfl hdg fun H1 e z1 oq => ?_
  refine K H1 _ ls ⟨z1.trans hP.1, fun q e2 h2 => ?_⟩ (zS_kept hS z1 oq hx) hl
  by_cases hq : q = x
  · subst hq
    rw [zEu_e] at h2
    cases h2
    show H1[q]? = some (vp_cell _ (_, Sum.inr (Sum.inl _)))
    rw [vp_cell_l, e, arrV_store]
    congr 2
    funext j
    by_cases hj : j = i.toNatClampNeg
    · subst hj
      simp [updV]
    · simp [updV, hj]
  · rw [zEu_n hq] at h2
    exact (hP.2 q e2 h2).kept (oq q hq)
theorem zn_iast (hF : zN C G cc nL Ts own) {x N : Nat} {i v : Int32} {g : Nat → Int32} (hE : E x = some (.inl (zcy G 1, N, .inl g))) (hx : zA C x) (hin : vp_in i N) (hdg : decode cc pc = .ok (.iastore, 1))
    (K : zX C nL k n (pc + 1) L rest (zNp G z (zEu E x (.inl (zcy G 1, N, .inl (fun j => if j = i.toNatClampNeg then v else g j)))))) : zX C nL k n pc L (.int v :: .int i :: .ref x :: rest) (zNp G z E) := by
  intro H locs ls hP hS hl
  have hcell : H[x]? = some (arrV (zcy G 1) N (fun j => .int (g j))) := hP.2 x _ hE
  refine W.iast hF.1.1 hF.1.2.1 hcell (z_arrOf hF.2.1.1 1 rfl N (fun j => .int (g j))) (fun q => by cases q) (by rw [arrV_size]; exact hin) rfl rfl hdg fun H1 e z1 oq => ?_
  refine K H1 _ ls ⟨z1.trans hP.1, fun q e2 h2 => ?_⟩ (zS_kept hS z1 oq hx) hl
  by_cases hq : q = x
  · subst hq
    rw [zEu_e] at h2
    cases h2
    show H1[q]? = some (vp_cell _ (_, Sum.inl _))
    rw [vp_cell_i, e, arrV_store]
    congr 2
    funext j
    by_cases hj : j = i.toNatClampNeg
    · subst hj
      simp [updV]
    · simp [updV, hj]
  · rw [zEu_n hq] at h2
    exact (hP.2 q e2 h2).kept (oq q hq)
theorem zEc_i {G : zG} {c a d i kd : Nat} {fs : List Value} {m : zM} (h0 : 0 < i) (hd : i < d) (hl : (zlo c)[i]? = some (kd, 0)) : zEc G c a d fs m (a + i) = some (zcell G kd a m) := by
  unfold zEc
  rw [if_neg (by omega), if_pos (by omega)]
  unfold zEl
  rw [zLy_o, hl]
  rfl
end ZN3
def zF6 (m : zM) (a : Nat) : zM := zsI (zsJ m 1605 a 0 1000) 1604 a 0 (-1)
theorem zF6_I {m : zM} {a f o j : Nat} (h : f ≠ 1604 ∨ o ≠ a ∨ j ≠ 0) : zI (zF6 m a) f o j = zI m f o j := by
  unfold zF6
  rw [zI_sI, if_neg (by rcases h with h | h | h <;> simp [h]), zI_sJ]
theorem zF6_J {m : zM} {a f o j : Nat} (h : f ≠ 1605 ∨ o ≠ a ∨ j ≠ 0) : zJ (zF6 m a) f o j = zJ m f o j := by
  unfold zF6
  rw [zJ_sI, zJ_sJ, if_neg (by rcases h with h | h | h <;> simp [h])]
theorem zF6_c {G : zG} {m : zM} {a kd : Nat} (h1 : kd ≠ 1604) (h2 : kd ≠ 1605) : zcell G kd a (zF6 m a) = zcell G kd a m := by
  refine zcell_ag fun f hf => ⟨fun j => zF6_I ?_, fun j => zF6_J ?_, rfl, fun _ => rfl⟩
  · refine Or.inl fun e => ?_
    subst e
    unfold zkf zkey at hf
    rw [if_neg (by decide)] at hf
    split at hf <;> omega
  · refine Or.inl fun e => ?_
    subst e
    unfold zkf zkey at hf
    rw [if_neg (by decide)] at hf
    split at hf <;> omega
theorem zF6_end {G : zG} {a : Nat} {fs : List Value} {m : zM} {H : Heap} (hf : fs = zfs 6 a m) (h : zNp G (a + 39) (zEu (zEu (zEc G 6 a 39 fs m) (a + 5) (.inl (zcy G 2, 4, .inr (.inl (fun j => if j = (0 : Int32).toNatClampNeg then 1000 else zJ m 1605 a j))))) (a + 4) (.inl (zcy G 1, 4, .inl (fun j => if j = (0 : Int32).toNatClampNeg then (-1) else zI m 1604 a j)))) H) : zNp G (a + zln 6) (zEl G 6 a (zF6 m a)) H := zNp_mo h rfl fun q e he => by
  unfold zEl at he
  obtain ⟨k, hk, hk2⟩ := Option.map_eq_some_iff.mp he
  obtain ⟨i, k0, rfl, h3, rfl⟩ := zLy_s hk
  have hi := (List.getElem?_eq_some_iff.mp h3).1
  have hi : i < 39 := hi
  have hk0 : k0.2 = 0 ∧ ((i = 4 ∧ k0.1 = 1604) ∨ (i = 5 ∧ k0.1 = 1605) ∨ (i ≠ 4 ∧ i ≠ 5 ∧ k0.1 ≠ 1604 ∧ k0.1 ≠ 1605)) := by
    have := (by decide +kernel : ∀ i, i < 39 → ((zlo 6).getD i (0, 0)).2 = 0 ∧ ((i = 4 ∧ ((zlo 6).getD i (0, 0)).1 = 1604) ∨ (i = 5 ∧ ((zlo 6).getD i (0, 0)).1 = 1605) ∨ (i ≠ 4 ∧ i ≠ 5 ∧ ((zlo 6).getD i (0, 0)).1 ≠ 1604 ∧ ((zlo 6).getD i (0, 0)).1 ≠ 1605))) i hi
    rw [List.getD_eq_getElem?_getD, h3] at this
    exact this
  obtain ⟨k1, k2⟩ := k0
  obtain ⟨rfl, hk0⟩ := hk0
  rw [← hk2]
  rcases hk0 with ⟨rfl, e1⟩ | ⟨rfl, e1⟩ | ⟨n4, n5, n1, n2⟩
  · have e1 : k1 = 1604 := e1
    subst e1
    rw [zEu_e]
    show _ = some (zcell G 1604 (a + 0) (zF6 m a))
    have e2 : (fun j => if j = (0 : Int32).toNatClampNeg then (-1 : Int32) else zI m 1604 a j) = zI (zF6 m a) 1604 a := by
      funext j
      unfold zF6
      rw [zI_sI]
      by_cases hj : j = 0
      · subst hj; rw [if_pos (by decide), if_pos ⟨rfl, rfl, rfl⟩]
      · rw [if_neg (by intro z; exact hj z), if_neg (by intro z; exact hj z.2.2)]
        rfl
    rw [e2]
    rfl
  · have e1 : k1 = 1605 := e1
    subst e1
    rw [zEu_n (by omega), zEu_e]
    show _ = some (zcell G 1605 (a + 0) (zF6 m a))
    have e2 : (fun j => if j = (0 : Int32).toNatClampNeg then (1000 : Int64) else zJ m 1605 a j) = zJ (zF6 m a) 1605 a := by
      funext j
      unfold zF6
      rw [zJ_sI, zJ_sJ]
      by_cases hj : j = 0
      · subst hj; rw [if_pos (by decide), if_pos ⟨rfl, rfl, rfl⟩]
      · rw [if_neg (by intro z; exact hj z), if_neg (by intro z; exact hj z.2.2)]
    rw [e2]
    rfl
  · rw [zEu_n (by omega), zEu_n (by omega)]
    show _ = some (zcell G k1 (a + 0) (zF6 m a))
    rw [Nat.add_zero, zF6_c n1 n2]
    by_cases h0 : i = 0
    · subst h0
      have e3 : some (6, 0) = some (k1, 0) := h3
      cases e3
      rw [Nat.add_zero, zEc_a, hf]
      rfl
    · exact zEc_i (by omega) hi h3
theorem hf6 {m : zM} {a : Nat} (hm : zIni m a) : [.int 0, .ref (a + 1), .ref (a + 2), .ref (a + 3), .ref (a + 4), .ref (a + 5), .ref (a + 6), .ref (a + 7), .ref (a + 8), .ref (a + 9), .ref (a + 10), .ref (a + 11), .ref (a + 12), .ref (a + 13), .ref (a + 14), .ref (a + 15), .ref (a + 16), .ref (a + 17), .ref (a + 18), .ref (a + 19), .ref (a + 20), .ref (a + 21), .ref (a + 22), .ref (a + 23), .ref (a + 24), .int 0, .int 0, .int 0, .int 0, .int 0, .long 0, .int 0, .int 0, .int 0, .int 0, .ref (a + 25), .ref (a + 26), .ref (a + 27), .ref (a + 28), .ref (a + 29), .ref (a + 30), .int 0, .ref (a + 31), .ref (a + 32), .ref (a + 33), .ref (a + 34), .ref (a + 35), .ref (a + 36), .ref (a + 37), .ref (a + 38)] = zfs 6 a m := by
  show _ = zfs6 a m
  unfold zfs6
  rw [((hm a (Nat.le_refl a)).1 600 0).1, ((hm a (Nat.le_refl a)).1 625 0).1, ((hm a (Nat.le_refl a)).1 626 0).1, ((hm a (Nat.le_refl a)).1 627 0).1, ((hm a (Nat.le_refl a)).1 628 0).1, ((hm a (Nat.le_refl a)).1 629 0).1, ((hm a (Nat.le_refl a)).1 630 0).2.1, ((hm a (Nat.le_refl a)).1 631 0).1, ((hm a (Nat.le_refl a)).1 632 0).1, ((hm a (Nat.le_refl a)).1 633 0).1, ((hm a (Nat.le_refl a)).1 634 0).1, ((hm a (Nat.le_refl a)).1 641 0).1]
  rfl
def rm_X6_init : Room := { frames := 1, cells := 38, slots := 5206, locals := 20 }
set_option maxRecDepth 100000 in
set_option maxHeartbeats 4000000 in
theorem C_X6_init {l : Launch} {G : zG} : Con_ini l G yX6_init wsX6_init rm_X6_init 6 38 5206 zF6 := by
  intro a m hb hm
  refine zMetN (P := zNp G (a + 1) (zEc G 6 a 1 (zdf 6) m)) (G := G) (cc := cX6_init) (maxL := 1) (ret := none) (by decide +kernel) rfl (Nat.le_of_ble_eq_true rfl) (fun q h => Nat.le_trans hb h) (fun U h => ⟨zEc_0 h.1, h.2⟩) (fun C hF hQ hA hR hl hnm => ?_)
  have hin : ∀ w ∈ u_ws RX6 TX6 50, w ∈ wsX6_init := fun w h => List.mem_cons_of_mem _ (List.mem_append_right _ h)
  have hAa : zA C a := by rw [hA]; exact Nat.le_refl a
  show zX C 1 0 0 0 [(0, .ref a)] [] _
  refine zx_aload_n hF.1 0 dX6_init_0 rfl ?_
  refine zx_obj hF.1 (List.mem_of_getElem? (i := 1) rfl) (List.mem_of_getElem? (i := 2) rfl) (List.mem_of_getElem? (i := 3) rfl) (by rw [hR]; exact Nat.le_of_ble_eq_true rfl) (by rw [hR]; exact Nat.le_of_ble_eq_true rfl) dX6_init_1 ?_
  refine zx_aload_n hF.1 0 dX6_init_4 rfl ?_
  refine zx_sipush hF.1 dX6_init_5 (v := 1600) (by decide) ?_
  refine zn_row (atype := .byte) (t := 0) (d := 1) (kd := 1601) (N := 1600) hF rfl (by decide) (by decide) rfl rfl rfl (List.mem_of_getElem? (i := 4) rfl) (zhe_i hm (by decide) rfl) (by decide) (by decide) (Nat.le_of_ble_eq_true rfl) (by rw [hR]; exact Nat.le_of_ble_eq_true rfl) (by rw [hR]; exact Nat.le_of_ble_eq_true rfl) dX6_init_8 ?_
  refine zn_putF (ty := .array .byte) hF zEc_a hAa rfl hin tyX6_ok nmX6 1 (by decide) (List.mem_of_getElem? (i := 5) rfl) rfl rfl hnm rfl (by decide +kernel) rfl rfl (Nat.le_of_ble_eq_true rfl) dX6_init_10 ?_
  refine zX_mo (P' := zNp G (a + 2) (zEc G 6 a 2 [.int 0, .ref (a + 1), .null, .null, .null, .null, .null, .null, .null, .null, .null, .null, .null, .null, .null, .null, .null, .null, .null, .null, .null, .null, .null, .null, .null, .int 0, .int 0, .int 0, .int 0, .int 0, .long 0, .int 0, .int 0, .int 0, .int 0, .null, .null, .null, .null, .null, .null, .int 0, .null, .null, .null, .null, .null, .null, .null, .null] m)) ?_ (fun H h => zEc_put h)
  refine zx_aload_n hF.1 0 dX6_init_13 rfl ?_
  refine zx_iconst hF.1 dX6_init_14 (v := 4) (by decide) ?_
  refine zn_row (atype := .int) (t := 1) (d := 2) (kd := 1602) (N := 4) hF rfl (by decide) (by decide) rfl rfl rfl (List.mem_of_getElem? (i := 6) rfl) (zhe_i hm (by decide) rfl) (by decide) (by decide) (Nat.le_of_ble_eq_true rfl) (by rw [hR]; exact Nat.le_of_ble_eq_true rfl) (by rw [hR]; exact Nat.le_of_ble_eq_true rfl) dX6_init_15 ?_
  refine zn_putF (ty := .array .int) hF zEc_a hAa rfl hin tyX6_ok nmX6 2 (by decide) (List.mem_of_getElem? (i := 7) rfl) rfl rfl hnm rfl (by decide +kernel) rfl rfl (Nat.le_of_ble_eq_true rfl) dX6_init_17 ?_
  refine zX_mo (P' := zNp G (a + 3) (zEc G 6 a 3 [.int 0, .ref (a + 1), .ref (a + 2), .null, .null, .null, .null, .null, .null, .null, .null, .null, .null, .null, .null, .null, .null, .null, .null, .null, .null, .null, .null, .null, .null, .int 0, .int 0, .int 0, .int 0, .int 0, .long 0, .int 0, .int 0, .int 0, .int 0, .null, .null, .null, .null, .null, .null, .int 0, .null, .null, .null, .null, .null, .null, .null, .null] m)) ?_ (fun H h => zEc_put h)
  refine zx_aload_n hF.1 0 dX6_init_20 rfl ?_
  refine zx_iconst hF.1 dX6_init_21 (v := 4) (by decide) ?_
  refine zn_row (atype := .int) (t := 1) (d := 3) (kd := 1603) (N := 4) hF rfl (by decide) (by decide) rfl rfl rfl (List.mem_of_getElem? (i := 6) rfl) (zhe_i hm (by decide) rfl) (by decide) (by decide) (Nat.le_of_ble_eq_true rfl) (by rw [hR]; exact Nat.le_of_ble_eq_true rfl) (by rw [hR]; exact Nat.le_of_ble_eq_true rfl) dX6_init_22 ?_
  refine zn_putF (ty := .array .int) hF zEc_a hAa rfl hin tyX6_ok nmX6 3 (by decide) (List.mem_of_getElem? (i := 8) rfl) rfl rfl hnm rfl (by decide +kernel) rfl rfl (Nat.le_of_ble_eq_true rfl) dX6_init_24 ?_
  refine zX_mo (P' := zNp G (a + 4) (zEc G 6 a 4 [.int 0, .ref (a + 1), .ref (a + 2), .ref (a + 3), .null, .null, .null, .null, .null, .null, .null, .null, .null, .null, .null, .null, .null, .null, .null, .null, .null, .null, .null, .null, .null, .int 0, .int 0, .int 0, .int 0, .int 0, .long 0, .int 0, .int 0, .int 0, .int 0, .null, .null, .null, .null, .null, .null, .int 0, .null, .null, .null, .null, .null, .null, .null, .null] m)) ?_ (fun H h => zEc_put h)
  refine zx_aload_n hF.1 0 dX6_init_27 rfl ?_
  refine zx_iconst hF.1 dX6_init_28 (v := 4) (by decide) ?_
  refine zn_row (atype := .int) (t := 1) (d := 4) (kd := 1604) (N := 4) hF rfl (by decide) (by decide) rfl rfl rfl (List.mem_of_getElem? (i := 6) rfl) (zhe_i hm (by decide) rfl) (by decide) (by decide) (Nat.le_of_ble_eq_true rfl) (by rw [hR]; exact Nat.le_of_ble_eq_true rfl) (by rw [hR]; exact Nat.le_of_ble_eq_true rfl) dX6_init_29 ?_
  refine zn_putF (ty := .array .int) hF zEc_a hAa rfl hin tyX6_ok nmX6 4 (by decide) (List.mem_of_getElem? (i := 9) rfl) rfl rfl hnm rfl (by decide +kernel) rfl rfl (Nat.le_of_ble_eq_true rfl) dX6_init_31 ?_
  refine zX_mo (P' := zNp G (a + 5) (zEc G 6 a 5 [.int 0, .ref (a + 1), .ref (a + 2), .ref (a + 3), .ref (a + 4), .null, .null, .null, .null, .null, .null, .null, .null, .null, .null, .null, .null, .null, .null, .null, .null, .null, .null, .null, .null, .int 0, .int 0, .int 0, .int 0, .int 0, .long 0, .int 0, .int 0, .int 0, .int 0, .null, .null, .null, .null, .null, .null, .int 0, .null, .null, .null, .null, .null, .null, .null, .null] m)) ?_ (fun H h => zEc_put h)
  refine zx_aload_n hF.1 0 dX6_init_34 rfl ?_
  refine zx_iconst hF.1 dX6_init_35 (v := 4) (by decide) ?_
  refine zn_row (atype := .long) (t := 2) (d := 5) (kd := 1605) (N := 4) hF rfl (by decide) (by decide) rfl rfl rfl (List.mem_of_getElem? (i := 10) rfl) (zhe_j hm rfl rfl) (by decide) (by decide) (Nat.le_of_ble_eq_true rfl) (by rw [hR]; exact Nat.le_of_ble_eq_true rfl) (by rw [hR]; exact Nat.le_of_ble_eq_true rfl) dX6_init_36 ?_
  refine zn_putF (ty := .array .long) hF zEc_a hAa rfl hin tyX6_ok nmX6 5 (by decide) (List.mem_of_getElem? (i := 11) rfl) rfl rfl hnm rfl (by decide +kernel) rfl rfl (Nat.le_of_ble_eq_true rfl) dX6_init_38 ?_
  refine zX_mo (P' := zNp G (a + 6) (zEc G 6 a 6 [.int 0, .ref (a + 1), .ref (a + 2), .ref (a + 3), .ref (a + 4), .ref (a + 5), .null, .null, .null, .null, .null, .null, .null, .null, .null, .null, .null, .null, .null, .null, .null, .null, .null, .null, .null, .int 0, .int 0, .int 0, .int 0, .int 0, .long 0, .int 0, .int 0, .int 0, .int 0, .null, .null, .null, .null, .null, .null, .int 0, .null, .null, .null, .null, .null, .null, .null, .null] m)) ?_ (fun H h => zEc_put h)
  refine zx_aload_n hF.1 0 dX6_init_41 rfl ?_
  refine zx_iconst hF.1 dX6_init_42 (v := 4) (by decide) ?_
  refine zn_row (atype := .int) (t := 1) (d := 6) (kd := 1606) (N := 4) hF rfl (by decide) (by decide) rfl rfl rfl (List.mem_of_getElem? (i := 6) rfl) (zhe_i hm (by decide) rfl) (by decide) (by decide) (Nat.le_of_ble_eq_true rfl) (by rw [hR]; exact Nat.le_of_ble_eq_true rfl) (by rw [hR]; exact Nat.le_of_ble_eq_true rfl) dX6_init_43 ?_
  refine zn_putF (ty := .array .int) hF zEc_a hAa rfl hin tyX6_ok nmX6 6 (by decide) (List.mem_of_getElem? (i := 12) rfl) rfl rfl hnm rfl (by decide +kernel) rfl rfl (Nat.le_of_ble_eq_true rfl) dX6_init_45 ?_
  refine zX_mo (P' := zNp G (a + 7) (zEc G 6 a 7 [.int 0, .ref (a + 1), .ref (a + 2), .ref (a + 3), .ref (a + 4), .ref (a + 5), .ref (a + 6), .null, .null, .null, .null, .null, .null, .null, .null, .null, .null, .null, .null, .null, .null, .null, .null, .null, .null, .int 0, .int 0, .int 0, .int 0, .int 0, .long 0, .int 0, .int 0, .int 0, .int 0, .null, .null, .null, .null, .null, .null, .int 0, .null, .null, .null, .null, .null, .null, .null, .null] m)) ?_ (fun H h => zEc_put h)
  refine zx_aload_n hF.1 0 dX6_init_48 rfl ?_
  refine zx_iconst hF.1 dX6_init_49 (v := 4) (by decide) ?_
  refine zn_row (atype := .int) (t := 1) (d := 7) (kd := 1607) (N := 4) hF rfl (by decide) (by decide) rfl rfl rfl (List.mem_of_getElem? (i := 6) rfl) (zhe_i hm (by decide) rfl) (by decide) (by decide) (Nat.le_of_ble_eq_true rfl) (by rw [hR]; exact Nat.le_of_ble_eq_true rfl) (by rw [hR]; exact Nat.le_of_ble_eq_true rfl) dX6_init_50 ?_
  refine zn_putF (ty := .array .int) hF zEc_a hAa rfl hin tyX6_ok nmX6 7 (by decide) (List.mem_of_getElem? (i := 13) rfl) rfl rfl hnm rfl (by decide +kernel) rfl rfl (Nat.le_of_ble_eq_true rfl) dX6_init_52 ?_
  refine zX_mo (P' := zNp G (a + 8) (zEc G 6 a 8 [.int 0, .ref (a + 1), .ref (a + 2), .ref (a + 3), .ref (a + 4), .ref (a + 5), .ref (a + 6), .ref (a + 7), .null, .null, .null, .null, .null, .null, .null, .null, .null, .null, .null, .null, .null, .null, .null, .null, .null, .int 0, .int 0, .int 0, .int 0, .int 0, .long 0, .int 0, .int 0, .int 0, .int 0, .null, .null, .null, .null, .null, .null, .int 0, .null, .null, .null, .null, .null, .null, .null, .null] m)) ?_ (fun H h => zEc_put h)
  refine zx_aload_n hF.1 0 dX6_init_55 rfl ?_
  refine zx_iconst hF.1 dX6_init_56 (v := 4) (by decide) ?_
  refine zn_row (atype := .boolean) (t := 3) (d := 8) (kd := 1608) (N := 4) hF rfl (by decide) (by decide) rfl rfl rfl (List.mem_of_getElem? (i := 14) rfl) (zhe_i hm (by decide) rfl) (by decide) (by decide) (Nat.le_of_ble_eq_true rfl) (by rw [hR]; exact Nat.le_of_ble_eq_true rfl) (by rw [hR]; exact Nat.le_of_ble_eq_true rfl) dX6_init_57 ?_
  refine zn_putF (ty := .array .boolean) hF zEc_a hAa rfl hin tyX6_ok nmX6 8 (by decide) (List.mem_of_getElem? (i := 15) rfl) rfl rfl hnm rfl (by decide +kernel) rfl rfl (Nat.le_of_ble_eq_true rfl) dX6_init_59 ?_
  refine zX_mo (P' := zNp G (a + 9) (zEc G 6 a 9 [.int 0, .ref (a + 1), .ref (a + 2), .ref (a + 3), .ref (a + 4), .ref (a + 5), .ref (a + 6), .ref (a + 7), .ref (a + 8), .null, .null, .null, .null, .null, .null, .null, .null, .null, .null, .null, .null, .null, .null, .null, .null, .int 0, .int 0, .int 0, .int 0, .int 0, .long 0, .int 0, .int 0, .int 0, .int 0, .null, .null, .null, .null, .null, .null, .int 0, .null, .null, .null, .null, .null, .null, .null, .null] m)) ?_ (fun H h => zEc_put h)
  refine zx_aload_n hF.1 0 dX6_init_62 rfl ?_
  refine zx_sipush hF.1 dX6_init_63 (v := 640) (by decide) ?_
  refine zn_row (atype := .int) (t := 1) (d := 9) (kd := 1609) (N := 640) hF rfl (by decide) (by decide) rfl rfl rfl (List.mem_of_getElem? (i := 6) rfl) (zhe_i hm (by decide) rfl) (by decide) (by decide) (Nat.le_of_ble_eq_true rfl) (by rw [hR]; exact Nat.le_of_ble_eq_true rfl) (by rw [hR]; exact Nat.le_of_ble_eq_true rfl) dX6_init_66 ?_
  refine zn_putF (ty := .array .int) hF zEc_a hAa rfl hin tyX6_ok nmX6 9 (by decide) (List.mem_of_getElem? (i := 16) rfl) rfl rfl hnm rfl (by decide +kernel) rfl rfl (Nat.le_of_ble_eq_true rfl) dX6_init_68 ?_
  refine zX_mo (P' := zNp G (a + 10) (zEc G 6 a 10 [.int 0, .ref (a + 1), .ref (a + 2), .ref (a + 3), .ref (a + 4), .ref (a + 5), .ref (a + 6), .ref (a + 7), .ref (a + 8), .ref (a + 9), .null, .null, .null, .null, .null, .null, .null, .null, .null, .null, .null, .null, .null, .null, .null, .int 0, .int 0, .int 0, .int 0, .int 0, .long 0, .int 0, .int 0, .int 0, .int 0, .null, .null, .null, .null, .null, .null, .int 0, .null, .null, .null, .null, .null, .null, .null, .null] m)) ?_ (fun H h => zEc_put h)
  refine zx_aload_n hF.1 0 dX6_init_71 rfl ?_
  refine zx_bipush hF.1 dX6_init_72 (v := 64) (by decide) ?_
  refine zn_row (atype := .long) (t := 2) (d := 10) (kd := 1610) (N := 64) hF rfl (by decide) (by decide) rfl rfl rfl (List.mem_of_getElem? (i := 10) rfl) (zhe_j hm rfl rfl) (by decide) (by decide) (Nat.le_of_ble_eq_true rfl) (by rw [hR]; exact Nat.le_of_ble_eq_true rfl) (by rw [hR]; exact Nat.le_of_ble_eq_true rfl) dX6_init_74 ?_
  refine zn_putF (ty := .array .long) hF zEc_a hAa rfl hin tyX6_ok nmX6 10 (by decide) (List.mem_of_getElem? (i := 17) rfl) rfl rfl hnm rfl (by decide +kernel) rfl rfl (Nat.le_of_ble_eq_true rfl) dX6_init_76 ?_
  refine zX_mo (P' := zNp G (a + 11) (zEc G 6 a 11 [.int 0, .ref (a + 1), .ref (a + 2), .ref (a + 3), .ref (a + 4), .ref (a + 5), .ref (a + 6), .ref (a + 7), .ref (a + 8), .ref (a + 9), .ref (a + 10), .null, .null, .null, .null, .null, .null, .null, .null, .null, .null, .null, .null, .null, .null, .int 0, .int 0, .int 0, .int 0, .int 0, .long 0, .int 0, .int 0, .int 0, .int 0, .null, .null, .null, .null, .null, .null, .int 0, .null, .null, .null, .null, .null, .null, .null, .null] m)) ?_ (fun H h => zEc_put h)
  refine zx_aload_n hF.1 0 dX6_init_79 rfl ?_
  refine zx_bipush hF.1 dX6_init_80 (v := 64) (by decide) ?_
  refine zn_row (atype := .long) (t := 2) (d := 11) (kd := 1611) (N := 64) hF rfl (by decide) (by decide) rfl rfl rfl (List.mem_of_getElem? (i := 10) rfl) (zhe_j hm rfl rfl) (by decide) (by decide) (Nat.le_of_ble_eq_true rfl) (by rw [hR]; exact Nat.le_of_ble_eq_true rfl) (by rw [hR]; exact Nat.le_of_ble_eq_true rfl) dX6_init_82 ?_
  refine zn_putF (ty := .array .long) hF zEc_a hAa rfl hin tyX6_ok nmX6 11 (by decide) (List.mem_of_getElem? (i := 18) rfl) rfl rfl hnm rfl (by decide +kernel) rfl rfl (Nat.le_of_ble_eq_true rfl) dX6_init_84 ?_
  refine zX_mo (P' := zNp G (a + 12) (zEc G 6 a 12 [.int 0, .ref (a + 1), .ref (a + 2), .ref (a + 3), .ref (a + 4), .ref (a + 5), .ref (a + 6), .ref (a + 7), .ref (a + 8), .ref (a + 9), .ref (a + 10), .ref (a + 11), .null, .null, .null, .null, .null, .null, .null, .null, .null, .null, .null, .null, .null, .int 0, .int 0, .int 0, .int 0, .int 0, .long 0, .int 0, .int 0, .int 0, .int 0, .null, .null, .null, .null, .null, .null, .int 0, .null, .null, .null, .null, .null, .null, .null, .null] m)) ?_ (fun H h => zEc_put h)
  refine zx_aload_n hF.1 0 dX6_init_87 rfl ?_
  refine zx_bipush hF.1 dX6_init_88 (v := 64) (by decide) ?_
  refine zn_row (atype := .long) (t := 2) (d := 12) (kd := 1612) (N := 64) hF rfl (by decide) (by decide) rfl rfl rfl (List.mem_of_getElem? (i := 10) rfl) (zhe_j hm rfl rfl) (by decide) (by decide) (Nat.le_of_ble_eq_true rfl) (by rw [hR]; exact Nat.le_of_ble_eq_true rfl) (by rw [hR]; exact Nat.le_of_ble_eq_true rfl) dX6_init_90 ?_
  refine zn_putF (ty := .array .long) hF zEc_a hAa rfl hin tyX6_ok nmX6 12 (by decide) (List.mem_of_getElem? (i := 19) rfl) rfl rfl hnm rfl (by decide +kernel) rfl rfl (Nat.le_of_ble_eq_true rfl) dX6_init_92 ?_
  refine zX_mo (P' := zNp G (a + 13) (zEc G 6 a 13 [.int 0, .ref (a + 1), .ref (a + 2), .ref (a + 3), .ref (a + 4), .ref (a + 5), .ref (a + 6), .ref (a + 7), .ref (a + 8), .ref (a + 9), .ref (a + 10), .ref (a + 11), .ref (a + 12), .null, .null, .null, .null, .null, .null, .null, .null, .null, .null, .null, .null, .int 0, .int 0, .int 0, .int 0, .int 0, .long 0, .int 0, .int 0, .int 0, .int 0, .null, .null, .null, .null, .null, .null, .int 0, .null, .null, .null, .null, .null, .null, .null, .null] m)) ?_ (fun H h => zEc_put h)
  refine zx_aload_n hF.1 0 dX6_init_95 rfl ?_
  refine zx_sipush hF.1 dX6_init_96 (v := 256) (by decide) ?_
  refine zn_row (atype := .int) (t := 1) (d := 13) (kd := 1613) (N := 256) hF rfl (by decide) (by decide) rfl rfl rfl (List.mem_of_getElem? (i := 6) rfl) (zhe_i hm (by decide) rfl) (by decide) (by decide) (Nat.le_of_ble_eq_true rfl) (by rw [hR]; exact Nat.le_of_ble_eq_true rfl) (by rw [hR]; exact Nat.le_of_ble_eq_true rfl) dX6_init_99 ?_
  refine zn_putF (ty := .array .int) hF zEc_a hAa rfl hin tyX6_ok nmX6 13 (by decide) (List.mem_of_getElem? (i := 20) rfl) rfl rfl hnm rfl (by decide +kernel) rfl rfl (Nat.le_of_ble_eq_true rfl) dX6_init_101 ?_
  refine zX_mo (P' := zNp G (a + 14) (zEc G 6 a 14 [.int 0, .ref (a + 1), .ref (a + 2), .ref (a + 3), .ref (a + 4), .ref (a + 5), .ref (a + 6), .ref (a + 7), .ref (a + 8), .ref (a + 9), .ref (a + 10), .ref (a + 11), .ref (a + 12), .ref (a + 13), .null, .null, .null, .null, .null, .null, .null, .null, .null, .null, .null, .int 0, .int 0, .int 0, .int 0, .int 0, .long 0, .int 0, .int 0, .int 0, .int 0, .null, .null, .null, .null, .null, .null, .int 0, .null, .null, .null, .null, .null, .null, .null, .null] m)) ?_ (fun H h => zEc_put h)
  refine zx_aload_n hF.1 0 dX6_init_104 rfl ?_
  refine zx_sipush hF.1 dX6_init_105 (v := 256) (by decide) ?_
  refine zn_row (atype := .long) (t := 2) (d := 14) (kd := 1614) (N := 256) hF rfl (by decide) (by decide) rfl rfl rfl (List.mem_of_getElem? (i := 10) rfl) (zhe_j hm rfl rfl) (by decide) (by decide) (Nat.le_of_ble_eq_true rfl) (by rw [hR]; exact Nat.le_of_ble_eq_true rfl) (by rw [hR]; exact Nat.le_of_ble_eq_true rfl) dX6_init_108 ?_
  refine zn_putF (ty := .array .long) hF zEc_a hAa rfl hin tyX6_ok nmX6 14 (by decide) (List.mem_of_getElem? (i := 21) rfl) rfl rfl hnm rfl (by decide +kernel) rfl rfl (Nat.le_of_ble_eq_true rfl) dX6_init_110 ?_
  refine zX_mo (P' := zNp G (a + 15) (zEc G 6 a 15 [.int 0, .ref (a + 1), .ref (a + 2), .ref (a + 3), .ref (a + 4), .ref (a + 5), .ref (a + 6), .ref (a + 7), .ref (a + 8), .ref (a + 9), .ref (a + 10), .ref (a + 11), .ref (a + 12), .ref (a + 13), .ref (a + 14), .null, .null, .null, .null, .null, .null, .null, .null, .null, .null, .int 0, .int 0, .int 0, .int 0, .int 0, .long 0, .int 0, .int 0, .int 0, .int 0, .null, .null, .null, .null, .null, .null, .int 0, .null, .null, .null, .null, .null, .null, .null, .null] m)) ?_ (fun H h => zEc_put h)
  refine zx_aload_n hF.1 0 dX6_init_113 rfl ?_
  refine zx_sipush hF.1 dX6_init_114 (v := 256) (by decide) ?_
  refine zn_row (atype := .long) (t := 2) (d := 15) (kd := 1615) (N := 256) hF rfl (by decide) (by decide) rfl rfl rfl (List.mem_of_getElem? (i := 10) rfl) (zhe_j hm rfl rfl) (by decide) (by decide) (Nat.le_of_ble_eq_true rfl) (by rw [hR]; exact Nat.le_of_ble_eq_true rfl) (by rw [hR]; exact Nat.le_of_ble_eq_true rfl) dX6_init_117 ?_
  refine zn_putF (ty := .array .long) hF zEc_a hAa rfl hin tyX6_ok nmX6 15 (by decide) (List.mem_of_getElem? (i := 22) rfl) rfl rfl hnm rfl (by decide +kernel) rfl rfl (Nat.le_of_ble_eq_true rfl) dX6_init_119 ?_
  refine zX_mo (P' := zNp G (a + 16) (zEc G 6 a 16 [.int 0, .ref (a + 1), .ref (a + 2), .ref (a + 3), .ref (a + 4), .ref (a + 5), .ref (a + 6), .ref (a + 7), .ref (a + 8), .ref (a + 9), .ref (a + 10), .ref (a + 11), .ref (a + 12), .ref (a + 13), .ref (a + 14), .ref (a + 15), .null, .null, .null, .null, .null, .null, .null, .null, .null, .int 0, .int 0, .int 0, .int 0, .int 0, .long 0, .int 0, .int 0, .int 0, .int 0, .null, .null, .null, .null, .null, .null, .int 0, .null, .null, .null, .null, .null, .null, .null, .null] m)) ?_ (fun H h => zEc_put h)
  refine zx_aload_n hF.1 0 dX6_init_122 rfl ?_
  refine zx_sipush hF.1 dX6_init_123 (v := 256) (by decide) ?_
  refine zn_row (atype := .int) (t := 1) (d := 16) (kd := 1616) (N := 256) hF rfl (by decide) (by decide) rfl rfl rfl (List.mem_of_getElem? (i := 6) rfl) (zhe_i hm (by decide) rfl) (by decide) (by decide) (Nat.le_of_ble_eq_true rfl) (by rw [hR]; exact Nat.le_of_ble_eq_true rfl) (by rw [hR]; exact Nat.le_of_ble_eq_true rfl) dX6_init_126 ?_
  refine zn_putF (ty := .array .int) hF zEc_a hAa rfl hin tyX6_ok nmX6 16 (by decide) (List.mem_of_getElem? (i := 23) rfl) rfl rfl hnm rfl (by decide +kernel) rfl rfl (Nat.le_of_ble_eq_true rfl) dX6_init_128 ?_
  refine zX_mo (P' := zNp G (a + 17) (zEc G 6 a 17 [.int 0, .ref (a + 1), .ref (a + 2), .ref (a + 3), .ref (a + 4), .ref (a + 5), .ref (a + 6), .ref (a + 7), .ref (a + 8), .ref (a + 9), .ref (a + 10), .ref (a + 11), .ref (a + 12), .ref (a + 13), .ref (a + 14), .ref (a + 15), .ref (a + 16), .null, .null, .null, .null, .null, .null, .null, .null, .int 0, .int 0, .int 0, .int 0, .int 0, .long 0, .int 0, .int 0, .int 0, .int 0, .null, .null, .null, .null, .null, .null, .int 0, .null, .null, .null, .null, .null, .null, .null, .null] m)) ?_ (fun H h => zEc_put h)
  refine zx_aload_n hF.1 0 dX6_init_131 rfl ?_
  refine zx_sipush hF.1 dX6_init_132 (v := 256) (by decide) ?_
  refine zn_row (atype := .long) (t := 2) (d := 17) (kd := 1617) (N := 256) hF rfl (by decide) (by decide) rfl rfl rfl (List.mem_of_getElem? (i := 10) rfl) (zhe_j hm rfl rfl) (by decide) (by decide) (Nat.le_of_ble_eq_true rfl) (by rw [hR]; exact Nat.le_of_ble_eq_true rfl) (by rw [hR]; exact Nat.le_of_ble_eq_true rfl) dX6_init_135 ?_
  refine zn_putF (ty := .array .long) hF zEc_a hAa rfl hin tyX6_ok nmX6 17 (by decide) (List.mem_of_getElem? (i := 24) rfl) rfl rfl hnm rfl (by decide +kernel) rfl rfl (Nat.le_of_ble_eq_true rfl) dX6_init_137 ?_
  refine zX_mo (P' := zNp G (a + 18) (zEc G 6 a 18 [.int 0, .ref (a + 1), .ref (a + 2), .ref (a + 3), .ref (a + 4), .ref (a + 5), .ref (a + 6), .ref (a + 7), .ref (a + 8), .ref (a + 9), .ref (a + 10), .ref (a + 11), .ref (a + 12), .ref (a + 13), .ref (a + 14), .ref (a + 15), .ref (a + 16), .ref (a + 17), .null, .null, .null, .null, .null, .null, .null, .int 0, .int 0, .int 0, .int 0, .int 0, .long 0, .int 0, .int 0, .int 0, .int 0, .null, .null, .null, .null, .null, .null, .int 0, .null, .null, .null, .null, .null, .null, .null, .null] m)) ?_ (fun H h => zEc_put h)
  refine zx_aload_n hF.1 0 dX6_init_140 rfl ?_
  refine zx_iconst hF.1 dX6_init_141 (v := 4) (by decide) ?_
  refine zn_row (atype := .int) (t := 1) (d := 18) (kd := 1618) (N := 4) hF rfl (by decide) (by decide) rfl rfl rfl (List.mem_of_getElem? (i := 6) rfl) (zhe_i hm (by decide) rfl) (by decide) (by decide) (Nat.le_of_ble_eq_true rfl) (by rw [hR]; exact Nat.le_of_ble_eq_true rfl) (by rw [hR]; exact Nat.le_of_ble_eq_true rfl) dX6_init_142 ?_
  refine zn_putF (ty := .array .int) hF zEc_a hAa rfl hin tyX6_ok nmX6 18 (by decide) (List.mem_of_getElem? (i := 25) rfl) rfl rfl hnm rfl (by decide +kernel) rfl rfl (Nat.le_of_ble_eq_true rfl) dX6_init_144 ?_
  refine zX_mo (P' := zNp G (a + 19) (zEc G 6 a 19 [.int 0, .ref (a + 1), .ref (a + 2), .ref (a + 3), .ref (a + 4), .ref (a + 5), .ref (a + 6), .ref (a + 7), .ref (a + 8), .ref (a + 9), .ref (a + 10), .ref (a + 11), .ref (a + 12), .ref (a + 13), .ref (a + 14), .ref (a + 15), .ref (a + 16), .ref (a + 17), .ref (a + 18), .null, .null, .null, .null, .null, .null, .int 0, .int 0, .int 0, .int 0, .int 0, .long 0, .int 0, .int 0, .int 0, .int 0, .null, .null, .null, .null, .null, .null, .int 0, .null, .null, .null, .null, .null, .null, .null, .null] m)) ?_ (fun H h => zEc_put h)
  refine zx_aload_n hF.1 0 dX6_init_147 rfl ?_
  refine zx_bipush hF.1 dX6_init_148 (v := 64) (by decide) ?_
  refine zn_row (atype := .int) (t := 1) (d := 19) (kd := 1619) (N := 64) hF rfl (by decide) (by decide) rfl rfl rfl (List.mem_of_getElem? (i := 6) rfl) (zhe_i hm (by decide) rfl) (by decide) (by decide) (Nat.le_of_ble_eq_true rfl) (by rw [hR]; exact Nat.le_of_ble_eq_true rfl) (by rw [hR]; exact Nat.le_of_ble_eq_true rfl) dX6_init_150 ?_
  refine zn_putF (ty := .array .int) hF zEc_a hAa rfl hin tyX6_ok nmX6 19 (by decide) (List.mem_of_getElem? (i := 26) rfl) rfl rfl hnm rfl (by decide +kernel) rfl rfl (Nat.le_of_ble_eq_true rfl) dX6_init_152 ?_
  refine zX_mo (P' := zNp G (a + 20) (zEc G 6 a 20 [.int 0, .ref (a + 1), .ref (a + 2), .ref (a + 3), .ref (a + 4), .ref (a + 5), .ref (a + 6), .ref (a + 7), .ref (a + 8), .ref (a + 9), .ref (a + 10), .ref (a + 11), .ref (a + 12), .ref (a + 13), .ref (a + 14), .ref (a + 15), .ref (a + 16), .ref (a + 17), .ref (a + 18), .ref (a + 19), .null, .null, .null, .null, .null, .int 0, .int 0, .int 0, .int 0, .int 0, .long 0, .int 0, .int 0, .int 0, .int 0, .null, .null, .null, .null, .null, .null, .int 0, .null, .null, .null, .null, .null, .null, .null, .null] m)) ?_ (fun H h => zEc_put h)
  refine zx_aload_n hF.1 0 dX6_init_155 rfl ?_
  refine zx_sipush hF.1 dX6_init_156 (v := 256) (by decide) ?_
  refine zn_row (atype := .int) (t := 1) (d := 20) (kd := 1620) (N := 256) hF rfl (by decide) (by decide) rfl rfl rfl (List.mem_of_getElem? (i := 6) rfl) (zhe_i hm (by decide) rfl) (by decide) (by decide) (Nat.le_of_ble_eq_true rfl) (by rw [hR]; exact Nat.le_of_ble_eq_true rfl) (by rw [hR]; exact Nat.le_of_ble_eq_true rfl) dX6_init_159 ?_
  refine zn_putF (ty := .array .int) hF zEc_a hAa rfl hin tyX6_ok nmX6 20 (by decide) (List.mem_of_getElem? (i := 27) rfl) rfl rfl hnm rfl (by decide +kernel) rfl rfl (Nat.le_of_ble_eq_true rfl) dX6_init_161 ?_
  refine zX_mo (P' := zNp G (a + 21) (zEc G 6 a 21 [.int 0, .ref (a + 1), .ref (a + 2), .ref (a + 3), .ref (a + 4), .ref (a + 5), .ref (a + 6), .ref (a + 7), .ref (a + 8), .ref (a + 9), .ref (a + 10), .ref (a + 11), .ref (a + 12), .ref (a + 13), .ref (a + 14), .ref (a + 15), .ref (a + 16), .ref (a + 17), .ref (a + 18), .ref (a + 19), .ref (a + 20), .null, .null, .null, .null, .int 0, .int 0, .int 0, .int 0, .int 0, .long 0, .int 0, .int 0, .int 0, .int 0, .null, .null, .null, .null, .null, .null, .int 0, .null, .null, .null, .null, .null, .null, .null, .null] m)) ?_ (fun H h => zEc_put h)
  refine zx_aload_n hF.1 0 dX6_init_164 rfl ?_
  refine zx_sipush hF.1 dX6_init_165 (v := 256) (by decide) ?_
  refine zn_row (atype := .int) (t := 1) (d := 21) (kd := 1621) (N := 256) hF rfl (by decide) (by decide) rfl rfl rfl (List.mem_of_getElem? (i := 6) rfl) (zhe_i hm (by decide) rfl) (by decide) (by decide) (Nat.le_of_ble_eq_true rfl) (by rw [hR]; exact Nat.le_of_ble_eq_true rfl) (by rw [hR]; exact Nat.le_of_ble_eq_true rfl) dX6_init_168 ?_
  refine zn_putF (ty := .array .int) hF zEc_a hAa rfl hin tyX6_ok nmX6 21 (by decide) (List.mem_of_getElem? (i := 28) rfl) rfl rfl hnm rfl (by decide +kernel) rfl rfl (Nat.le_of_ble_eq_true rfl) dX6_init_170 ?_
  refine zX_mo (P' := zNp G (a + 22) (zEc G 6 a 22 [.int 0, .ref (a + 1), .ref (a + 2), .ref (a + 3), .ref (a + 4), .ref (a + 5), .ref (a + 6), .ref (a + 7), .ref (a + 8), .ref (a + 9), .ref (a + 10), .ref (a + 11), .ref (a + 12), .ref (a + 13), .ref (a + 14), .ref (a + 15), .ref (a + 16), .ref (a + 17), .ref (a + 18), .ref (a + 19), .ref (a + 20), .ref (a + 21), .null, .null, .null, .int 0, .int 0, .int 0, .int 0, .int 0, .long 0, .int 0, .int 0, .int 0, .int 0, .null, .null, .null, .null, .null, .null, .int 0, .null, .null, .null, .null, .null, .null, .null, .null] m)) ?_ (fun H h => zEc_put h)
  refine zx_aload_n hF.1 0 dX6_init_173 rfl ?_
  refine zx_sipush hF.1 dX6_init_174 (v := 256) (by decide) ?_
  refine zn_row (atype := .int) (t := 1) (d := 22) (kd := 1622) (N := 256) hF rfl (by decide) (by decide) rfl rfl rfl (List.mem_of_getElem? (i := 6) rfl) (zhe_i hm (by decide) rfl) (by decide) (by decide) (Nat.le_of_ble_eq_true rfl) (by rw [hR]; exact Nat.le_of_ble_eq_true rfl) (by rw [hR]; exact Nat.le_of_ble_eq_true rfl) dX6_init_177 ?_
  refine zn_putF (ty := .array .int) hF zEc_a hAa rfl hin tyX6_ok nmX6 22 (by decide) (List.mem_of_getElem? (i := 29) rfl) rfl rfl hnm rfl (by decide +kernel) rfl rfl (Nat.le_of_ble_eq_true rfl) dX6_init_179 ?_
  refine zX_mo (P' := zNp G (a + 23) (zEc G 6 a 23 [.int 0, .ref (a + 1), .ref (a + 2), .ref (a + 3), .ref (a + 4), .ref (a + 5), .ref (a + 6), .ref (a + 7), .ref (a + 8), .ref (a + 9), .ref (a + 10), .ref (a + 11), .ref (a + 12), .ref (a + 13), .ref (a + 14), .ref (a + 15), .ref (a + 16), .ref (a + 17), .ref (a + 18), .ref (a + 19), .ref (a + 20), .ref (a + 21), .ref (a + 22), .null, .null, .int 0, .int 0, .int 0, .int 0, .int 0, .long 0, .int 0, .int 0, .int 0, .int 0, .null, .null, .null, .null, .null, .null, .int 0, .null, .null, .null, .null, .null, .null, .null, .null] m)) ?_ (fun H h => zEc_put h)
  refine zx_aload_n hF.1 0 dX6_init_182 rfl ?_
  refine zx_bipush hF.1 dX6_init_183 (v := 64) (by decide) ?_
  refine zn_row (atype := .int) (t := 1) (d := 23) (kd := 1623) (N := 64) hF rfl (by decide) (by decide) rfl rfl rfl (List.mem_of_getElem? (i := 6) rfl) (zhe_i hm (by decide) rfl) (by decide) (by decide) (Nat.le_of_ble_eq_true rfl) (by rw [hR]; exact Nat.le_of_ble_eq_true rfl) (by rw [hR]; exact Nat.le_of_ble_eq_true rfl) dX6_init_185 ?_
  refine zn_putF (ty := .array .int) hF zEc_a hAa rfl hin tyX6_ok nmX6 23 (by decide) (List.mem_of_getElem? (i := 30) rfl) rfl rfl hnm rfl (by decide +kernel) rfl rfl (Nat.le_of_ble_eq_true rfl) dX6_init_187 ?_
  refine zX_mo (P' := zNp G (a + 24) (zEc G 6 a 24 [.int 0, .ref (a + 1), .ref (a + 2), .ref (a + 3), .ref (a + 4), .ref (a + 5), .ref (a + 6), .ref (a + 7), .ref (a + 8), .ref (a + 9), .ref (a + 10), .ref (a + 11), .ref (a + 12), .ref (a + 13), .ref (a + 14), .ref (a + 15), .ref (a + 16), .ref (a + 17), .ref (a + 18), .ref (a + 19), .ref (a + 20), .ref (a + 21), .ref (a + 22), .ref (a + 23), .null, .int 0, .int 0, .int 0, .int 0, .int 0, .long 0, .int 0, .int 0, .int 0, .int 0, .null, .null, .null, .null, .null, .null, .int 0, .null, .null, .null, .null, .null, .null, .null, .null] m)) ?_ (fun H h => zEc_put h)
  refine zx_aload_n hF.1 0 dX6_init_190 rfl ?_
  refine zx_bipush hF.1 dX6_init_191 (v := 64) (by decide) ?_
  refine zn_row (atype := .int) (t := 1) (d := 24) (kd := 1624) (N := 64) hF rfl (by decide) (by decide) rfl rfl rfl (List.mem_of_getElem? (i := 6) rfl) (zhe_i hm (by decide) rfl) (by decide) (by decide) (Nat.le_of_ble_eq_true rfl) (by rw [hR]; exact Nat.le_of_ble_eq_true rfl) (by rw [hR]; exact Nat.le_of_ble_eq_true rfl) dX6_init_193 ?_
  refine zn_putF (ty := .array .int) hF zEc_a hAa rfl hin tyX6_ok nmX6 24 (by decide) (List.mem_of_getElem? (i := 31) rfl) rfl rfl hnm rfl (by decide +kernel) rfl rfl (Nat.le_of_ble_eq_true rfl) dX6_init_195 ?_
  refine zX_mo (P' := zNp G (a + 25) (zEc G 6 a 25 [.int 0, .ref (a + 1), .ref (a + 2), .ref (a + 3), .ref (a + 4), .ref (a + 5), .ref (a + 6), .ref (a + 7), .ref (a + 8), .ref (a + 9), .ref (a + 10), .ref (a + 11), .ref (a + 12), .ref (a + 13), .ref (a + 14), .ref (a + 15), .ref (a + 16), .ref (a + 17), .ref (a + 18), .ref (a + 19), .ref (a + 20), .ref (a + 21), .ref (a + 22), .ref (a + 23), .ref (a + 24), .int 0, .int 0, .int 0, .int 0, .int 0, .long 0, .int 0, .int 0, .int 0, .int 0, .null, .null, .null, .null, .null, .null, .int 0, .null, .null, .null, .null, .null, .null, .null, .null] m)) ?_ (fun H h => zEc_put h)
  refine zx_aload_n hF.1 0 dX6_init_198 rfl ?_
  refine zx_bipush hF.1 dX6_init_199 (v := 17) (by decide) ?_
  refine zn_row (atype := .int) (t := 1) (d := 25) (kd := 1635) (N := 17) hF rfl (by decide) (by decide) rfl rfl rfl (List.mem_of_getElem? (i := 6) rfl) (zhe_i hm (by decide) rfl) (by decide) (by decide) (Nat.le_of_ble_eq_true rfl) (by rw [hR]; exact Nat.le_of_ble_eq_true rfl) (by rw [hR]; exact Nat.le_of_ble_eq_true rfl) dX6_init_201 ?_
  refine zn_putF (ty := .array .int) hF zEc_a hAa rfl hin tyX6_ok nmX6 35 (by decide) (List.mem_of_getElem? (i := 32) rfl) rfl rfl hnm rfl (by decide +kernel) rfl rfl (Nat.le_of_ble_eq_true rfl) dX6_init_203 ?_
  refine zX_mo (P' := zNp G (a + 26) (zEc G 6 a 26 [.int 0, .ref (a + 1), .ref (a + 2), .ref (a + 3), .ref (a + 4), .ref (a + 5), .ref (a + 6), .ref (a + 7), .ref (a + 8), .ref (a + 9), .ref (a + 10), .ref (a + 11), .ref (a + 12), .ref (a + 13), .ref (a + 14), .ref (a + 15), .ref (a + 16), .ref (a + 17), .ref (a + 18), .ref (a + 19), .ref (a + 20), .ref (a + 21), .ref (a + 22), .ref (a + 23), .ref (a + 24), .int 0, .int 0, .int 0, .int 0, .int 0, .long 0, .int 0, .int 0, .int 0, .int 0, .ref (a + 25), .null, .null, .null, .null, .null, .int 0, .null, .null, .null, .null, .null, .null, .null, .null] m)) ?_ (fun H h => zEc_put h)
  refine zx_aload_n hF.1 0 dX6_init_206 rfl ?_
  refine zx_bipush hF.1 dX6_init_207 (v := 64) (by decide) ?_
  refine zn_row (atype := .int) (t := 1) (d := 26) (kd := 1636) (N := 64) hF rfl (by decide) (by decide) rfl rfl rfl (List.mem_of_getElem? (i := 6) rfl) (zhe_i hm (by decide) rfl) (by decide) (by decide) (Nat.le_of_ble_eq_true rfl) (by rw [hR]; exact Nat.le_of_ble_eq_true rfl) (by rw [hR]; exact Nat.le_of_ble_eq_true rfl) dX6_init_209 ?_
  refine zn_putF (ty := .array .int) hF zEc_a hAa rfl hin tyX6_ok nmX6 36 (by decide) (List.mem_of_getElem? (i := 33) rfl) rfl rfl hnm rfl (by decide +kernel) rfl rfl (Nat.le_of_ble_eq_true rfl) dX6_init_211 ?_
  refine zX_mo (P' := zNp G (a + 27) (zEc G 6 a 27 [.int 0, .ref (a + 1), .ref (a + 2), .ref (a + 3), .ref (a + 4), .ref (a + 5), .ref (a + 6), .ref (a + 7), .ref (a + 8), .ref (a + 9), .ref (a + 10), .ref (a + 11), .ref (a + 12), .ref (a + 13), .ref (a + 14), .ref (a + 15), .ref (a + 16), .ref (a + 17), .ref (a + 18), .ref (a + 19), .ref (a + 20), .ref (a + 21), .ref (a + 22), .ref (a + 23), .ref (a + 24), .int 0, .int 0, .int 0, .int 0, .int 0, .long 0, .int 0, .int 0, .int 0, .int 0, .ref (a + 25), .ref (a + 26), .null, .null, .null, .null, .int 0, .null, .null, .null, .null, .null, .null, .null, .null] m)) ?_ (fun H h => zEc_put h)
  refine zx_aload_n hF.1 0 dX6_init_214 rfl ?_
  refine zx_bipush hF.1 dX6_init_215 (v := 64) (by decide) ?_
  refine zn_row (atype := .int) (t := 1) (d := 27) (kd := 1637) (N := 64) hF rfl (by decide) (by decide) rfl rfl rfl (List.mem_of_getElem? (i := 6) rfl) (zhe_i hm (by decide) rfl) (by decide) (by decide) (Nat.le_of_ble_eq_true rfl) (by rw [hR]; exact Nat.le_of_ble_eq_true rfl) (by rw [hR]; exact Nat.le_of_ble_eq_true rfl) dX6_init_217 ?_
  refine zn_putF (ty := .array .int) hF zEc_a hAa rfl hin tyX6_ok nmX6 37 (by decide) (List.mem_of_getElem? (i := 34) rfl) rfl rfl hnm rfl (by decide +kernel) rfl rfl (Nat.le_of_ble_eq_true rfl) dX6_init_219 ?_
  refine zX_mo (P' := zNp G (a + 28) (zEc G 6 a 28 [.int 0, .ref (a + 1), .ref (a + 2), .ref (a + 3), .ref (a + 4), .ref (a + 5), .ref (a + 6), .ref (a + 7), .ref (a + 8), .ref (a + 9), .ref (a + 10), .ref (a + 11), .ref (a + 12), .ref (a + 13), .ref (a + 14), .ref (a + 15), .ref (a + 16), .ref (a + 17), .ref (a + 18), .ref (a + 19), .ref (a + 20), .ref (a + 21), .ref (a + 22), .ref (a + 23), .ref (a + 24), .int 0, .int 0, .int 0, .int 0, .int 0, .long 0, .int 0, .int 0, .int 0, .int 0, .ref (a + 25), .ref (a + 26), .ref (a + 27), .null, .null, .null, .int 0, .null, .null, .null, .null, .null, .null, .null, .null] m)) ?_ (fun H h => zEc_put h)
  refine zx_aload_n hF.1 0 dX6_init_222 rfl ?_
  refine zx_bipush hF.1 dX6_init_223 (v := 64) (by decide) ?_
  refine zn_row (atype := .int) (t := 1) (d := 28) (kd := 1638) (N := 64) hF rfl (by decide) (by decide) rfl rfl rfl (List.mem_of_getElem? (i := 6) rfl) (zhe_i hm (by decide) rfl) (by decide) (by decide) (Nat.le_of_ble_eq_true rfl) (by rw [hR]; exact Nat.le_of_ble_eq_true rfl) (by rw [hR]; exact Nat.le_of_ble_eq_true rfl) dX6_init_225 ?_
  refine zn_putF (ty := .array .int) hF zEc_a hAa rfl hin tyX6_ok nmX6 38 (by decide) (List.mem_of_getElem? (i := 35) rfl) rfl rfl hnm rfl (by decide +kernel) rfl rfl (Nat.le_of_ble_eq_true rfl) dX6_init_227 ?_
  refine zX_mo (P' := zNp G (a + 29) (zEc G 6 a 29 [.int 0, .ref (a + 1), .ref (a + 2), .ref (a + 3), .ref (a + 4), .ref (a + 5), .ref (a + 6), .ref (a + 7), .ref (a + 8), .ref (a + 9), .ref (a + 10), .ref (a + 11), .ref (a + 12), .ref (a + 13), .ref (a + 14), .ref (a + 15), .ref (a + 16), .ref (a + 17), .ref (a + 18), .ref (a + 19), .ref (a + 20), .ref (a + 21), .ref (a + 22), .ref (a + 23), .ref (a + 24), .int 0, .int 0, .int 0, .int 0, .int 0, .long 0, .int 0, .int 0, .int 0, .int 0, .ref (a + 25), .ref (a + 26), .ref (a + 27), .ref (a + 28), .null, .null, .int 0, .null, .null, .null, .null, .null, .null, .null, .null] m)) ?_ (fun H h => zEc_put h)
  refine zx_aload_n hF.1 0 dX6_init_230 rfl ?_
  refine zx_bipush hF.1 dX6_init_231 (v := 17) (by decide) ?_
  refine zn_row (atype := .int) (t := 1) (d := 29) (kd := 1639) (N := 17) hF rfl (by decide) (by decide) rfl rfl rfl (List.mem_of_getElem? (i := 6) rfl) (zhe_i hm (by decide) rfl) (by decide) (by decide) (Nat.le_of_ble_eq_true rfl) (by rw [hR]; exact Nat.le_of_ble_eq_true rfl) (by rw [hR]; exact Nat.le_of_ble_eq_true rfl) dX6_init_233 ?_
  refine zn_putF (ty := .array .int) hF zEc_a hAa rfl hin tyX6_ok nmX6 39 (by decide) (List.mem_of_getElem? (i := 36) rfl) rfl rfl hnm rfl (by decide +kernel) rfl rfl (Nat.le_of_ble_eq_true rfl) dX6_init_235 ?_
  refine zX_mo (P' := zNp G (a + 30) (zEc G 6 a 30 [.int 0, .ref (a + 1), .ref (a + 2), .ref (a + 3), .ref (a + 4), .ref (a + 5), .ref (a + 6), .ref (a + 7), .ref (a + 8), .ref (a + 9), .ref (a + 10), .ref (a + 11), .ref (a + 12), .ref (a + 13), .ref (a + 14), .ref (a + 15), .ref (a + 16), .ref (a + 17), .ref (a + 18), .ref (a + 19), .ref (a + 20), .ref (a + 21), .ref (a + 22), .ref (a + 23), .ref (a + 24), .int 0, .int 0, .int 0, .int 0, .int 0, .long 0, .int 0, .int 0, .int 0, .int 0, .ref (a + 25), .ref (a + 26), .ref (a + 27), .ref (a + 28), .ref (a + 29), .null, .int 0, .null, .null, .null, .null, .null, .null, .null, .null] m)) ?_ (fun H h => zEc_put h)
  refine zx_aload_n hF.1 0 dX6_init_238 rfl ?_
  refine zx_bipush hF.1 dX6_init_239 (v := 17) (by decide) ?_
  refine zn_row (atype := .int) (t := 1) (d := 30) (kd := 1640) (N := 17) hF rfl (by decide) (by decide) rfl rfl rfl (List.mem_of_getElem? (i := 6) rfl) (zhe_i hm (by decide) rfl) (by decide) (by decide) (Nat.le_of_ble_eq_true rfl) (by rw [hR]; exact Nat.le_of_ble_eq_true rfl) (by rw [hR]; exact Nat.le_of_ble_eq_true rfl) dX6_init_241 ?_
  refine zn_putF (ty := .array .int) hF zEc_a hAa rfl hin tyX6_ok nmX6 40 (by decide) (List.mem_of_getElem? (i := 37) rfl) rfl rfl hnm rfl (by decide +kernel) rfl rfl (Nat.le_of_ble_eq_true rfl) dX6_init_243 ?_
  refine zX_mo (P' := zNp G (a + 31) (zEc G 6 a 31 [.int 0, .ref (a + 1), .ref (a + 2), .ref (a + 3), .ref (a + 4), .ref (a + 5), .ref (a + 6), .ref (a + 7), .ref (a + 8), .ref (a + 9), .ref (a + 10), .ref (a + 11), .ref (a + 12), .ref (a + 13), .ref (a + 14), .ref (a + 15), .ref (a + 16), .ref (a + 17), .ref (a + 18), .ref (a + 19), .ref (a + 20), .ref (a + 21), .ref (a + 22), .ref (a + 23), .ref (a + 24), .int 0, .int 0, .int 0, .int 0, .int 0, .long 0, .int 0, .int 0, .int 0, .int 0, .ref (a + 25), .ref (a + 26), .ref (a + 27), .ref (a + 28), .ref (a + 29), .ref (a + 30), .int 0, .null, .null, .null, .null, .null, .null, .null, .null] m)) ?_ (fun H h => zEc_put h)
  refine zx_aload_n hF.1 0 dX6_init_246 rfl ?_
  refine zx_bipush hF.1 dX6_init_247 (v := 16) (by decide) ?_
  refine zn_row (atype := .int) (t := 1) (d := 31) (kd := 1642) (N := 16) hF rfl (by decide) (by decide) rfl rfl rfl (List.mem_of_getElem? (i := 6) rfl) (zhe_i hm (by decide) rfl) (by decide) (by decide) (Nat.le_of_ble_eq_true rfl) (by rw [hR]; exact Nat.le_of_ble_eq_true rfl) (by rw [hR]; exact Nat.le_of_ble_eq_true rfl) dX6_init_249 ?_
  refine zn_putF (ty := .array .int) hF zEc_a hAa rfl hin tyX6_ok nmX6 42 (by decide) (List.mem_of_getElem? (i := 38) rfl) rfl rfl hnm rfl (by decide +kernel) rfl rfl (Nat.le_of_ble_eq_true rfl) dX6_init_251 ?_
  refine zX_mo (P' := zNp G (a + 32) (zEc G 6 a 32 [.int 0, .ref (a + 1), .ref (a + 2), .ref (a + 3), .ref (a + 4), .ref (a + 5), .ref (a + 6), .ref (a + 7), .ref (a + 8), .ref (a + 9), .ref (a + 10), .ref (a + 11), .ref (a + 12), .ref (a + 13), .ref (a + 14), .ref (a + 15), .ref (a + 16), .ref (a + 17), .ref (a + 18), .ref (a + 19), .ref (a + 20), .ref (a + 21), .ref (a + 22), .ref (a + 23), .ref (a + 24), .int 0, .int 0, .int 0, .int 0, .int 0, .long 0, .int 0, .int 0, .int 0, .int 0, .ref (a + 25), .ref (a + 26), .ref (a + 27), .ref (a + 28), .ref (a + 29), .ref (a + 30), .int 0, .ref (a + 31), .null, .null, .null, .null, .null, .null, .null] m)) ?_ (fun H h => zEc_put h)
  refine zx_aload_n hF.1 0 dX6_init_254 rfl ?_
  refine zx_bipush hF.1 dX6_init_255 (v := 64) (by decide) ?_
  refine zn_row (atype := .int) (t := 1) (d := 32) (kd := 1643) (N := 64) hF rfl (by decide) (by decide) rfl rfl rfl (List.mem_of_getElem? (i := 6) rfl) (zhe_i hm (by decide) rfl) (by decide) (by decide) (Nat.le_of_ble_eq_true rfl) (by rw [hR]; exact Nat.le_of_ble_eq_true rfl) (by rw [hR]; exact Nat.le_of_ble_eq_true rfl) dX6_init_257 ?_
  refine zn_putF (ty := .array .int) hF zEc_a hAa rfl hin tyX6_ok nmX6 43 (by decide) (List.mem_of_getElem? (i := 39) rfl) rfl rfl hnm rfl (by decide +kernel) rfl rfl (Nat.le_of_ble_eq_true rfl) dX6_init_259 ?_
  refine zX_mo (P' := zNp G (a + 33) (zEc G 6 a 33 [.int 0, .ref (a + 1), .ref (a + 2), .ref (a + 3), .ref (a + 4), .ref (a + 5), .ref (a + 6), .ref (a + 7), .ref (a + 8), .ref (a + 9), .ref (a + 10), .ref (a + 11), .ref (a + 12), .ref (a + 13), .ref (a + 14), .ref (a + 15), .ref (a + 16), .ref (a + 17), .ref (a + 18), .ref (a + 19), .ref (a + 20), .ref (a + 21), .ref (a + 22), .ref (a + 23), .ref (a + 24), .int 0, .int 0, .int 0, .int 0, .int 0, .long 0, .int 0, .int 0, .int 0, .int 0, .ref (a + 25), .ref (a + 26), .ref (a + 27), .ref (a + 28), .ref (a + 29), .ref (a + 30), .int 0, .ref (a + 31), .ref (a + 32), .null, .null, .null, .null, .null, .null] m)) ?_ (fun H h => zEc_put h)
  refine zx_aload_n hF.1 0 dX6_init_262 rfl ?_
  refine zx_bipush hF.1 dX6_init_263 (v := 64) (by decide) ?_
  refine zn_row (atype := .int) (t := 1) (d := 33) (kd := 1644) (N := 64) hF rfl (by decide) (by decide) rfl rfl rfl (List.mem_of_getElem? (i := 6) rfl) (zhe_i hm (by decide) rfl) (by decide) (by decide) (Nat.le_of_ble_eq_true rfl) (by rw [hR]; exact Nat.le_of_ble_eq_true rfl) (by rw [hR]; exact Nat.le_of_ble_eq_true rfl) dX6_init_265 ?_
  refine zn_putF (ty := .array .int) hF zEc_a hAa rfl hin tyX6_ok nmX6 44 (by decide) (List.mem_of_getElem? (i := 40) rfl) rfl rfl hnm rfl (by decide +kernel) rfl rfl (Nat.le_of_ble_eq_true rfl) dX6_init_267 ?_
  refine zX_mo (P' := zNp G (a + 34) (zEc G 6 a 34 [.int 0, .ref (a + 1), .ref (a + 2), .ref (a + 3), .ref (a + 4), .ref (a + 5), .ref (a + 6), .ref (a + 7), .ref (a + 8), .ref (a + 9), .ref (a + 10), .ref (a + 11), .ref (a + 12), .ref (a + 13), .ref (a + 14), .ref (a + 15), .ref (a + 16), .ref (a + 17), .ref (a + 18), .ref (a + 19), .ref (a + 20), .ref (a + 21), .ref (a + 22), .ref (a + 23), .ref (a + 24), .int 0, .int 0, .int 0, .int 0, .int 0, .long 0, .int 0, .int 0, .int 0, .int 0, .ref (a + 25), .ref (a + 26), .ref (a + 27), .ref (a + 28), .ref (a + 29), .ref (a + 30), .int 0, .ref (a + 31), .ref (a + 32), .ref (a + 33), .null, .null, .null, .null, .null] m)) ?_ (fun H h => zEc_put h)
  refine zx_aload_n hF.1 0 dX6_init_270 rfl ?_
  refine zx_bipush hF.1 dX6_init_271 (v := 64) (by decide) ?_
  refine zn_row (atype := .int) (t := 1) (d := 34) (kd := 1645) (N := 64) hF rfl (by decide) (by decide) rfl rfl rfl (List.mem_of_getElem? (i := 6) rfl) (zhe_i hm (by decide) rfl) (by decide) (by decide) (Nat.le_of_ble_eq_true rfl) (by rw [hR]; exact Nat.le_of_ble_eq_true rfl) (by rw [hR]; exact Nat.le_of_ble_eq_true rfl) dX6_init_273 ?_
  refine zn_putF (ty := .array .int) hF zEc_a hAa rfl hin tyX6_ok nmX6 45 (by decide) (List.mem_of_getElem? (i := 41) rfl) rfl rfl hnm rfl (by decide +kernel) rfl rfl (Nat.le_of_ble_eq_true rfl) dX6_init_275 ?_
  refine zX_mo (P' := zNp G (a + 35) (zEc G 6 a 35 [.int 0, .ref (a + 1), .ref (a + 2), .ref (a + 3), .ref (a + 4), .ref (a + 5), .ref (a + 6), .ref (a + 7), .ref (a + 8), .ref (a + 9), .ref (a + 10), .ref (a + 11), .ref (a + 12), .ref (a + 13), .ref (a + 14), .ref (a + 15), .ref (a + 16), .ref (a + 17), .ref (a + 18), .ref (a + 19), .ref (a + 20), .ref (a + 21), .ref (a + 22), .ref (a + 23), .ref (a + 24), .int 0, .int 0, .int 0, .int 0, .int 0, .long 0, .int 0, .int 0, .int 0, .int 0, .ref (a + 25), .ref (a + 26), .ref (a + 27), .ref (a + 28), .ref (a + 29), .ref (a + 30), .int 0, .ref (a + 31), .ref (a + 32), .ref (a + 33), .ref (a + 34), .null, .null, .null, .null] m)) ?_ (fun H h => zEc_put h)
  refine zx_aload_n hF.1 0 dX6_init_278 rfl ?_
  refine zx_bipush hF.1 dX6_init_279 (v := 16) (by decide) ?_
  refine zn_row (atype := .int) (t := 1) (d := 35) (kd := 1646) (N := 16) hF rfl (by decide) (by decide) rfl rfl rfl (List.mem_of_getElem? (i := 6) rfl) (zhe_i hm (by decide) rfl) (by decide) (by decide) (Nat.le_of_ble_eq_true rfl) (by rw [hR]; exact Nat.le_of_ble_eq_true rfl) (by rw [hR]; exact Nat.le_of_ble_eq_true rfl) dX6_init_281 ?_
  refine zn_putF (ty := .array .int) hF zEc_a hAa rfl hin tyX6_ok nmX6 46 (by decide) (List.mem_of_getElem? (i := 42) rfl) rfl rfl hnm rfl (by decide +kernel) rfl rfl (Nat.le_of_ble_eq_true rfl) dX6_init_283 ?_
  refine zX_mo (P' := zNp G (a + 36) (zEc G 6 a 36 [.int 0, .ref (a + 1), .ref (a + 2), .ref (a + 3), .ref (a + 4), .ref (a + 5), .ref (a + 6), .ref (a + 7), .ref (a + 8), .ref (a + 9), .ref (a + 10), .ref (a + 11), .ref (a + 12), .ref (a + 13), .ref (a + 14), .ref (a + 15), .ref (a + 16), .ref (a + 17), .ref (a + 18), .ref (a + 19), .ref (a + 20), .ref (a + 21), .ref (a + 22), .ref (a + 23), .ref (a + 24), .int 0, .int 0, .int 0, .int 0, .int 0, .long 0, .int 0, .int 0, .int 0, .int 0, .ref (a + 25), .ref (a + 26), .ref (a + 27), .ref (a + 28), .ref (a + 29), .ref (a + 30), .int 0, .ref (a + 31), .ref (a + 32), .ref (a + 33), .ref (a + 34), .ref (a + 35), .null, .null, .null] m)) ?_ (fun H h => zEc_put h)
  refine zx_aload_n hF.1 0 dX6_init_286 rfl ?_
  refine zx_bipush hF.1 dX6_init_287 (v := 16) (by decide) ?_
  refine zn_row (atype := .int) (t := 1) (d := 36) (kd := 1647) (N := 16) hF rfl (by decide) (by decide) rfl rfl rfl (List.mem_of_getElem? (i := 6) rfl) (zhe_i hm (by decide) rfl) (by decide) (by decide) (Nat.le_of_ble_eq_true rfl) (by rw [hR]; exact Nat.le_of_ble_eq_true rfl) (by rw [hR]; exact Nat.le_of_ble_eq_true rfl) dX6_init_289 ?_
  refine zn_putF (ty := .array .int) hF zEc_a hAa rfl hin tyX6_ok nmX6 47 (by decide) (List.mem_of_getElem? (i := 43) rfl) rfl rfl hnm rfl (by decide +kernel) rfl rfl (Nat.le_of_ble_eq_true rfl) dX6_init_291 ?_
  refine zX_mo (P' := zNp G (a + 37) (zEc G 6 a 37 [.int 0, .ref (a + 1), .ref (a + 2), .ref (a + 3), .ref (a + 4), .ref (a + 5), .ref (a + 6), .ref (a + 7), .ref (a + 8), .ref (a + 9), .ref (a + 10), .ref (a + 11), .ref (a + 12), .ref (a + 13), .ref (a + 14), .ref (a + 15), .ref (a + 16), .ref (a + 17), .ref (a + 18), .ref (a + 19), .ref (a + 20), .ref (a + 21), .ref (a + 22), .ref (a + 23), .ref (a + 24), .int 0, .int 0, .int 0, .int 0, .int 0, .long 0, .int 0, .int 0, .int 0, .int 0, .ref (a + 25), .ref (a + 26), .ref (a + 27), .ref (a + 28), .ref (a + 29), .ref (a + 30), .int 0, .ref (a + 31), .ref (a + 32), .ref (a + 33), .ref (a + 34), .ref (a + 35), .ref (a + 36), .null, .null] m)) ?_ (fun H h => zEc_put h)
  refine zx_aload_n hF.1 0 dX6_init_294 rfl ?_
  refine zx_bipush hF.1 dX6_init_295 (v := 16) (by decide) ?_
  refine zn_row (atype := .long) (t := 2) (d := 37) (kd := 1648) (N := 16) hF rfl (by decide) (by decide) rfl rfl rfl (List.mem_of_getElem? (i := 10) rfl) (zhe_j hm rfl rfl) (by decide) (by decide) (Nat.le_of_ble_eq_true rfl) (by rw [hR]; exact Nat.le_of_ble_eq_true rfl) (by rw [hR]; exact Nat.le_of_ble_eq_true rfl) dX6_init_297 ?_
  refine zn_putF (ty := .array .long) hF zEc_a hAa rfl hin tyX6_ok nmX6 48 (by decide) (List.mem_of_getElem? (i := 44) rfl) rfl rfl hnm rfl (by decide +kernel) rfl rfl (Nat.le_of_ble_eq_true rfl) dX6_init_299 ?_
  refine zX_mo (P' := zNp G (a + 38) (zEc G 6 a 38 [.int 0, .ref (a + 1), .ref (a + 2), .ref (a + 3), .ref (a + 4), .ref (a + 5), .ref (a + 6), .ref (a + 7), .ref (a + 8), .ref (a + 9), .ref (a + 10), .ref (a + 11), .ref (a + 12), .ref (a + 13), .ref (a + 14), .ref (a + 15), .ref (a + 16), .ref (a + 17), .ref (a + 18), .ref (a + 19), .ref (a + 20), .ref (a + 21), .ref (a + 22), .ref (a + 23), .ref (a + 24), .int 0, .int 0, .int 0, .int 0, .int 0, .long 0, .int 0, .int 0, .int 0, .int 0, .ref (a + 25), .ref (a + 26), .ref (a + 27), .ref (a + 28), .ref (a + 29), .ref (a + 30), .int 0, .ref (a + 31), .ref (a + 32), .ref (a + 33), .ref (a + 34), .ref (a + 35), .ref (a + 36), .ref (a + 37), .null] m)) ?_ (fun H h => zEc_put h)
  refine zx_aload_n hF.1 0 dX6_init_302 rfl ?_
  refine zx_iconst hF.1 dX6_init_303 (v := 3) (by decide) ?_
  refine zn_row (atype := .boolean) (t := 3) (d := 38) (kd := 1649) (N := 3) hF rfl (by decide) (by decide) rfl rfl rfl (List.mem_of_getElem? (i := 14) rfl) (zhe_i hm (by decide) rfl) (by decide) (by decide) (Nat.le_of_ble_eq_true rfl) (by rw [hR]; exact Nat.le_of_ble_eq_true rfl) (by rw [hR]; exact Nat.le_of_ble_eq_true rfl) dX6_init_304 ?_
  refine zn_putF (ty := .array .boolean) hF zEc_a hAa rfl hin tyX6_ok nmX6 49 (by decide) (List.mem_of_getElem? (i := 45) rfl) rfl rfl hnm rfl (by decide +kernel) rfl rfl (Nat.le_of_ble_eq_true rfl) dX6_init_306 ?_
  refine zX_mo (P' := zNp G (a + 39) (zEc G 6 a 39 [.int 0, .ref (a + 1), .ref (a + 2), .ref (a + 3), .ref (a + 4), .ref (a + 5), .ref (a + 6), .ref (a + 7), .ref (a + 8), .ref (a + 9), .ref (a + 10), .ref (a + 11), .ref (a + 12), .ref (a + 13), .ref (a + 14), .ref (a + 15), .ref (a + 16), .ref (a + 17), .ref (a + 18), .ref (a + 19), .ref (a + 20), .ref (a + 21), .ref (a + 22), .ref (a + 23), .ref (a + 24), .int 0, .int 0, .int 0, .int 0, .int 0, .long 0, .int 0, .int 0, .int 0, .int 0, .ref (a + 25), .ref (a + 26), .ref (a + 27), .ref (a + 28), .ref (a + 29), .ref (a + 30), .int 0, .ref (a + 31), .ref (a + 32), .ref (a + 33), .ref (a + 34), .ref (a + 35), .ref (a + 36), .ref (a + 37), .ref (a + 38)] m)) ?_ (fun H h => zEc_put h)
  refine zx_aload_n hF.1 0 dX6_init_309 rfl ?_
  refine zn_get hF zEc_a rfl hin 5 (by decide) (List.mem_of_getElem? (i := 11) rfl) rfl (v := .ref (a + 5)) rfl dX6_init_310 ?_
  refine zx_iconst hF.1 dX6_init_313 (v := 0) (by decide) ?_
  refine zx_ldc2 hF.1 (v := 1000) (List.mem_of_getElem? (i := 46) rfl) dX6_init_314 ?_
  refine zn_last (N := 4) (g := zJ m 1605 a) hF (zEc_i (kd := 1605) (by decide) (by decide) rfl) (by rw [hA]; exact Nat.le_add_right _ _) (by unfold vp_in; decide) dX6_init_317 ?_
  refine zx_aload_n hF.1 0 dX6_init_318 rfl ?_
  refine zn_get hF ((zEu_n (by omega)).trans zEc_a) rfl hin 4 (by decide) (List.mem_of_getElem? (i := 9) rfl) rfl (v := .ref (a + 4)) rfl dX6_init_319 ?_
  refine zx_iconst hF.1 dX6_init_322 (v := 0) (by decide) ?_
  refine zx_iconst hF.1 dX6_init_323 (v := -1) (by decide) ?_
  refine zn_iast (N := 4) (g := zI m 1604 a) hF ((zEu_n (by omega)).trans (zEc_i (kd := 1604) (by decide) (by decide) rfl)) (by rw [hA]; exact Nat.le_add_right _ _) (by unfold vp_in; decide) dX6_init_324 ?_
  exact zx_vretN hF.1 hQ dX6_init_325 (fun t hP hFr hW => ⟨⟨(), rfl, trivial, zF6_end (hf6 hm) hP⟩, by rw [← hA]; exact hFr⟩)
