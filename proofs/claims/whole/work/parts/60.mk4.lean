/-! makers: Grid, Purse -/
def rm_X2_init : Room := { frames := 1, cells := 7, slots := 304, locals := 20 }
set_option maxRecDepth 100000 in
set_option maxHeartbeats 4000000 in
theorem C_X2_init {l : Launch} {G : zG} : Con_ini l G yX2_init wsX2_init rm_X2_init 2 7 304 (fun m _ => m) := by
  intro a m hb hm
  refine zMetN (P := zNp G (a + 1) (zEc G 2 a 1 [.int 0, .null, .null, .null, .null, .null, .null, .null] m)) (G := G) (cc := cX2_init) (maxL := 1) (ret := none) (by decide +kernel) rfl (Nat.le_of_ble_eq_true rfl) (fun q h => Nat.le_trans hb h) (fun U h => ⟨zEc_0 h.1, h.2⟩) (fun C hF hQ hA hR hl hnm => ?_)
  have hin : ∀ w ∈ u_ws RX2 TX2 8, w ∈ wsX2_init := fun w h => List.mem_cons_of_mem _ (List.mem_append_right _ h)
  have hAa : zA C a := by rw [hA]; exact Nat.le_refl a
  show zX C 1 0 0 0 [(0, .ref a)] [] _
  refine zx_aload_n hF.1 0 dX2_init_0 rfl ?_
  refine zx_obj hF.1 (List.mem_of_getElem? (i := 1) rfl) (List.mem_of_getElem? (i := 2) rfl) (List.mem_of_getElem? (i := 3) rfl) (by rw [hR]; exact Nat.le_of_ble_eq_true rfl) (by rw [hR]; exact Nat.le_of_ble_eq_true rfl) dX2_init_1 ?_
  refine zx_aload_n hF.1 0 dX2_init_4 rfl ?_
  refine zx_bipush hF.1 dX2_init_5 (v := 16) (by decide) ?_
  refine zn_row (atype := .int) (t := 1) (d := 1) (kd := 1201) (N := 16) hF rfl (by decide) (by decide) rfl rfl rfl (List.mem_of_getElem? (i := 4) rfl) (zhe_i hm (by decide) rfl) (by decide) (by decide) (Nat.le_of_ble_eq_true rfl) (by rw [hR]; exact Nat.le_of_ble_eq_true rfl) (by rw [hR]; exact Nat.le_of_ble_eq_true rfl) dX2_init_7 ?_
  refine zn_putF (ty := .array .int) hF zEc_a hAa rfl hin tyX2_ok nmX2 1 (by decide) (List.mem_of_getElem? (i := 5) rfl) rfl rfl hnm rfl (by decide +kernel) rfl rfl (Nat.le_of_ble_eq_true rfl) dX2_init_9 ?_
  refine zX_mo (P' := zNp G (a + 2) (zEc G 2 a 2 [.int 0, .ref (a + 1), .null, .null, .null, .null, .null, .null] m)) ?_ (fun H h => zEc_put h)
  refine zx_aload_n hF.1 0 dX2_init_12 rfl ?_
  refine zx_bipush hF.1 dX2_init_13 (v := 16) (by decide) ?_
  refine zn_row (atype := .int) (t := 1) (d := 2) (kd := 1202) (N := 16) hF rfl (by decide) (by decide) rfl rfl rfl (List.mem_of_getElem? (i := 4) rfl) (zhe_i hm (by decide) rfl) (by decide) (by decide) (Nat.le_of_ble_eq_true rfl) (by rw [hR]; exact Nat.le_of_ble_eq_true rfl) (by rw [hR]; exact Nat.le_of_ble_eq_true rfl) dX2_init_15 ?_
  refine zn_putF (ty := .array .int) hF zEc_a hAa rfl hin tyX2_ok nmX2 2 (by decide) (List.mem_of_getElem? (i := 6) rfl) rfl rfl hnm rfl (by decide +kernel) rfl rfl (Nat.le_of_ble_eq_true rfl) dX2_init_17 ?_
  refine zX_mo (P' := zNp G (a + 3) (zEc G 2 a 3 [.int 0, .ref (a + 1), .ref (a + 2), .null, .null, .null, .null, .null] m)) ?_ (fun H h => zEc_put h)
  refine zx_aload_n hF.1 0 dX2_init_20 rfl ?_
  refine zx_bipush hF.1 dX2_init_21 (v := 16) (by decide) ?_
  refine zn_row (atype := .int) (t := 1) (d := 3) (kd := 1203) (N := 16) hF rfl (by decide) (by decide) rfl rfl rfl (List.mem_of_getElem? (i := 4) rfl) (zhe_i hm (by decide) rfl) (by decide) (by decide) (Nat.le_of_ble_eq_true rfl) (by rw [hR]; exact Nat.le_of_ble_eq_true rfl) (by rw [hR]; exact Nat.le_of_ble_eq_true rfl) dX2_init_23 ?_
  refine zn_putF (ty := .array .int) hF zEc_a hAa rfl hin tyX2_ok nmX2 3 (by decide) (List.mem_of_getElem? (i := 7) rfl) rfl rfl hnm rfl (by decide +kernel) rfl rfl (Nat.le_of_ble_eq_true rfl) dX2_init_25 ?_
  refine zX_mo (P' := zNp G (a + 4) (zEc G 2 a 4 [.int 0, .ref (a + 1), .ref (a + 2), .ref (a + 3), .null, .null, .null, .null] m)) ?_ (fun H h => zEc_put h)
  refine zx_aload_n hF.1 0 dX2_init_28 rfl ?_
  refine zx_bipush hF.1 dX2_init_29 (v := 64) (by decide) ?_
  refine zn_row (atype := .int) (t := 1) (d := 4) (kd := 1204) (N := 64) hF rfl (by decide) (by decide) rfl rfl rfl (List.mem_of_getElem? (i := 4) rfl) (zhe_i hm (by decide) rfl) (by decide) (by decide) (Nat.le_of_ble_eq_true rfl) (by rw [hR]; exact Nat.le_of_ble_eq_true rfl) (by rw [hR]; exact Nat.le_of_ble_eq_true rfl) dX2_init_31 ?_
  refine zn_putF (ty := .array .int) hF zEc_a hAa rfl hin tyX2_ok nmX2 4 (by decide) (List.mem_of_getElem? (i := 8) rfl) rfl rfl hnm rfl (by decide +kernel) rfl rfl (Nat.le_of_ble_eq_true rfl) dX2_init_33 ?_
  refine zX_mo (P' := zNp G (a + 5) (zEc G 2 a 5 [.int 0, .ref (a + 1), .ref (a + 2), .ref (a + 3), .ref (a + 4), .null, .null, .null] m)) ?_ (fun H h => zEc_put h)
  refine zx_aload_n hF.1 0 dX2_init_36 rfl ?_
  refine zx_bipush hF.1 dX2_init_37 (v := 64) (by decide) ?_
  refine zn_row (atype := .int) (t := 1) (d := 5) (kd := 1205) (N := 64) hF rfl (by decide) (by decide) rfl rfl rfl (List.mem_of_getElem? (i := 4) rfl) (zhe_i hm (by decide) rfl) (by decide) (by decide) (Nat.le_of_ble_eq_true rfl) (by rw [hR]; exact Nat.le_of_ble_eq_true rfl) (by rw [hR]; exact Nat.le_of_ble_eq_true rfl) dX2_init_39 ?_
  refine zn_putF (ty := .array .int) hF zEc_a hAa rfl hin tyX2_ok nmX2 5 (by decide) (List.mem_of_getElem? (i := 9) rfl) rfl rfl hnm rfl (by decide +kernel) rfl rfl (Nat.le_of_ble_eq_true rfl) dX2_init_41 ?_
  refine zX_mo (P' := zNp G (a + 6) (zEc G 2 a 6 [.int 0, .ref (a + 1), .ref (a + 2), .ref (a + 3), .ref (a + 4), .ref (a + 5), .null, .null] m)) ?_ (fun H h => zEc_put h)
  refine zx_aload_n hF.1 0 dX2_init_44 rfl ?_
  refine zx_bipush hF.1 dX2_init_45 (v := 64) (by decide) ?_
  refine zn_row (atype := .int) (t := 1) (d := 6) (kd := 1206) (N := 64) hF rfl (by decide) (by decide) rfl rfl rfl (List.mem_of_getElem? (i := 4) rfl) (zhe_i hm (by decide) rfl) (by decide) (by decide) (Nat.le_of_ble_eq_true rfl) (by rw [hR]; exact Nat.le_of_ble_eq_true rfl) (by rw [hR]; exact Nat.le_of_ble_eq_true rfl) dX2_init_47 ?_
  refine zn_putF (ty := .array .int) hF zEc_a hAa rfl hin tyX2_ok nmX2 6 (by decide) (List.mem_of_getElem? (i := 10) rfl) rfl rfl hnm rfl (by decide +kernel) rfl rfl (Nat.le_of_ble_eq_true rfl) dX2_init_49 ?_
  refine zX_mo (P' := zNp G (a + 7) (zEc G 2 a 7 [.int 0, .ref (a + 1), .ref (a + 2), .ref (a + 3), .ref (a + 4), .ref (a + 5), .ref (a + 6), .null] m)) ?_ (fun H h => zEc_put h)
  refine zx_aload_n hF.1 0 dX2_init_52 rfl ?_
  refine zx_bipush hF.1 dX2_init_53 (v := 64) (by decide) ?_
  refine zn_row (atype := .boolean) (t := 3) (d := 7) (kd := 1207) (N := 64) hF rfl (by decide) (by decide) rfl rfl rfl (List.mem_of_getElem? (i := 11) rfl) (zhe_i hm (by decide) rfl) (by decide) (by decide) (Nat.le_of_ble_eq_true rfl) (by rw [hR]; exact Nat.le_of_ble_eq_true rfl) (by rw [hR]; exact Nat.le_of_ble_eq_true rfl) dX2_init_55 ?_
  refine zn_putF (ty := .array .boolean) hF zEc_a hAa rfl hin tyX2_ok nmX2 7 (by decide) (List.mem_of_getElem? (i := 12) rfl) rfl rfl hnm rfl (by decide +kernel) rfl rfl (Nat.le_of_ble_eq_true rfl) dX2_init_57 ?_
  refine zX_mo (P' := zNp G (a + 8) (zEc G 2 a 8 [.int 0, .ref (a + 1), .ref (a + 2), .ref (a + 3), .ref (a + 4), .ref (a + 5), .ref (a + 6), .ref (a + 7)] m)) ?_ (fun H h => zEc_put h)
  exact zx_vretN hF.1 hQ dX2_init_60 (fun t hP hFr hW => ⟨⟨(), rfl, trivial, zEc_end (by decide) rfl (by show _ = zfs2 a m; unfold zfs2; rw [((hm a (Nat.le_refl a)).1 200 0).1]; rfl) hP⟩, by rw [← hA]; exact hFr⟩)
def rm_X3_init : Room := { frames := 1, cells := 5, slots := 20, locals := 20 }
set_option maxRecDepth 100000 in
set_option maxHeartbeats 4000000 in
theorem C_X3_init {l : Launch} {G : zG} : Con_ini l G yX3_init wsX3_init rm_X3_init 3 5 20 (fun m _ => m) := by
  intro a m hb hm
  refine zMetN (P := zNp G (a + 1) (zEc G 3 a 1 [.int 0, .int 0, .int 0, .long 0, .long 0, .long 0, .null, .null, .null, .null, .null] m)) (G := G) (cc := cX3_init) (maxL := 1) (ret := none) (by decide +kernel) rfl (Nat.le_of_ble_eq_true rfl) (fun q h => Nat.le_trans hb h) (fun U h => ⟨zEc_0 h.1, h.2⟩) (fun C hF hQ hA hR hl hnm => ?_)
  have hin : ∀ w ∈ u_ws RX3 TX3 11, w ∈ wsX3_init := fun w h => List.mem_cons_of_mem _ (List.mem_append_right _ h)
  have hAa : zA C a := by rw [hA]; exact Nat.le_refl a
  show zX C 1 0 0 0 [(0, .ref a)] [] _
  refine zx_aload_n hF.1 0 dX3_init_0 rfl ?_
  refine zx_obj hF.1 (List.mem_of_getElem? (i := 1) rfl) (List.mem_of_getElem? (i := 2) rfl) (List.mem_of_getElem? (i := 3) rfl) (by rw [hR]; exact Nat.le_of_ble_eq_true rfl) (by rw [hR]; exact Nat.le_of_ble_eq_true rfl) dX3_init_1 ?_
  refine zx_aload_n hF.1 0 dX3_init_4 rfl ?_
  refine zx_iconst hF.1 dX3_init_5 (v := 4) (by decide) ?_
  refine zn_row (atype := .int) (t := 1) (d := 1) (kd := 1306) (N := 4) hF rfl (by decide) (by decide) rfl rfl rfl (List.mem_of_getElem? (i := 4) rfl) (zhe_i hm (by decide) rfl) (by decide) (by decide) (Nat.le_of_ble_eq_true rfl) (by rw [hR]; exact Nat.le_of_ble_eq_true rfl) (by rw [hR]; exact Nat.le_of_ble_eq_true rfl) dX3_init_6 ?_
  refine zn_putF (ty := .array .int) hF zEc_a hAa rfl hin tyX3_ok nmX3 6 (by decide) (List.mem_of_getElem? (i := 5) rfl) rfl rfl hnm rfl (by decide +kernel) rfl rfl (Nat.le_of_ble_eq_true rfl) dX3_init_8 ?_
  refine zX_mo (P' := zNp G (a + 2) (zEc G 3 a 2 [.int 0, .int 0, .int 0, .long 0, .long 0, .long 0, .ref (a + 1), .null, .null, .null, .null] m)) ?_ (fun H h => zEc_put h)
  refine zx_aload_n hF.1 0 dX3_init_11 rfl ?_
  refine zx_iconst hF.1 dX3_init_12 (v := 4) (by decide) ?_
  refine zn_row (atype := .long) (t := 2) (d := 2) (kd := 1307) (N := 4) hF rfl (by decide) (by decide) rfl rfl rfl (List.mem_of_getElem? (i := 6) rfl) (zhe_j hm rfl rfl) (by decide) (by decide) (Nat.le_of_ble_eq_true rfl) (by rw [hR]; exact Nat.le_of_ble_eq_true rfl) (by rw [hR]; exact Nat.le_of_ble_eq_true rfl) dX3_init_13 ?_
  refine zn_putF (ty := .array .long) hF zEc_a hAa rfl hin tyX3_ok nmX3 7 (by decide) (List.mem_of_getElem? (i := 7) rfl) rfl rfl hnm rfl (by decide +kernel) rfl rfl (Nat.le_of_ble_eq_true rfl) dX3_init_15 ?_
  refine zX_mo (P' := zNp G (a + 3) (zEc G 3 a 3 [.int 0, .int 0, .int 0, .long 0, .long 0, .long 0, .ref (a + 1), .ref (a + 2), .null, .null, .null] m)) ?_ (fun H h => zEc_put h)
  refine zx_aload_n hF.1 0 dX3_init_18 rfl ?_
  refine zx_iconst hF.1 dX3_init_19 (v := 4) (by decide) ?_
  refine zn_row (atype := .long) (t := 2) (d := 3) (kd := 1308) (N := 4) hF rfl (by decide) (by decide) rfl rfl rfl (List.mem_of_getElem? (i := 6) rfl) (zhe_j hm rfl rfl) (by decide) (by decide) (Nat.le_of_ble_eq_true rfl) (by rw [hR]; exact Nat.le_of_ble_eq_true rfl) (by rw [hR]; exact Nat.le_of_ble_eq_true rfl) dX3_init_20 ?_
  refine zn_putF (ty := .array .long) hF zEc_a hAa rfl hin tyX3_ok nmX3 8 (by decide) (List.mem_of_getElem? (i := 8) rfl) rfl rfl hnm rfl (by decide +kernel) rfl rfl (Nat.le_of_ble_eq_true rfl) dX3_init_22 ?_
  refine zX_mo (P' := zNp G (a + 4) (zEc G 3 a 4 [.int 0, .int 0, .int 0, .long 0, .long 0, .long 0, .ref (a + 1), .ref (a + 2), .ref (a + 3), .null, .null] m)) ?_ (fun H h => zEc_put h)
  refine zx_aload_n hF.1 0 dX3_init_25 rfl ?_
  refine zx_iconst hF.1 dX3_init_26 (v := 4) (by decide) ?_
  refine zn_row (atype := .int) (t := 1) (d := 4) (kd := 1309) (N := 4) hF rfl (by decide) (by decide) rfl rfl rfl (List.mem_of_getElem? (i := 4) rfl) (zhe_i hm (by decide) rfl) (by decide) (by decide) (Nat.le_of_ble_eq_true rfl) (by rw [hR]; exact Nat.le_of_ble_eq_true rfl) (by rw [hR]; exact Nat.le_of_ble_eq_true rfl) dX3_init_27 ?_
  refine zn_putF (ty := .array .int) hF zEc_a hAa rfl hin tyX3_ok nmX3 9 (by decide) (List.mem_of_getElem? (i := 9) rfl) rfl rfl hnm rfl (by decide +kernel) rfl rfl (Nat.le_of_ble_eq_true rfl) dX3_init_29 ?_
  refine zX_mo (P' := zNp G (a + 5) (zEc G 3 a 5 [.int 0, .int 0, .int 0, .long 0, .long 0, .long 0, .ref (a + 1), .ref (a + 2), .ref (a + 3), .ref (a + 4), .null] m)) ?_ (fun H h => zEc_put h)
  refine zx_aload_n hF.1 0 dX3_init_32 rfl ?_
  refine zx_iconst hF.1 dX3_init_33 (v := 4) (by decide) ?_
  refine zn_row (atype := .long) (t := 2) (d := 5) (kd := 1310) (N := 4) hF rfl (by decide) (by decide) rfl rfl rfl (List.mem_of_getElem? (i := 6) rfl) (zhe_j hm rfl rfl) (by decide) (by decide) (Nat.le_of_ble_eq_true rfl) (by rw [hR]; exact Nat.le_of_ble_eq_true rfl) (by rw [hR]; exact Nat.le_of_ble_eq_true rfl) dX3_init_34 ?_
  refine zn_putF (ty := .array .long) hF zEc_a hAa rfl hin tyX3_ok nmX3 10 (by decide) (List.mem_of_getElem? (i := 10) rfl) rfl rfl hnm rfl (by decide +kernel) rfl rfl (Nat.le_of_ble_eq_true rfl) dX3_init_36 ?_
  refine zX_mo (P' := zNp G (a + 6) (zEc G 3 a 6 [.int 0, .int 0, .int 0, .long 0, .long 0, .long 0, .ref (a + 1), .ref (a + 2), .ref (a + 3), .ref (a + 4), .ref (a + 5)] m)) ?_ (fun H h => zEc_put h)
  exact zx_vretN hF.1 hQ dX3_init_39 (fun t hP hFr hW => ⟨⟨(), rfl, trivial, zEc_end (by decide) rfl (by show _ = zfs3 a m; unfold zfs3; rw [((hm a (Nat.le_refl a)).1 300 0).1, ((hm a (Nat.le_refl a)).1 301 0).1, ((hm a (Nat.le_refl a)).1 302 0).1, ((hm a (Nat.le_refl a)).1 303 0).2.1, ((hm a (Nat.le_refl a)).1 304 0).2.1, ((hm a (Nat.le_refl a)).1 305 0).2.1]; rfl) hP⟩, by rw [← hA]; exact hFr⟩)
