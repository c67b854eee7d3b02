/-! makers: Claim, Book, ClaimsFund -/
def rm_X1_init : Room := { frames := 2, cells := 6, slots := 31, locals := 40 }
set_option maxRecDepth 100000 in
set_option maxHeartbeats 4000000 in
theorem C_X1_init {l : Launch} {G : zG} : Con_ini l G yX1_init wsX1_init rm_X1_init 1 6 31 (fun m _ => m) := by
  intro a m hb hm
  refine zMetN (P := zNp G (a + 1) (zEc G 1 a 1 (zdf 1) m)) (G := G) (cc := cX1_init) (maxL := 1) (ret := none) (by decide +kernel) rfl (Nat.le_of_ble_eq_true rfl) (fun q h => Nat.le_trans hb h) (fun U h => ⟨zEc_0 h.1, h.2⟩) (fun C hF hQ hA hR hl hnm => ?_)
  have hin1 : ∀ w ∈ u_ws RX1 TX1 9, w ∈ wsX1_init := fun w h => List.mem_cons_of_mem _ (List.mem_append_left _ (List.mem_append_right _ h))
  have hin3 : ∀ w ∈ u_ws RX3 TX3 11, w ∈ wsX1_init := fun w h => List.mem_cons_of_mem _ (List.mem_append_right _ h)
  have hAa : zA C a := by rw [hA]; exact Nat.le_refl a
  have hts := hF.1.2.2.2.2
  show zX C 1 0 0 0 [(0, .ref a)] [] _
  refine zx_aload_n hF.1 0 dX1_init_0 rfl ?_
  refine zx_obj hF.1 (List.mem_of_getElem? (i := 1) rfl) (List.mem_of_getElem? (i := 2) rfl) (List.mem_of_getElem? (i := 3) rfl) (by rw [hR]; exact Nat.le_of_ble_eq_true rfl) (by rw [hR]; exact Nat.le_of_ble_eq_true rfl) dX1_init_1 ?_
  refine zx_aload_n hF.1 0 dX1_init_4 rfl ?_
  refine zx_iconst hF.1 dX1_init_5 (v := 3) (by decide) ?_
  refine zn_put (ty := .int) hF zEc_a hAa rfl hin1 tyX1_ok nmX1 5 (by decide) (List.mem_of_getElem? (i := 4) rfl) rfl rfl (by decide +kernel) rfl rfl (Nat.le_of_ble_eq_true rfl) dX1_init_6 ?_
  refine zX_mo (P' := zNp G (a + 1) (zEc G 1 a 1 [.int 0, .int 0, .int 0, .int 0, .int 0, .int 3, .int 0, .int 0, .null] m)) ?_ (fun H h => zEc_put h)
  refine zx_aload_n hF.1 0 dX1_init_9 rfl ?_
  refine zn_new (ci := 3) (fs := zdf 3) hF rfl hin3 tyX3_ok (List.mem_of_getElem? (i := 5) rfl) (List.mem_of_getElem? (i := 6) rfl) (List.mem_of_getElem? (i := 7) rfl) zdf_3 (by rw [hR]; exact Nat.le_of_ble_eq_true rfl) (by rw [hR]; exact Nat.le_of_ble_eq_true rfl) dX1_init_10 ?_
  refine zx_dup hF.1 dX1_init_13 rfl ?_
  refine zn_callN (host := "ClaimsFund") (bytes := cX3_init) (maxL := 1) (m := m) hF C_X3_init ⟨va_cnB 0 hts gX1_init_X3_init_n17 rfl rfl rfl hF.2.2.2.2.2.1 (hts _ (List.mem_of_getElem? (i := 7) rfl)) (by decide +kernel) (by rw [hR]; exact ⟨Nat.le_of_ble_eq_true rfl, Nat.le_of_ble_eq_true rfl⟩), rfl, hts _ (List.mem_of_getElem? (i := 9) rfl)⟩ (Nat.le_trans hb (Nat.le_add_right _ _)) (zIni_mo hm (Nat.le_add_right _ _)) (fun q h => by rw [hA]; exact Nat.le_trans (Nat.le_add_right _ _) h) zEu_e dX1_init_14 (Nat.le_of_ble_eq_true rfl) (by rw [hR]; exact ⟨Nat.le_of_ble_eq_true rfl, Nat.le_of_ble_eq_true rfl⟩) ?_
  refine zX_mo (P' := zNp G (a + 7) (zEc G 1 a 7 [.int 0, .int 0, .int 0, .int 0, .int 0, .int 3, .int 0, .int 0, .null] m)) ?_ (fun H h => zEc_sub (c2 := 3) (d := 1) (by decide) (by decide) (by decide +kernel) (fun q hq => zEu_n (by omega)) h)
  refine zn_putF (ty := .object "ClaimsFund$Purse") hF zEc_a hAa rfl hin1 tyX1_ok nmX1 8 (by decide) (List.mem_of_getElem? (i := 8) rfl) rfl rfl hnm rfl (by decide +kernel) rfl rfl (Nat.le_of_ble_eq_true rfl) dX1_init_17 ?_
  refine zX_mo (P' := zNp G (a + 7) (zEc G 1 a 7 [.int 0, .int 0, .int 0, .int 0, .int 0, .int 3, .int 0, .int 0, .ref (a + 1)] m)) ?_ (fun H h => zEc_put h)
  exact zx_vretN hF.1 hQ dX1_init_20 (fun t hP hFr hW => ⟨⟨(), rfl, trivial, zEc_end (by decide) rfl (by
    show _ = zfs1 a m
    unfold zfs1
    rw [((hm a (Nat.le_refl a)).1 100 0).1, ((hm a (Nat.le_refl a)).1 101 0).1, ((hm a (Nat.le_refl a)).1 102 0).1, ((hm a (Nat.le_refl a)).1 103 0).1, ((hm a (Nat.le_refl a)).1 104 0).1, ((hm a (Nat.le_refl a)).1 105 0).1, ((hm a (Nat.le_refl a)).1 106 0).1, ((hm a (Nat.le_refl a)).1 107 0).1]
    rfl) hP⟩, by rw [← hA]; exact hFr⟩)
