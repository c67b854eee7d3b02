/-! the ClaimsFund's maker -/
def rm_X5_init : Room := { frames := 4, cells := 132, slots := 1693, locals := 81 }
set_option maxRecDepth 100000 in
set_option maxHeartbeats 4000000 in
theorem C_X5_init {l : Launch} {G : zG} : Con_ini l G yX5_init wsX5_init rm_X5_init 5 132 1693 (fun m _ => m) := by
  intro a m hb hm
  refine zMetN (P := zNp G (a + 1) (zEc G 5 a 1 (zdf 5) m)) (G := G) (cc := cX5_init) (maxL := 1) (ret := none) (by decide +kernel) rfl (Nat.le_of_ble_eq_true rfl) (fun q h => Nat.le_trans hb h) (fun U h => ⟨zEc_0 h.1, h.2⟩) (fun C hF hQ hA hR hl hnm => ?_)
  have hin2 : ∀ w ∈ u_ws RX2 TX2 8, w ∈ wsX5_init := fun w h => List.mem_cons_of_mem _ (List.mem_append_left _ (List.mem_append_left _ (List.mem_append_right _ h)))
  have hin5 : ∀ w ∈ u_ws RX5 TX5 3, w ∈ wsX5_init := fun w h => List.mem_cons_of_mem _ (List.mem_append_left _ (List.mem_append_left _ (List.mem_append_left _ (List.mem_append_right _ h))))
  have hin0 : ∀ w ∈ u_ws RX0 TX0 10, w ∈ wsX5_init := fun w h => List.mem_cons_of_mem _ (List.mem_append_left _ (List.mem_append_left _ (List.mem_append_left _ (List.mem_append_left _ (List.mem_append_right _ h)))))
  have hAa : zA C a := by rw [hA]; exact Nat.le_refl a
  have hAq : ∀ d q, a + d ≤ q → zA C q := fun d q h => by rw [hA]; exact Nat.le_trans (Nat.le_add_right _ _) h
  have hts := hF.1.2.2.2.2
  show zX C 1 0 0 0 [(0, .ref a)] [] _
  refine zx_aload_n hF.1 0 dX5_init_0 rfl ?_
  refine zx_obj hF.1 (List.mem_of_getElem? (i := 1) rfl) (List.mem_of_getElem? (i := 2) rfl) (List.mem_of_getElem? (i := 3) rfl) (by rw [hR]; exact Nat.le_of_ble_eq_true rfl) (by rw [hR]; exact Nat.le_of_ble_eq_true rfl) dX5_init_1 ?_
  refine zx_aload_n hF.1 0 dX5_init_4 rfl ?_
  refine zn_new (ci := 0) (fs := zdf 0) hF rfl hin0 tyX0_ok (List.mem_of_getElem? (i := 4) rfl) (List.mem_of_getElem? (i := 5) rfl) (List.mem_of_getElem? (i := 6) rfl) zdf_0 (by rw [hR]; exact Nat.le_of_ble_eq_true rfl) (by rw [hR]; exact Nat.le_of_ble_eq_true rfl) dX5_init_5 ?_
  refine zx_dup hF.1 dX5_init_8 rfl ?_
  refine zn_callI (bytes := cX0_init) (maxL := 2) (m := m) hF C_X0_init (cwI 0 hts gX5_init_X0_init rfl rfl rfl (hts _ (List.mem_of_getElem? (i := 6) rfl)) (hts _ (List.mem_of_getElem? (i := 13) rfl)) (hts _ (List.mem_of_getElem? (i := 14) rfl)) rfl (by decide +kernel) (by rw [hR]; exact ⟨Nat.le_of_ble_eq_true rfl, Nat.le_of_ble_eq_true rfl⟩)) (Nat.le_trans hb (Nat.le_add_right _ _)) (zIni_mo hm (Nat.le_add_right _ _)) (fun q h => hAq _ q h) zEu_e dX5_init_9 (Nat.le_of_ble_eq_true rfl) (by rw [hR]; exact ⟨Nat.le_of_ble_eq_true rfl, Nat.le_of_ble_eq_true rfl⟩) ?_
  refine zX_mo (P' := zNp G (a + 124) (zEc G 5 a 124 (zdf 5) m)) ?_ (fun H h => zEc_sub (c2 := 0) (d := 1) (by decide) (by decide) (by decide +kernel) (fun q hq => zEu_n (by omega)) h)
  refine zn_putF (ty := .object "ClaimsFund$Book") hF zEc_a hAa rfl hin5 tyX5_ok nmX5 0 (by decide) (List.mem_of_getElem? (i := 7) rfl) rfl rfl hnm rfl (by decide +kernel) rfl rfl (Nat.le_of_ble_eq_true rfl) dX5_init_12 ?_
  refine zX_mo (P' := zNp G (a + 124) (zEc G 5 a 124 [.ref (a + 1), .null, .null] m)) ?_ (fun H h => zEc_put h)
  refine zx_aload_n hF.1 0 dX5_init_15 rfl ?_
  refine zx_iconst hF.1 dX5_init_16 (v := 3) (by decide) ?_
  refine zn_newq (t := 4) (N := 3) hF (List.mem_of_getElem? (i := 4) rfl) hF.2.2.2.2.2.2.2.2.1 rfl (by decide) (by decide) (Nat.le_of_ble_eq_true rfl) (by rw [hR]; exact Nat.le_of_ble_eq_true rfl) (by rw [hR]; exact Nat.le_of_ble_eq_true rfl) dX5_init_17 ?_
  have e1 : (fun _ => none : Nat → Option Nat) = zQ m 1501 a := funext fun j => ((hm a (Nat.le_refl a)).1 1501 j).2.2.symm
  rw [e1]
  refine zX_mo (P' := zNp G (a + 125) (zEc G 5 a 125 [.ref (a + 1), .null, .null] m)) ?_ (fun H h => zEc_row (kd := 1501) (d := 124) (by decide) (by decide +kernel) h)
  refine zn_putF (ty := .array (.object "ClaimsFund$Book")) hF zEc_a hAa rfl hin5 tyX5_ok nmX5 1 (by decide) (List.mem_of_getElem? (i := 8) rfl) rfl rfl hnm rfl (by decide +kernel) rfl rfl (Nat.le_of_ble_eq_true rfl) dX5_init_20 ?_
  refine zX_mo (P' := zNp G (a + 125) (zEc G 5 a 125 [.ref (a + 1), .ref (a + 124), .null] m)) ?_ (fun H h => zEc_put h)
  refine zx_aload_n hF.1 0 dX5_init_23 rfl ?_
  refine zn_new (ci := 2) (fs := zdf 2) hF rfl hin2 tyX2_ok (List.mem_of_getElem? (i := 9) rfl) (List.mem_of_getElem? (i := 10) rfl) (List.mem_of_getElem? (i := 11) rfl) zdf_2 (by rw [hR]; exact Nat.le_of_ble_eq_true rfl) (by rw [hR]; exact Nat.le_of_ble_eq_true rfl) dX5_init_24 ?_
  refine zx_dup hF.1 dX5_init_27 rfl ?_
  refine zn_callN (host := "ClaimsFund") (bytes := cX2_init) (maxL := 1) (m := m) hF C_X2_init ⟨va_cnB 0 hts gX5_init_X2_init_n22 rfl rfl rfl hF.2.2.2.2.2.2.1 (hts _ (List.mem_of_getElem? (i := 11) rfl)) (by decide +kernel) (by rw [hR]; exact ⟨Nat.le_of_ble_eq_true rfl, Nat.le_of_ble_eq_true rfl⟩), rfl, hts _ (List.mem_of_getElem? (i := 28) rfl)⟩ (Nat.le_trans hb (Nat.le_add_right _ _)) (zIni_mo hm (Nat.le_add_right _ _)) (fun q h => hAq _ q h) zEu_e dX5_init_28 (Nat.le_of_ble_eq_true rfl) (by rw [hR]; exact ⟨Nat.le_of_ble_eq_true rfl, Nat.le_of_ble_eq_true rfl⟩) ?_
  refine zX_mo (P' := zNp G (a + 133) (zEc G 5 a 133 [.ref (a + 1), .ref (a + 124), .null] m)) ?_ (fun H h => zEc_sub (c2 := 2) (d := 125) (by decide) (by decide) (by decide +kernel) (fun q hq => zEu_n (by omega)) h)
  refine zn_put (ty := .object "ClaimsFund$Grid") hF zEc_a hAa rfl hin5 tyX5_ok nmX5 2 (by decide) (List.mem_of_getElem? (i := 12) rfl) rfl rfl (by decide +kernel) rfl rfl (Nat.le_of_ble_eq_true rfl) dX5_init_31 ?_
  refine zX_mo (P' := zNp G (a + 133) (zEc G 5 a 133 [.ref (a + 1), .ref (a + 124), .ref (a + 125)] m)) ?_ (fun H h => zEc_put h)
  exact zx_vretN hF.1 hQ dX5_init_34 (fun t hP hFr hW => ⟨⟨(), rfl, trivial, zEc_end (by decide) rfl (by
    show _ = zfs5 a m
    unfold zfs5
    rw [(hm a (Nat.le_refl a)).2.2]) hP⟩, by rw [← hA]; exact hFr⟩)
